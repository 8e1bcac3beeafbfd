def f_X8_set (x1 : Int32) (x2 : Int32) (x3 : Int32) (σ : Sg) : Option (Int32 × Sg) := if (6 : Int32) < x1 then some ((-2 : Int32), σ) else (f_X1_hasPlace (0) x1 x2 σ).bind fun (q2 : Int32 × Sg) => if q2.1 = 0 then some ((-2 : Int32), q2.2) else if x3 < 0 then some ((-2 : Int32), q2.2) else (f_X8_mostOf x1 q2.2).bind fun (q6 : Int32 × Sg) => if x3 ≤ q6.1 then (f_X1_read (0) x1 x2 q6.2).bind fun (q9 : Int32 × Sg) => (f_X1_write (0) x1 x2 x3 q9.2).bind fun (q11 : Sg) => some (q9.1, q11) else some ((-2 : Int32), q6.2)
set_option maxHeartbeats 40000000 in
set_option maxRecDepth 100000 in
theorem c_X8_set (l : Launch) (Γ : Geo) (hG : okC Γ) (x1 : Int32) (x2 : Int32) (x3 : Int32) (σ : Sg) (r : Int32) (σ' : Sg) (hf : f_X8_set x1 x2 x3 σ = some (r, σ')) (sz : Nat) : Met l yX8_set (wz yX8_set cX8_set 5 (some .int)) { frames := 3, cells := 0, slots := 0, locals := 66 } (va_Pc [.ref (Γ.2.2.1 (0)), .int x1, .int x2, .int x3] (wPre Γ.1 vwCl (tysC Γ) (XC Γ) (alC Γ) Γ.2.2.2 σ sz)) (wQi Γ.1 vwCl (tysC Γ) (XC Γ) (alC Γ) r σ' sz) 0 0 (wA (alC Γ) sz) := by
  refine w_enter (cc := cX8_set) (maxL := 5) (ret := (some .int)) (by decide) rfl (Nat.le_of_ble_eq_true rfl) ?_
  intro p e s m below meth c ls hx hb hr hlocks hml hown hts hsz hP hK hkc hN hl
  subst hsz
  generalize hav : ([.ref (Γ.2.2.1 (0)), .int x1, .int x2, .int x3] : List Value) = av at hl hts ⊢
  have hl : lv_has ls 5 [(0, .ref (Γ.2.2.1 (0))), (1, .int x1), (2, .int x2), (3, .int x3)] := by rw [← hav] at hl; exact hl
  suffices hw : ∀ (H : Heap) (locs : List Loc), va_P Γ.1 vwCl (XC Γ σ) H → va_S (wA (alC Γ) s.heap.size) s.heap H locs → W p l e { frames := 3, cells := 0, slots := 0, locals := 66 } s m av.toArray below meth c H locs 0 0 (MQ below (wQi Γ.1 vwCl (tysC Γ) (XC Γ) (alC Γ) r σ' s.heap.size) av.toArray s 0 0 (wA (alC Γ) s.heap.size)) (F0 m 0 ls []) from hw _ [] hP va_S.rf
  clear hP
  intro H locs hP hS
  unfold f_X8_set at hf
  refine lv_iload_n hx hb dX8_set_0 rfl (lv_at hl 1 rfl) ?_
  refine lv_bipush (v := (6 : Int32)) hx hb dX8_set_1 (by decide) ?_
  refine lv_icmp_gt (tgt := 30) hx hb dX8_set_3 (by decide) (fun c1 => ?_) (fun c1 => ?_)
  · replace hf := (if_pos c1).symm.trans hf
    refine lv_bipush (v := (-2 : Int32)) hx hb dX8_set_30 (by decide) ?_
    exact w_iret (X := XC Γ) hx hb hr hlocks hK hP hS rfl hf dX8_set_32
  · replace hf := (if_neg c1).symm.trans hf
    refine lv_aload_n hx hb dX8_set_6 rfl (lv_at hl 0 rfl) ?_
    refine va_get (D := Γ.1) (ci := 7) (v := .ref (Γ.2.2.1 (1 + 8 * 0))) (C := RX8) (T := TX8) (N := 9) hx hb hts iX8 hown hK hP (0) (gC_Main Γ σ) rfl 0 (by decide) (hts (.fieldLink RX8 10 "OtherHalfOfNight" "now" "LOtherHalfOfNight$House;") (wzm K15)) (fun _ h9 => h9) rfl dX8_set_7 ?_
    refine lv_iload_n hx hb dX8_set_10 rfl (lv_at hl 1 rfl) ?_
    refine lv_iload_n hx hb dX8_set_11 rfl (lv_at hl 2 rfl) ?_
    obtain ⟨q2, h3, hf⟩ := w_ob hf
    refine w_ci (va_runV (As := [.int x1, .int x2]) (rest := []) ⟨hx, hb, hml, hown, hts⟩ (c_X1_hasPlace l Γ hG (0) x1 x2 σ q2.1 q2.2 h3 H.size) (cwV 2 hts (wzV K140 K137 K138 K139 K14) rfl rfl rfl (by decide +kernel) ⟨(Nat.le_of_ble_eq_true rfl), (Nat.le_of_ble_eq_true rfl)⟩) (w_preV hK hP hkc hN hS (gC_House Γ σ 0 (by decide)) rfl) rfl rfl hl.1 rfl (lv_room (Nat.le_of_ble_eq_true rfl)) dX8_set_12 ⟨Nat.le_refl _, Nat.le_refl _⟩) hS (fun H locs hP hS => ?_)
    refine lv_if_eq (tgt := 30) hx hb dX8_set_15 (by decide) (fun c4 => ?_) (fun c4 => ?_)
    · replace hf := (if_pos c4).symm.trans hf
      refine lv_bipush (v := (-2 : Int32)) hx hb dX8_set_30 (by decide) ?_
      exact w_iret (X := XC Γ) hx hb hr hlocks hK hP hS rfl hf dX8_set_32
    · replace hf := (if_neg c4).symm.trans hf
      refine lv_iload_n hx hb dX8_set_18 rfl (lv_at hl 3 rfl) ?_
      refine lv_if_lt (tgt := 30) hx hb dX8_set_19 (by decide) (fun c5 => ?_) (fun c5 => ?_)
      · replace hf := (if_pos c5).symm.trans hf
        refine lv_bipush (v := (-2 : Int32)) hx hb dX8_set_30 (by decide) ?_
        exact w_iret (X := XC Γ) hx hb hr hlocks hK hP hS rfl hf dX8_set_32
      · replace hf := (if_neg c5).symm.trans hf
        refine lv_iload_n hx hb dX8_set_22 rfl (lv_at hl 3 rfl) ?_
        refine lv_iload_n hx hb dX8_set_23 rfl (lv_at hl 1 rfl) ?_
        obtain ⟨q6, h7, hf⟩ := w_ob hf
        refine w_ci (va_runS (As := [.int x1]) (rest := [.int x3]) ⟨hx, hb, hml, hown, hts⟩ (c_X8_mostOf l Γ hG x1 q2.2 q6.1 q6.2 h7 H.size) (cwS 1 hts (wzS K150 K148 K149 K2) rfl rfl rfl (by decide +kernel) ⟨(Nat.le_of_ble_eq_true rfl), (Nat.le_of_ble_eq_true rfl)⟩) (w_pre hK hP hkc hN hS) rfl rfl hl.1 rfl (lv_room (Nat.le_of_ble_eq_true rfl)) dX8_set_24 ⟨Nat.le_refl _, Nat.le_refl _⟩) hS (fun H locs hP hS => ?_)
        refine lv_icmp_le (tgt := 33) hx hb dX8_set_27 (by decide) (fun c8 => ?_) (fun c8 => ?_)
        · replace hf := (if_pos c8).symm.trans hf
          refine lv_aload_n hx hb dX8_set_33 rfl (lv_at hl 0 rfl) ?_
          refine va_get (D := Γ.1) (ci := 7) (v := .ref (Γ.2.2.1 (1 + 8 * 0))) (C := RX8) (T := TX8) (N := 9) hx hb hts iX8 hown hK hP (0) (gC_Main Γ q6.2) rfl 0 (by decide) (hts (.fieldLink RX8 10 "OtherHalfOfNight" "now" "LOtherHalfOfNight$House;") (wzm K15)) (fun _ h9 => h9) rfl dX8_set_34 ?_
          refine lv_iload_n hx hb dX8_set_37 rfl (lv_at hl 1 rfl) ?_
          refine lv_iload_n hx hb dX8_set_38 rfl (lv_at hl 2 rfl) ?_
          obtain ⟨q9, h10, hf⟩ := w_ob hf
          refine w_ci (va_runV (As := [.int x1, .int x2]) (rest := []) ⟨hx, hb, hml, hown, hts⟩ (c_X1_read l Γ hG (0) x1 x2 q6.2 q9.1 q9.2 h10 H.size) (cwV 2 hts (wzV K154 K151 K152 K153 K14) rfl rfl rfl (by decide +kernel) ⟨(Nat.le_of_ble_eq_true rfl), (Nat.le_of_ble_eq_true rfl)⟩) (w_preV hK hP hkc hN hS (gC_House Γ q6.2 0 (by decide)) rfl) rfl rfl hl.1 rfl (lv_room (Nat.le_of_ble_eq_true rfl)) dX8_set_39 ⟨Nat.le_refl _, Nat.le_refl _⟩) hS (fun H locs hP hS => ?_)
          refine lv_istore (lv' := [(4, .int q9.1), (0, .ref (Γ.2.2.1 (0))), (1, .int x1), (2, .int x2), (3, .int x3)]) hx hb dX8_set_42 hl (by decide) rfl (fun ls hl => ?_)
          refine lv_aload_n hx hb dX8_set_44 rfl (lv_at hl 1 rfl) ?_
          refine va_get (D := Γ.1) (ci := 7) (v := .ref (Γ.2.2.1 (1 + 8 * 0))) (C := RX8) (T := TX8) (N := 9) hx hb hts iX8 hown hK hP (0) (gC_Main Γ q9.2) rfl 0 (by decide) (hts (.fieldLink RX8 10 "OtherHalfOfNight" "now" "LOtherHalfOfNight$House;") (wzm K15)) (fun _ h9 => h9) rfl dX8_set_45 ?_
          refine lv_iload_n hx hb dX8_set_48 rfl (lv_at hl 2 rfl) ?_
          refine lv_iload_n hx hb dX8_set_49 rfl (lv_at hl 3 rfl) ?_
          refine lv_iload_n hx hb dX8_set_50 rfl (lv_at hl 4 rfl) ?_
          obtain ⟨q11, h12, hf⟩ := w_ob hf
          refine w_cv (va_runV (As := [.int x1, .int x2, .int x3]) (rest := []) ⟨hx, hb, hml, hown, hts⟩ (c_X1_write l Γ hG (0) x1 x2 x3 q9.2 q11 h12 H.size) (cwV 3 hts (wzV K162 K159 K160 K161 K14) rfl rfl rfl (by decide +kernel) ⟨(Nat.le_of_ble_eq_true rfl), (Nat.le_of_ble_eq_true rfl)⟩) (w_preV hK hP hkc hN hS (gC_House Γ q9.2 0 (by decide)) rfl) rfl rfl hl.1 rfl (lv_room (Nat.le_of_ble_eq_true rfl)) dX8_set_51 ⟨Nat.le_refl _, Nat.le_refl _⟩) hS (fun H locs hP hS => ?_)
          refine lv_iload hx hb dX8_set_54 (lv_at hl 0 rfl) ?_
          exact w_iret (X := XC Γ) hx hb hr hlocks hK hP hS rfl hf dX8_set_56
        · replace hf := (if_neg c8).symm.trans hf
          refine lv_bipush (v := (-2 : Int32)) hx hb dX8_set_30 (by decide) ?_
          exact w_iret (X := XC Γ) hx hb hr hlocks hK hP hS rfl hf dX8_set_32
def f_X8_wakes (x1 : Int32) (x2 : Int32) (x3 : Int32) (σ : Sg) : Option (Int32 × Sg) := (f_X1_admit (0) x1 x2 x3 σ).bind fun (q1 : Int32 × Sg) => some (q1.1, q1.2)
set_option maxHeartbeats 40000000 in
set_option maxRecDepth 100000 in
theorem c_X8_wakes (l : Launch) (Γ : Geo) (hG : okC Γ) (x1 : Int32) (x2 : Int32) (x3 : Int32) (σ : Sg) (r : Int32) (σ' : Sg) (hf : f_X8_wakes x1 x2 x3 σ = some (r, σ')) (sz : Nat) : Met l yX8_wakes (wz yX8_wakes cX8_wakes 4 (some .int)) { frames := 1, cells := 0, slots := 0, locals := 23 } (va_Pc [.ref (Γ.2.2.1 (0)), .int x1, .int x2, .int x3] (wPre Γ.1 vwCl (tysC Γ) (XC Γ) (alC Γ) Γ.2.2.2 σ sz)) (wQi Γ.1 vwCl (tysC Γ) (XC Γ) (alC Γ) r σ' sz) 0 0 (wA (alC Γ) sz) := by
  refine w_enter (cc := cX8_wakes) (maxL := 4) (ret := (some .int)) (by decide) rfl (Nat.le_of_ble_eq_true rfl) ?_
  intro p e s m below meth c ls hx hb hr hlocks hml hown hts hsz hP hK hkc hN hl
  subst hsz
  generalize hav : ([.ref (Γ.2.2.1 (0)), .int x1, .int x2, .int x3] : List Value) = av at hl hts ⊢
  have hl : lv_has ls 4 [(0, .ref (Γ.2.2.1 (0))), (1, .int x1), (2, .int x2), (3, .int x3)] := by rw [← hav] at hl; exact hl
  suffices hw : ∀ (H : Heap) (locs : List Loc), va_P Γ.1 vwCl (XC Γ σ) H → va_S (wA (alC Γ) s.heap.size) s.heap H locs → W p l e { frames := 1, cells := 0, slots := 0, locals := 23 } s m av.toArray below meth c H locs 0 0 (MQ below (wQi Γ.1 vwCl (tysC Γ) (XC Γ) (alC Γ) r σ' s.heap.size) av.toArray s 0 0 (wA (alC Γ) s.heap.size)) (F0 m 0 ls []) from hw _ [] hP va_S.rf
  clear hP
  intro H locs hP hS
  unfold f_X8_wakes at hf
  refine lv_aload_n hx hb dX8_wakes_0 rfl (lv_at hl 0 rfl) ?_
  refine va_get (D := Γ.1) (ci := 7) (v := .ref (Γ.2.2.1 (1 + 8 * 0))) (C := RX8) (T := TX8) (N := 9) hx hb hts iX8 hown hK hP (0) (gC_Main Γ σ) rfl 0 (by decide) (hts (.fieldLink RX8 10 "OtherHalfOfNight" "now" "LOtherHalfOfNight$House;") (wzm K15)) (fun _ h9 => h9) rfl dX8_wakes_1 ?_
  refine lv_iload_n hx hb dX8_wakes_4 rfl (lv_at hl 1 rfl) ?_
  refine lv_iload_n hx hb dX8_wakes_5 rfl (lv_at hl 2 rfl) ?_
  refine lv_iload_n hx hb dX8_wakes_6 rfl (lv_at hl 3 rfl) ?_
  obtain ⟨q1, h2, hf⟩ := w_ob hf
  refine w_ci (va_runV (As := [.int x1, .int x2, .int x3]) (rest := []) ⟨hx, hb, hml, hown, hts⟩ (c_X1_admit l Γ hG (0) x1 x2 x3 σ q1.1 q1.2 h2 H.size) (cwV 3 hts (wzV K321 K318 K319 K320 K14) rfl rfl rfl (by decide +kernel) ⟨(Nat.le_of_ble_eq_true rfl), (Nat.le_of_ble_eq_true rfl)⟩) (w_preV hK hP hkc hN hS (gC_House Γ σ 0 (by decide)) rfl) rfl rfl hl.1 rfl (lv_room (Nat.le_of_ble_eq_true rfl)) dX8_wakes_7 ⟨Nat.le_refl _, Nat.le_refl _⟩) hS (fun H locs hP hS => ?_)
  exact w_iret (X := XC Γ) hx hb hr hlocks hK hP hS rfl hf dX8_wakes_10
def f_X8_told (x1 : Int32) (x2 : Int32) (σ : Sg) : Option (Int32 × Sg) := if x2 = (8 : Int32) then (f_X1_lodges (0) x1 σ).bind fun (q14 : Int32 × Sg) => if q14.1 = 0 then some ((-2 : Int32), q14.2) else (f_X2_yieldOf (0) x1 q14.2).bind fun (q17 : Int32 × Sg) => some (q17.1, q17.2) else if x2 = (9 : Int32) then (f_X1_lodges (0) x1 σ).bind fun (q9 : Int32 × Sg) => if q9.1 = 0 then some ((-2 : Int32), q9.2) else (f_X2_suitBits (0) x1 q9.2).bind fun (q12 : Int32 × Sg) => some (q12.1, q12.2) else if (10 : Int32) < x2 then some ((-2 : Int32), σ) else (f_X1_hasPlace (0) x2 x1 σ).bind fun (q4 : Int32 × Sg) => if q4.1 = 0 then some ((-2 : Int32), q4.2) else (f_X1_read (0) x2 x1 q4.2).bind fun (q7 : Int32 × Sg) => some (q7.1, q7.2)
set_option maxHeartbeats 40000000 in
set_option maxRecDepth 100000 in
theorem c_X8_told (l : Launch) (Γ : Geo) (hG : okC Γ) (x1 : Int32) (x2 : Int32) (σ : Sg) (r : Int32) (σ' : Sg) (hf : f_X8_told x1 x2 σ = some (r, σ')) (sz : Nat) : Met l yX8_told (wz yX8_told cX8_told 3 (some .int)) { frames := 4, cells := 0, slots := 0, locals := 101 } (va_Pc [.ref (Γ.2.2.1 (0)), .int x1, .int x2] (wPre Γ.1 vwCl (tysC Γ) (XC Γ) (alC Γ) Γ.2.2.2 σ sz)) (wQi Γ.1 vwCl (tysC Γ) (XC Γ) (alC Γ) r σ' sz) 0 0 (wA (alC Γ) sz) := by
  refine w_enter (cc := cX8_told) (maxL := 3) (ret := (some .int)) (by decide) rfl (Nat.le_of_ble_eq_true rfl) ?_
  intro p e s m below meth c ls hx hb hr hlocks hml hown hts hsz hP hK hkc hN hl
  subst hsz
  generalize hav : ([.ref (Γ.2.2.1 (0)), .int x1, .int x2] : List Value) = av at hl hts ⊢
  have hl : lv_has ls 3 [(0, .ref (Γ.2.2.1 (0))), (1, .int x1), (2, .int x2)] := by rw [← hav] at hl; exact hl
  suffices hw : ∀ (H : Heap) (locs : List Loc), va_P Γ.1 vwCl (XC Γ σ) H → va_S (wA (alC Γ) s.heap.size) s.heap H locs → W p l e { frames := 4, cells := 0, slots := 0, locals := 101 } s m av.toArray below meth c H locs 0 0 (MQ below (wQi Γ.1 vwCl (tysC Γ) (XC Γ) (alC Γ) r σ' s.heap.size) av.toArray s 0 0 (wA (alC Γ) s.heap.size)) (F0 m 0 ls []) from hw _ [] hP va_S.rf
  clear hP
  intro H locs hP hS
  unfold f_X8_told at hf
  refine lv_iload_n hx hb dX8_told_0 rfl (lv_at hl 2 rfl) ?_
  refine lv_bipush (v := (8 : Int32)) hx hb dX8_told_1 (by decide) ?_
  refine lv_icmp_ne (tgt := 35) hx hb dX8_told_3 (by decide) (fun c1 => ?_) (fun c1 => ?_)
  · replace hf := (if_neg c1).symm.trans hf
    refine lv_iload_n hx hb dX8_told_35 rfl (lv_at hl 2 rfl) ?_
    refine lv_bipush (v := (9 : Int32)) hx hb dX8_told_36 (by decide) ?_
    refine lv_icmp_ne (tgt := 70) hx hb dX8_told_38 (by decide) (fun c2 => ?_) (fun c2 => ?_)
    · replace hf := (if_neg c2).symm.trans hf
      refine lv_iload_n hx hb dX8_told_70 rfl (lv_at hl 2 rfl) ?_
      refine lv_bipush (v := (10 : Int32)) hx hb dX8_told_71 (by decide) ?_
      refine lv_icmp_gt (tgt := 100) hx hb dX8_told_73 (by decide) (fun c3 => ?_) (fun c3 => ?_)
      · replace hf := (if_pos c3).symm.trans hf
        refine lv_bipush (v := (-2 : Int32)) hx hb dX8_told_100 (by decide) ?_
        exact w_iret (X := XC Γ) hx hb hr hlocks hK hP hS rfl hf dX8_told_102
      · replace hf := (if_neg c3).symm.trans hf
        refine lv_aload_n hx hb dX8_told_76 rfl (lv_at hl 0 rfl) ?_
        refine va_get (D := Γ.1) (ci := 7) (v := .ref (Γ.2.2.1 (1 + 8 * 0))) (C := RX8) (T := TX8) (N := 9) hx hb hts iX8 hown hK hP (0) (gC_Main Γ σ) rfl 0 (by decide) (hts (.fieldLink RX8 10 "OtherHalfOfNight" "now" "LOtherHalfOfNight$House;") (wzm K15)) (fun _ h9 => h9) rfl dX8_told_77 ?_
        refine lv_iload_n hx hb dX8_told_80 rfl (lv_at hl 2 rfl) ?_
        refine lv_iload_n hx hb dX8_told_81 rfl (lv_at hl 1 rfl) ?_
        obtain ⟨q4, h5, hf⟩ := w_ob hf
        refine w_ci (va_runV (As := [.int x2, .int x1]) (rest := []) ⟨hx, hb, hml, hown, hts⟩ (c_X1_hasPlace l Γ hG (0) x2 x1 σ q4.1 q4.2 h5 H.size) (cwV 2 hts (wzV K140 K137 K138 K139 K14) rfl rfl rfl (by decide +kernel) ⟨(Nat.le_of_ble_eq_true rfl), (Nat.le_of_ble_eq_true rfl)⟩) (w_preV hK hP hkc hN hS (gC_House Γ σ 0 (by decide)) rfl) rfl rfl hl.1 rfl (lv_room (Nat.le_of_ble_eq_true rfl)) dX8_told_82 ⟨Nat.le_refl _, Nat.le_refl _⟩) hS (fun H locs hP hS => ?_)
        refine lv_if_eq (tgt := 100) hx hb dX8_told_85 (by decide) (fun c6 => ?_) (fun c6 => ?_)
        · replace hf := (if_pos c6).symm.trans hf
          refine lv_bipush (v := (-2 : Int32)) hx hb dX8_told_100 (by decide) ?_
          exact w_iret (X := XC Γ) hx hb hr hlocks hK hP hS rfl hf dX8_told_102
        · replace hf := (if_neg c6).symm.trans hf
          refine lv_aload_n hx hb dX8_told_88 rfl (lv_at hl 0 rfl) ?_
          refine va_get (D := Γ.1) (ci := 7) (v := .ref (Γ.2.2.1 (1 + 8 * 0))) (C := RX8) (T := TX8) (N := 9) hx hb hts iX8 hown hK hP (0) (gC_Main Γ q4.2) rfl 0 (by decide) (hts (.fieldLink RX8 10 "OtherHalfOfNight" "now" "LOtherHalfOfNight$House;") (wzm K15)) (fun _ h9 => h9) rfl dX8_told_89 ?_
          refine lv_iload_n hx hb dX8_told_92 rfl (lv_at hl 2 rfl) ?_
          refine lv_iload_n hx hb dX8_told_93 rfl (lv_at hl 1 rfl) ?_
          obtain ⟨q7, h8, hf⟩ := w_ob hf
          refine w_ci (va_runV (As := [.int x2, .int x1]) (rest := []) ⟨hx, hb, hml, hown, hts⟩ (c_X1_read l Γ hG (0) x2 x1 q4.2 q7.1 q7.2 h8 H.size) (cwV 2 hts (wzV K154 K151 K152 K153 K14) rfl rfl rfl (by decide +kernel) ⟨(Nat.le_of_ble_eq_true rfl), (Nat.le_of_ble_eq_true rfl)⟩) (w_preV hK hP hkc hN hS (gC_House Γ q4.2 0 (by decide)) rfl) rfl rfl hl.1 rfl (lv_room (Nat.le_of_ble_eq_true rfl)) dX8_told_94 ⟨Nat.le_refl _, Nat.le_refl _⟩) hS (fun H locs hP hS => ?_)
          refine lv_goto (tgt := 102) hx hb dX8_told_97 (by decide) ?_
          exact w_iret (X := XC Γ) hx hb hr hlocks hK hP hS rfl hf dX8_told_102
    · replace hf := (if_pos c2).symm.trans hf
      refine lv_aload_n hx hb dX8_told_41 rfl (lv_at hl 0 rfl) ?_
      refine va_get (D := Γ.1) (ci := 7) (v := .ref (Γ.2.2.1 (1 + 8 * 0))) (C := RX8) (T := TX8) (N := 9) hx hb hts iX8 hown hK hP (0) (gC_Main Γ σ) rfl 0 (by decide) (hts (.fieldLink RX8 10 "OtherHalfOfNight" "now" "LOtherHalfOfNight$House;") (wzm K15)) (fun _ h9 => h9) rfl dX8_told_42 ?_
      refine lv_iload_n hx hb dX8_told_45 rfl (lv_at hl 1 rfl) ?_
      obtain ⟨q9, h10, hf⟩ := w_ob hf
      refine w_ci (va_runV (As := [.int x1]) (rest := []) ⟨hx, hb, hml, hown, hts⟩ (c_X1_lodges l Γ hG (0) x1 σ q9.1 q9.2 h10 H.size) (cwV 1 hts (wzV K144 K332 K142 K143 K14) rfl rfl rfl (by decide +kernel) ⟨(Nat.le_of_ble_eq_true rfl), (Nat.le_of_ble_eq_true rfl)⟩) (w_preV hK hP hkc hN hS (gC_House Γ σ 0 (by decide)) rfl) rfl rfl hl.1 rfl (lv_room (Nat.le_of_ble_eq_true rfl)) dX8_told_46 ⟨Nat.le_refl _, Nat.le_refl _⟩) hS (fun H locs hP hS => ?_)
      refine lv_if_eq (tgt := 67) hx hb dX8_told_49 (by decide) (fun c11 => ?_) (fun c11 => ?_)
      · replace hf := (if_pos c11).symm.trans hf
        refine lv_bipush (v := (-2 : Int32)) hx hb dX8_told_67 (by decide) ?_
        exact w_iret (X := XC Γ) hx hb hr hlocks hK hP hS rfl hf dX8_told_69
      · replace hf := (if_neg c11).symm.trans hf
        refine lv_aload_n hx hb dX8_told_52 rfl (lv_at hl 0 rfl) ?_
        refine va_get (D := Γ.1) (ci := 7) (v := .ref (Γ.2.2.1 (27))) (C := RX8) (T := TX8) (N := 9) hx hb hts iX8 hown hK hP (0) (gC_Main Γ q9.2) rfl 5 (by decide) (hts (.fieldLink RX8 32 "OtherHalfOfNight" "law" "LOtherHalfOfNight$Law;") (wzm K25)) (fun _ h9 => h9) rfl dX8_told_53 ?_
        refine lv_aload_n hx hb dX8_told_56 rfl (lv_at hl 0 rfl) ?_
        refine va_get (D := Γ.1) (ci := 7) (v := .ref (Γ.2.2.1 (1 + 8 * 0))) (C := RX8) (T := TX8) (N := 9) hx hb hts iX8 hown hK hP (0) (gC_Main Γ q9.2) rfl 0 (by decide) (hts (.fieldLink RX8 10 "OtherHalfOfNight" "now" "LOtherHalfOfNight$House;") (wzm K15)) (fun _ h9 => h9) rfl dX8_told_57 ?_
        refine lv_iload_n hx hb dX8_told_60 rfl (lv_at hl 1 rfl) ?_
        obtain ⟨q12, h13, hf⟩ := w_ob hf
        refine w_ci (va_runV (As := [.ref (Γ.2.2.1 (1 + 8 * 0)), .int x1]) (rest := []) ⟨hx, hb, hml, hown, hts⟩ (c_X2_suitBits l Γ hG (0) x1 q9.2 q12.1 q12.2 h13 H.size) (cwV 2 hts (wzV K393 K390 K391 K392 K24) rfl rfl rfl (by decide +kernel) ⟨(Nat.le_of_ble_eq_true rfl), (Nat.le_of_ble_eq_true rfl)⟩) (w_preV hK hP hkc hN hS (gC_Law Γ q9.2) rfl) rfl rfl hl.1 rfl (lv_room (Nat.le_of_ble_eq_true rfl)) dX8_told_61 ⟨Nat.le_refl _, Nat.le_refl _⟩) hS (fun H locs hP hS => ?_)
        refine lv_goto (tgt := 69) hx hb dX8_told_64 (by decide) ?_
        exact w_iret (X := XC Γ) hx hb hr hlocks hK hP hS rfl hf dX8_told_69
  · replace hf := (if_pos c1).symm.trans hf
    refine lv_aload_n hx hb dX8_told_6 rfl (lv_at hl 0 rfl) ?_
    refine va_get (D := Γ.1) (ci := 7) (v := .ref (Γ.2.2.1 (1 + 8 * 0))) (C := RX8) (T := TX8) (N := 9) hx hb hts iX8 hown hK hP (0) (gC_Main Γ σ) rfl 0 (by decide) (hts (.fieldLink RX8 10 "OtherHalfOfNight" "now" "LOtherHalfOfNight$House;") (wzm K15)) (fun _ h9 => h9) rfl dX8_told_7 ?_
    refine lv_iload_n hx hb dX8_told_10 rfl (lv_at hl 1 rfl) ?_
    obtain ⟨q14, h15, hf⟩ := w_ob hf
    refine w_ci (va_runV (As := [.int x1]) (rest := []) ⟨hx, hb, hml, hown, hts⟩ (c_X1_lodges l Γ hG (0) x1 σ q14.1 q14.2 h15 H.size) (cwV 1 hts (wzV K144 K332 K142 K143 K14) rfl rfl rfl (by decide +kernel) ⟨(Nat.le_of_ble_eq_true rfl), (Nat.le_of_ble_eq_true rfl)⟩) (w_preV hK hP hkc hN hS (gC_House Γ σ 0 (by decide)) rfl) rfl rfl hl.1 rfl (lv_room (Nat.le_of_ble_eq_true rfl)) dX8_told_11 ⟨Nat.le_refl _, Nat.le_refl _⟩) hS (fun H locs hP hS => ?_)
    refine lv_if_eq (tgt := 32) hx hb dX8_told_14 (by decide) (fun c16 => ?_) (fun c16 => ?_)
    · replace hf := (if_pos c16).symm.trans hf
      refine lv_bipush (v := (-2 : Int32)) hx hb dX8_told_32 (by decide) ?_
      exact w_iret (X := XC Γ) hx hb hr hlocks hK hP hS rfl hf dX8_told_34
    · replace hf := (if_neg c16).symm.trans hf
      refine lv_aload_n hx hb dX8_told_17 rfl (lv_at hl 0 rfl) ?_
      refine va_get (D := Γ.1) (ci := 7) (v := .ref (Γ.2.2.1 (27))) (C := RX8) (T := TX8) (N := 9) hx hb hts iX8 hown hK hP (0) (gC_Main Γ q14.2) rfl 5 (by decide) (hts (.fieldLink RX8 32 "OtherHalfOfNight" "law" "LOtherHalfOfNight$Law;") (wzm K25)) (fun _ h9 => h9) rfl dX8_told_18 ?_
      refine lv_aload_n hx hb dX8_told_21 rfl (lv_at hl 0 rfl) ?_
      refine va_get (D := Γ.1) (ci := 7) (v := .ref (Γ.2.2.1 (1 + 8 * 0))) (C := RX8) (T := TX8) (N := 9) hx hb hts iX8 hown hK hP (0) (gC_Main Γ q14.2) rfl 0 (by decide) (hts (.fieldLink RX8 10 "OtherHalfOfNight" "now" "LOtherHalfOfNight$House;") (wzm K15)) (fun _ h9 => h9) rfl dX8_told_22 ?_
      refine lv_iload_n hx hb dX8_told_25 rfl (lv_at hl 1 rfl) ?_
      obtain ⟨q17, h18, hf⟩ := w_ob hf
      refine w_ci (va_runV (As := [.ref (Γ.2.2.1 (1 + 8 * 0)), .int x1]) (rest := []) ⟨hx, hb, hml, hown, hts⟩ (c_X2_yieldOf l Γ hG (0) x1 q14.2 q17.1 q17.2 h18 H.size) (cwV 2 hts (wzV K336 K333 K334 K335 K24) rfl rfl rfl (by decide +kernel) ⟨(Nat.le_of_ble_eq_true rfl), (Nat.le_of_ble_eq_true rfl)⟩) (w_preV hK hP hkc hN hS (gC_Law Γ q14.2) rfl) rfl rfl hl.1 rfl (lv_room (Nat.le_of_ble_eq_true rfl)) dX8_told_26 ⟨Nat.le_refl _, Nat.le_refl _⟩) hS (fun H locs hP hS => ?_)
      refine lv_goto (tgt := 34) hx hb dX8_told_29 (by decide) ?_
      exact w_iret (X := XC Γ) hx hb hr hlocks hK hP hS rfl hf dX8_told_34
def f_X8_eased (x1 : Int32) (σ : Sg) : Option (Int32 × Sg) := (f_X1_lodges (0) x1 σ).bind fun (q1 : Int32 × Sg) => if q1.1 = 0 then some ((-1000 : Int32), q1.2) else (f_X2_easeOf (0) x1 q1.2).bind fun (q4 : Int32 × Sg) => some (q4.1, q4.2)
set_option maxHeartbeats 40000000 in
set_option maxRecDepth 100000 in
theorem c_X8_eased (l : Launch) (Γ : Geo) (hG : okC Γ) (x1 : Int32) (σ : Sg) (r : Int32) (σ' : Sg) (hf : f_X8_eased x1 σ = some (r, σ')) (sz : Nat) : Met l yX8_eased (wz yX8_eased cX8_eased 2 (some .int)) { frames := 3, cells := 0, slots := 0, locals := 74 } (va_Pc [.ref (Γ.2.2.1 (0)), .int x1] (wPre Γ.1 vwCl (tysC Γ) (XC Γ) (alC Γ) Γ.2.2.2 σ sz)) (wQi Γ.1 vwCl (tysC Γ) (XC Γ) (alC Γ) r σ' sz) 0 0 (wA (alC Γ) sz) := by
  refine w_enter (cc := cX8_eased) (maxL := 2) (ret := (some .int)) (by decide) rfl (Nat.le_of_ble_eq_true rfl) ?_
  intro p e s m below meth c ls hx hb hr hlocks hml hown hts hsz hP hK hkc hN hl
  subst hsz
  generalize hav : ([.ref (Γ.2.2.1 (0)), .int x1] : List Value) = av at hl hts ⊢
  have hl : lv_has ls 2 [(0, .ref (Γ.2.2.1 (0))), (1, .int x1)] := by rw [← hav] at hl; exact hl
  suffices hw : ∀ (H : Heap) (locs : List Loc), va_P Γ.1 vwCl (XC Γ σ) H → va_S (wA (alC Γ) s.heap.size) s.heap H locs → W p l e { frames := 3, cells := 0, slots := 0, locals := 74 } s m av.toArray below meth c H locs 0 0 (MQ below (wQi Γ.1 vwCl (tysC Γ) (XC Γ) (alC Γ) r σ' s.heap.size) av.toArray s 0 0 (wA (alC Γ) s.heap.size)) (F0 m 0 ls []) from hw _ [] hP va_S.rf
  clear hP
  intro H locs hP hS
  unfold f_X8_eased at hf
  refine lv_aload_n hx hb dX8_eased_0 rfl (lv_at hl 0 rfl) ?_
  refine va_get (D := Γ.1) (ci := 7) (v := .ref (Γ.2.2.1 (1 + 8 * 0))) (C := RX8) (T := TX8) (N := 9) hx hb hts iX8 hown hK hP (0) (gC_Main Γ σ) rfl 0 (by decide) (hts (.fieldLink RX8 10 "OtherHalfOfNight" "now" "LOtherHalfOfNight$House;") (wzm K15)) (fun _ h9 => h9) rfl dX8_eased_1 ?_
  refine lv_iload_n hx hb dX8_eased_4 rfl (lv_at hl 1 rfl) ?_
  obtain ⟨q1, h2, hf⟩ := w_ob hf
  refine w_ci (va_runV (As := [.int x1]) (rest := []) ⟨hx, hb, hml, hown, hts⟩ (c_X1_lodges l Γ hG (0) x1 σ q1.1 q1.2 h2 H.size) (cwV 1 hts (wzV K144 K332 K142 K143 K14) rfl rfl rfl (by decide +kernel) ⟨(Nat.le_of_ble_eq_true rfl), (Nat.le_of_ble_eq_true rfl)⟩) (w_preV hK hP hkc hN hS (gC_House Γ σ 0 (by decide)) rfl) rfl rfl hl.1 rfl (lv_room (Nat.le_of_ble_eq_true rfl)) dX8_eased_5 ⟨Nat.le_refl _, Nat.le_refl _⟩) hS (fun H locs hP hS => ?_)
  refine lv_if_eq (tgt := 26) hx hb dX8_eased_8 (by decide) (fun c3 => ?_) (fun c3 => ?_)
  · replace hf := (if_pos c3).symm.trans hf
    refine lv_sipush (v := (-1000 : Int32)) hx hb dX8_eased_26 (by decide) ?_
    exact w_iret (X := XC Γ) hx hb hr hlocks hK hP hS rfl hf dX8_eased_29
  · replace hf := (if_neg c3).symm.trans hf
    refine lv_aload_n hx hb dX8_eased_11 rfl (lv_at hl 0 rfl) ?_
    refine va_get (D := Γ.1) (ci := 7) (v := .ref (Γ.2.2.1 (27))) (C := RX8) (T := TX8) (N := 9) hx hb hts iX8 hown hK hP (0) (gC_Main Γ q1.2) rfl 5 (by decide) (hts (.fieldLink RX8 32 "OtherHalfOfNight" "law" "LOtherHalfOfNight$Law;") (wzm K25)) (fun _ h9 => h9) rfl dX8_eased_12 ?_
    refine lv_aload_n hx hb dX8_eased_15 rfl (lv_at hl 0 rfl) ?_
    refine va_get (D := Γ.1) (ci := 7) (v := .ref (Γ.2.2.1 (1 + 8 * 0))) (C := RX8) (T := TX8) (N := 9) hx hb hts iX8 hown hK hP (0) (gC_Main Γ q1.2) rfl 0 (by decide) (hts (.fieldLink RX8 10 "OtherHalfOfNight" "now" "LOtherHalfOfNight$House;") (wzm K15)) (fun _ h9 => h9) rfl dX8_eased_16 ?_
    refine lv_iload_n hx hb dX8_eased_19 rfl (lv_at hl 1 rfl) ?_
    obtain ⟨q4, h5, hf⟩ := w_ob hf
    refine w_ci (va_runV (As := [.ref (Γ.2.2.1 (1 + 8 * 0)), .int x1]) (rest := []) ⟨hx, hb, hml, hown, hts⟩ (c_X2_easeOf l Γ hG (0) x1 q1.2 q4.1 q4.2 h5 H.size) (cwV 2 hts (wzV K407 K404 K405 K406 K24) rfl rfl rfl (by decide +kernel) ⟨(Nat.le_of_ble_eq_true rfl), (Nat.le_of_ble_eq_true rfl)⟩) (w_preV hK hP hkc hN hS (gC_Law Γ q1.2) rfl) rfl rfl hl.1 rfl (lv_room (Nat.le_of_ble_eq_true rfl)) dX8_eased_20 ⟨Nat.le_refl _, Nat.le_refl _⟩) hS (fun H locs hP hS => ?_)
    refine lv_goto (tgt := 29) hx hb dX8_eased_23 (by decide) ?_
    exact w_iret (X := XC Γ) hx hb hr hlocks hK hP hS rfl hf dX8_eased_29
def f_X8_feed (x1 : Int32) (σ : Sg) : Option (Int32 × Sg) := if x1 < 0 then some ((-2 : Int32), σ) else if x1 ≤ (255 : Int32) then (f_X4_take x1 σ).bind fun (q3 : Int32 × Sg) => if q3.1 = 0 then some ((-4 : Int32), q3.2) else some ((q3.2 (35) 0), q3.2) else some ((-2 : Int32), σ)
set_option maxHeartbeats 40000000 in
set_option maxRecDepth 100000 in
theorem c_X8_feed (l : Launch) (Γ : Geo) (hG : okC Γ) (x1 : Int32) (σ : Sg) (r : Int32) (σ' : Sg) (hf : f_X8_feed x1 σ = some (r, σ')) (sz : Nat) : Met l yX8_feed (wz yX8_feed cX8_feed 2 (some .int)) { frames := 1, cells := 0, slots := 0, locals := 21 } (va_Pc [.ref (Γ.2.2.1 (0)), .int x1] (wPre Γ.1 vwCl (tysC Γ) (XC Γ) (alC Γ) Γ.2.2.2 σ sz)) (wQi Γ.1 vwCl (tysC Γ) (XC Γ) (alC Γ) r σ' sz) 0 0 (wA (alC Γ) sz) := by
  refine w_enter (cc := cX8_feed) (maxL := 2) (ret := (some .int)) (by decide) rfl (Nat.le_of_ble_eq_true rfl) ?_
  intro p e s m below meth c ls hx hb hr hlocks hml hown hts hsz hP hK hkc hN hl
  subst hsz
  generalize hav : ([.ref (Γ.2.2.1 (0)), .int x1] : List Value) = av at hl hts ⊢
  have hl : lv_has ls 2 [(0, .ref (Γ.2.2.1 (0))), (1, .int x1)] := by rw [← hav] at hl; exact hl
  suffices hw : ∀ (H : Heap) (locs : List Loc), va_P Γ.1 vwCl (XC Γ σ) H → va_S (wA (alC Γ) s.heap.size) s.heap H locs → W p l e { frames := 1, cells := 0, slots := 0, locals := 21 } s m av.toArray below meth c H locs 0 0 (MQ below (wQi Γ.1 vwCl (tysC Γ) (XC Γ) (alC Γ) r σ' s.heap.size) av.toArray s 0 0 (wA (alC Γ) s.heap.size)) (F0 m 0 ls []) from hw _ [] hP va_S.rf
  clear hP
  intro H locs hP hS
  unfold f_X8_feed at hf
  refine lv_iload_n hx hb dX8_feed_0 rfl (lv_at hl 1 rfl) ?_
  refine lv_if_lt (tgt := 11) hx hb dX8_feed_1 (by decide) (fun c1 => ?_) (fun c1 => ?_)
  · replace hf := (if_pos c1).symm.trans hf
    refine lv_bipush (v := (-2 : Int32)) hx hb dX8_feed_11 (by decide) ?_
    exact w_iret (X := XC Γ) hx hb hr hlocks hK hP hS rfl hf dX8_feed_13
  · replace hf := (if_neg c1).symm.trans hf
    refine lv_iload_n hx hb dX8_feed_4 rfl (lv_at hl 1 rfl) ?_
    refine lv_sipush (v := (255 : Int32)) hx hb dX8_feed_5 (by decide) ?_
    refine lv_icmp_le (tgt := 14) hx hb dX8_feed_8 (by decide) (fun c2 => ?_) (fun c2 => ?_)
    · replace hf := (if_pos c2).symm.trans hf
      refine lv_aload_n hx hb dX8_feed_14 rfl (lv_at hl 0 rfl) ?_
      refine va_get (D := Γ.1) (ci := 7) (v := .ref (Γ.2.2.1 (25))) (C := RX8) (T := TX8) (N := 9) hx hb hts iX8 hown hK hP (0) (gC_Main Γ σ) rfl 4 (by decide) (hts (.fieldLink RX8 25 "OtherHalfOfNight" "reader" "LOtherHalfOfNight$Reader;") (wzm K21)) (fun _ h9 => h9) rfl dX8_feed_15 ?_
      refine lv_iload_n hx hb dX8_feed_18 rfl (lv_at hl 1 rfl) ?_
      obtain ⟨q3, h4, hf⟩ := w_ob hf
      refine w_ci (va_runV (As := [.int x1]) (rest := []) ⟨hx, hb, hml, hown, hts⟩ (c_X4_take l Γ hG x1 σ q3.1 q3.2 h4 H.size) (cwV 1 hts (wzV K424 K421 K422 K423 K20) rfl rfl rfl (by decide +kernel) ⟨(Nat.le_of_ble_eq_true rfl), (Nat.le_of_ble_eq_true rfl)⟩) (w_preV hK hP hkc hN hS (gC_Reader Γ σ) rfl) rfl rfl hl.1 rfl (lv_room (Nat.le_of_ble_eq_true rfl)) dX8_feed_19 ⟨Nat.le_refl _, Nat.le_refl _⟩) hS (fun H locs hP hS => ?_)
      refine lv_if_eq (tgt := 35) hx hb dX8_feed_22 (by decide) (fun c5 => ?_) (fun c5 => ?_)
      · replace hf := (if_pos c5).symm.trans hf
        refine lv_bipush (v := (-4 : Int32)) hx hb dX8_feed_35 (by decide) ?_
        exact w_iret (X := XC Γ) hx hb hr hlocks hK hP hS rfl hf dX8_feed_37
      · replace hf := (if_neg c5).symm.trans hf
        refine lv_aload_n hx hb dX8_feed_25 rfl (lv_at hl 0 rfl) ?_
        refine va_get (D := Γ.1) (ci := 7) (v := .ref (Γ.2.2.1 (25))) (C := RX8) (T := TX8) (N := 9) hx hb hts iX8 hown hK hP (0) (gC_Main Γ q3.2) rfl 4 (by decide) (hts (.fieldLink RX8 25 "OtherHalfOfNight" "reader" "LOtherHalfOfNight$Reader;") (wzm K21)) (fun _ h9 => h9) rfl dX8_feed_26 ?_
        refine va_get (D := Γ.1) (ci := 4) (v := .int (q3.2 (35) 0)) (C := RX4) (T := TX4) (N := 7) hx hb hts iX4 hown hK hP (25) (gC_Reader Γ q3.2) rfl 1 (by decide) (hts (.fieldLink RX8 94 "OtherHalfOfNight$Reader" "size" "I") (wzm K420)) (fun _ h9 => h9) rfl dX8_feed_29 ?_
        refine lv_goto (tgt := 37) hx hb dX8_feed_32 (by decide) ?_
        exact w_iret (X := XC Γ) hx hb hr hlocks hK hP hS rfl hf dX8_feed_37
    · replace hf := (if_neg c2).symm.trans hf
      refine lv_bipush (v := (-2 : Int32)) hx hb dX8_feed_11 (by decide) ?_
      exact w_iret (X := XC Γ) hx hb hr hlocks hK hP hS rfl hf dX8_feed_13
def f_X8_force (x1 : Int32) (σ : Sg) : Option (Int32 × Sg) := (f_X2_hasText x1 σ).bind fun (q1 : Int32 × Sg) => if q1.1 = 0 then some ((-2 : Int32), q1.2) else some ((q1.2 (11 * 0 + 2) 0), (up q1.2 (11 * 0 + 2) 0 x1))
set_option maxHeartbeats 40000000 in
set_option maxRecDepth 100000 in
theorem c_X8_force (l : Launch) (Γ : Geo) (hG : okC Γ) (x1 : Int32) (σ : Sg) (r : Int32) (σ' : Sg) (hf : f_X8_force x1 σ = some (r, σ')) (sz : Nat) : Met l yX8_force (wz yX8_force cX8_force 3 (some .int)) { frames := 1, cells := 0, slots := 0, locals := 21 } (va_Pc [.ref (Γ.2.2.1 (0)), .int x1] (wPre Γ.1 vwCl (tysC Γ) (XC Γ) (alC Γ) Γ.2.2.2 σ sz)) (wQi Γ.1 vwCl (tysC Γ) (XC Γ) (alC Γ) r σ' sz) 0 0 (wA (alC Γ) sz) := by
  refine w_enter (cc := cX8_force) (maxL := 3) (ret := (some .int)) (by decide) rfl (Nat.le_of_ble_eq_true rfl) ?_
  intro p e s m below meth c ls hx hb hr hlocks hml hown hts hsz hP hK hkc hN hl
  subst hsz
  generalize hav : ([.ref (Γ.2.2.1 (0)), .int x1] : List Value) = av at hl hts ⊢
  have hl : lv_has ls 3 [(0, .ref (Γ.2.2.1 (0))), (1, .int x1)] := by rw [← hav] at hl; exact hl
  suffices hw : ∀ (H : Heap) (locs : List Loc), va_P Γ.1 vwCl (XC Γ σ) H → va_S (wA (alC Γ) s.heap.size) s.heap H locs → W p l e { frames := 1, cells := 0, slots := 0, locals := 21 } s m av.toArray below meth c H locs 0 0 (MQ below (wQi Γ.1 vwCl (tysC Γ) (XC Γ) (alC Γ) r σ' s.heap.size) av.toArray s 0 0 (wA (alC Γ) s.heap.size)) (F0 m 0 ls []) from hw _ [] hP va_S.rf
  clear hP
  intro H locs hP hS
  unfold f_X8_force at hf
  refine lv_aload_n hx hb dX8_force_0 rfl (lv_at hl 0 rfl) ?_
  refine va_get (D := Γ.1) (ci := 7) (v := .ref (Γ.2.2.1 (27))) (C := RX8) (T := TX8) (N := 9) hx hb hts iX8 hown hK hP (0) (gC_Main Γ σ) rfl 5 (by decide) (hts (.fieldLink RX8 32 "OtherHalfOfNight" "law" "LOtherHalfOfNight$Law;") (wzm K25)) (fun _ h9 => h9) rfl dX8_force_1 ?_
  refine lv_iload_n hx hb dX8_force_4 rfl (lv_at hl 1 rfl) ?_
  obtain ⟨q1, h2, hf⟩ := w_ob hf
  refine w_ci (va_runV (As := [.int x1]) (rest := []) ⟨hx, hb, hml, hown, hts⟩ (c_X2_hasText l Γ hG x1 σ q1.1 q1.2 h2 H.size) (cwV 1 hts (wzV K347 K635 K345 K346 K24) rfl rfl rfl (by decide +kernel) ⟨(Nat.le_of_ble_eq_true rfl), (Nat.le_of_ble_eq_true rfl)⟩) (w_preV hK hP hkc hN hS (gC_Law Γ σ) rfl) rfl rfl hl.1 rfl (lv_room (Nat.le_of_ble_eq_true rfl)) dX8_force_5 ⟨Nat.le_refl _, Nat.le_refl _⟩) hS (fun H locs hP hS => ?_)
  refine lv_if_ne (tgt := 14) hx hb dX8_force_8 (by decide) (fun c3 => ?_) (fun c3 => ?_)
  · replace hf := (if_neg c3).symm.trans hf
    refine lv_aload_n hx hb dX8_force_14 rfl (lv_at hl 0 rfl) ?_
    refine va_get (D := Γ.1) (ci := 7) (v := .ref (Γ.2.2.1 (1 + 8 * 0))) (C := RX8) (T := TX8) (N := 9) hx hb hts iX8 hown hK hP (0) (gC_Main Γ q1.2) rfl 0 (by decide) (hts (.fieldLink RX8 10 "OtherHalfOfNight" "now" "LOtherHalfOfNight$House;") (wzm K15)) (fun _ h9 => h9) rfl dX8_force_15 ?_
    refine va_get (D := Γ.1) (ci := 1) (v := .int (q1.2 (11 * 0 + 2) 0)) (C := RX1) (T := TX1) (N := 11) hx hb hts iX1 hown hK hP (1 + 8 * 0) (gC_House Γ q1.2 0 (by decide)) rfl 2 (by decide) (hts (.fieldLink RX8 116 "OtherHalfOfNight$House" "rule" "I") (wzm K634)) (fun _ h9 => h9) rfl dX8_force_18 ?_
    refine lv_istore_n (lv' := [(2, .int (q1.2 (11 * 0 + 2) 0)), (0, .ref (Γ.2.2.1 (0))), (1, .int x1)]) hx hb dX8_force_21 rfl hl (by decide) rfl (fun ls hl => ?_)
    refine lv_aload_n hx hb dX8_force_22 rfl (lv_at hl 1 rfl) ?_
    refine va_get (D := Γ.1) (ci := 7) (v := .ref (Γ.2.2.1 (1 + 8 * 0))) (C := RX8) (T := TX8) (N := 9) hx hb hts iX8 hown hK hP (0) (gC_Main Γ q1.2) rfl 0 (by decide) (hts (.fieldLink RX8 10 "OtherHalfOfNight" "now" "LOtherHalfOfNight$House;") (wzm K15)) (fun _ h9 => h9) rfl dX8_force_23 ?_
    refine lv_iload_n hx hb dX8_force_26 rfl (lv_at hl 2 rfl) ?_
    refine w_put (X := XC Γ) (σ' := (up q1.2 (11 * 0 + 2) 0 x1)) (ci := 1) (C := RX1) (T := TX1) (N := 11) (ty := .int) hx hb hts iX1 tyX1 tyX1_ok nmX1 hown hK hP (halC Γ) hG hS (1 + 8 * 0) (gC_House Γ q1.2 0 (by decide)) rfl 2 (by decide) (hts (.fieldLink RX8 116 "OtherHalfOfNight$House" "rule" "I") (wzm K634)) (fun _ h9 => h9) rfl (by decide +kernel) rfl rfl (Nat.le_of_ble_eq_true rfl) dX8_force_27 (sC_House_rule Γ q1.2 0 (by decide) x1) (fun H locs hP hS => ?_)
    refine lv_iload_n hx hb dX8_force_30 rfl (lv_at hl 0 rfl) ?_
    exact w_iret (X := XC Γ) hx hb hr hlocks hK hP hS rfl hf dX8_force_31
  · replace hf := (if_pos c3).symm.trans hf
    refine lv_bipush (v := (-2 : Int32)) hx hb dX8_force_11 (by decide) ?_
    exact w_iret (X := XC Γ) hx hb hr hlocks hK hP hS rfl hf dX8_force_13
def f_X8_night (σ : Sg) : Option (Int32 × Sg) := if (σ (11 * 0) 0) < (999 : Int32) then (f_X3_pass (0) σ).bind fun (q2 : Int32 × Sg) => some (q2.1, q2.2) else some ((-3 : Int32), σ)
set_option maxHeartbeats 40000000 in
set_option maxRecDepth 100000 in
theorem c_X8_night (l : Launch) (Γ : Geo) (hG : okC Γ) (σ : Sg) (r : Int32) (σ' : Sg) (hf : f_X8_night σ = some (r, σ')) (sz : Nat) : Met l yX8_night (wz yX8_night cX8_night 1 (some .int)) { frames := 6, cells := 0, slots := 0, locals := 152 } (va_Pc [.ref (Γ.2.2.1 (0))] (wPre Γ.1 vwCl (tysC Γ) (XC Γ) (alC Γ) Γ.2.2.2 σ sz)) (wQi Γ.1 vwCl (tysC Γ) (XC Γ) (alC Γ) r σ' sz) 0 0 (wA (alC Γ) sz) := by
  refine w_enter (cc := cX8_night) (maxL := 1) (ret := (some .int)) (by decide) rfl (Nat.le_of_ble_eq_true rfl) ?_
  intro p e s m below meth c ls hx hb hr hlocks hml hown hts hsz hP hK hkc hN hl
  subst hsz
  generalize hav : ([.ref (Γ.2.2.1 (0))] : List Value) = av at hl hts ⊢
  have hl : lv_has ls 1 [(0, .ref (Γ.2.2.1 (0)))] := by rw [← hav] at hl; exact hl
  suffices hw : ∀ (H : Heap) (locs : List Loc), va_P Γ.1 vwCl (XC Γ σ) H → va_S (wA (alC Γ) s.heap.size) s.heap H locs → W p l e { frames := 6, cells := 0, slots := 0, locals := 152 } s m av.toArray below meth c H locs 0 0 (MQ below (wQi Γ.1 vwCl (tysC Γ) (XC Γ) (alC Γ) r σ' s.heap.size) av.toArray s 0 0 (wA (alC Γ) s.heap.size)) (F0 m 0 ls []) from hw _ [] hP va_S.rf
  clear hP
  intro H locs hP hS
  unfold f_X8_night at hf
  refine lv_aload_n hx hb dX8_night_0 rfl (lv_at hl 0 rfl) ?_
  refine va_get (D := Γ.1) (ci := 7) (v := .ref (Γ.2.2.1 (1 + 8 * 0))) (C := RX8) (T := TX8) (N := 9) hx hb hts iX8 hown hK hP (0) (gC_Main Γ σ) rfl 0 (by decide) (hts (.fieldLink RX8 10 "OtherHalfOfNight" "now" "LOtherHalfOfNight$House;") (wzm K15)) (fun _ h9 => h9) rfl dX8_night_1 ?_
  refine va_get (D := Γ.1) (ci := 1) (v := .int (σ (11 * 0) 0)) (C := RX1) (T := TX1) (N := 11) hx hb hts iX1 hown hK hP (1 + 8 * 0) (gC_House Γ σ 0 (by decide)) rfl 0 (by decide) (hts (.fieldLink RX8 119 "OtherHalfOfNight$House" "night" "I") (wzm K644)) (fun _ h9 => h9) rfl dX8_night_4 ?_
  refine lv_sipush (v := (999 : Int32)) hx hb dX8_night_7 (by decide) ?_
  refine lv_icmp_lt (tgt := 18) hx hb dX8_night_10 (by decide) (fun c1 => ?_) (fun c1 => ?_)
  · replace hf := (if_pos c1).symm.trans hf
    refine lv_aload_n hx hb dX8_night_18 rfl (lv_at hl 0 rfl) ?_
    refine va_get (D := Γ.1) (ci := 7) (v := .ref (Γ.2.2.1 (51))) (C := RX8) (T := TX8) (N := 9) hx hb hts iX8 hown hK hP (0) (gC_Main Γ σ) rfl 6 (by decide) (hts (.fieldLink RX8 39 "OtherHalfOfNight" "pouring" "LOtherHalfOfNight$Pouring;") (wzm K29)) (fun _ h9 => h9) rfl dX8_night_19 ?_
    refine lv_aload_n hx hb dX8_night_22 rfl (lv_at hl 0 rfl) ?_
    refine va_get (D := Γ.1) (ci := 7) (v := .ref (Γ.2.2.1 (27))) (C := RX8) (T := TX8) (N := 9) hx hb hts iX8 hown hK hP (0) (gC_Main Γ σ) rfl 5 (by decide) (hts (.fieldLink RX8 32 "OtherHalfOfNight" "law" "LOtherHalfOfNight$Law;") (wzm K25)) (fun _ h9 => h9) rfl dX8_night_23 ?_
    refine lv_aload_n hx hb dX8_night_26 rfl (lv_at hl 0 rfl) ?_
    refine va_get (D := Γ.1) (ci := 7) (v := .ref (Γ.2.2.1 (1 + 8 * 0))) (C := RX8) (T := TX8) (N := 9) hx hb hts iX8 hown hK hP (0) (gC_Main Γ σ) rfl 0 (by decide) (hts (.fieldLink RX8 10 "OtherHalfOfNight" "now" "LOtherHalfOfNight$House;") (wzm K15)) (fun _ h9 => h9) rfl dX8_night_27 ?_
    obtain ⟨q2, h3, hf⟩ := w_ob hf
    refine w_ci (va_runV (As := [.ref (Γ.2.2.1 (27)), .ref (Γ.2.2.1 (1 + 8 * 0))]) (rest := []) ⟨hx, hb, hml, hown, hts⟩ (c_X3_pass l Γ hG (0) σ q2.1 q2.2 h3 H.size) (cwV 2 hts (wzV K648 K645 K646 K647 K28) rfl rfl rfl (by decide +kernel) ⟨(Nat.le_of_ble_eq_true rfl), (Nat.le_of_ble_eq_true rfl)⟩) (w_preV hK hP hkc hN hS (gC_Pouring Γ σ) rfl) rfl rfl hl.1 rfl (lv_room (Nat.le_of_ble_eq_true rfl)) dX8_night_30 ⟨Nat.le_refl _, Nat.le_refl _⟩) hS (fun H locs hP hS => ?_)
    exact w_iret (X := XC Γ) hx hb hr hlocks hK hP hS rfl hf dX8_night_33
  · replace hf := (if_neg c1).symm.trans hf
    refine lv_bipush (v := (-3 : Int32)) hx hb dX8_night_13 (by decide) ?_
    refine lv_goto (tgt := 33) hx hb dX8_night_15 (by decide) ?_
    exact w_iret (X := XC Γ) hx hb hr hlocks hK hP hS rfl hf dX8_night_33
def f_X8_news (x1 : Int32) (σ : Sg) : Option (Int32 × Sg) := (f_X1_lodges (0) x1 σ).bind fun (q1 : Int32 × Sg) => if q1.1 = 0 then some ((-2 : Int32), q1.2) else if okI x1 5 then (f_X1_bringNews (0) x1 q1.2).bind fun (q5 : Sg) => some ((q1.2 (11 * 0 + 6) (x1).toNatClampNeg), q5) else none
set_option maxHeartbeats 40000000 in
set_option maxRecDepth 100000 in
theorem c_X8_news (l : Launch) (Γ : Geo) (hG : okC Γ) (x1 : Int32) (σ : Sg) (r : Int32) (σ' : Sg) (hf : f_X8_news x1 σ = some (r, σ')) (sz : Nat) : Met l yX8_news (wz yX8_news cX8_news 3 (some .int)) { frames := 3, cells := 0, slots := 0, locals := 62 } (va_Pc [.ref (Γ.2.2.1 (0)), .int x1] (wPre Γ.1 vwCl (tysC Γ) (XC Γ) (alC Γ) Γ.2.2.2 σ sz)) (wQi Γ.1 vwCl (tysC Γ) (XC Γ) (alC Γ) r σ' sz) 0 0 (wA (alC Γ) sz) := by
  refine w_enter (cc := cX8_news) (maxL := 3) (ret := (some .int)) (by decide) rfl (Nat.le_of_ble_eq_true rfl) ?_
  intro p e s m below meth c ls hx hb hr hlocks hml hown hts hsz hP hK hkc hN hl
  subst hsz
  generalize hav : ([.ref (Γ.2.2.1 (0)), .int x1] : List Value) = av at hl hts ⊢
  have hl : lv_has ls 3 [(0, .ref (Γ.2.2.1 (0))), (1, .int x1)] := by rw [← hav] at hl; exact hl
  suffices hw : ∀ (H : Heap) (locs : List Loc), va_P Γ.1 vwCl (XC Γ σ) H → va_S (wA (alC Γ) s.heap.size) s.heap H locs → W p l e { frames := 3, cells := 0, slots := 0, locals := 62 } s m av.toArray below meth c H locs 0 0 (MQ below (wQi Γ.1 vwCl (tysC Γ) (XC Γ) (alC Γ) r σ' s.heap.size) av.toArray s 0 0 (wA (alC Γ) s.heap.size)) (F0 m 0 ls []) from hw _ [] hP va_S.rf
  clear hP
  intro H locs hP hS
  unfold f_X8_news at hf
  refine lv_aload_n hx hb dX8_news_0 rfl (lv_at hl 0 rfl) ?_
  refine va_get (D := Γ.1) (ci := 7) (v := .ref (Γ.2.2.1 (1 + 8 * 0))) (C := RX8) (T := TX8) (N := 9) hx hb hts iX8 hown hK hP (0) (gC_Main Γ σ) rfl 0 (by decide) (hts (.fieldLink RX8 10 "OtherHalfOfNight" "now" "LOtherHalfOfNight$House;") (wzm K15)) (fun _ h9 => h9) rfl dX8_news_1 ?_
  refine lv_iload_n hx hb dX8_news_4 rfl (lv_at hl 1 rfl) ?_
  obtain ⟨q1, h2, hf⟩ := w_ob hf
  refine w_ci (va_runV (As := [.int x1]) (rest := []) ⟨hx, hb, hml, hown, hts⟩ (c_X1_lodges l Γ hG (0) x1 σ q1.1 q1.2 h2 H.size) (cwV 1 hts (wzV K144 K332 K142 K143 K14) rfl rfl rfl (by decide +kernel) ⟨(Nat.le_of_ble_eq_true rfl), (Nat.le_of_ble_eq_true rfl)⟩) (w_preV hK hP hkc hN hS (gC_House Γ σ 0 (by decide)) rfl) rfl rfl hl.1 rfl (lv_room (Nat.le_of_ble_eq_true rfl)) dX8_news_5 ⟨Nat.le_refl _, Nat.le_refl _⟩) hS (fun H locs hP hS => ?_)
  refine lv_if_ne (tgt := 14) hx hb dX8_news_8 (by decide) (fun c3 => ?_) (fun c3 => ?_)
  · replace hf := (if_neg c3).symm.trans hf
    refine lv_aload_n hx hb dX8_news_14 rfl (lv_at hl 0 rfl) ?_
    refine va_get (D := Γ.1) (ci := 7) (v := .ref (Γ.2.2.1 (1 + 8 * 0))) (C := RX8) (T := TX8) (N := 9) hx hb hts iX8 hown hK hP (0) (gC_Main Γ q1.2) rfl 0 (by decide) (hts (.fieldLink RX8 10 "OtherHalfOfNight" "now" "LOtherHalfOfNight$House;") (wzm K15)) (fun _ h9 => h9) rfl dX8_news_15 ?_
    refine va_get (D := Γ.1) (ci := 1) (v := .ref (Γ.2.2.1 (4 + 8 * 0))) (C := RX1) (T := TX1) (N := 11) hx hb hts iX1 hown hK hP (1 + 8 * 0) (gC_House Γ q1.2 0 (by decide)) rfl 6 (by decide) (hts (.fieldLink RX8 126 "OtherHalfOfNight$House" "trouble" "[I") (wzm K681)) (fun _ h9 => h9) rfl dX8_news_18 ?_
    refine lv_iload_n hx hb dX8_news_21 rfl (lv_at hl 1 rfl) ?_
    obtain ⟨g4, hf⟩ := w_oi hf
    refine va_iald (D := Γ.1) (tys := (tysC Γ)) hx hb hK hP (4 + 8 * 0) 0 (gC_House_trouble Γ q1.2 0 (by decide)) rfl g4 dX8_news_22 ?_
    refine lv_istore_n (lv' := [(2, .int (q1.2 (11 * 0 + 6) (x1).toNatClampNeg)), (0, .ref (Γ.2.2.1 (0))), (1, .int x1)]) hx hb dX8_news_23 rfl hl (by decide) rfl (fun ls hl => ?_)
    refine lv_aload_n hx hb dX8_news_24 rfl (lv_at hl 1 rfl) ?_
    refine va_get (D := Γ.1) (ci := 7) (v := .ref (Γ.2.2.1 (1 + 8 * 0))) (C := RX8) (T := TX8) (N := 9) hx hb hts iX8 hown hK hP (0) (gC_Main Γ q1.2) rfl 0 (by decide) (hts (.fieldLink RX8 10 "OtherHalfOfNight" "now" "LOtherHalfOfNight$House;") (wzm K15)) (fun _ h9 => h9) rfl dX8_news_25 ?_
    refine lv_iload_n hx hb dX8_news_28 rfl (lv_at hl 2 rfl) ?_
    obtain ⟨q5, h6, hf⟩ := w_ob hf
    refine w_cv (va_runV (As := [.int x1]) (rest := []) ⟨hx, hb, hml, hown, hts⟩ (c_X1_bringNews l Γ hG (0) x1 q1.2 q5 h6 H.size) (cwV 1 hts (wzV K685 K682 K683 K684 K14) rfl rfl rfl (by decide +kernel) ⟨(Nat.le_of_ble_eq_true rfl), (Nat.le_of_ble_eq_true rfl)⟩) (w_preV hK hP hkc hN hS (gC_House Γ q1.2 0 (by decide)) rfl) rfl rfl hl.1 rfl (lv_room (Nat.le_of_ble_eq_true rfl)) dX8_news_29 ⟨Nat.le_refl _, Nat.le_refl _⟩) hS (fun H locs hP hS => ?_)
    refine lv_iload_n hx hb dX8_news_32 rfl (lv_at hl 0 rfl) ?_
    exact w_iret (X := XC Γ) hx hb hr hlocks hK hP hS rfl hf dX8_news_33
  · replace hf := (if_pos c3).symm.trans hf
    refine lv_bipush (v := (-2 : Int32)) hx hb dX8_news_11 (by decide) ?_
    exact w_iret (X := XC Γ) hx hb hr hlocks hK hP hS rfl hf dX8_news_13
def f_X8_run_59 (x1 : Int32) (x2 : Int32) (x3 : Int32) (x4 : Int32) : Nat → Int32 → Int32 → Sg → Option (Int32 × Sg)
  | 0, _, _, _ => none
  | n + 1, y5, y6, τ => if x3 ≤ y6 then if x4 = 0 then if okI x1 5 then some ((τ (11 * 1 + 6) (x1).toNatClampNeg), τ) else none else if x4 = (1 : Int32) then some (y5, τ) else if okI x2 6 then some ((τ (11 * 1 + 10) (x2).toNatClampNeg), τ) else none else (f_X3_pass (1) τ).bind fun (q18 : Int32 × Sg) => (f_X8_run_59 x1 x2 x3 x4 n) ((y5 + q18.1)) ((y6 + (1 : Int32))) q18.2
def f_X8_run (x1 : Int32) (x2 : Int32) (x3 : Int32) (x4 : Int32) (σ : Sg) : Option (Int32 × Sg) := (f_X1_lodges (0) x1 σ).bind fun (q1 : Int32 × Sg) => if q1.1 = 0 then some ((-2 : Int32), q1.2) else (f_X8_isCup x2 q1.2).bind fun (q4 : Int32 × Sg) => if q4.1 = 0 then some ((-2 : Int32), q4.2) else if x3 < 0 then some ((-2 : Int32), q4.2) else if (40 : Int32) < x3 then some ((-2 : Int32), q4.2) else if x4 < 0 then some ((-2 : Int32), q4.2) else if x4 ≤ (2 : Int32) then (f_X1_takeFrom (1) (0) q4.2).bind fun (q11 : Sg) => f_X8_run_59 x1 x2 x3 x4 5000 ((0 : Int32)) ((0 : Int32)) q11 else some ((-2 : Int32), q4.2)
set_option maxHeartbeats 40000000 in
set_option maxRecDepth 100000 in
theorem c_X8_run (l : Launch) (Γ : Geo) (hG : okC Γ) (x1 : Int32) (x2 : Int32) (x3 : Int32) (x4 : Int32) (σ : Sg) (r : Int32) (σ' : Sg) (hf : f_X8_run x1 x2 x3 x4 σ = some (r, σ')) (sz : Nat) : Met l yX8_run (wz yX8_run cX8_run 7 (some .int)) { frames := 6, cells := 0, slots := 0, locals := 152 } (va_Pc [.ref (Γ.2.2.1 (0)), .int x1, .int x2, .int x3, .int x4] (wPre Γ.1 vwCl (tysC Γ) (XC Γ) (alC Γ) Γ.2.2.2 σ sz)) (wQi Γ.1 vwCl (tysC Γ) (XC Γ) (alC Γ) r σ' sz) 0 0 (wA (alC Γ) sz) := by
  refine w_enter (cc := cX8_run) (maxL := 7) (ret := (some .int)) (by decide) rfl (Nat.le_of_ble_eq_true rfl) ?_
  intro p e s m below meth c ls hx hb hr hlocks hml hown hts hsz hP hK hkc hN hl
  subst hsz
  generalize hav : ([.ref (Γ.2.2.1 (0)), .int x1, .int x2, .int x3, .int x4] : List Value) = av at hl hts ⊢
  have hl : lv_has ls 7 [(0, .ref (Γ.2.2.1 (0))), (1, .int x1), (2, .int x2), (3, .int x3), (4, .int x4)] := by rw [← hav] at hl; exact hl
  have j59 : ∀ (n59 : Nat), ∀ (y5 : Int32) (y6 : Int32) (τ : Sg) (H : Heap) (locs : List Loc) (ls : Array Slot) (hf : f_X8_run_59 x1 x2 x3 x4 n59 y5 y6 τ = some (r, σ')) (hP : va_P Γ.1 vwCl (XC Γ τ) H) (hS : va_S (wA (alC Γ) s.heap.size) s.heap H locs) (hl : lv_has ls 7 [(0, .ref (Γ.2.2.1 (0))), (1, .int x1), (2, .int x2), (3, .int x3), (4, .int x4), (5, .int y5), (6, .int y6)]), W p l e { frames := 6, cells := 0, slots := 0, locals := 152 } s m av.toArray below meth c H locs 0 0 (MQ below (wQi Γ.1 vwCl (tysC Γ) (XC Γ) (alC Γ) r σ' s.heap.size) av.toArray s 0 0 (wA (alC Γ) s.heap.size)) (F0 m 59 ls []) := by
    intro n59
    induction n59 with
    | zero =>
      intro y5 y6 τ H locs ls hf
      exact absurd hf (by intro h; cases h)
    | succ n59 ih59 =>
      intro y5 y6 τ H locs ls hf hP hS hl
      unfold f_X8_run_59 at hf
      refine lv_iload hx hb dX8_run_59 (lv_at hl 6 rfl) ?_
      refine lv_iload_n hx hb dX8_run_61 rfl (lv_at hl 3 rfl) ?_
      refine lv_icmp_ge (tgt := 91) hx hb dX8_run_62 (by decide) (fun c13 => ?_) (fun c13 => ?_)
      · replace hf := (if_pos c13).symm.trans hf
        refine lv_iload hx hb dX8_run_91 (lv_at hl 4 rfl) ?_
        refine lv_if_ne (tgt := 106) hx hb dX8_run_93 (by decide) (fun c14 => ?_) (fun c14 => ?_)
        · replace hf := (if_neg c14).symm.trans hf
          refine lv_iload hx hb dX8_run_106 (lv_at hl 4 rfl) ?_
          refine lv_iconst (v := (1 : Int32)) hx hb dX8_run_108 (by decide) ?_
          refine lv_icmp_ne (tgt := 117) hx hb dX8_run_109 (by decide) (fun c15 => ?_) (fun c15 => ?_)
          · replace hf := (if_neg c15).symm.trans hf
            refine lv_aload_n hx hb dX8_run_117 rfl (lv_at hl 0 rfl) ?_
            refine va_get (D := Γ.1) (ci := 7) (v := .ref (Γ.2.2.1 (1 + 8 * 1))) (C := RX8) (T := TX8) (N := 9) hx hb hts iX8 hown hK hP (0) (gC_Main Γ τ) rfl 1 (by decide) (hts (.fieldLink RX8 16 "OtherHalfOfNight" "thought" "LOtherHalfOfNight$House;") (wzm K16)) (fun _ h9 => h9) rfl dX8_run_118 ?_
            refine va_get (D := Γ.1) (ci := 1) (v := .ref (Γ.2.2.1 (8 + 8 * 1))) (C := RX1) (T := TX1) (N := 11) hx hb hts iX1 hown hK hP (1 + 8 * 1) (gC_House Γ τ 1 (by decide)) rfl 10 (by decide) (hts (.fieldLink RX8 141 "OtherHalfOfNight$House" "hold" "[I") (wzm K698)) (fun _ h9 => h9) rfl dX8_run_121 ?_
            refine lv_iload_n hx hb dX8_run_124 rfl (lv_at hl 2 rfl) ?_
            obtain ⟨g16, hf⟩ := w_oi hf
            refine va_iald (D := Γ.1) (tys := (tysC Γ)) hx hb hK hP (8 + 8 * 1) 0 (gC_House_hold Γ τ 1 (by decide)) rfl g16 dX8_run_125 ?_
            exact w_iret (X := XC Γ) hx hb hr hlocks hK hP hS rfl hf dX8_run_126
          · replace hf := (if_pos c15).symm.trans hf
            refine lv_iload hx hb dX8_run_112 (lv_at hl 5 rfl) ?_
            refine lv_goto (tgt := 126) hx hb dX8_run_114 (by decide) ?_
            exact w_iret (X := XC Γ) hx hb hr hlocks hK hP hS rfl hf dX8_run_126
        · replace hf := (if_pos c14).symm.trans hf
          refine lv_aload_n hx hb dX8_run_96 rfl (lv_at hl 0 rfl) ?_
          refine va_get (D := Γ.1) (ci := 7) (v := .ref (Γ.2.2.1 (1 + 8 * 1))) (C := RX8) (T := TX8) (N := 9) hx hb hts iX8 hown hK hP (0) (gC_Main Γ τ) rfl 1 (by decide) (hts (.fieldLink RX8 16 "OtherHalfOfNight" "thought" "LOtherHalfOfNight$House;") (wzm K16)) (fun _ h9 => h9) rfl dX8_run_97 ?_
          refine va_get (D := Γ.1) (ci := 1) (v := .ref (Γ.2.2.1 (4 + 8 * 1))) (C := RX1) (T := TX1) (N := 11) hx hb hts iX1 hown hK hP (1 + 8 * 1) (gC_House Γ τ 1 (by decide)) rfl 6 (by decide) (hts (.fieldLink RX8 126 "OtherHalfOfNight$House" "trouble" "[I") (wzm K681)) (fun _ h9 => h9) rfl dX8_run_100 ?_
          refine lv_iload_n hx hb dX8_run_103 rfl (lv_at hl 1 rfl) ?_
          obtain ⟨g17, hf⟩ := w_oi hf
          refine va_iald (D := Γ.1) (tys := (tysC Γ)) hx hb hK hP (4 + 8 * 1) 0 (gC_House_trouble Γ τ 1 (by decide)) rfl g17 dX8_run_104 ?_
          exact w_iret (X := XC Γ) hx hb hr hlocks hK hP hS rfl hf dX8_run_105
      · replace hf := (if_neg c13).symm.trans hf
        refine lv_iload hx hb dX8_run_65 (lv_at hl 5 rfl) ?_
        refine lv_aload_n hx hb dX8_run_67 rfl (lv_at hl 0 rfl) ?_
        refine va_get (D := Γ.1) (ci := 7) (v := .ref (Γ.2.2.1 (51))) (C := RX8) (T := TX8) (N := 9) hx hb hts iX8 hown hK hP (0) (gC_Main Γ τ) rfl 6 (by decide) (hts (.fieldLink RX8 39 "OtherHalfOfNight" "pouring" "LOtherHalfOfNight$Pouring;") (wzm K29)) (fun _ h9 => h9) rfl dX8_run_68 ?_
        refine lv_aload_n hx hb dX8_run_71 rfl (lv_at hl 0 rfl) ?_
        refine va_get (D := Γ.1) (ci := 7) (v := .ref (Γ.2.2.1 (27))) (C := RX8) (T := TX8) (N := 9) hx hb hts iX8 hown hK hP (0) (gC_Main Γ τ) rfl 5 (by decide) (hts (.fieldLink RX8 32 "OtherHalfOfNight" "law" "LOtherHalfOfNight$Law;") (wzm K25)) (fun _ h9 => h9) rfl dX8_run_72 ?_
        refine lv_aload_n hx hb dX8_run_75 rfl (lv_at hl 0 rfl) ?_
        refine va_get (D := Γ.1) (ci := 7) (v := .ref (Γ.2.2.1 (1 + 8 * 1))) (C := RX8) (T := TX8) (N := 9) hx hb hts iX8 hown hK hP (0) (gC_Main Γ τ) rfl 1 (by decide) (hts (.fieldLink RX8 16 "OtherHalfOfNight" "thought" "LOtherHalfOfNight$House;") (wzm K16)) (fun _ h9 => h9) rfl dX8_run_76 ?_
        obtain ⟨q18, h19, hf⟩ := w_ob hf
        refine w_ci (va_runV (As := [.ref (Γ.2.2.1 (27)), .ref (Γ.2.2.1 (1 + 8 * 1))]) (rest := [.int y5]) ⟨hx, hb, hml, hown, hts⟩ (c_X3_pass l Γ hG (1) τ q18.1 q18.2 h19 H.size) (cwV 2 hts (wzV K648 K645 K646 K647 K28) rfl rfl rfl (by decide +kernel) ⟨(Nat.le_of_ble_eq_true rfl), (Nat.le_of_ble_eq_true rfl)⟩) (w_preV hK hP hkc hN hS (gC_Pouring Γ τ) rfl) rfl rfl hl.1 rfl (lv_room (Nat.le_of_ble_eq_true rfl)) dX8_run_79 ⟨Nat.le_refl _, Nat.le_refl _⟩) hS (fun H locs hP hS => ?_)
        refine lv_iadd hx hb dX8_run_82 ?_
        refine lv_istore (lv' := [(5, .int (y5 + q18.1)), (0, .ref (Γ.2.2.1 (0))), (1, .int x1), (2, .int x2), (3, .int x3), (4, .int x4), (6, .int y6)]) hx hb dX8_run_83 hl (by decide) rfl (fun ls hl => ?_)
        refine lv_iinc (v := (y6 + (1 : Int32))) (lv' := [(6, .int (y6 + (1 : Int32))), (5, .int (y5 + q18.1)), (0, .ref (Γ.2.2.1 (0))), (1, .int x1), (2, .int x2), (3, .int x3), (4, .int x4)]) hx hb dX8_run_85 hl (k := 6) rfl rfl (by decide) rfl (fun ls hl => ?_)
        refine lv_goto (tgt := 59) hx hb dX8_run_88 (by decide) ?_
        exact ih59 ((y5 + q18.1)) ((y6 + (1 : Int32))) q18.2 H locs ls hf hP hS (lv_sub hl [2, 3, 4, 5, 6, 1, 0] rfl)
  suffices hw : ∀ (H : Heap) (locs : List Loc), va_P Γ.1 vwCl (XC Γ σ) H → va_S (wA (alC Γ) s.heap.size) s.heap H locs → W p l e { frames := 6, cells := 0, slots := 0, locals := 152 } s m av.toArray below meth c H locs 0 0 (MQ below (wQi Γ.1 vwCl (tysC Γ) (XC Γ) (alC Γ) r σ' s.heap.size) av.toArray s 0 0 (wA (alC Γ) s.heap.size)) (F0 m 0 ls []) from hw _ [] hP va_S.rf
  clear hP
  intro H locs hP hS
  unfold f_X8_run at hf
  refine lv_aload_n hx hb dX8_run_0 rfl (lv_at hl 0 rfl) ?_
  refine va_get (D := Γ.1) (ci := 7) (v := .ref (Γ.2.2.1 (1 + 8 * 0))) (C := RX8) (T := TX8) (N := 9) hx hb hts iX8 hown hK hP (0) (gC_Main Γ σ) rfl 0 (by decide) (hts (.fieldLink RX8 10 "OtherHalfOfNight" "now" "LOtherHalfOfNight$House;") (wzm K15)) (fun _ h9 => h9) rfl dX8_run_1 ?_
  refine lv_iload_n hx hb dX8_run_4 rfl (lv_at hl 1 rfl) ?_
  obtain ⟨q1, h2, hf⟩ := w_ob hf
  refine w_ci (va_runV (As := [.int x1]) (rest := []) ⟨hx, hb, hml, hown, hts⟩ (c_X1_lodges l Γ hG (0) x1 σ q1.1 q1.2 h2 H.size) (cwV 1 hts (wzV K144 K332 K142 K143 K14) rfl rfl rfl (by decide +kernel) ⟨(Nat.le_of_ble_eq_true rfl), (Nat.le_of_ble_eq_true rfl)⟩) (w_preV hK hP hkc hN hS (gC_House Γ σ 0 (by decide)) rfl) rfl rfl hl.1 rfl (lv_room (Nat.le_of_ble_eq_true rfl)) dX8_run_5 ⟨Nat.le_refl _, Nat.le_refl _⟩) hS (fun H locs hP hS => ?_)
  refine lv_if_eq (tgt := 39) hx hb dX8_run_8 (by decide) (fun c3 => ?_) (fun c3 => ?_)
  · replace hf := (if_pos c3).symm.trans hf
    refine lv_bipush (v := (-2 : Int32)) hx hb dX8_run_39 (by decide) ?_
    exact w_iret (X := XC Γ) hx hb hr hlocks hK hP hS rfl hf dX8_run_41
  · replace hf := (if_neg c3).symm.trans hf
    refine lv_iload_n hx hb dX8_run_11 rfl (lv_at hl 2 rfl) ?_
    obtain ⟨q4, h5, hf⟩ := w_ob hf
    refine w_ci (va_runS (As := [.int x2]) (rest := []) ⟨hx, hb, hml, hown, hts⟩ (c_X8_isCup l Γ hG x2 q1.2 q4.1 q4.2 h5 H.size) (cwS 1 hts (wzS K147 K699 K146 K2) rfl rfl rfl (by decide +kernel) ⟨(Nat.le_of_ble_eq_true rfl), (Nat.le_of_ble_eq_true rfl)⟩) (w_pre hK hP hkc hN hS) rfl rfl hl.1 rfl (lv_room (Nat.le_of_ble_eq_true rfl)) dX8_run_12 ⟨Nat.le_refl _, Nat.le_refl _⟩) hS (fun H locs hP hS => ?_)
    refine lv_if_eq (tgt := 39) hx hb dX8_run_15 (by decide) (fun c6 => ?_) (fun c6 => ?_)
    · replace hf := (if_pos c6).symm.trans hf
      refine lv_bipush (v := (-2 : Int32)) hx hb dX8_run_39 (by decide) ?_
      exact w_iret (X := XC Γ) hx hb hr hlocks hK hP hS rfl hf dX8_run_41
    · replace hf := (if_neg c6).symm.trans hf
      refine lv_iload_n hx hb dX8_run_18 rfl (lv_at hl 3 rfl) ?_
      refine lv_if_lt (tgt := 39) hx hb dX8_run_19 (by decide) (fun c7 => ?_) (fun c7 => ?_)
      · replace hf := (if_pos c7).symm.trans hf
        refine lv_bipush (v := (-2 : Int32)) hx hb dX8_run_39 (by decide) ?_
        exact w_iret (X := XC Γ) hx hb hr hlocks hK hP hS rfl hf dX8_run_41
      · replace hf := (if_neg c7).symm.trans hf
        refine lv_iload_n hx hb dX8_run_22 rfl (lv_at hl 3 rfl) ?_
        refine lv_bipush (v := (40 : Int32)) hx hb dX8_run_23 (by decide) ?_
        refine lv_icmp_gt (tgt := 39) hx hb dX8_run_25 (by decide) (fun c8 => ?_) (fun c8 => ?_)
        · replace hf := (if_pos c8).symm.trans hf
          refine lv_bipush (v := (-2 : Int32)) hx hb dX8_run_39 (by decide) ?_
          exact w_iret (X := XC Γ) hx hb hr hlocks hK hP hS rfl hf dX8_run_41
        · replace hf := (if_neg c8).symm.trans hf
          refine lv_iload hx hb dX8_run_28 (lv_at hl 4 rfl) ?_
          refine lv_if_lt (tgt := 39) hx hb dX8_run_30 (by decide) (fun c9 => ?_) (fun c9 => ?_)
          · replace hf := (if_pos c9).symm.trans hf
            refine lv_bipush (v := (-2 : Int32)) hx hb dX8_run_39 (by decide) ?_
            exact w_iret (X := XC Γ) hx hb hr hlocks hK hP hS rfl hf dX8_run_41
          · replace hf := (if_neg c9).symm.trans hf
            refine lv_iload hx hb dX8_run_33 (lv_at hl 4 rfl) ?_
            refine lv_iconst (v := (2 : Int32)) hx hb dX8_run_35 (by decide) ?_
            refine lv_icmp_le (tgt := 42) hx hb dX8_run_36 (by decide) (fun c10 => ?_) (fun c10 => ?_)
            · replace hf := (if_pos c10).symm.trans hf
              refine lv_aload_n hx hb dX8_run_42 rfl (lv_at hl 0 rfl) ?_
              refine va_get (D := Γ.1) (ci := 7) (v := .ref (Γ.2.2.1 (1 + 8 * 1))) (C := RX8) (T := TX8) (N := 9) hx hb hts iX8 hown hK hP (0) (gC_Main Γ q4.2) rfl 1 (by decide) (hts (.fieldLink RX8 16 "OtherHalfOfNight" "thought" "LOtherHalfOfNight$House;") (wzm K16)) (fun _ h9 => h9) rfl dX8_run_43 ?_
              refine lv_aload_n hx hb dX8_run_46 rfl (lv_at hl 0 rfl) ?_
              refine va_get (D := Γ.1) (ci := 7) (v := .ref (Γ.2.2.1 (1 + 8 * 0))) (C := RX8) (T := TX8) (N := 9) hx hb hts iX8 hown hK hP (0) (gC_Main Γ q4.2) rfl 0 (by decide) (hts (.fieldLink RX8 10 "OtherHalfOfNight" "now" "LOtherHalfOfNight$House;") (wzm K15)) (fun _ h9 => h9) rfl dX8_run_47 ?_
              obtain ⟨q11, h12, hf⟩ := w_ob hf
              refine w_cv (va_runV (As := [.ref (Γ.2.2.1 (1 + 8 * 0))]) (rest := []) ⟨hx, hb, hml, hown, hts⟩ (c_X1_takeFrom l Γ hG (1) (0) q4.2 q11 h12 H.size) (cwV 1 hts (wzV K703 K700 K701 K702 K14) rfl rfl rfl (by decide +kernel) ⟨(Nat.le_of_ble_eq_true rfl), (Nat.le_of_ble_eq_true rfl)⟩) (w_preV hK hP hkc hN hS (gC_House Γ q4.2 1 (by decide)) rfl) rfl rfl hl.1 rfl (lv_room (Nat.le_of_ble_eq_true rfl)) dX8_run_50 ⟨Nat.le_refl _, Nat.le_refl _⟩) hS (fun H locs hP hS => ?_)
              refine lv_iconst (v := (0 : Int32)) hx hb dX8_run_53 (by decide) ?_
              refine lv_istore (lv' := [(5, .int (0 : Int32)), (0, .ref (Γ.2.2.1 (0))), (1, .int x1), (2, .int x2), (3, .int x3), (4, .int x4)]) hx hb dX8_run_54 hl (by decide) rfl (fun ls hl => ?_)
              refine lv_iconst (v := (0 : Int32)) hx hb dX8_run_56 (by decide) ?_
              refine lv_istore (lv' := [(6, .int (0 : Int32)), (5, .int (0 : Int32)), (0, .ref (Γ.2.2.1 (0))), (1, .int x1), (2, .int x2), (3, .int x3), (4, .int x4)]) hx hb dX8_run_57 hl (by decide) rfl (fun ls hl => ?_)
              exact j59 5000 ((0 : Int32)) ((0 : Int32)) q11 H locs ls hf hP hS (lv_sub hl [2, 3, 4, 5, 6, 1, 0] rfl)
            · replace hf := (if_neg c10).symm.trans hf
              refine lv_bipush (v := (-2 : Int32)) hx hb dX8_run_39 (by decide) ?_
              exact w_iret (X := XC Γ) hx hb hr hlocks hK hP hS rfl hf dX8_run_41
def f_X8_sleeps_27 (x1 : Int32) : Nat → Int32 → Sg → Option (Int32 × Sg)
  | 0, _, _ => none
  | n + 1, y2, τ => if (60 : Int32) < y2 then some ((-1 : Int32), τ) else if okI x1 5 then if (τ (11 * 1 + 6) (x1).toNatClampNeg) = 0 then some (y2, τ) else (f_X2_easeOne (1) x1 τ).bind fun (q9 : Sg) => (f_X8_sleeps_27 x1 n) ((y2 + (1 : Int32))) (up q9 (11 * 1) 0 ((q9 (11 * 1) 0) + (1 : Int32))) else none
def f_X8_sleeps (x1 : Int32) (σ : Sg) : Option (Int32 × Sg) := (f_X1_lodges (0) x1 σ).bind fun (q1 : Int32 × Sg) => if q1.1 = 0 then some ((-2 : Int32), q1.2) else (f_X1_takeFrom (1) (0) q1.2).bind fun (q4 : Sg) => f_X8_sleeps_27 x1 5000 ((0 : Int32)) q4
set_option maxHeartbeats 40000000 in
set_option maxRecDepth 100000 in
theorem c_X8_sleeps (l : Launch) (Γ : Geo) (hG : okC Γ) (x1 : Int32) (σ : Sg) (r : Int32) (σ' : Sg) (hf : f_X8_sleeps x1 σ = some (r, σ')) (sz : Nat) : Met l yX8_sleeps (wz yX8_sleeps cX8_sleeps 3 (some .int)) { frames := 4, cells := 0, slots := 0, locals := 101 } (va_Pc [.ref (Γ.2.2.1 (0)), .int x1] (wPre Γ.1 vwCl (tysC Γ) (XC Γ) (alC Γ) Γ.2.2.2 σ sz)) (wQi Γ.1 vwCl (tysC Γ) (XC Γ) (alC Γ) r σ' sz) 0 0 (wA (alC Γ) sz) := by
  refine w_enter (cc := cX8_sleeps) (maxL := 3) (ret := (some .int)) (by decide) rfl (Nat.le_of_ble_eq_true rfl) ?_
  intro p e s m below meth c ls hx hb hr hlocks hml hown hts hsz hP hK hkc hN hl
  subst hsz
  generalize hav : ([.ref (Γ.2.2.1 (0)), .int x1] : List Value) = av at hl hts ⊢
  have hl : lv_has ls 3 [(0, .ref (Γ.2.2.1 (0))), (1, .int x1)] := by rw [← hav] at hl; exact hl
  have j27 : ∀ (n27 : Nat), ∀ (y2 : Int32) (τ : Sg) (H : Heap) (locs : List Loc) (ls : Array Slot) (hf : f_X8_sleeps_27 x1 n27 y2 τ = some (r, σ')) (hP : va_P Γ.1 vwCl (XC Γ τ) H) (hS : va_S (wA (alC Γ) s.heap.size) s.heap H locs) (hl : lv_has ls 3 [(0, .ref (Γ.2.2.1 (0))), (1, .int x1), (2, .int y2)]), W p l e { frames := 4, cells := 0, slots := 0, locals := 101 } s m av.toArray below meth c H locs 0 0 (MQ below (wQi Γ.1 vwCl (tysC Γ) (XC Γ) (alC Γ) r σ' s.heap.size) av.toArray s 0 0 (wA (alC Γ) s.heap.size)) (F0 m 27 ls []) := by
    intro n27
    induction n27 with
    | zero =>
      intro y2 τ H locs ls hf
      exact absurd hf (by intro h; cases h)
    | succ n27 ih27 =>
      intro y2 τ H locs ls hf hP hS hl
      unfold f_X8_sleeps_27 at hf
      refine lv_iload_n hx hb dX8_sleeps_27 rfl (lv_at hl 2 rfl) ?_
      refine lv_bipush (v := (60 : Int32)) hx hb dX8_sleeps_28 (by decide) ?_
      refine lv_icmp_gt (tgt := 78) hx hb dX8_sleeps_30 (by decide) (fun c6 => ?_) (fun c6 => ?_)
      · replace hf := (if_pos c6).symm.trans hf
        refine lv_iconst (v := (-1 : Int32)) hx hb dX8_sleeps_78 (by decide) ?_
        exact w_iret (X := XC Γ) hx hb hr hlocks hK hP hS rfl hf dX8_sleeps_79
      · replace hf := (if_neg c6).symm.trans hf
        refine lv_aload_n hx hb dX8_sleeps_33 rfl (lv_at hl 0 rfl) ?_
        refine va_get (D := Γ.1) (ci := 7) (v := .ref (Γ.2.2.1 (1 + 8 * 1))) (C := RX8) (T := TX8) (N := 9) hx hb hts iX8 hown hK hP (0) (gC_Main Γ τ) rfl 1 (by decide) (hts (.fieldLink RX8 16 "OtherHalfOfNight" "thought" "LOtherHalfOfNight$House;") (wzm K16)) (fun _ h9 => h9) rfl dX8_sleeps_34 ?_
        refine va_get (D := Γ.1) (ci := 1) (v := .ref (Γ.2.2.1 (4 + 8 * 1))) (C := RX1) (T := TX1) (N := 11) hx hb hts iX1 hown hK hP (1 + 8 * 1) (gC_House Γ τ 1 (by decide)) rfl 6 (by decide) (hts (.fieldLink RX8 126 "OtherHalfOfNight$House" "trouble" "[I") (wzm K681)) (fun _ h9 => h9) rfl dX8_sleeps_37 ?_
        refine lv_iload_n hx hb dX8_sleeps_40 rfl (lv_at hl 1 rfl) ?_
        obtain ⟨g7, hf⟩ := w_oi hf
        refine va_iald (D := Γ.1) (tys := (tysC Γ)) hx hb hK hP (4 + 8 * 1) 0 (gC_House_trouble Γ τ 1 (by decide)) rfl g7 dX8_sleeps_41 ?_
        refine lv_if_ne (tgt := 47) hx hb dX8_sleeps_42 (by decide) (fun c8 => ?_) (fun c8 => ?_)
        · replace hf := (if_neg c8).symm.trans hf
          refine lv_aload_n hx hb dX8_sleeps_47 rfl (lv_at hl 0 rfl) ?_
          refine va_get (D := Γ.1) (ci := 7) (v := .ref (Γ.2.2.1 (27))) (C := RX8) (T := TX8) (N := 9) hx hb hts iX8 hown hK hP (0) (gC_Main Γ τ) rfl 5 (by decide) (hts (.fieldLink RX8 32 "OtherHalfOfNight" "law" "LOtherHalfOfNight$Law;") (wzm K25)) (fun _ h9 => h9) rfl dX8_sleeps_48 ?_
          refine lv_aload_n hx hb dX8_sleeps_51 rfl (lv_at hl 0 rfl) ?_
          refine va_get (D := Γ.1) (ci := 7) (v := .ref (Γ.2.2.1 (1 + 8 * 1))) (C := RX8) (T := TX8) (N := 9) hx hb hts iX8 hown hK hP (0) (gC_Main Γ τ) rfl 1 (by decide) (hts (.fieldLink RX8 16 "OtherHalfOfNight" "thought" "LOtherHalfOfNight$House;") (wzm K16)) (fun _ h9 => h9) rfl dX8_sleeps_52 ?_
          refine lv_iload_n hx hb dX8_sleeps_55 rfl (lv_at hl 1 rfl) ?_
          obtain ⟨q9, h10, hf⟩ := w_ob hf
          refine w_cv (va_runV (As := [.ref (Γ.2.2.1 (1 + 8 * 1)), .int x1]) (rest := []) ⟨hx, hb, hml, hown, hts⟩ (c_X2_easeOne l Γ hG (1) x1 τ q9 h10 H.size) (cwV 2 hts (wzV K667 K726 K665 K666 K24) rfl rfl rfl (by decide +kernel) ⟨(Nat.le_of_ble_eq_true rfl), (Nat.le_of_ble_eq_true rfl)⟩) (w_preV hK hP hkc hN hS (gC_Law Γ τ) rfl) rfl rfl hl.1 rfl (lv_room (Nat.le_of_ble_eq_true rfl)) dX8_sleeps_56 ⟨Nat.le_refl _, Nat.le_refl _⟩) hS (fun H locs hP hS => ?_)
          refine lv_aload_n hx hb dX8_sleeps_59 rfl (lv_at hl 0 rfl) ?_
          refine va_get (D := Γ.1) (ci := 7) (v := .ref (Γ.2.2.1 (1 + 8 * 1))) (C := RX8) (T := TX8) (N := 9) hx hb hts iX8 hown hK hP (0) (gC_Main Γ q9) rfl 1 (by decide) (hts (.fieldLink RX8 16 "OtherHalfOfNight" "thought" "LOtherHalfOfNight$House;") (wzm K16)) (fun _ h9 => h9) rfl dX8_sleeps_60 ?_
          refine lv_dup hx hb dX8_sleeps_63 rfl ?_
          refine va_get (D := Γ.1) (ci := 1) (v := .int (q9 (11 * 1) 0)) (C := RX1) (T := TX1) (N := 11) hx hb hts iX1 hown hK hP (1 + 8 * 1) (gC_House Γ q9 1 (by decide)) rfl 0 (by decide) (hts (.fieldLink RX8 119 "OtherHalfOfNight$House" "night" "I") (wzm K644)) (fun _ h9 => h9) rfl dX8_sleeps_64 ?_
          refine lv_iconst (v := (1 : Int32)) hx hb dX8_sleeps_67 (by decide) ?_
          refine lv_iadd hx hb dX8_sleeps_68 ?_
          refine w_put (X := XC Γ) (σ' := (up q9 (11 * 1) 0 ((q9 (11 * 1) 0) + (1 : Int32)))) (ci := 1) (C := RX1) (T := TX1) (N := 11) (ty := .int) hx hb hts iX1 tyX1 tyX1_ok nmX1 hown hK hP (halC Γ) hG hS (1 + 8 * 1) (gC_House Γ q9 1 (by decide)) rfl 0 (by decide) (hts (.fieldLink RX8 119 "OtherHalfOfNight$House" "night" "I") (wzm K644)) (fun _ h9 => h9) rfl (by decide +kernel) rfl rfl (Nat.le_of_ble_eq_true rfl) dX8_sleeps_69 (sC_House_night Γ q9 1 (by decide) ((q9 (11 * 1) 0) + (1 : Int32))) (fun H locs hP hS => ?_)
          refine lv_iinc (v := (y2 + (1 : Int32))) (lv' := [(2, .int (y2 + (1 : Int32))), (0, .ref (Γ.2.2.1 (0))), (1, .int x1)]) hx hb dX8_sleeps_72 hl (k := 2) rfl rfl (by decide) rfl (fun ls hl => ?_)
          refine lv_goto (tgt := 27) hx hb dX8_sleeps_75 (by decide) ?_
          exact ih27 ((y2 + (1 : Int32))) (up q9 (11 * 1) 0 ((q9 (11 * 1) 0) + (1 : Int32))) H locs ls hf hP hS (lv_sub hl [1, 2, 0] rfl)
        · replace hf := (if_pos c8).symm.trans hf
          refine lv_iload_n hx hb dX8_sleeps_45 rfl (lv_at hl 2 rfl) ?_
          exact w_iret (X := XC Γ) hx hb hr hlocks hK hP hS rfl hf dX8_sleeps_46
  suffices hw : ∀ (H : Heap) (locs : List Loc), va_P Γ.1 vwCl (XC Γ σ) H → va_S (wA (alC Γ) s.heap.size) s.heap H locs → W p l e { frames := 4, cells := 0, slots := 0, locals := 101 } s m av.toArray below meth c H locs 0 0 (MQ below (wQi Γ.1 vwCl (tysC Γ) (XC Γ) (alC Γ) r σ' s.heap.size) av.toArray s 0 0 (wA (alC Γ) s.heap.size)) (F0 m 0 ls []) from hw _ [] hP va_S.rf
  clear hP
  intro H locs hP hS
  unfold f_X8_sleeps at hf
  refine lv_aload_n hx hb dX8_sleeps_0 rfl (lv_at hl 0 rfl) ?_
  refine va_get (D := Γ.1) (ci := 7) (v := .ref (Γ.2.2.1 (1 + 8 * 0))) (C := RX8) (T := TX8) (N := 9) hx hb hts iX8 hown hK hP (0) (gC_Main Γ σ) rfl 0 (by decide) (hts (.fieldLink RX8 10 "OtherHalfOfNight" "now" "LOtherHalfOfNight$House;") (wzm K15)) (fun _ h9 => h9) rfl dX8_sleeps_1 ?_
  refine lv_iload_n hx hb dX8_sleeps_4 rfl (lv_at hl 1 rfl) ?_
  obtain ⟨q1, h2, hf⟩ := w_ob hf
  refine w_ci (va_runV (As := [.int x1]) (rest := []) ⟨hx, hb, hml, hown, hts⟩ (c_X1_lodges l Γ hG (0) x1 σ q1.1 q1.2 h2 H.size) (cwV 1 hts (wzV K144 K332 K142 K143 K14) rfl rfl rfl (by decide +kernel) ⟨(Nat.le_of_ble_eq_true rfl), (Nat.le_of_ble_eq_true rfl)⟩) (w_preV hK hP hkc hN hS (gC_House Γ σ 0 (by decide)) rfl) rfl rfl hl.1 rfl (lv_room (Nat.le_of_ble_eq_true rfl)) dX8_sleeps_5 ⟨Nat.le_refl _, Nat.le_refl _⟩) hS (fun H locs hP hS => ?_)
  refine lv_if_ne (tgt := 14) hx hb dX8_sleeps_8 (by decide) (fun c3 => ?_) (fun c3 => ?_)
  · replace hf := (if_neg c3).symm.trans hf
    refine lv_aload_n hx hb dX8_sleeps_14 rfl (lv_at hl 0 rfl) ?_
    refine va_get (D := Γ.1) (ci := 7) (v := .ref (Γ.2.2.1 (1 + 8 * 1))) (C := RX8) (T := TX8) (N := 9) hx hb hts iX8 hown hK hP (0) (gC_Main Γ q1.2) rfl 1 (by decide) (hts (.fieldLink RX8 16 "OtherHalfOfNight" "thought" "LOtherHalfOfNight$House;") (wzm K16)) (fun _ h9 => h9) rfl dX8_sleeps_15 ?_
    refine lv_aload_n hx hb dX8_sleeps_18 rfl (lv_at hl 0 rfl) ?_
    refine va_get (D := Γ.1) (ci := 7) (v := .ref (Γ.2.2.1 (1 + 8 * 0))) (C := RX8) (T := TX8) (N := 9) hx hb hts iX8 hown hK hP (0) (gC_Main Γ q1.2) rfl 0 (by decide) (hts (.fieldLink RX8 10 "OtherHalfOfNight" "now" "LOtherHalfOfNight$House;") (wzm K15)) (fun _ h9 => h9) rfl dX8_sleeps_19 ?_
    obtain ⟨q4, h5, hf⟩ := w_ob hf
    refine w_cv (va_runV (As := [.ref (Γ.2.2.1 (1 + 8 * 0))]) (rest := []) ⟨hx, hb, hml, hown, hts⟩ (c_X1_takeFrom l Γ hG (1) (0) q1.2 q4 h5 H.size) (cwV 1 hts (wzV K703 K700 K701 K702 K14) rfl rfl rfl (by decide +kernel) ⟨(Nat.le_of_ble_eq_true rfl), (Nat.le_of_ble_eq_true rfl)⟩) (w_preV hK hP hkc hN hS (gC_House Γ q1.2 1 (by decide)) rfl) rfl rfl hl.1 rfl (lv_room (Nat.le_of_ble_eq_true rfl)) dX8_sleeps_22 ⟨Nat.le_refl _, Nat.le_refl _⟩) hS (fun H locs hP hS => ?_)
    refine lv_iconst (v := (0 : Int32)) hx hb dX8_sleeps_25 (by decide) ?_
    refine lv_istore_n (lv' := [(2, .int (0 : Int32)), (0, .ref (Γ.2.2.1 (0))), (1, .int x1)]) hx hb dX8_sleeps_26 rfl hl (by decide) rfl (fun ls hl => ?_)
    exact j27 5000 ((0 : Int32)) q4 H locs ls hf hP hS (lv_sub hl [1, 2, 0] rfl)
  · replace hf := (if_pos c3).symm.trans hf
    refine lv_bipush (v := (-2 : Int32)) hx hb dX8_sleeps_11 (by decide) ?_
    exact w_iret (X := XC Γ) hx hb hr hlocks hK hP hS rfl hf dX8_sleeps_13
def f_X8_pour (x1 : Int32) (σ : Sg) : Option (Int32 × Sg) := (f_X1_takeFrom (1) (0) σ).bind fun (q1 : Sg) => (f_X0_measure (0) q1).bind fun (q3 : Sg) => if x1 = 0 then (f_X0_most q3).bind fun (q6 : Int32 × Sg) => some (q6.1, q6.2) else if x1 = 1 then (f_X0_leastCut q3).bind fun (q9 : Int32 × Sg) => some (q9.1, q9.2) else if x1 = 2 then (f_X0_most q3).bind fun (q12 : Int32 × Sg) => (f_X3_pourAll (1) q12.2).bind fun (q14 : Int32 × Sg) => some ((q12.1 - q14.1), q14.2) else if x1 = 3 then (f_X3_pourAll (1) q3).bind fun (q17 : Int32 × Sg) => some (q17.1, q17.2) else if x1 = 4 then (f_X3_pourAll (1) q3).bind fun (q20 : Int32 × Sg) => (f_X1_fullCups (1) q20.2).bind fun (q22 : Int32 × Sg) => some (q22.1, q22.2) else if x1 = 5 then (f_X0_starved q3).bind fun (q25 : Int32 × Sg) => some (q25.1, q25.2) else some ((-2 : Int32), q3)
set_option maxHeartbeats 40000000 in
set_option maxRecDepth 100000 in
theorem c_X8_pour (l : Launch) (Γ : Geo) (hG : okC Γ) (x1 : Int32) (σ : Sg) (r : Int32) (σ' : Sg) (hf : f_X8_pour x1 σ = some (r, σ')) (sz : Nat) : Met l yX8_pour (wz yX8_pour cX8_pour 2 (some .int)) { frames := 5, cells := 0, slots := 0, locals := 128 } (va_Pc [.ref (Γ.2.2.1 (0)), .int x1] (wPre Γ.1 vwCl (tysC Γ) (XC Γ) (alC Γ) Γ.2.2.2 σ sz)) (wQi Γ.1 vwCl (tysC Γ) (XC Γ) (alC Γ) r σ' sz) 0 0 (wA (alC Γ) sz) := by
  refine w_enter (cc := cX8_pour) (maxL := 2) (ret := (some .int)) (by decide) rfl (Nat.le_of_ble_eq_true rfl) ?_
  intro p e s m below meth c ls hx hb hr hlocks hml hown hts hsz hP hK hkc hN hl
  subst hsz
  generalize hav : ([.ref (Γ.2.2.1 (0)), .int x1] : List Value) = av at hl hts ⊢
  have hl : lv_has ls 2 [(0, .ref (Γ.2.2.1 (0))), (1, .int x1)] := by rw [← hav] at hl; exact hl
  suffices hw : ∀ (H : Heap) (locs : List Loc), va_P Γ.1 vwCl (XC Γ σ) H → va_S (wA (alC Γ) s.heap.size) s.heap H locs → W p l e { frames := 5, cells := 0, slots := 0, locals := 128 } s m av.toArray below meth c H locs 0 0 (MQ below (wQi Γ.1 vwCl (tysC Γ) (XC Γ) (alC Γ) r σ' s.heap.size) av.toArray s 0 0 (wA (alC Γ) s.heap.size)) (F0 m 0 ls []) from hw _ [] hP va_S.rf
  clear hP
  intro H locs hP hS
  unfold f_X8_pour at hf
  refine lv_aload_n hx hb dX8_pour_0 rfl (lv_at hl 0 rfl) ?_
  refine va_get (D := Γ.1) (ci := 7) (v := .ref (Γ.2.2.1 (1 + 8 * 1))) (C := RX8) (T := TX8) (N := 9) hx hb hts iX8 hown hK hP (0) (gC_Main Γ σ) rfl 1 (by decide) (hts (.fieldLink RX8 16 "OtherHalfOfNight" "thought" "LOtherHalfOfNight$House;") (wzm K16)) (fun _ h9 => h9) rfl dX8_pour_1 ?_
  refine lv_aload_n hx hb dX8_pour_4 rfl (lv_at hl 0 rfl) ?_
  refine va_get (D := Γ.1) (ci := 7) (v := .ref (Γ.2.2.1 (1 + 8 * 0))) (C := RX8) (T := TX8) (N := 9) hx hb hts iX8 hown hK hP (0) (gC_Main Γ σ) rfl 0 (by decide) (hts (.fieldLink RX8 10 "OtherHalfOfNight" "now" "LOtherHalfOfNight$House;") (wzm K15)) (fun _ h9 => h9) rfl dX8_pour_5 ?_
  obtain ⟨q1, h2, hf⟩ := w_ob hf
  refine w_cv (va_runV (As := [.ref (Γ.2.2.1 (1 + 8 * 0))]) (rest := []) ⟨hx, hb, hml, hown, hts⟩ (c_X1_takeFrom l Γ hG (1) (0) σ q1 h2 H.size) (cwV 1 hts (wzV K703 K700 K701 K702 K14) rfl rfl rfl (by decide +kernel) ⟨(Nat.le_of_ble_eq_true rfl), (Nat.le_of_ble_eq_true rfl)⟩) (w_preV hK hP hkc hN hS (gC_House Γ σ 1 (by decide)) rfl) rfl rfl hl.1 rfl (lv_room (Nat.le_of_ble_eq_true rfl)) dX8_pour_8 ⟨Nat.le_refl _, Nat.le_refl _⟩) hS (fun H locs hP hS => ?_)
  refine lv_aload_n hx hb dX8_pour_11 rfl (lv_at hl 0 rfl) ?_
  refine va_get (D := Γ.1) (ci := 7) (v := .ref (Γ.2.2.1 (58))) (C := RX8) (T := TX8) (N := 9) hx hb hts iX8 hown hK hP (0) (gC_Main Γ q1) rfl 7 (by decide) (hts (.fieldLink RX8 46 "OtherHalfOfNight" "demand" "LOtherHalfOfNight$Demand;") (wzm K33)) (fun _ h9 => h9) rfl dX8_pour_12 ?_
  refine lv_aload_n hx hb dX8_pour_15 rfl (lv_at hl 0 rfl) ?_
  refine va_get (D := Γ.1) (ci := 7) (v := .ref (Γ.2.2.1 (27))) (C := RX8) (T := TX8) (N := 9) hx hb hts iX8 hown hK hP (0) (gC_Main Γ q1) rfl 5 (by decide) (hts (.fieldLink RX8 32 "OtherHalfOfNight" "law" "LOtherHalfOfNight$Law;") (wzm K25)) (fun _ h9 => h9) rfl dX8_pour_16 ?_
  refine lv_aload_n hx hb dX8_pour_19 rfl (lv_at hl 0 rfl) ?_
  refine va_get (D := Γ.1) (ci := 7) (v := .ref (Γ.2.2.1 (1 + 8 * 0))) (C := RX8) (T := TX8) (N := 9) hx hb hts iX8 hown hK hP (0) (gC_Main Γ q1) rfl 0 (by decide) (hts (.fieldLink RX8 10 "OtherHalfOfNight" "now" "LOtherHalfOfNight$House;") (wzm K15)) (fun _ h9 => h9) rfl dX8_pour_20 ?_
  obtain ⟨q3, h4, hf⟩ := w_ob hf
  refine w_cv (va_runV (As := [.ref (Γ.2.2.1 (27)), .ref (Γ.2.2.1 (1 + 8 * 0))]) (rest := []) ⟨hx, hb, hml, hown, hts⟩ (c_X0_measure l Γ hG (0) q1 q3 h4 H.size) (cwV 2 hts (wzV K738 K735 K736 K737 K32) rfl rfl rfl (by decide +kernel) ⟨(Nat.le_of_ble_eq_true rfl), (Nat.le_of_ble_eq_true rfl)⟩) (w_preV hK hP hkc hN hS (gC_Demand Γ q1) rfl) rfl rfl hl.1 rfl (lv_room (Nat.le_of_ble_eq_true rfl)) dX8_pour_23 ⟨Nat.le_refl _, Nat.le_refl _⟩) hS (fun H locs hP hS => ?_)
  refine lv_iload_n hx hb dX8_pour_26 rfl (lv_at hl 1 rfl) ?_
  by_cases c5 : x1 = 0
  · replace hf := (if_pos c5).symm.trans hf
    refine lv_tableIn (off := 37) (tgt := 64) hx hb dX8_pour_27 (by rw [c5]; decide) (by rw [c5]; decide) (by rw [c5]; rfl) (by decide) ?_
    refine lv_aload_n hx hb dX8_pour_64 rfl (lv_at hl 0 rfl) ?_
    refine va_get (D := Γ.1) (ci := 7) (v := .ref (Γ.2.2.1 (58))) (C := RX8) (T := TX8) (N := 9) hx hb hts iX8 hown hK hP (0) (gC_Main Γ q3) rfl 7 (by decide) (hts (.fieldLink RX8 46 "OtherHalfOfNight" "demand" "LOtherHalfOfNight$Demand;") (wzm K33)) (fun _ h9 => h9) rfl dX8_pour_65 ?_
    obtain ⟨q6, h7, hf⟩ := w_ob hf
    refine w_ci (va_runV (As := []) (rest := []) ⟨hx, hb, hml, hown, hts⟩ (c_X0_most l Γ hG q3 q6.1 q6.2 h7 H.size) (cwV 0 hts (wzV K749 K746 K747 K748 K32) rfl rfl rfl (by decide +kernel) ⟨(Nat.le_of_ble_eq_true rfl), (Nat.le_of_ble_eq_true rfl)⟩) (w_preV hK hP hkc hN hS (gC_Demand Γ q3) rfl) rfl rfl hl.1 rfl (lv_room (Nat.le_of_ble_eq_true rfl)) dX8_pour_68 ⟨Nat.le_refl _, Nat.le_refl _⟩) hS (fun H locs hP hS => ?_)
    exact w_iret (X := XC Γ) hx hb hr hlocks hK hP hS rfl hf dX8_pour_71
  · replace hf := (if_neg c5).symm.trans hf
    by_cases c8 : x1 = 1
    · replace hf := (if_pos c8).symm.trans hf
      refine lv_tableIn (off := 45) (tgt := 72) hx hb dX8_pour_27 (by rw [c8]; decide) (by rw [c8]; decide) (by rw [c8]; rfl) (by decide) ?_
      refine lv_aload_n hx hb dX8_pour_72 rfl (lv_at hl 0 rfl) ?_
      refine va_get (D := Γ.1) (ci := 7) (v := .ref (Γ.2.2.1 (58))) (C := RX8) (T := TX8) (N := 9) hx hb hts iX8 hown hK hP (0) (gC_Main Γ q3) rfl 7 (by decide) (hts (.fieldLink RX8 46 "OtherHalfOfNight" "demand" "LOtherHalfOfNight$Demand;") (wzm K33)) (fun _ h9 => h9) rfl dX8_pour_73 ?_
      obtain ⟨q9, h10, hf⟩ := w_ob hf
      refine w_ci (va_runV (As := []) (rest := []) ⟨hx, hb, hml, hown, hts⟩ (c_X0_leastCut l Γ hG q3 q9.1 q9.2 h10 H.size) (cwV 0 hts (wzV K757 K754 K755 K756 K32) rfl rfl rfl (by decide +kernel) ⟨(Nat.le_of_ble_eq_true rfl), (Nat.le_of_ble_eq_true rfl)⟩) (w_preV hK hP hkc hN hS (gC_Demand Γ q3) rfl) rfl rfl hl.1 rfl (lv_room (Nat.le_of_ble_eq_true rfl)) dX8_pour_76 ⟨Nat.le_refl _, Nat.le_refl _⟩) hS (fun H locs hP hS => ?_)
      exact w_iret (X := XC Γ) hx hb hr hlocks hK hP hS rfl hf dX8_pour_79
    · replace hf := (if_neg c8).symm.trans hf
      by_cases c11 : x1 = 2
      · replace hf := (if_pos c11).symm.trans hf
        refine lv_tableIn (off := 53) (tgt := 80) hx hb dX8_pour_27 (by rw [c11]; decide) (by rw [c11]; decide) (by rw [c11]; rfl) (by decide) ?_
        refine lv_aload_n hx hb dX8_pour_80 rfl (lv_at hl 0 rfl) ?_
        refine va_get (D := Γ.1) (ci := 7) (v := .ref (Γ.2.2.1 (58))) (C := RX8) (T := TX8) (N := 9) hx hb hts iX8 hown hK hP (0) (gC_Main Γ q3) rfl 7 (by decide) (hts (.fieldLink RX8 46 "OtherHalfOfNight" "demand" "LOtherHalfOfNight$Demand;") (wzm K33)) (fun _ h9 => h9) rfl dX8_pour_81 ?_
        obtain ⟨q12, h13, hf⟩ := w_ob hf
        refine w_ci (va_runV (As := []) (rest := []) ⟨hx, hb, hml, hown, hts⟩ (c_X0_most l Γ hG q3 q12.1 q12.2 h13 H.size) (cwV 0 hts (wzV K749 K746 K747 K748 K32) rfl rfl rfl (by decide +kernel) ⟨(Nat.le_of_ble_eq_true rfl), (Nat.le_of_ble_eq_true rfl)⟩) (w_preV hK hP hkc hN hS (gC_Demand Γ q3) rfl) rfl rfl hl.1 rfl (lv_room (Nat.le_of_ble_eq_true rfl)) dX8_pour_84 ⟨Nat.le_refl _, Nat.le_refl _⟩) hS (fun H locs hP hS => ?_)
        refine lv_aload_n hx hb dX8_pour_87 rfl (lv_at hl 0 rfl) ?_
        refine va_get (D := Γ.1) (ci := 7) (v := .ref (Γ.2.2.1 (51))) (C := RX8) (T := TX8) (N := 9) hx hb hts iX8 hown hK hP (0) (gC_Main Γ q12.2) rfl 6 (by decide) (hts (.fieldLink RX8 39 "OtherHalfOfNight" "pouring" "LOtherHalfOfNight$Pouring;") (wzm K29)) (fun _ h9 => h9) rfl dX8_pour_88 ?_
        refine lv_aload_n hx hb dX8_pour_91 rfl (lv_at hl 0 rfl) ?_
        refine va_get (D := Γ.1) (ci := 7) (v := .ref (Γ.2.2.1 (27))) (C := RX8) (T := TX8) (N := 9) hx hb hts iX8 hown hK hP (0) (gC_Main Γ q12.2) rfl 5 (by decide) (hts (.fieldLink RX8 32 "OtherHalfOfNight" "law" "LOtherHalfOfNight$Law;") (wzm K25)) (fun _ h9 => h9) rfl dX8_pour_92 ?_
        refine lv_aload_n hx hb dX8_pour_95 rfl (lv_at hl 0 rfl) ?_
        refine va_get (D := Γ.1) (ci := 7) (v := .ref (Γ.2.2.1 (1 + 8 * 1))) (C := RX8) (T := TX8) (N := 9) hx hb hts iX8 hown hK hP (0) (gC_Main Γ q12.2) rfl 1 (by decide) (hts (.fieldLink RX8 16 "OtherHalfOfNight" "thought" "LOtherHalfOfNight$House;") (wzm K16)) (fun _ h9 => h9) rfl dX8_pour_96 ?_
        obtain ⟨q14, h15, hf⟩ := w_ob hf
        refine w_ci (va_runV (As := [.ref (Γ.2.2.1 (27)), .ref (Γ.2.2.1 (1 + 8 * 1))]) (rest := [.int q12.1]) ⟨hx, hb, hml, hown, hts⟩ (c_X3_pourAll l Γ hG (1) q12.2 q14.1 q14.2 h15 H.size) (cwV 2 hts (wzV K654 K759 K652 K653 K28) rfl rfl rfl (by decide +kernel) ⟨(Nat.le_of_ble_eq_true rfl), (Nat.le_of_ble_eq_true rfl)⟩) (w_preV hK hP hkc hN hS (gC_Pouring Γ q12.2) rfl) rfl rfl hl.1 rfl (lv_room (Nat.le_of_ble_eq_true rfl)) dX8_pour_99 ⟨Nat.le_refl _, Nat.le_refl _⟩) hS (fun H locs hP hS => ?_)
        refine lv_isub hx hb dX8_pour_102 ?_
        exact w_iret (X := XC Γ) hx hb hr hlocks hK hP hS rfl hf dX8_pour_103
      · replace hf := (if_neg c11).symm.trans hf
        by_cases c16 : x1 = 3
        · replace hf := (if_pos c16).symm.trans hf
          refine lv_tableIn (off := 77) (tgt := 104) hx hb dX8_pour_27 (by rw [c16]; decide) (by rw [c16]; decide) (by rw [c16]; rfl) (by decide) ?_
          refine lv_aload_n hx hb dX8_pour_104 rfl (lv_at hl 0 rfl) ?_
          refine va_get (D := Γ.1) (ci := 7) (v := .ref (Γ.2.2.1 (51))) (C := RX8) (T := TX8) (N := 9) hx hb hts iX8 hown hK hP (0) (gC_Main Γ q3) rfl 6 (by decide) (hts (.fieldLink RX8 39 "OtherHalfOfNight" "pouring" "LOtherHalfOfNight$Pouring;") (wzm K29)) (fun _ h9 => h9) rfl dX8_pour_105 ?_
          refine lv_aload_n hx hb dX8_pour_108 rfl (lv_at hl 0 rfl) ?_
          refine va_get (D := Γ.1) (ci := 7) (v := .ref (Γ.2.2.1 (27))) (C := RX8) (T := TX8) (N := 9) hx hb hts iX8 hown hK hP (0) (gC_Main Γ q3) rfl 5 (by decide) (hts (.fieldLink RX8 32 "OtherHalfOfNight" "law" "LOtherHalfOfNight$Law;") (wzm K25)) (fun _ h9 => h9) rfl dX8_pour_109 ?_
          refine lv_aload_n hx hb dX8_pour_112 rfl (lv_at hl 0 rfl) ?_
          refine va_get (D := Γ.1) (ci := 7) (v := .ref (Γ.2.2.1 (1 + 8 * 1))) (C := RX8) (T := TX8) (N := 9) hx hb hts iX8 hown hK hP (0) (gC_Main Γ q3) rfl 1 (by decide) (hts (.fieldLink RX8 16 "OtherHalfOfNight" "thought" "LOtherHalfOfNight$House;") (wzm K16)) (fun _ h9 => h9) rfl dX8_pour_113 ?_
          obtain ⟨q17, h18, hf⟩ := w_ob hf
          refine w_ci (va_runV (As := [.ref (Γ.2.2.1 (27)), .ref (Γ.2.2.1 (1 + 8 * 1))]) (rest := []) ⟨hx, hb, hml, hown, hts⟩ (c_X3_pourAll l Γ hG (1) q3 q17.1 q17.2 h18 H.size) (cwV 2 hts (wzV K654 K759 K652 K653 K28) rfl rfl rfl (by decide +kernel) ⟨(Nat.le_of_ble_eq_true rfl), (Nat.le_of_ble_eq_true rfl)⟩) (w_preV hK hP hkc hN hS (gC_Pouring Γ q3) rfl) rfl rfl hl.1 rfl (lv_room (Nat.le_of_ble_eq_true rfl)) dX8_pour_116 ⟨Nat.le_refl _, Nat.le_refl _⟩) hS (fun H locs hP hS => ?_)
          exact w_iret (X := XC Γ) hx hb hr hlocks hK hP hS rfl hf dX8_pour_119
        · replace hf := (if_neg c16).symm.trans hf
          by_cases c19 : x1 = 4
          · replace hf := (if_pos c19).symm.trans hf
            refine lv_tableIn (off := 93) (tgt := 120) hx hb dX8_pour_27 (by rw [c19]; decide) (by rw [c19]; decide) (by rw [c19]; rfl) (by decide) ?_
            refine lv_aload_n hx hb dX8_pour_120 rfl (lv_at hl 0 rfl) ?_
            refine va_get (D := Γ.1) (ci := 7) (v := .ref (Γ.2.2.1 (51))) (C := RX8) (T := TX8) (N := 9) hx hb hts iX8 hown hK hP (0) (gC_Main Γ q3) rfl 6 (by decide) (hts (.fieldLink RX8 39 "OtherHalfOfNight" "pouring" "LOtherHalfOfNight$Pouring;") (wzm K29)) (fun _ h9 => h9) rfl dX8_pour_121 ?_
            refine lv_aload_n hx hb dX8_pour_124 rfl (lv_at hl 0 rfl) ?_
            refine va_get (D := Γ.1) (ci := 7) (v := .ref (Γ.2.2.1 (27))) (C := RX8) (T := TX8) (N := 9) hx hb hts iX8 hown hK hP (0) (gC_Main Γ q3) rfl 5 (by decide) (hts (.fieldLink RX8 32 "OtherHalfOfNight" "law" "LOtherHalfOfNight$Law;") (wzm K25)) (fun _ h9 => h9) rfl dX8_pour_125 ?_
            refine lv_aload_n hx hb dX8_pour_128 rfl (lv_at hl 0 rfl) ?_
            refine va_get (D := Γ.1) (ci := 7) (v := .ref (Γ.2.2.1 (1 + 8 * 1))) (C := RX8) (T := TX8) (N := 9) hx hb hts iX8 hown hK hP (0) (gC_Main Γ q3) rfl 1 (by decide) (hts (.fieldLink RX8 16 "OtherHalfOfNight" "thought" "LOtherHalfOfNight$House;") (wzm K16)) (fun _ h9 => h9) rfl dX8_pour_129 ?_
            obtain ⟨q20, h21, hf⟩ := w_ob hf
            refine w_ci (va_runV (As := [.ref (Γ.2.2.1 (27)), .ref (Γ.2.2.1 (1 + 8 * 1))]) (rest := []) ⟨hx, hb, hml, hown, hts⟩ (c_X3_pourAll l Γ hG (1) q3 q20.1 q20.2 h21 H.size) (cwV 2 hts (wzV K654 K759 K652 K653 K28) rfl rfl rfl (by decide +kernel) ⟨(Nat.le_of_ble_eq_true rfl), (Nat.le_of_ble_eq_true rfl)⟩) (w_preV hK hP hkc hN hS (gC_Pouring Γ q3) rfl) rfl rfl hl.1 rfl (lv_room (Nat.le_of_ble_eq_true rfl)) dX8_pour_132 ⟨Nat.le_refl _, Nat.le_refl _⟩) hS (fun H locs hP hS => ?_)
            refine lv_pop hx hb dX8_pour_135 rfl ?_
            refine lv_aload_n hx hb dX8_pour_136 rfl (lv_at hl 0 rfl) ?_
            refine va_get (D := Γ.1) (ci := 7) (v := .ref (Γ.2.2.1 (1 + 8 * 1))) (C := RX8) (T := TX8) (N := 9) hx hb hts iX8 hown hK hP (0) (gC_Main Γ q20.2) rfl 1 (by decide) (hts (.fieldLink RX8 16 "OtherHalfOfNight" "thought" "LOtherHalfOfNight$House;") (wzm K16)) (fun _ h9 => h9) rfl dX8_pour_137 ?_
            obtain ⟨q22, h23, hf⟩ := w_ob hf
            refine w_ci (va_runV (As := []) (rest := []) ⟨hx, hb, hml, hown, hts⟩ (c_X1_fullCups l Γ hG (1) q20.2 q22.1 q22.2 h23 H.size) (cwV 0 hts (wzV K763 K760 K761 K762 K14) rfl rfl rfl (by decide +kernel) ⟨(Nat.le_of_ble_eq_true rfl), (Nat.le_of_ble_eq_true rfl)⟩) (w_preV hK hP hkc hN hS (gC_House Γ q20.2 1 (by decide)) rfl) rfl rfl hl.1 rfl (lv_room (Nat.le_of_ble_eq_true rfl)) dX8_pour_140 ⟨Nat.le_refl _, Nat.le_refl _⟩) hS (fun H locs hP hS => ?_)
            exact w_iret (X := XC Γ) hx hb hr hlocks hK hP hS rfl hf dX8_pour_143
          · replace hf := (if_neg c19).symm.trans hf
            by_cases c24 : x1 = 5
            · replace hf := (if_pos c24).symm.trans hf
              refine lv_tableIn (off := 117) (tgt := 144) hx hb dX8_pour_27 (by rw [c24]; decide) (by rw [c24]; decide) (by rw [c24]; rfl) (by decide) ?_
              refine lv_aload_n hx hb dX8_pour_144 rfl (lv_at hl 0 rfl) ?_
              refine va_get (D := Γ.1) (ci := 7) (v := .ref (Γ.2.2.1 (58))) (C := RX8) (T := TX8) (N := 9) hx hb hts iX8 hown hK hP (0) (gC_Main Γ q3) rfl 7 (by decide) (hts (.fieldLink RX8 46 "OtherHalfOfNight" "demand" "LOtherHalfOfNight$Demand;") (wzm K33)) (fun _ h9 => h9) rfl dX8_pour_145 ?_
              obtain ⟨q25, h26, hf⟩ := w_ob hf
              refine w_ci (va_runV (As := []) (rest := []) ⟨hx, hb, hml, hown, hts⟩ (c_X0_starved l Γ hG q3 q25.1 q25.2 h26 H.size) (cwV 0 hts (wzV K767 K764 K765 K766 K32) rfl rfl rfl (by decide +kernel) ⟨(Nat.le_of_ble_eq_true rfl), (Nat.le_of_ble_eq_true rfl)⟩) (w_preV hK hP hkc hN hS (gC_Demand Γ q3) rfl) rfl rfl hl.1 rfl (lv_room (Nat.le_of_ble_eq_true rfl)) dX8_pour_148 ⟨Nat.le_refl _, Nat.le_refl _⟩) hS (fun H locs hP hS => ?_)
              exact w_iret (X := XC Γ) hx hb hr hlocks hK hP hS rfl hf dX8_pour_151
            · replace hf := (if_neg c24).symm.trans hf
              have nc5 : ¬ (x1).toInt = 0 := fun q => c5 (Int32.toInt_inj.mp q)
              have nc8 : ¬ (x1).toInt = 1 := fun q => c8 (Int32.toInt_inj.mp q)
              have nc11 : ¬ (x1).toInt = 2 := fun q => c11 (Int32.toInt_inj.mp q)
              have nc16 : ¬ (x1).toInt = 3 := fun q => c16 (Int32.toInt_inj.mp q)
              have nc19 : ¬ (x1).toInt = 4 := fun q => c19 (Int32.toInt_inj.mp q)
              have nc24 : ¬ (x1).toInt = 5 := fun q => c24 (Int32.toInt_inj.mp q)
              refine lv_tableOut (tgt := 152) hx hb dX8_pour_27 (by omega) (by decide) ?_
              refine lv_bipush (v := (-2 : Int32)) hx hb dX8_pour_152 (by decide) ?_
              exact w_iret (X := XC Γ) hx hb hr hlocks hK hP hS rfl hf dX8_pour_154
def f_X8_best (x1 : Int32) (σ : Sg) : Option (Int32 × Sg) := (f_X0_measure (0) σ).bind fun (q1 : Sg) => if x1 = 0 then (f_X0_leastLost q1).bind fun (q4 : Int32 × Sg) => some (q4.1, q4.2) else if x1 = 1 then (f_X0_leastLost q1).bind fun (q7 : Int32 × Sg) => (f_X0_mostWithoutOne q7.1 q7.2).bind fun (q9 : Int32 × Sg) => some (q9.1, q9.2) else if x1 = 2 then (f_X0_emptiest q1).bind fun (q12 : Int32 × Sg) => some (q12.1, q12.2) else if x1 = 3 then (f_X0_emptiest q1).bind fun (q15 : Int32 × Sg) => (f_X0_mostWithWant q15.1 (0 : Int32) q15.2).bind fun (q17 : Int32 × Sg) => some (q17.1, q17.2) else if x1 = 4 then (f_X0_dearest q1).bind fun (q20 : Int32 × Sg) => some (q20.1, q20.2) else if x1 = 5 then (f_X0_dearest q1).bind fun (q23 : Int32 × Sg) => (f_X0_mostWithOneMore q23.1 q23.2).bind fun (q25 : Int32 × Sg) => some (q25.1, q25.2) else some ((-2 : Int32), q1)
set_option maxHeartbeats 40000000 in
set_option maxRecDepth 100000 in
theorem c_X8_best (l : Launch) (Γ : Geo) (hG : okC Γ) (x1 : Int32) (σ : Sg) (r : Int32) (σ' : Sg) (hf : f_X8_best x1 σ = some (r, σ')) (sz : Nat) : Met l yX8_best (wz yX8_best cX8_best 2 (some .int)) { frames := 5, cells := 0, slots := 0, locals := 124 } (va_Pc [.ref (Γ.2.2.1 (0)), .int x1] (wPre Γ.1 vwCl (tysC Γ) (XC Γ) (alC Γ) Γ.2.2.2 σ sz)) (wQi Γ.1 vwCl (tysC Γ) (XC Γ) (alC Γ) r σ' sz) 0 0 (wA (alC Γ) sz) := by
  refine w_enter (cc := cX8_best) (maxL := 2) (ret := (some .int)) (by decide) rfl (Nat.le_of_ble_eq_true rfl) ?_
  intro p e s m below meth c ls hx hb hr hlocks hml hown hts hsz hP hK hkc hN hl
  subst hsz
  generalize hav : ([.ref (Γ.2.2.1 (0)), .int x1] : List Value) = av at hl hts ⊢
  have hl : lv_has ls 2 [(0, .ref (Γ.2.2.1 (0))), (1, .int x1)] := by rw [← hav] at hl; exact hl
  suffices hw : ∀ (H : Heap) (locs : List Loc), va_P Γ.1 vwCl (XC Γ σ) H → va_S (wA (alC Γ) s.heap.size) s.heap H locs → W p l e { frames := 5, cells := 0, slots := 0, locals := 124 } s m av.toArray below meth c H locs 0 0 (MQ below (wQi Γ.1 vwCl (tysC Γ) (XC Γ) (alC Γ) r σ' s.heap.size) av.toArray s 0 0 (wA (alC Γ) s.heap.size)) (F0 m 0 ls []) from hw _ [] hP va_S.rf
  clear hP
  intro H locs hP hS
  unfold f_X8_best at hf
  refine lv_aload_n hx hb dX8_best_0 rfl (lv_at hl 0 rfl) ?_
  refine va_get (D := Γ.1) (ci := 7) (v := .ref (Γ.2.2.1 (58))) (C := RX8) (T := TX8) (N := 9) hx hb hts iX8 hown hK hP (0) (gC_Main Γ σ) rfl 7 (by decide) (hts (.fieldLink RX8 46 "OtherHalfOfNight" "demand" "LOtherHalfOfNight$Demand;") (wzm K33)) (fun _ h9 => h9) rfl dX8_best_1 ?_
  refine lv_aload_n hx hb dX8_best_4 rfl (lv_at hl 0 rfl) ?_
  refine va_get (D := Γ.1) (ci := 7) (v := .ref (Γ.2.2.1 (27))) (C := RX8) (T := TX8) (N := 9) hx hb hts iX8 hown hK hP (0) (gC_Main Γ σ) rfl 5 (by decide) (hts (.fieldLink RX8 32 "OtherHalfOfNight" "law" "LOtherHalfOfNight$Law;") (wzm K25)) (fun _ h9 => h9) rfl dX8_best_5 ?_
  refine lv_aload_n hx hb dX8_best_8 rfl (lv_at hl 0 rfl) ?_
  refine va_get (D := Γ.1) (ci := 7) (v := .ref (Γ.2.2.1 (1 + 8 * 0))) (C := RX8) (T := TX8) (N := 9) hx hb hts iX8 hown hK hP (0) (gC_Main Γ σ) rfl 0 (by decide) (hts (.fieldLink RX8 10 "OtherHalfOfNight" "now" "LOtherHalfOfNight$House;") (wzm K15)) (fun _ h9 => h9) rfl dX8_best_9 ?_
  obtain ⟨q1, h2, hf⟩ := w_ob hf
  refine w_cv (va_runV (As := [.ref (Γ.2.2.1 (27)), .ref (Γ.2.2.1 (1 + 8 * 0))]) (rest := []) ⟨hx, hb, hml, hown, hts⟩ (c_X0_measure l Γ hG (0) σ q1 h2 H.size) (cwV 2 hts (wzV K738 K735 K736 K737 K32) rfl rfl rfl (by decide +kernel) ⟨(Nat.le_of_ble_eq_true rfl), (Nat.le_of_ble_eq_true rfl)⟩) (w_preV hK hP hkc hN hS (gC_Demand Γ σ) rfl) rfl rfl hl.1 rfl (lv_room (Nat.le_of_ble_eq_true rfl)) dX8_best_12 ⟨Nat.le_refl _, Nat.le_refl _⟩) hS (fun H locs hP hS => ?_)
  refine lv_iload_n hx hb dX8_best_15 rfl (lv_at hl 1 rfl) ?_
  by_cases c3 : x1 = 0
  · replace hf := (if_pos c3).symm.trans hf
    refine lv_tableIn (off := 40) (tgt := 56) hx hb dX8_best_16 (by rw [c3]; decide) (by rw [c3]; decide) (by rw [c3]; rfl) (by decide) ?_
    refine lv_aload_n hx hb dX8_best_56 rfl (lv_at hl 0 rfl) ?_
    refine va_get (D := Γ.1) (ci := 7) (v := .ref (Γ.2.2.1 (58))) (C := RX8) (T := TX8) (N := 9) hx hb hts iX8 hown hK hP (0) (gC_Main Γ q1) rfl 7 (by decide) (hts (.fieldLink RX8 46 "OtherHalfOfNight" "demand" "LOtherHalfOfNight$Demand;") (wzm K33)) (fun _ h9 => h9) rfl dX8_best_57 ?_
    obtain ⟨q4, h5, hf⟩ := w_ob hf
    refine w_ci (va_runV (As := []) (rest := []) ⟨hx, hb, hml, hown, hts⟩ (c_X0_leastLost l Γ hG q1 q4.1 q4.2 h5 H.size) (cwV 0 hts (wzV K801 K798 K799 K800 K32) rfl rfl rfl (by decide +kernel) ⟨(Nat.le_of_ble_eq_true rfl), (Nat.le_of_ble_eq_true rfl)⟩) (w_preV hK hP hkc hN hS (gC_Demand Γ q1) rfl) rfl rfl hl.1 rfl (lv_room (Nat.le_of_ble_eq_true rfl)) dX8_best_60 ⟨Nat.le_refl _, Nat.le_refl _⟩) hS (fun H locs hP hS => ?_)
    exact w_iret (X := XC Γ) hx hb hr hlocks hK hP hS rfl hf dX8_best_63
  · replace hf := (if_neg c3).symm.trans hf
    by_cases c6 : x1 = 1
    · replace hf := (if_pos c6).symm.trans hf
      refine lv_tableIn (off := 48) (tgt := 64) hx hb dX8_best_16 (by rw [c6]; decide) (by rw [c6]; decide) (by rw [c6]; rfl) (by decide) ?_
      refine lv_aload_n hx hb dX8_best_64 rfl (lv_at hl 0 rfl) ?_
      refine va_get (D := Γ.1) (ci := 7) (v := .ref (Γ.2.2.1 (58))) (C := RX8) (T := TX8) (N := 9) hx hb hts iX8 hown hK hP (0) (gC_Main Γ q1) rfl 7 (by decide) (hts (.fieldLink RX8 46 "OtherHalfOfNight" "demand" "LOtherHalfOfNight$Demand;") (wzm K33)) (fun _ h9 => h9) rfl dX8_best_65 ?_
      refine lv_aload_n hx hb dX8_best_68 rfl (lv_at hl 0 rfl) ?_
      refine va_get (D := Γ.1) (ci := 7) (v := .ref (Γ.2.2.1 (58))) (C := RX8) (T := TX8) (N := 9) hx hb hts iX8 hown hK hP (0) (gC_Main Γ q1) rfl 7 (by decide) (hts (.fieldLink RX8 46 "OtherHalfOfNight" "demand" "LOtherHalfOfNight$Demand;") (wzm K33)) (fun _ h9 => h9) rfl dX8_best_69 ?_
      obtain ⟨q7, h8, hf⟩ := w_ob hf
      refine w_ci (va_runV (As := []) (rest := [.ref (Γ.2.2.1 (58))]) ⟨hx, hb, hml, hown, hts⟩ (c_X0_leastLost l Γ hG q1 q7.1 q7.2 h8 H.size) (cwV 0 hts (wzV K801 K798 K799 K800 K32) rfl rfl rfl (by decide +kernel) ⟨(Nat.le_of_ble_eq_true rfl), (Nat.le_of_ble_eq_true rfl)⟩) (w_preV hK hP hkc hN hS (gC_Demand Γ q1) rfl) rfl rfl hl.1 rfl (lv_room (Nat.le_of_ble_eq_true rfl)) dX8_best_72 ⟨Nat.le_refl _, Nat.le_refl _⟩) hS (fun H locs hP hS => ?_)
      obtain ⟨q9, h10, hf⟩ := w_ob hf
      refine w_ci (va_runV (As := [.int q7.1]) (rest := []) ⟨hx, hb, hml, hown, hts⟩ (c_X0_mostWithoutOne l Γ hG q7.1 q7.2 q9.1 q9.2 h10 H.size) (cwV 1 hts (wzV K805 K806 K803 K804 K32) rfl rfl rfl (by decide +kernel) ⟨(Nat.le_of_ble_eq_true rfl), (Nat.le_of_ble_eq_true rfl)⟩) (w_preV hK hP hkc hN hS (gC_Demand Γ q7.2) rfl) rfl rfl hl.1 rfl (lv_room (Nat.le_of_ble_eq_true rfl)) dX8_best_75 ⟨Nat.le_refl _, Nat.le_refl _⟩) hS (fun H locs hP hS => ?_)
      exact w_iret (X := XC Γ) hx hb hr hlocks hK hP hS rfl hf dX8_best_78
    · replace hf := (if_neg c6).symm.trans hf
      by_cases c11 : x1 = 2
      · replace hf := (if_pos c11).symm.trans hf
        refine lv_tableIn (off := 63) (tgt := 79) hx hb dX8_best_16 (by rw [c11]; decide) (by rw [c11]; decide) (by rw [c11]; rfl) (by decide) ?_
        refine lv_aload_n hx hb dX8_best_79 rfl (lv_at hl 0 rfl) ?_
        refine va_get (D := Γ.1) (ci := 7) (v := .ref (Γ.2.2.1 (58))) (C := RX8) (T := TX8) (N := 9) hx hb hts iX8 hown hK hP (0) (gC_Main Γ q1) rfl 7 (by decide) (hts (.fieldLink RX8 46 "OtherHalfOfNight" "demand" "LOtherHalfOfNight$Demand;") (wzm K33)) (fun _ h9 => h9) rfl dX8_best_80 ?_
        obtain ⟨q12, h13, hf⟩ := w_ob hf
        refine w_ci (va_runV (As := []) (rest := []) ⟨hx, hb, hml, hown, hts⟩ (c_X0_emptiest l Γ hG q1 q12.1 q12.2 h13 H.size) (cwV 0 hts (wzV K810 K807 K808 K809 K32) rfl rfl rfl (by decide +kernel) ⟨(Nat.le_of_ble_eq_true rfl), (Nat.le_of_ble_eq_true rfl)⟩) (w_preV hK hP hkc hN hS (gC_Demand Γ q1) rfl) rfl rfl hl.1 rfl (lv_room (Nat.le_of_ble_eq_true rfl)) dX8_best_83 ⟨Nat.le_refl _, Nat.le_refl _⟩) hS (fun H locs hP hS => ?_)
        exact w_iret (X := XC Γ) hx hb hr hlocks hK hP hS rfl hf dX8_best_86
      · replace hf := (if_neg c11).symm.trans hf
        by_cases c14 : x1 = 3
        · replace hf := (if_pos c14).symm.trans hf
          refine lv_tableIn (off := 71) (tgt := 87) hx hb dX8_best_16 (by rw [c14]; decide) (by rw [c14]; decide) (by rw [c14]; rfl) (by decide) ?_
          refine lv_aload_n hx hb dX8_best_87 rfl (lv_at hl 0 rfl) ?_
          refine va_get (D := Γ.1) (ci := 7) (v := .ref (Γ.2.2.1 (58))) (C := RX8) (T := TX8) (N := 9) hx hb hts iX8 hown hK hP (0) (gC_Main Γ q1) rfl 7 (by decide) (hts (.fieldLink RX8 46 "OtherHalfOfNight" "demand" "LOtherHalfOfNight$Demand;") (wzm K33)) (fun _ h9 => h9) rfl dX8_best_88 ?_
          refine lv_aload_n hx hb dX8_best_91 rfl (lv_at hl 0 rfl) ?_
          refine va_get (D := Γ.1) (ci := 7) (v := .ref (Γ.2.2.1 (58))) (C := RX8) (T := TX8) (N := 9) hx hb hts iX8 hown hK hP (0) (gC_Main Γ q1) rfl 7 (by decide) (hts (.fieldLink RX8 46 "OtherHalfOfNight" "demand" "LOtherHalfOfNight$Demand;") (wzm K33)) (fun _ h9 => h9) rfl dX8_best_92 ?_
          obtain ⟨q15, h16, hf⟩ := w_ob hf
          refine w_ci (va_runV (As := []) (rest := [.ref (Γ.2.2.1 (58))]) ⟨hx, hb, hml, hown, hts⟩ (c_X0_emptiest l Γ hG q1 q15.1 q15.2 h16 H.size) (cwV 0 hts (wzV K810 K807 K808 K809 K32) rfl rfl rfl (by decide +kernel) ⟨(Nat.le_of_ble_eq_true rfl), (Nat.le_of_ble_eq_true rfl)⟩) (w_preV hK hP hkc hN hS (gC_Demand Γ q1) rfl) rfl rfl hl.1 rfl (lv_room (Nat.le_of_ble_eq_true rfl)) dX8_best_95 ⟨Nat.le_refl _, Nat.le_refl _⟩) hS (fun H locs hP hS => ?_)
          refine lv_iconst (v := (0 : Int32)) hx hb dX8_best_98 (by decide) ?_
          obtain ⟨q17, h18, hf⟩ := w_ob hf
          refine w_ci (va_runV (As := [.int q15.1, .int (0 : Int32)]) (rest := []) ⟨hx, hb, hml, hown, hts⟩ (c_X0_mostWithWant l Γ hG q15.1 (0 : Int32) q15.2 q17.1 q17.2 h18 H.size) (cwV 2 hts (wzV K814 K815 K812 K813 K32) rfl rfl rfl (by decide +kernel) ⟨(Nat.le_of_ble_eq_true rfl), (Nat.le_of_ble_eq_true rfl)⟩) (w_preV hK hP hkc hN hS (gC_Demand Γ q15.2) rfl) rfl rfl hl.1 rfl (lv_room (Nat.le_of_ble_eq_true rfl)) dX8_best_99 ⟨Nat.le_refl _, Nat.le_refl _⟩) hS (fun H locs hP hS => ?_)
          exact w_iret (X := XC Γ) hx hb hr hlocks hK hP hS rfl hf dX8_best_102
        · replace hf := (if_neg c14).symm.trans hf
          by_cases c19 : x1 = 4
          · replace hf := (if_pos c19).symm.trans hf
            refine lv_tableIn (off := 87) (tgt := 103) hx hb dX8_best_16 (by rw [c19]; decide) (by rw [c19]; decide) (by rw [c19]; rfl) (by decide) ?_
            refine lv_aload_n hx hb dX8_best_103 rfl (lv_at hl 0 rfl) ?_
            refine va_get (D := Γ.1) (ci := 7) (v := .ref (Γ.2.2.1 (58))) (C := RX8) (T := TX8) (N := 9) hx hb hts iX8 hown hK hP (0) (gC_Main Γ q1) rfl 7 (by decide) (hts (.fieldLink RX8 46 "OtherHalfOfNight" "demand" "LOtherHalfOfNight$Demand;") (wzm K33)) (fun _ h9 => h9) rfl dX8_best_104 ?_
            obtain ⟨q20, h21, hf⟩ := w_ob hf
            refine w_ci (va_runV (As := []) (rest := []) ⟨hx, hb, hml, hown, hts⟩ (c_X0_dearest l Γ hG q1 q20.1 q20.2 h21 H.size) (cwV 0 hts (wzV K819 K816 K817 K818 K32) rfl rfl rfl (by decide +kernel) ⟨(Nat.le_of_ble_eq_true rfl), (Nat.le_of_ble_eq_true rfl)⟩) (w_preV hK hP hkc hN hS (gC_Demand Γ q1) rfl) rfl rfl hl.1 rfl (lv_room (Nat.le_of_ble_eq_true rfl)) dX8_best_107 ⟨Nat.le_refl _, Nat.le_refl _⟩) hS (fun H locs hP hS => ?_)
            exact w_iret (X := XC Γ) hx hb hr hlocks hK hP hS rfl hf dX8_best_110
          · replace hf := (if_neg c19).symm.trans hf
            by_cases c22 : x1 = 5
            · replace hf := (if_pos c22).symm.trans hf
              refine lv_tableIn (off := 95) (tgt := 111) hx hb dX8_best_16 (by rw [c22]; decide) (by rw [c22]; decide) (by rw [c22]; rfl) (by decide) ?_
              refine lv_aload_n hx hb dX8_best_111 rfl (lv_at hl 0 rfl) ?_
              refine va_get (D := Γ.1) (ci := 7) (v := .ref (Γ.2.2.1 (58))) (C := RX8) (T := TX8) (N := 9) hx hb hts iX8 hown hK hP (0) (gC_Main Γ q1) rfl 7 (by decide) (hts (.fieldLink RX8 46 "OtherHalfOfNight" "demand" "LOtherHalfOfNight$Demand;") (wzm K33)) (fun _ h9 => h9) rfl dX8_best_112 ?_
              refine lv_aload_n hx hb dX8_best_115 rfl (lv_at hl 0 rfl) ?_
              refine va_get (D := Γ.1) (ci := 7) (v := .ref (Γ.2.2.1 (58))) (C := RX8) (T := TX8) (N := 9) hx hb hts iX8 hown hK hP (0) (gC_Main Γ q1) rfl 7 (by decide) (hts (.fieldLink RX8 46 "OtherHalfOfNight" "demand" "LOtherHalfOfNight$Demand;") (wzm K33)) (fun _ h9 => h9) rfl dX8_best_116 ?_
              obtain ⟨q23, h24, hf⟩ := w_ob hf
              refine w_ci (va_runV (As := []) (rest := [.ref (Γ.2.2.1 (58))]) ⟨hx, hb, hml, hown, hts⟩ (c_X0_dearest l Γ hG q1 q23.1 q23.2 h24 H.size) (cwV 0 hts (wzV K819 K816 K817 K818 K32) rfl rfl rfl (by decide +kernel) ⟨(Nat.le_of_ble_eq_true rfl), (Nat.le_of_ble_eq_true rfl)⟩) (w_preV hK hP hkc hN hS (gC_Demand Γ q1) rfl) rfl rfl hl.1 rfl (lv_room (Nat.le_of_ble_eq_true rfl)) dX8_best_119 ⟨Nat.le_refl _, Nat.le_refl _⟩) hS (fun H locs hP hS => ?_)
              obtain ⟨q25, h26, hf⟩ := w_ob hf
              refine w_ci (va_runV (As := [.int q23.1]) (rest := []) ⟨hx, hb, hml, hown, hts⟩ (c_X0_mostWithOneMore l Γ hG q23.1 q23.2 q25.1 q25.2 h26 H.size) (cwV 1 hts (wzV K823 K824 K821 K822 K32) rfl rfl rfl (by decide +kernel) ⟨(Nat.le_of_ble_eq_true rfl), (Nat.le_of_ble_eq_true rfl)⟩) (w_preV hK hP hkc hN hS (gC_Demand Γ q23.2) rfl) rfl rfl hl.1 rfl (lv_room (Nat.le_of_ble_eq_true rfl)) dX8_best_122 ⟨Nat.le_refl _, Nat.le_refl _⟩) hS (fun H locs hP hS => ?_)
              exact w_iret (X := XC Γ) hx hb hr hlocks hK hP hS rfl hf dX8_best_125
            · replace hf := (if_neg c22).symm.trans hf
              have nc3 : ¬ (x1).toInt = 0 := fun q => c3 (Int32.toInt_inj.mp q)
              have nc6 : ¬ (x1).toInt = 1 := fun q => c6 (Int32.toInt_inj.mp q)
              have nc11 : ¬ (x1).toInt = 2 := fun q => c11 (Int32.toInt_inj.mp q)
              have nc14 : ¬ (x1).toInt = 3 := fun q => c14 (Int32.toInt_inj.mp q)
              have nc19 : ¬ (x1).toInt = 4 := fun q => c19 (Int32.toInt_inj.mp q)
              have nc22 : ¬ (x1).toInt = 5 := fun q => c22 (Int32.toInt_inj.mp q)
              refine lv_tableOut (tgt := 126) hx hb dX8_best_16 (by omega) (by decide) ?_
              refine lv_bipush (v := (-2 : Int32)) hx hb dX8_best_126 (by decide) ?_
              exact w_iret (X := XC Γ) hx hb hr hlocks hK hP hS rfl hf dX8_best_128
def f_X8_blend (x1 : Int32) (x2 : Int32) (x3 : Int32) (σ : Sg) : Option (Int64 × Sg) := (f_X1_lodges (0) x1 σ).bind fun (q1 : Int32 × Sg) => if q1.1 = 0 then some ((-4611686018427387904 : Int64), q1.2) else (f_X8_isCup x2 q1.2).bind fun (q4 : Int32 × Sg) => if q4.1 = 0 then some ((-4611686018427387904 : Int64), q4.2) else if x3 < 0 then some ((-4611686018427387904 : Int64), q4.2) else if x3 ≤ (1 : Int32) then (f_X1_takeFrom (1) (0) q4.2).bind fun (q9 : Sg) => (f_X3_pourAll (1) q9).bind fun (q11 : Int32 × Sg) => if okI x1 5 then if okI x2 6 then if okI x2 6 then (f_X8_lowest (q11.2 (64 + ((x1).toNatClampNeg)) (x2).toNatClampNeg) (q11.2 (11 * 1 + 10) (x2).toNatClampNeg) x3 q11.2).bind fun (q16 : Int64 × Sg) => some (q16.1, q16.2) else none else none else none else some ((-4611686018427387904 : Int64), q4.2)
set_option maxHeartbeats 40000000 in
set_option maxRecDepth 100000 in
theorem c_X8_blend (l : Launch) (Γ : Geo) (hG : okC Γ) (x1 : Int32) (x2 : Int32) (x3 : Int32) (σ : Sg) (r : Int64) (σ' : Sg) (hf : f_X8_blend x1 x2 x3 σ = some (r, σ')) (sz : Nat) : Met l yX8_blend (wz yX8_blend cX8_blend 4 (some .long)) { frames := 5, cells := 0, slots := 0, locals := 128 } (va_Pc [.ref (Γ.2.2.1 (0)), .int x1, .int x2, .int x3] (wPre Γ.1 vwCl (tysC Γ) (XC Γ) (alC Γ) Γ.2.2.2 σ sz)) (wQl Γ.1 vwCl (tysC Γ) (XC Γ) (alC Γ) r σ' sz) 0 0 (wA (alC Γ) sz) := by
  refine w_enter (cc := cX8_blend) (maxL := 4) (ret := (some .long)) (by decide) rfl (Nat.le_of_ble_eq_true rfl) ?_
  intro p e s m below meth c ls hx hb hr hlocks hml hown hts hsz hP hK hkc hN hl
  subst hsz
  generalize hav : ([.ref (Γ.2.2.1 (0)), .int x1, .int x2, .int x3] : List Value) = av at hl hts ⊢
  have hl : lv_has ls 4 [(0, .ref (Γ.2.2.1 (0))), (1, .int x1), (2, .int x2), (3, .int x3)] := by rw [← hav] at hl; exact hl
  suffices hw : ∀ (H : Heap) (locs : List Loc), va_P Γ.1 vwCl (XC Γ σ) H → va_S (wA (alC Γ) s.heap.size) s.heap H locs → W p l e { frames := 5, cells := 0, slots := 0, locals := 128 } s m av.toArray below meth c H locs 0 0 (MQ below (wQl Γ.1 vwCl (tysC Γ) (XC Γ) (alC Γ) r σ' s.heap.size) av.toArray s 0 0 (wA (alC Γ) s.heap.size)) (F0 m 0 ls []) from hw _ [] hP va_S.rf
  clear hP
  intro H locs hP hS
  unfold f_X8_blend at hf
  refine lv_aload_n hx hb dX8_blend_0 rfl (lv_at hl 0 rfl) ?_
  refine va_get (D := Γ.1) (ci := 7) (v := .ref (Γ.2.2.1 (1 + 8 * 0))) (C := RX8) (T := TX8) (N := 9) hx hb hts iX8 hown hK hP (0) (gC_Main Γ σ) rfl 0 (by decide) (hts (.fieldLink RX8 10 "OtherHalfOfNight" "now" "LOtherHalfOfNight$House;") (wzm K15)) (fun _ h9 => h9) rfl dX8_blend_1 ?_
  refine lv_iload_n hx hb dX8_blend_4 rfl (lv_at hl 1 rfl) ?_
  obtain ⟨q1, h2, hf⟩ := w_ob hf
  refine w_ci (va_runV (As := [.int x1]) (rest := []) ⟨hx, hb, hml, hown, hts⟩ (c_X1_lodges l Γ hG (0) x1 σ q1.1 q1.2 h2 H.size) (cwV 1 hts (wzV K144 K332 K142 K143 K14) rfl rfl rfl (by decide +kernel) ⟨(Nat.le_of_ble_eq_true rfl), (Nat.le_of_ble_eq_true rfl)⟩) (w_preV hK hP hkc hN hS (gC_House Γ σ 0 (by decide)) rfl) rfl rfl hl.1 rfl (lv_room (Nat.le_of_ble_eq_true rfl)) dX8_blend_5 ⟨Nat.le_refl _, Nat.le_refl _⟩) hS (fun H locs hP hS => ?_)
  refine lv_if_eq (tgt := 27) hx hb dX8_blend_8 (by decide) (fun c3 => ?_) (fun c3 => ?_)
  · replace hf := (if_pos c3).symm.trans hf
    refine lv_ldc2 (v := (-4611686018427387904 : Int64)) hx hb hown (hts (.constantLong RX8 185 (-4611686018427387904)) (wzm K833)) dX8_blend_27 ?_
    exact w_lret (X := XC Γ) hx hb hr hlocks hK hP hS hf dX8_blend_30
  · replace hf := (if_neg c3).symm.trans hf
    refine lv_iload_n hx hb dX8_blend_11 rfl (lv_at hl 2 rfl) ?_
    obtain ⟨q4, h5, hf⟩ := w_ob hf
    refine w_ci (va_runS (As := [.int x2]) (rest := []) ⟨hx, hb, hml, hown, hts⟩ (c_X8_isCup l Γ hG x2 q1.2 q4.1 q4.2 h5 H.size) (cwS 1 hts (wzS K147 K699 K146 K2) rfl rfl rfl (by decide +kernel) ⟨(Nat.le_of_ble_eq_true rfl), (Nat.le_of_ble_eq_true rfl)⟩) (w_pre hK hP hkc hN hS) rfl rfl hl.1 rfl (lv_room (Nat.le_of_ble_eq_true rfl)) dX8_blend_12 ⟨Nat.le_refl _, Nat.le_refl _⟩) hS (fun H locs hP hS => ?_)
    refine lv_if_eq (tgt := 27) hx hb dX8_blend_15 (by decide) (fun c6 => ?_) (fun c6 => ?_)
    · replace hf := (if_pos c6).symm.trans hf
      refine lv_ldc2 (v := (-4611686018427387904 : Int64)) hx hb hown (hts (.constantLong RX8 185 (-4611686018427387904)) (wzm K833)) dX8_blend_27 ?_
      exact w_lret (X := XC Γ) hx hb hr hlocks hK hP hS hf dX8_blend_30
    · replace hf := (if_neg c6).symm.trans hf
      refine lv_iload_n hx hb dX8_blend_18 rfl (lv_at hl 3 rfl) ?_
      refine lv_if_lt (tgt := 27) hx hb dX8_blend_19 (by decide) (fun c7 => ?_) (fun c7 => ?_)
      · replace hf := (if_pos c7).symm.trans hf
        refine lv_ldc2 (v := (-4611686018427387904 : Int64)) hx hb hown (hts (.constantLong RX8 185 (-4611686018427387904)) (wzm K833)) dX8_blend_27 ?_
        exact w_lret (X := XC Γ) hx hb hr hlocks hK hP hS hf dX8_blend_30
      · replace hf := (if_neg c7).symm.trans hf
        refine lv_iload_n hx hb dX8_blend_22 rfl (lv_at hl 3 rfl) ?_
        refine lv_iconst (v := (1 : Int32)) hx hb dX8_blend_23 (by decide) ?_
        refine lv_icmp_le (tgt := 31) hx hb dX8_blend_24 (by decide) (fun c8 => ?_) (fun c8 => ?_)
        · replace hf := (if_pos c8).symm.trans hf
          refine lv_aload_n hx hb dX8_blend_31 rfl (lv_at hl 0 rfl) ?_
          refine va_get (D := Γ.1) (ci := 7) (v := .ref (Γ.2.2.1 (1 + 8 * 1))) (C := RX8) (T := TX8) (N := 9) hx hb hts iX8 hown hK hP (0) (gC_Main Γ q4.2) rfl 1 (by decide) (hts (.fieldLink RX8 16 "OtherHalfOfNight" "thought" "LOtherHalfOfNight$House;") (wzm K16)) (fun _ h9 => h9) rfl dX8_blend_32 ?_
          refine lv_aload_n hx hb dX8_blend_35 rfl (lv_at hl 0 rfl) ?_
          refine va_get (D := Γ.1) (ci := 7) (v := .ref (Γ.2.2.1 (1 + 8 * 0))) (C := RX8) (T := TX8) (N := 9) hx hb hts iX8 hown hK hP (0) (gC_Main Γ q4.2) rfl 0 (by decide) (hts (.fieldLink RX8 10 "OtherHalfOfNight" "now" "LOtherHalfOfNight$House;") (wzm K15)) (fun _ h9 => h9) rfl dX8_blend_36 ?_
          obtain ⟨q9, h10, hf⟩ := w_ob hf
          refine w_cv (va_runV (As := [.ref (Γ.2.2.1 (1 + 8 * 0))]) (rest := []) ⟨hx, hb, hml, hown, hts⟩ (c_X1_takeFrom l Γ hG (1) (0) q4.2 q9 h10 H.size) (cwV 1 hts (wzV K703 K700 K701 K702 K14) rfl rfl rfl (by decide +kernel) ⟨(Nat.le_of_ble_eq_true rfl), (Nat.le_of_ble_eq_true rfl)⟩) (w_preV hK hP hkc hN hS (gC_House Γ q4.2 1 (by decide)) rfl) rfl rfl hl.1 rfl (lv_room (Nat.le_of_ble_eq_true rfl)) dX8_blend_39 ⟨Nat.le_refl _, Nat.le_refl _⟩) hS (fun H locs hP hS => ?_)
          refine lv_aload_n hx hb dX8_blend_42 rfl (lv_at hl 0 rfl) ?_
          refine va_get (D := Γ.1) (ci := 7) (v := .ref (Γ.2.2.1 (51))) (C := RX8) (T := TX8) (N := 9) hx hb hts iX8 hown hK hP (0) (gC_Main Γ q9) rfl 6 (by decide) (hts (.fieldLink RX8 39 "OtherHalfOfNight" "pouring" "LOtherHalfOfNight$Pouring;") (wzm K29)) (fun _ h9 => h9) rfl dX8_blend_43 ?_
          refine lv_aload_n hx hb dX8_blend_46 rfl (lv_at hl 0 rfl) ?_
          refine va_get (D := Γ.1) (ci := 7) (v := .ref (Γ.2.2.1 (27))) (C := RX8) (T := TX8) (N := 9) hx hb hts iX8 hown hK hP (0) (gC_Main Γ q9) rfl 5 (by decide) (hts (.fieldLink RX8 32 "OtherHalfOfNight" "law" "LOtherHalfOfNight$Law;") (wzm K25)) (fun _ h9 => h9) rfl dX8_blend_47 ?_
          refine lv_aload_n hx hb dX8_blend_50 rfl (lv_at hl 0 rfl) ?_
          refine va_get (D := Γ.1) (ci := 7) (v := .ref (Γ.2.2.1 (1 + 8 * 1))) (C := RX8) (T := TX8) (N := 9) hx hb hts iX8 hown hK hP (0) (gC_Main Γ q9) rfl 1 (by decide) (hts (.fieldLink RX8 16 "OtherHalfOfNight" "thought" "LOtherHalfOfNight$House;") (wzm K16)) (fun _ h9 => h9) rfl dX8_blend_51 ?_
          obtain ⟨q11, h12, hf⟩ := w_ob hf
          refine w_ci (va_runV (As := [.ref (Γ.2.2.1 (27)), .ref (Γ.2.2.1 (1 + 8 * 1))]) (rest := []) ⟨hx, hb, hml, hown, hts⟩ (c_X3_pourAll l Γ hG (1) q9 q11.1 q11.2 h12 H.size) (cwV 2 hts (wzV K654 K759 K652 K653 K28) rfl rfl rfl (by decide +kernel) ⟨(Nat.le_of_ble_eq_true rfl), (Nat.le_of_ble_eq_true rfl)⟩) (w_preV hK hP hkc hN hS (gC_Pouring Γ q9) rfl) rfl rfl hl.1 rfl (lv_room (Nat.le_of_ble_eq_true rfl)) dX8_blend_54 ⟨Nat.le_refl _, Nat.le_refl _⟩) hS (fun H locs hP hS => ?_)
          refine lv_pop hx hb dX8_blend_57 rfl ?_
          refine lv_aload_n hx hb dX8_blend_58 rfl (lv_at hl 0 rfl) ?_
          refine va_get (D := Γ.1) (ci := 7) (v := .ref (Γ.2.2.1 (51))) (C := RX8) (T := TX8) (N := 9) hx hb hts iX8 hown hK hP (0) (gC_Main Γ q11.2) rfl 6 (by decide) (hts (.fieldLink RX8 39 "OtherHalfOfNight" "pouring" "LOtherHalfOfNight$Pouring;") (wzm K29)) (fun _ h9 => h9) rfl dX8_blend_59 ?_
          refine va_get (D := Γ.1) (ci := 3) (v := .ref (Γ.2.2.1 (52))) (C := RX3) (T := TX3) (N := 1) hx hb hts iX3 hown hK hP (51) (gC_Pouring Γ q11.2) rfl 0 (by decide) (hts (.fieldLink RX8 187 "OtherHalfOfNight$Pouring" "into" "[[I") (wzm K834)) (fun _ h9 => h9) rfl dX8_blend_62 ?_
          refine lv_iload_n hx hb dX8_blend_65 rfl (lv_at hl 1 rfl) ?_
          obtain ⟨g13, hf⟩ := w_oi hf
          refine w_aald2 (D := Γ.1) (tys := (tysC Γ)) (g := fun j => Γ.2.2.1 (53 + j)) hx hb hK hP (52) 5 (gC_intos Γ q11.2) rfl g13 dX8_blend_66 ?_
          refine lv_iload_n hx hb dX8_blend_67 rfl (lv_at hl 2 rfl) ?_
          obtain ⟨g14, hf⟩ := w_oi hf
          refine va_iald (D := Γ.1) (tys := (tysC Γ)) hx hb hK hP (53 + ((x1).toNatClampNeg)) 0 (gC_into Γ q11.2 ((x1).toNatClampNeg) (w_lt g13)) rfl g14 dX8_blend_68 ?_
          refine lv_aload_n hx hb dX8_blend_69 rfl (lv_at hl 0 rfl) ?_
          refine va_get (D := Γ.1) (ci := 7) (v := .ref (Γ.2.2.1 (1 + 8 * 1))) (C := RX8) (T := TX8) (N := 9) hx hb hts iX8 hown hK hP (0) (gC_Main Γ q11.2) rfl 1 (by decide) (hts (.fieldLink RX8 16 "OtherHalfOfNight" "thought" "LOtherHalfOfNight$House;") (wzm K16)) (fun _ h9 => h9) rfl dX8_blend_70 ?_
          refine va_get (D := Γ.1) (ci := 1) (v := .ref (Γ.2.2.1 (8 + 8 * 1))) (C := RX1) (T := TX1) (N := 11) hx hb hts iX1 hown hK hP (1 + 8 * 1) (gC_House Γ q11.2 1 (by decide)) rfl 10 (by decide) (hts (.fieldLink RX8 141 "OtherHalfOfNight$House" "hold" "[I") (wzm K698)) (fun _ h9 => h9) rfl dX8_blend_73 ?_
          refine lv_iload_n hx hb dX8_blend_76 rfl (lv_at hl 2 rfl) ?_
          obtain ⟨g15, hf⟩ := w_oi hf
          refine va_iald (D := Γ.1) (tys := (tysC Γ)) hx hb hK hP (8 + 8 * 1) 0 (gC_House_hold Γ q11.2 1 (by decide)) rfl g15 dX8_blend_77 ?_
          refine lv_iload_n hx hb dX8_blend_78 rfl (lv_at hl 3 rfl) ?_
          obtain ⟨q16, h17, hf⟩ := w_ob hf
          refine w_cl (va_runS (As := [.int (q11.2 (64 + ((x1).toNatClampNeg)) (x2).toNatClampNeg), .int (q11.2 (11 * 1 + 10) (x2).toNatClampNeg), .int x3]) (rest := []) ⟨hx, hb, hml, hown, hts⟩ (c_X8_lowest l Γ hG (q11.2 (64 + ((x1).toNatClampNeg)) (x2).toNatClampNeg) (q11.2 (11 * 1 + 10) (x2).toNatClampNeg) x3 q11.2 q16.1 q16.2 h17 H.size) (cwS 3 hts (wzS K837 K835 K836 K2) rfl rfl rfl (by decide +kernel) ⟨(Nat.le_of_ble_eq_true rfl), (Nat.le_of_ble_eq_true rfl)⟩) (w_pre hK hP hkc hN hS) rfl rfl hl.1 rfl (lv_room (Nat.le_of_ble_eq_true rfl)) dX8_blend_79 ⟨Nat.le_refl _, Nat.le_refl _⟩) hS (fun H locs hP hS => ?_)
          exact w_lret (X := XC Γ) hx hb hr hlocks hK hP hS hf dX8_blend_82
        · replace hf := (if_neg c8).symm.trans hf
          refine lv_ldc2 (v := (-4611686018427387904 : Int64)) hx hb hown (hts (.constantLong RX8 185 (-4611686018427387904)) (wzm K833)) dX8_blend_27 ?_
          exact w_lret (X := XC Γ) hx hb hr hlocks hK hP hS hf dX8_blend_30
def f_X8_firstOtherwise_2 (i1 : Nat) (x2 : Int32) : Nat → Int32 → Sg → Option (Int32 × Sg)
  | 0, _, _ => none
  | n + 1, y3, τ => if i1 < 4 then if (τ (74 + 3 * i1) 0) ≤ y3 then some ((-1 : Int32), τ) else if okI y3 40 then (f_X2_yieldOf (1) x2 τ).bind fun (q5 : Int32 × Sg) => if (τ (75 + 3 * i1) (y3).toNatClampNeg) = q5.1 then (f_X2_easeOne (1) x2 q5.2).bind fun (q8 : Sg) => (f_X8_firstOtherwise_2 i1 x2 n) ((y3 + (1 : Int32))) (up q8 (11 * 1) 0 ((q8 (11 * 1) 0) + (1 : Int32))) else some (y3, q5.2) else none else none
def f_X8_firstOtherwise (i1 : Nat) (x2 : Int32) (σ : Sg) : Option (Int32 × Sg) := if i1 < 4 then f_X8_firstOtherwise_2 i1 x2 5000 ((0 : Int32)) σ else none
set_option maxHeartbeats 40000000 in
set_option maxRecDepth 100000 in
theorem c_X8_firstOtherwise (l : Launch) (Γ : Geo) (hG : okC Γ) (i1 : Nat) (x2 : Int32) (σ : Sg) (r : Int32) (σ' : Sg) (hf : f_X8_firstOtherwise i1 x2 σ = some (r, σ')) (sz : Nat) : Met l yX8_firstOtherwise (wz yX8_firstOtherwise cX8_firstOtherwise 4 (some .int)) { frames := 4, cells := 0, slots := 0, locals := 96 } (va_Pc [.ref (Γ.2.2.1 (0)), .ref (Γ.2.2.1 (63 + 2 * i1)), .int x2] (wPre Γ.1 vwCl (tysC Γ) (XC Γ) (alC Γ) Γ.2.2.2 σ sz)) (wQi Γ.1 vwCl (tysC Γ) (XC Γ) (alC Γ) r σ' sz) 0 0 (wA (alC Γ) sz) := by
  refine w_enter (cc := cX8_firstOtherwise) (maxL := 4) (ret := (some .int)) (by decide) rfl (Nat.le_of_ble_eq_true rfl) ?_
  intro p e s m below meth c ls hx hb hr hlocks hml hown hts hsz hP hK hkc hN hl
  subst hsz
  generalize hav : ([.ref (Γ.2.2.1 (0)), .ref (Γ.2.2.1 (63 + 2 * i1)), .int x2] : List Value) = av at hl hts ⊢
  have hl : lv_has ls 4 [(0, .ref (Γ.2.2.1 (0))), (1, .ref (Γ.2.2.1 (63 + 2 * i1))), (2, .int x2)] := by rw [← hav] at hl; exact hl
  have j2 : ∀ (n2 : Nat), ∀ (y3 : Int32) (τ : Sg) (H : Heap) (locs : List Loc) (ls : Array Slot) (hf : f_X8_firstOtherwise_2 i1 x2 n2 y3 τ = some (r, σ')) (hP : va_P Γ.1 vwCl (XC Γ τ) H) (hS : va_S (wA (alC Γ) s.heap.size) s.heap H locs) (hl : lv_has ls 4 [(0, .ref (Γ.2.2.1 (0))), (1, .ref (Γ.2.2.1 (63 + 2 * i1))), (2, .int x2), (3, .int y3)]), W p l e { frames := 4, cells := 0, slots := 0, locals := 96 } s m av.toArray below meth c H locs 0 0 (MQ below (wQi Γ.1 vwCl (tysC Γ) (XC Γ) (alC Γ) r σ' s.heap.size) av.toArray s 0 0 (wA (alC Γ) s.heap.size)) (F0 m 2 ls []) := by
    intro n2
    induction n2 with
    | zero =>
      intro y3 τ H locs ls hf
      exact absurd hf (by intro h; cases h)
    | succ n2 ih2 =>
      intro y3 τ H locs ls hf hP hS hl
      unfold f_X8_firstOtherwise_2 at hf
      obtain ⟨g2, hf⟩ := w_oi hf
      refine lv_iload_n hx hb dX8_firstOtherwise_2 rfl (lv_at hl 3 rfl) ?_
      refine lv_aload_n hx hb dX8_firstOtherwise_3 rfl (lv_at hl 1 rfl) ?_
      refine va_get (D := Γ.1) (ci := 5) (v := .int (τ (74 + 3 * i1) 0)) (C := RX5) (T := TX5) (N := 3) hx hb hts iX5 hown hK hP (63 + 2 * i1) (gC_Sheet Γ τ (i1) g2) rfl 1 (by decide) (hts (.fieldLink RX8 201 "OtherHalfOfNight$Sheet" "size" "I") (wzm K850)) (fun _ h9 => h9) rfl dX8_firstOtherwise_4 ?_
      refine lv_icmp_ge (tgt := 64) hx hb dX8_firstOtherwise_7 (by decide) (fun c3 => ?_) (fun c3 => ?_)
      · replace hf := (if_pos c3).symm.trans hf
        refine lv_iconst (v := (-1 : Int32)) hx hb dX8_firstOtherwise_64 (by decide) ?_
        exact w_iret (X := XC Γ) hx hb hr hlocks hK hP hS rfl hf dX8_firstOtherwise_65
      · replace hf := (if_neg c3).symm.trans hf
        refine lv_aload_n hx hb dX8_firstOtherwise_10 rfl (lv_at hl 1 rfl) ?_
        refine va_get (D := Γ.1) (ci := 5) (v := .ref (Γ.2.2.1 (64 + 2 * i1))) (C := RX5) (T := TX5) (N := 3) hx hb hts iX5 hown hK hP (63 + 2 * i1) (gC_Sheet Γ τ (i1) g2) rfl 2 (by decide) (hts (.fieldLink RX8 248 "OtherHalfOfNight$Sheet" "items" "[I") (wzm K862)) (fun _ h9 => h9) rfl dX8_firstOtherwise_11 ?_
        refine lv_iload_n hx hb dX8_firstOtherwise_14 rfl (lv_at hl 3 rfl) ?_
        obtain ⟨g4, hf⟩ := w_oi hf
        refine va_iald (D := Γ.1) (tys := (tysC Γ)) hx hb hK hP (64 + 2 * i1) 0 (gC_Sheet_items Γ τ (i1) g2) rfl g4 dX8_firstOtherwise_15 ?_
        refine lv_aload_n hx hb dX8_firstOtherwise_16 rfl (lv_at hl 0 rfl) ?_
        refine va_get (D := Γ.1) (ci := 7) (v := .ref (Γ.2.2.1 (27))) (C := RX8) (T := TX8) (N := 9) hx hb hts iX8 hown hK hP (0) (gC_Main Γ τ) rfl 5 (by decide) (hts (.fieldLink RX8 32 "OtherHalfOfNight" "law" "LOtherHalfOfNight$Law;") (wzm K25)) (fun _ h9 => h9) rfl dX8_firstOtherwise_17 ?_
        refine lv_aload_n hx hb dX8_firstOtherwise_20 rfl (lv_at hl 0 rfl) ?_
        refine va_get (D := Γ.1) (ci := 7) (v := .ref (Γ.2.2.1 (1 + 8 * 1))) (C := RX8) (T := TX8) (N := 9) hx hb hts iX8 hown hK hP (0) (gC_Main Γ τ) rfl 1 (by decide) (hts (.fieldLink RX8 16 "OtherHalfOfNight" "thought" "LOtherHalfOfNight$House;") (wzm K16)) (fun _ h9 => h9) rfl dX8_firstOtherwise_21 ?_
        refine lv_iload_n hx hb dX8_firstOtherwise_24 rfl (lv_at hl 2 rfl) ?_
        obtain ⟨q5, h6, hf⟩ := w_ob hf
        refine w_ci (va_runV (As := [.ref (Γ.2.2.1 (1 + 8 * 1)), .int x2]) (rest := [.int (τ (75 + 3 * i1) (y3).toNatClampNeg)]) ⟨hx, hb, hml, hown, hts⟩ (c_X2_yieldOf l Γ hG (1) x2 τ q5.1 q5.2 h6 H.size) (cwV 2 hts (wzV K336 K333 K334 K335 K24) rfl rfl rfl (by decide +kernel) ⟨(Nat.le_of_ble_eq_true rfl), (Nat.le_of_ble_eq_true rfl)⟩) (w_preV hK hP hkc hN hS (gC_Law Γ τ) rfl) rfl rfl hl.1 rfl (lv_room (Nat.le_of_ble_eq_true rfl)) dX8_firstOtherwise_25 ⟨Nat.le_refl _, Nat.le_refl _⟩) hS (fun H locs hP hS => ?_)
        refine lv_icmp_eq (tgt := 33) hx hb dX8_firstOtherwise_28 (by decide) (fun c7 => ?_) (fun c7 => ?_)
        · replace hf := (if_pos c7).symm.trans hf
          refine lv_aload_n hx hb dX8_firstOtherwise_33 rfl (lv_at hl 0 rfl) ?_
          refine va_get (D := Γ.1) (ci := 7) (v := .ref (Γ.2.2.1 (27))) (C := RX8) (T := TX8) (N := 9) hx hb hts iX8 hown hK hP (0) (gC_Main Γ q5.2) rfl 5 (by decide) (hts (.fieldLink RX8 32 "OtherHalfOfNight" "law" "LOtherHalfOfNight$Law;") (wzm K25)) (fun _ h9 => h9) rfl dX8_firstOtherwise_34 ?_
          refine lv_aload_n hx hb dX8_firstOtherwise_37 rfl (lv_at hl 0 rfl) ?_
          refine va_get (D := Γ.1) (ci := 7) (v := .ref (Γ.2.2.1 (1 + 8 * 1))) (C := RX8) (T := TX8) (N := 9) hx hb hts iX8 hown hK hP (0) (gC_Main Γ q5.2) rfl 1 (by decide) (hts (.fieldLink RX8 16 "OtherHalfOfNight" "thought" "LOtherHalfOfNight$House;") (wzm K16)) (fun _ h9 => h9) rfl dX8_firstOtherwise_38 ?_
          refine lv_iload_n hx hb dX8_firstOtherwise_41 rfl (lv_at hl 2 rfl) ?_
          obtain ⟨q8, h9, hf⟩ := w_ob hf
          refine w_cv (va_runV (As := [.ref (Γ.2.2.1 (1 + 8 * 1)), .int x2]) (rest := []) ⟨hx, hb, hml, hown, hts⟩ (c_X2_easeOne l Γ hG (1) x2 q5.2 q8 h9 H.size) (cwV 2 hts (wzV K667 K726 K665 K666 K24) rfl rfl rfl (by decide +kernel) ⟨(Nat.le_of_ble_eq_true rfl), (Nat.le_of_ble_eq_true rfl)⟩) (w_preV hK hP hkc hN hS (gC_Law Γ q5.2) rfl) rfl rfl hl.1 rfl (lv_room (Nat.le_of_ble_eq_true rfl)) dX8_firstOtherwise_42 ⟨Nat.le_refl _, Nat.le_refl _⟩) hS (fun H locs hP hS => ?_)
          refine lv_aload_n hx hb dX8_firstOtherwise_45 rfl (lv_at hl 0 rfl) ?_
          refine va_get (D := Γ.1) (ci := 7) (v := .ref (Γ.2.2.1 (1 + 8 * 1))) (C := RX8) (T := TX8) (N := 9) hx hb hts iX8 hown hK hP (0) (gC_Main Γ q8) rfl 1 (by decide) (hts (.fieldLink RX8 16 "OtherHalfOfNight" "thought" "LOtherHalfOfNight$House;") (wzm K16)) (fun _ h9 => h9) rfl dX8_firstOtherwise_46 ?_
          refine lv_dup hx hb dX8_firstOtherwise_49 rfl ?_
          refine va_get (D := Γ.1) (ci := 1) (v := .int (q8 (11 * 1) 0)) (C := RX1) (T := TX1) (N := 11) hx hb hts iX1 hown hK hP (1 + 8 * 1) (gC_House Γ q8 1 (by decide)) rfl 0 (by decide) (hts (.fieldLink RX8 119 "OtherHalfOfNight$House" "night" "I") (wzm K644)) (fun _ h9 => h9) rfl dX8_firstOtherwise_50 ?_
          refine lv_iconst (v := (1 : Int32)) hx hb dX8_firstOtherwise_53 (by decide) ?_
          refine lv_iadd hx hb dX8_firstOtherwise_54 ?_
          refine w_put (X := XC Γ) (σ' := (up q8 (11 * 1) 0 ((q8 (11 * 1) 0) + (1 : Int32)))) (ci := 1) (C := RX1) (T := TX1) (N := 11) (ty := .int) hx hb hts iX1 tyX1 tyX1_ok nmX1 hown hK hP (halC Γ) hG hS (1 + 8 * 1) (gC_House Γ q8 1 (by decide)) rfl 0 (by decide) (hts (.fieldLink RX8 119 "OtherHalfOfNight$House" "night" "I") (wzm K644)) (fun _ h9 => h9) rfl (by decide +kernel) rfl rfl (Nat.le_of_ble_eq_true rfl) dX8_firstOtherwise_55 (sC_House_night Γ q8 1 (by decide) ((q8 (11 * 1) 0) + (1 : Int32))) (fun H locs hP hS => ?_)
          refine lv_iinc (v := (y3 + (1 : Int32))) (lv' := [(3, .int (y3 + (1 : Int32))), (0, .ref (Γ.2.2.1 (0))), (1, .ref (Γ.2.2.1 (63 + 2 * i1))), (2, .int x2)]) hx hb dX8_firstOtherwise_58 hl (k := 3) rfl rfl (by decide) rfl (fun ls hl => ?_)
          refine lv_goto (tgt := 2) hx hb dX8_firstOtherwise_61 (by decide) ?_
          exact ih2 ((y3 + (1 : Int32))) (up q8 (11 * 1) 0 ((q8 (11 * 1) 0) + (1 : Int32))) H locs ls hf hP hS (lv_sub hl [1, 2, 3, 0] rfl)
        · replace hf := (if_neg c7).symm.trans hf
          refine lv_iload_n hx hb dX8_firstOtherwise_31 rfl (lv_at hl 3 rfl) ?_
          exact w_iret (X := XC Γ) hx hb hr hlocks hK hP hS rfl hf dX8_firstOtherwise_32
  suffices hw : ∀ (H : Heap) (locs : List Loc), va_P Γ.1 vwCl (XC Γ σ) H → va_S (wA (alC Γ) s.heap.size) s.heap H locs → W p l e { frames := 4, cells := 0, slots := 0, locals := 96 } s m av.toArray below meth c H locs 0 0 (MQ below (wQi Γ.1 vwCl (tysC Γ) (XC Γ) (alC Γ) r σ' s.heap.size) av.toArray s 0 0 (wA (alC Γ) s.heap.size)) (F0 m 0 ls []) from hw _ [] hP va_S.rf
  clear hP
  intro H locs hP hS
  unfold f_X8_firstOtherwise at hf
  obtain ⟨g1, hf⟩ := w_oi hf
  refine lv_iconst (v := (0 : Int32)) hx hb dX8_firstOtherwise_0 (by decide) ?_
  refine lv_istore_n (lv' := [(3, .int (0 : Int32)), (0, .ref (Γ.2.2.1 (0))), (1, .ref (Γ.2.2.1 (63 + 2 * i1))), (2, .int x2)]) hx hb dX8_firstOtherwise_1 rfl hl (by decide) rfl (fun ls hl => ?_)
  exact j2 5000 ((0 : Int32)) σ H locs ls hf hP hS (lv_sub hl [1, 2, 3, 0] rfl)
def f_X8_fits (i1 : Nat) (x2 : Int32) (x3 : Int32) (x4 : Int32) (σ : Sg) : Option (Int32 × Sg) := if i1 < 4 then (f_X1_takeFrom (1) (0) σ).bind fun (q2 : Sg) => (f_X1_write (1) x3 x2 x4 q2).bind fun (q4 : Sg) => (f_X8_firstOtherwise (i1) x2 q4).bind fun (q6 : Int32 × Sg) => if q6.1 = (-1 : Int32) then some ((1 : Int32), q6.2) else some ((0 : Int32), q6.2) else none
set_option maxHeartbeats 40000000 in
set_option maxRecDepth 100000 in
theorem c_X8_fits (l : Launch) (Γ : Geo) (hG : okC Γ) (i1 : Nat) (x2 : Int32) (x3 : Int32) (x4 : Int32) (σ : Sg) (r : Int32) (σ' : Sg) (hf : f_X8_fits i1 x2 x3 x4 σ = some (r, σ')) (sz : Nat) : Met l yX8_fits (wz yX8_fits cX8_fits 5 (some .boolean)) { frames := 5, cells := 0, slots := 0, locals := 119 } (va_Pc [.ref (Γ.2.2.1 (0)), .ref (Γ.2.2.1 (63 + 2 * i1)), .int x2, .int x3, .int x4] (wPre Γ.1 vwCl (tysC Γ) (XC Γ) (alC Γ) Γ.2.2.2 σ sz)) (wQi Γ.1 vwCl (tysC Γ) (XC Γ) (alC Γ) r σ' sz) 0 0 (wA (alC Γ) sz) := by
  refine w_enter (cc := cX8_fits) (maxL := 5) (ret := (some .boolean)) (by decide) rfl (Nat.le_of_ble_eq_true rfl) ?_
  intro p e s m below meth c ls hx hb hr hlocks hml hown hts hsz hP hK hkc hN hl
  subst hsz
  generalize hav : ([.ref (Γ.2.2.1 (0)), .ref (Γ.2.2.1 (63 + 2 * i1)), .int x2, .int x3, .int x4] : List Value) = av at hl hts ⊢
  have hl : lv_has ls 5 [(0, .ref (Γ.2.2.1 (0))), (1, .ref (Γ.2.2.1 (63 + 2 * i1))), (2, .int x2), (3, .int x3), (4, .int x4)] := by rw [← hav] at hl; exact hl
  suffices hw : ∀ (H : Heap) (locs : List Loc), va_P Γ.1 vwCl (XC Γ σ) H → va_S (wA (alC Γ) s.heap.size) s.heap H locs → W p l e { frames := 5, cells := 0, slots := 0, locals := 119 } s m av.toArray below meth c H locs 0 0 (MQ below (wQi Γ.1 vwCl (tysC Γ) (XC Γ) (alC Γ) r σ' s.heap.size) av.toArray s 0 0 (wA (alC Γ) s.heap.size)) (F0 m 0 ls []) from hw _ [] hP va_S.rf
  clear hP
  intro H locs hP hS
  unfold f_X8_fits at hf
  obtain ⟨g1, hf⟩ := w_oi hf
  refine lv_aload_n hx hb dX8_fits_0 rfl (lv_at hl 0 rfl) ?_
  refine va_get (D := Γ.1) (ci := 7) (v := .ref (Γ.2.2.1 (1 + 8 * 1))) (C := RX8) (T := TX8) (N := 9) hx hb hts iX8 hown hK hP (0) (gC_Main Γ σ) rfl 1 (by decide) (hts (.fieldLink RX8 16 "OtherHalfOfNight" "thought" "LOtherHalfOfNight$House;") (wzm K16)) (fun _ h9 => h9) rfl dX8_fits_1 ?_
  refine lv_aload_n hx hb dX8_fits_4 rfl (lv_at hl 0 rfl) ?_
  refine va_get (D := Γ.1) (ci := 7) (v := .ref (Γ.2.2.1 (1 + 8 * 0))) (C := RX8) (T := TX8) (N := 9) hx hb hts iX8 hown hK hP (0) (gC_Main Γ σ) rfl 0 (by decide) (hts (.fieldLink RX8 10 "OtherHalfOfNight" "now" "LOtherHalfOfNight$House;") (wzm K15)) (fun _ h9 => h9) rfl dX8_fits_5 ?_
  obtain ⟨q2, h3, hf⟩ := w_ob hf
  refine w_cv (va_runV (As := [.ref (Γ.2.2.1 (1 + 8 * 0))]) (rest := []) ⟨hx, hb, hml, hown, hts⟩ (c_X1_takeFrom l Γ hG (1) (0) σ q2 h3 H.size) (cwV 1 hts (wzV K703 K700 K701 K702 K14) rfl rfl rfl (by decide +kernel) ⟨(Nat.le_of_ble_eq_true rfl), (Nat.le_of_ble_eq_true rfl)⟩) (w_preV hK hP hkc hN hS (gC_House Γ σ 1 (by decide)) rfl) rfl rfl hl.1 rfl (lv_room (Nat.le_of_ble_eq_true rfl)) dX8_fits_8 ⟨Nat.le_refl _, Nat.le_refl _⟩) hS (fun H locs hP hS => ?_)
  refine lv_aload_n hx hb dX8_fits_11 rfl (lv_at hl 0 rfl) ?_
  refine va_get (D := Γ.1) (ci := 7) (v := .ref (Γ.2.2.1 (1 + 8 * 1))) (C := RX8) (T := TX8) (N := 9) hx hb hts iX8 hown hK hP (0) (gC_Main Γ q2) rfl 1 (by decide) (hts (.fieldLink RX8 16 "OtherHalfOfNight" "thought" "LOtherHalfOfNight$House;") (wzm K16)) (fun _ h9 => h9) rfl dX8_fits_12 ?_
  refine lv_iload_n hx hb dX8_fits_15 rfl (lv_at hl 3 rfl) ?_
  refine lv_iload_n hx hb dX8_fits_16 rfl (lv_at hl 2 rfl) ?_
  refine lv_iload hx hb dX8_fits_17 (lv_at hl 4 rfl) ?_
  obtain ⟨q4, h5, hf⟩ := w_ob hf
  refine w_cv (va_runV (As := [.int x3, .int x2, .int x4]) (rest := []) ⟨hx, hb, hml, hown, hts⟩ (c_X1_write l Γ hG (1) x3 x2 x4 q2 q4 h5 H.size) (cwV 3 hts (wzV K162 K159 K160 K161 K14) rfl rfl rfl (by decide +kernel) ⟨(Nat.le_of_ble_eq_true rfl), (Nat.le_of_ble_eq_true rfl)⟩) (w_preV hK hP hkc hN hS (gC_House Γ q2 1 (by decide)) rfl) rfl rfl hl.1 rfl (lv_room (Nat.le_of_ble_eq_true rfl)) dX8_fits_19 ⟨Nat.le_refl _, Nat.le_refl _⟩) hS (fun H locs hP hS => ?_)
  refine lv_aload_n hx hb dX8_fits_22 rfl (lv_at hl 0 rfl) ?_
  refine lv_aload_n hx hb dX8_fits_23 rfl (lv_at hl 1 rfl) ?_
  refine lv_iload_n hx hb dX8_fits_24 rfl (lv_at hl 2 rfl) ?_
  obtain ⟨q6, h7, hf⟩ := w_ob hf
  refine w_ci (va_runV (As := [.ref (Γ.2.2.1 (63 + 2 * i1)), .int x2]) (rest := []) ⟨hx, hb, hml, hown, hts⟩ (c_X8_firstOtherwise l Γ hG (i1) x2 q4 q6.1 q6.2 h7 H.size) (cwV 2 hts (wzV K861 K858 K859 K860 K2) rfl rfl rfl (by decide +kernel) ⟨(Nat.le_of_ble_eq_true rfl), (Nat.le_of_ble_eq_true rfl)⟩) (w_preV hK hP hkc hN hS (gC_Main Γ q4) rfl) rfl rfl hl.1 rfl (lv_room (Nat.le_of_ble_eq_true rfl)) dX8_fits_25 ⟨Nat.le_refl _, Nat.le_refl _⟩) hS (fun H locs hP hS => ?_)
  refine lv_iconst (v := (-1 : Int32)) hx hb dX8_fits_28 (by decide) ?_
  refine lv_icmp_ne (tgt := 36) hx hb dX8_fits_29 (by decide) (fun c8 => ?_) (fun c8 => ?_)
  · replace hf := (if_neg c8).symm.trans hf
    refine lv_iconst (v := (0 : Int32)) hx hb dX8_fits_36 (by decide) ?_
    exact w_iret (X := XC Γ) hx hb hr hlocks hK hP hS (by decide) hf dX8_fits_37
  · replace hf := (if_pos c8).symm.trans hf
    refine lv_iconst (v := (1 : Int32)) hx hb dX8_fits_32 (by decide) ?_
    refine lv_goto (tgt := 37) hx hb dX8_fits_33 (by decide) ?_
    exact w_iret (X := XC Γ) hx hb hr hlocks hK hP hS (by decide) hf dX8_fits_37
def f_X8_fitting_6 (i1 : Nat) (x2 : Int32) (x3 : Int32) (x4 : Int32) : Nat → Int32 → Int32 → Sg → Option (Int32 × Sg)
  | 0, _, _, _ => none
  | n + 1, y5, y6, τ => if i1 < 4 then if x4 < y6 then some (y5, τ) else (f_X8_fits (i1) x2 x3 y6 τ).bind fun (q4 : Int32 × Sg) => if q4.1 = 0 then (f_X8_fitting_6 i1 x2 x3 x4 n) (y5) ((y6 + (1 : Int32))) q4.2 else (f_X8_fitting_6 i1 x2 x3 x4 n) ((y5 ||| ((1 : Int32) <<< (y6 &&& 31)))) ((y6 + (1 : Int32))) q4.2 else none
def f_X8_fitting (i1 : Nat) (x2 : Int32) (x3 : Int32) (x4 : Int32) (σ : Sg) : Option (Int32 × Sg) := if i1 < 4 then f_X8_fitting_6 i1 x2 x3 x4 5000 ((0 : Int32)) ((0 : Int32)) σ else none
set_option maxHeartbeats 40000000 in
set_option maxRecDepth 100000 in
theorem c_X8_fitting (l : Launch) (Γ : Geo) (hG : okC Γ) (i1 : Nat) (x2 : Int32) (x3 : Int32) (x4 : Int32) (σ : Sg) (r : Int32) (σ' : Sg) (hf : f_X8_fitting i1 x2 x3 x4 σ = some (r, σ')) (sz : Nat) : Met l yX8_fitting (wz yX8_fitting cX8_fitting 7 (some .int)) { frames := 6, cells := 0, slots := 0, locals := 143 } (va_Pc [.ref (Γ.2.2.1 (0)), .ref (Γ.2.2.1 (63 + 2 * i1)), .int x2, .int x3, .int x4] (wPre Γ.1 vwCl (tysC Γ) (XC Γ) (alC Γ) Γ.2.2.2 σ sz)) (wQi Γ.1 vwCl (tysC Γ) (XC Γ) (alC Γ) r σ' sz) 0 0 (wA (alC Γ) sz) := by
  refine w_enter (cc := cX8_fitting) (maxL := 7) (ret := (some .int)) (by decide) rfl (Nat.le_of_ble_eq_true rfl) ?_
  intro p e s m below meth c ls hx hb hr hlocks hml hown hts hsz hP hK hkc hN hl
  subst hsz
  generalize hav : ([.ref (Γ.2.2.1 (0)), .ref (Γ.2.2.1 (63 + 2 * i1)), .int x2, .int x3, .int x4] : List Value) = av at hl hts ⊢
  have hl : lv_has ls 7 [(0, .ref (Γ.2.2.1 (0))), (1, .ref (Γ.2.2.1 (63 + 2 * i1))), (2, .int x2), (3, .int x3), (4, .int x4)] := by rw [← hav] at hl; exact hl
  have j6 : ∀ (n6 : Nat), ∀ (y5 : Int32) (y6 : Int32) (τ : Sg) (H : Heap) (locs : List Loc) (ls : Array Slot) (hf : f_X8_fitting_6 i1 x2 x3 x4 n6 y5 y6 τ = some (r, σ')) (hP : va_P Γ.1 vwCl (XC Γ τ) H) (hS : va_S (wA (alC Γ) s.heap.size) s.heap H locs) (hl : lv_has ls 7 [(0, .ref (Γ.2.2.1 (0))), (1, .ref (Γ.2.2.1 (63 + 2 * i1))), (2, .int x2), (3, .int x3), (4, .int x4), (5, .int y5), (6, .int y6)]), W p l e { frames := 6, cells := 0, slots := 0, locals := 143 } s m av.toArray below meth c H locs 0 0 (MQ below (wQi Γ.1 vwCl (tysC Γ) (XC Γ) (alC Γ) r σ' s.heap.size) av.toArray s 0 0 (wA (alC Γ) s.heap.size)) (F0 m 6 ls []) := by
    intro n6
    induction n6 with
    | zero =>
      intro y5 y6 τ H locs ls hf
      exact absurd hf (by intro h; cases h)
    | succ n6 ih6 =>
      intro y5 y6 τ H locs ls hf hP hS hl
      unfold f_X8_fitting_6 at hf
      obtain ⟨g2, hf⟩ := w_oi hf
      refine lv_iload hx hb dX8_fitting_6 (lv_at hl 6 rfl) ?_
      refine lv_iload hx hb dX8_fitting_8 (lv_at hl 4 rfl) ?_
      refine lv_icmp_gt (tgt := 40) hx hb dX8_fitting_10 (by decide) (fun c3 => ?_) (fun c3 => ?_)
      · replace hf := (if_pos c3).symm.trans hf
        refine lv_iload hx hb dX8_fitting_40 (lv_at hl 5 rfl) ?_
        exact w_iret (X := XC Γ) hx hb hr hlocks hK hP hS rfl hf dX8_fitting_42
      · replace hf := (if_neg c3).symm.trans hf
        refine lv_aload_n hx hb dX8_fitting_13 rfl (lv_at hl 0 rfl) ?_
        refine lv_aload_n hx hb dX8_fitting_14 rfl (lv_at hl 1 rfl) ?_
        refine lv_iload_n hx hb dX8_fitting_15 rfl (lv_at hl 2 rfl) ?_
        refine lv_iload_n hx hb dX8_fitting_16 rfl (lv_at hl 3 rfl) ?_
        refine lv_iload hx hb dX8_fitting_17 (lv_at hl 6 rfl) ?_
        obtain ⟨q4, h5, hf⟩ := w_ob hf
        refine w_ci (va_runV (As := [.ref (Γ.2.2.1 (63 + 2 * i1)), .int x2, .int x3, .int y6]) (rest := []) ⟨hx, hb, hml, hown, hts⟩ (c_X8_fits l Γ hG (i1) x2 x3 y6 τ q4.1 q4.2 h5 H.size) (cwV 4 hts (wzV K870 K867 K868 K869 K2) rfl rfl rfl (by decide +kernel) ⟨(Nat.le_of_ble_eq_true rfl), (Nat.le_of_ble_eq_true rfl)⟩) (w_preV hK hP hkc hN hS (gC_Main Γ τ) rfl) rfl rfl hl.1 rfl (lv_room (Nat.le_of_ble_eq_true rfl)) dX8_fitting_19 ⟨Nat.le_refl _, Nat.le_refl _⟩) hS (fun H locs hP hS => ?_)
        refine lv_if_eq (tgt := 34) hx hb dX8_fitting_22 (by decide) (fun c6 => ?_) (fun c6 => ?_)
        · replace hf := (if_pos c6).symm.trans hf
          refine lv_iinc (v := (y6 + (1 : Int32))) (lv' := [(6, .int (y6 + (1 : Int32))), (0, .ref (Γ.2.2.1 (0))), (1, .ref (Γ.2.2.1 (63 + 2 * i1))), (2, .int x2), (3, .int x3), (4, .int x4), (5, .int y5)]) hx hb dX8_fitting_34 hl (k := 6) rfl rfl (by decide) rfl (fun ls hl => ?_)
          refine lv_goto (tgt := 6) hx hb dX8_fitting_37 (by decide) ?_
          exact ih6 (y5) ((y6 + (1 : Int32))) q4.2 H locs ls hf hP hS (lv_sub hl [1, 2, 3, 4, 5, 6, 0] rfl)
        · replace hf := (if_neg c6).symm.trans hf
          refine lv_iload hx hb dX8_fitting_25 (lv_at hl 5 rfl) ?_
          refine lv_iconst (v := (1 : Int32)) hx hb dX8_fitting_27 (by decide) ?_
          refine lv_iload hx hb dX8_fitting_28 (lv_at hl 6 rfl) ?_
          refine lv_ishl hx hb dX8_fitting_30 ?_
          refine lv_ior hx hb dX8_fitting_31 ?_
          refine lv_istore (lv' := [(5, .int (y5 ||| ((1 : Int32) <<< (y6 &&& 31)))), (0, .ref (Γ.2.2.1 (0))), (1, .ref (Γ.2.2.1 (63 + 2 * i1))), (2, .int x2), (3, .int x3), (4, .int x4), (6, .int y6)]) hx hb dX8_fitting_32 hl (by decide) rfl (fun ls hl => ?_)
          refine lv_iinc (v := (y6 + (1 : Int32))) (lv' := [(6, .int (y6 + (1 : Int32))), (5, .int (y5 ||| ((1 : Int32) <<< (y6 &&& 31)))), (0, .ref (Γ.2.2.1 (0))), (1, .ref (Γ.2.2.1 (63 + 2 * i1))), (2, .int x2), (3, .int x3), (4, .int x4)]) hx hb dX8_fitting_34 hl (k := 6) rfl rfl (by decide) rfl (fun ls hl => ?_)
          refine lv_goto (tgt := 6) hx hb dX8_fitting_37 (by decide) ?_
          exact ih6 ((y5 ||| ((1 : Int32) <<< (y6 &&& 31)))) ((y6 + (1 : Int32))) q4.2 H locs ls hf hP hS (lv_sub hl [2, 3, 4, 5, 6, 1, 0] rfl)
  suffices hw : ∀ (H : Heap) (locs : List Loc), va_P Γ.1 vwCl (XC Γ σ) H → va_S (wA (alC Γ) s.heap.size) s.heap H locs → W p l e { frames := 6, cells := 0, slots := 0, locals := 143 } s m av.toArray below meth c H locs 0 0 (MQ below (wQi Γ.1 vwCl (tysC Γ) (XC Γ) (alC Γ) r σ' s.heap.size) av.toArray s 0 0 (wA (alC Γ) s.heap.size)) (F0 m 0 ls []) from hw _ [] hP va_S.rf
  clear hP
  intro H locs hP hS
  unfold f_X8_fitting at hf
  obtain ⟨g1, hf⟩ := w_oi hf
  refine lv_iconst (v := (0 : Int32)) hx hb dX8_fitting_0 (by decide) ?_
  refine lv_istore (lv' := [(5, .int (0 : Int32)), (0, .ref (Γ.2.2.1 (0))), (1, .ref (Γ.2.2.1 (63 + 2 * i1))), (2, .int x2), (3, .int x3), (4, .int x4)]) hx hb dX8_fitting_1 hl (by decide) rfl (fun ls hl => ?_)
  refine lv_iconst (v := (0 : Int32)) hx hb dX8_fitting_3 (by decide) ?_
  refine lv_istore (lv' := [(6, .int (0 : Int32)), (5, .int (0 : Int32)), (0, .ref (Γ.2.2.1 (0))), (1, .ref (Γ.2.2.1 (63 + 2 * i1))), (2, .int x2), (3, .int x3), (4, .int x4)]) hx hb dX8_fitting_4 hl (by decide) rfl (fun ls hl => ?_)
  exact j6 5000 ((0 : Int32)) ((0 : Int32)) σ H locs ls hf hP hS (lv_sub hl [2, 3, 4, 5, 6, 1, 0] rfl)
def f_X8_troublesFitting_5 (i1 : Nat) (x2 : Int32) : Nat → Int32 → Int32 → Sg → Option (Int32 × Sg)
  | 0, _, _, _ => none
  | n + 1, y3, y4, τ => if i1 < 4 then if (99 : Int32) < y4 then some (y3, τ) else (f_X8_fits (i1) x2 (3 : Int32) y4 τ).bind fun (q4 : Int32 × Sg) => if q4.1 = 0 then (f_X8_troublesFitting_5 i1 x2 n) (y3) ((y4 + (1 : Int32))) q4.2 else (f_X8_troublesFitting_5 i1 x2 n) ((y3 + (1 : Int32))) ((y4 + (1 : Int32))) q4.2 else none
def f_X8_troublesFitting (i1 : Nat) (x2 : Int32) (σ : Sg) : Option (Int32 × Sg) := if i1 < 4 then f_X8_troublesFitting_5 i1 x2 5000 ((0 : Int32)) ((0 : Int32)) σ else none
set_option maxHeartbeats 40000000 in
set_option maxRecDepth 100000 in
theorem c_X8_troublesFitting (l : Launch) (Γ : Geo) (hG : okC Γ) (i1 : Nat) (x2 : Int32) (σ : Sg) (r : Int32) (σ' : Sg) (hf : f_X8_troublesFitting i1 x2 σ = some (r, σ')) (sz : Nat) : Met l yX8_troublesFitting (wz yX8_troublesFitting cX8_troublesFitting 5 (some .int)) { frames := 6, cells := 0, slots := 0, locals := 143 } (va_Pc [.ref (Γ.2.2.1 (0)), .ref (Γ.2.2.1 (63 + 2 * i1)), .int x2] (wPre Γ.1 vwCl (tysC Γ) (XC Γ) (alC Γ) Γ.2.2.2 σ sz)) (wQi Γ.1 vwCl (tysC Γ) (XC Γ) (alC Γ) r σ' sz) 0 0 (wA (alC Γ) sz) := by
  refine w_enter (cc := cX8_troublesFitting) (maxL := 5) (ret := (some .int)) (by decide) rfl (Nat.le_of_ble_eq_true rfl) ?_
  intro p e s m below meth c ls hx hb hr hlocks hml hown hts hsz hP hK hkc hN hl
  subst hsz
  generalize hav : ([.ref (Γ.2.2.1 (0)), .ref (Γ.2.2.1 (63 + 2 * i1)), .int x2] : List Value) = av at hl hts ⊢
  have hl : lv_has ls 5 [(0, .ref (Γ.2.2.1 (0))), (1, .ref (Γ.2.2.1 (63 + 2 * i1))), (2, .int x2)] := by rw [← hav] at hl; exact hl
  have j5 : ∀ (n5 : Nat), ∀ (y3 : Int32) (y4 : Int32) (τ : Sg) (H : Heap) (locs : List Loc) (ls : Array Slot) (hf : f_X8_troublesFitting_5 i1 x2 n5 y3 y4 τ = some (r, σ')) (hP : va_P Γ.1 vwCl (XC Γ τ) H) (hS : va_S (wA (alC Γ) s.heap.size) s.heap H locs) (hl : lv_has ls 5 [(0, .ref (Γ.2.2.1 (0))), (1, .ref (Γ.2.2.1 (63 + 2 * i1))), (2, .int x2), (3, .int y3), (4, .int y4)]), W p l e { frames := 6, cells := 0, slots := 0, locals := 143 } s m av.toArray below meth c H locs 0 0 (MQ below (wQi Γ.1 vwCl (tysC Γ) (XC Γ) (alC Γ) r σ' s.heap.size) av.toArray s 0 0 (wA (alC Γ) s.heap.size)) (F0 m 5 ls []) := by
    intro n5
    induction n5 with
    | zero =>
      intro y3 y4 τ H locs ls hf
      exact absurd hf (by intro h; cases h)
    | succ n5 ih5 =>
      intro y3 y4 τ H locs ls hf hP hS hl
      unfold f_X8_troublesFitting_5 at hf
      obtain ⟨g2, hf⟩ := w_oi hf
      refine lv_iload hx hb dX8_troublesFitting_5 (lv_at hl 4 rfl) ?_
      refine lv_bipush (v := (99 : Int32)) hx hb dX8_troublesFitting_7 (by decide) ?_
      refine lv_icmp_gt (tgt := 33) hx hb dX8_troublesFitting_9 (by decide) (fun c3 => ?_) (fun c3 => ?_)
      · replace hf := (if_pos c3).symm.trans hf
        refine lv_iload_n hx hb dX8_troublesFitting_33 rfl (lv_at hl 3 rfl) ?_
        exact w_iret (X := XC Γ) hx hb hr hlocks hK hP hS rfl hf dX8_troublesFitting_34
      · replace hf := (if_neg c3).symm.trans hf
        refine lv_aload_n hx hb dX8_troublesFitting_12 rfl (lv_at hl 0 rfl) ?_
        refine lv_aload_n hx hb dX8_troublesFitting_13 rfl (lv_at hl 1 rfl) ?_
        refine lv_iload_n hx hb dX8_troublesFitting_14 rfl (lv_at hl 2 rfl) ?_
        refine lv_iconst (v := (3 : Int32)) hx hb dX8_troublesFitting_15 (by decide) ?_
        refine lv_iload hx hb dX8_troublesFitting_16 (lv_at hl 4 rfl) ?_
        obtain ⟨q4, h5, hf⟩ := w_ob hf
        refine w_ci (va_runV (As := [.ref (Γ.2.2.1 (63 + 2 * i1)), .int x2, .int (3 : Int32), .int y4]) (rest := []) ⟨hx, hb, hml, hown, hts⟩ (c_X8_fits l Γ hG (i1) x2 (3 : Int32) y4 τ q4.1 q4.2 h5 H.size) (cwV 4 hts (wzV K870 K867 K868 K869 K2) rfl rfl rfl (by decide +kernel) ⟨(Nat.le_of_ble_eq_true rfl), (Nat.le_of_ble_eq_true rfl)⟩) (w_preV hK hP hkc hN hS (gC_Main Γ τ) rfl) rfl rfl hl.1 rfl (lv_room (Nat.le_of_ble_eq_true rfl)) dX8_troublesFitting_18 ⟨Nat.le_refl _, Nat.le_refl _⟩) hS (fun H locs hP hS => ?_)
        refine lv_if_eq (tgt := 27) hx hb dX8_troublesFitting_21 (by decide) (fun c6 => ?_) (fun c6 => ?_)
        · replace hf := (if_pos c6).symm.trans hf
          refine lv_iinc (v := (y4 + (1 : Int32))) (lv' := [(4, .int (y4 + (1 : Int32))), (0, .ref (Γ.2.2.1 (0))), (1, .ref (Γ.2.2.1 (63 + 2 * i1))), (2, .int x2), (3, .int y3)]) hx hb dX8_troublesFitting_27 hl (k := 4) rfl rfl (by decide) rfl (fun ls hl => ?_)
          refine lv_goto (tgt := 5) hx hb dX8_troublesFitting_30 (by decide) ?_
          exact ih5 (y3) ((y4 + (1 : Int32))) q4.2 H locs ls hf hP hS (lv_sub hl [1, 2, 3, 4, 0] rfl)
        · replace hf := (if_neg c6).symm.trans hf
          refine lv_iinc (v := (y3 + (1 : Int32))) (lv' := [(3, .int (y3 + (1 : Int32))), (0, .ref (Γ.2.2.1 (0))), (1, .ref (Γ.2.2.1 (63 + 2 * i1))), (2, .int x2), (4, .int y4)]) hx hb dX8_troublesFitting_24 hl (k := 3) rfl rfl (by decide) rfl (fun ls hl => ?_)
          refine lv_iinc (v := (y4 + (1 : Int32))) (lv' := [(4, .int (y4 + (1 : Int32))), (3, .int (y3 + (1 : Int32))), (0, .ref (Γ.2.2.1 (0))), (1, .ref (Γ.2.2.1 (63 + 2 * i1))), (2, .int x2)]) hx hb dX8_troublesFitting_27 hl (k := 4) rfl rfl (by decide) rfl (fun ls hl => ?_)
          refine lv_goto (tgt := 5) hx hb dX8_troublesFitting_30 (by decide) ?_
          exact ih5 ((y3 + (1 : Int32))) ((y4 + (1 : Int32))) q4.2 H locs ls hf hP hS (lv_sub hl [2, 3, 4, 1, 0] rfl)
  suffices hw : ∀ (H : Heap) (locs : List Loc), va_P Γ.1 vwCl (XC Γ σ) H → va_S (wA (alC Γ) s.heap.size) s.heap H locs → W p l e { frames := 6, cells := 0, slots := 0, locals := 143 } s m av.toArray below meth c H locs 0 0 (MQ below (wQi Γ.1 vwCl (tysC Γ) (XC Γ) (alC Γ) r σ' s.heap.size) av.toArray s 0 0 (wA (alC Γ) s.heap.size)) (F0 m 0 ls []) from hw _ [] hP va_S.rf
  clear hP
  intro H locs hP hS
  unfold f_X8_troublesFitting at hf
  obtain ⟨g1, hf⟩ := w_oi hf
  refine lv_iconst (v := (0 : Int32)) hx hb dX8_troublesFitting_0 (by decide) ?_
  refine lv_istore_n (lv' := [(3, .int (0 : Int32)), (0, .ref (Γ.2.2.1 (0))), (1, .ref (Γ.2.2.1 (63 + 2 * i1))), (2, .int x2)]) hx hb dX8_troublesFitting_1 rfl hl (by decide) rfl (fun ls hl => ?_)
  refine lv_iconst (v := (0 : Int32)) hx hb dX8_troublesFitting_2 (by decide) ?_
  refine lv_istore (lv' := [(4, .int (0 : Int32)), (3, .int (0 : Int32)), (0, .ref (Γ.2.2.1 (0))), (1, .ref (Γ.2.2.1 (63 + 2 * i1))), (2, .int x2)]) hx hb dX8_troublesFitting_3 hl (by decide) rfl (fun ls hl => ?_)
  exact j5 5000 ((0 : Int32)) ((0 : Int32)) σ H locs ls hf hP hS (lv_sub hl [2, 3, 4, 1, 0] rfl)
def f_X8_leastTroubleFitting_2 (i1 : Nat) (x2 : Int32) : Nat → Int32 → Sg → Option (Int32 × Sg)
  | 0, _, _ => none
  | n + 1, y3, τ => if i1 < 4 then if (99 : Int32) < y3 then some ((-1 : Int32), τ) else (f_X8_fits (i1) x2 (3 : Int32) y3 τ).bind fun (q4 : Int32 × Sg) => if q4.1 = 0 then (f_X8_leastTroubleFitting_2 i1 x2 n) ((y3 + (1 : Int32))) q4.2 else some (y3, q4.2) else none
def f_X8_leastTroubleFitting (i1 : Nat) (x2 : Int32) (σ : Sg) : Option (Int32 × Sg) := if i1 < 4 then f_X8_leastTroubleFitting_2 i1 x2 5000 ((0 : Int32)) σ else none
set_option maxHeartbeats 40000000 in
set_option maxRecDepth 100000 in
theorem c_X8_leastTroubleFitting (l : Launch) (Γ : Geo) (hG : okC Γ) (i1 : Nat) (x2 : Int32) (σ : Sg) (r : Int32) (σ' : Sg) (hf : f_X8_leastTroubleFitting i1 x2 σ = some (r, σ')) (sz : Nat) : Met l yX8_leastTroubleFitting (wz yX8_leastTroubleFitting cX8_leastTroubleFitting 4 (some .int)) { frames := 6, cells := 0, slots := 0, locals := 143 } (va_Pc [.ref (Γ.2.2.1 (0)), .ref (Γ.2.2.1 (63 + 2 * i1)), .int x2] (wPre Γ.1 vwCl (tysC Γ) (XC Γ) (alC Γ) Γ.2.2.2 σ sz)) (wQi Γ.1 vwCl (tysC Γ) (XC Γ) (alC Γ) r σ' sz) 0 0 (wA (alC Γ) sz) := by
  refine w_enter (cc := cX8_leastTroubleFitting) (maxL := 4) (ret := (some .int)) (by decide) rfl (Nat.le_of_ble_eq_true rfl) ?_
  intro p e s m below meth c ls hx hb hr hlocks hml hown hts hsz hP hK hkc hN hl
  subst hsz
  generalize hav : ([.ref (Γ.2.2.1 (0)), .ref (Γ.2.2.1 (63 + 2 * i1)), .int x2] : List Value) = av at hl hts ⊢
  have hl : lv_has ls 4 [(0, .ref (Γ.2.2.1 (0))), (1, .ref (Γ.2.2.1 (63 + 2 * i1))), (2, .int x2)] := by rw [← hav] at hl; exact hl
  have j2 : ∀ (n2 : Nat), ∀ (y3 : Int32) (τ : Sg) (H : Heap) (locs : List Loc) (ls : Array Slot) (hf : f_X8_leastTroubleFitting_2 i1 x2 n2 y3 τ = some (r, σ')) (hP : va_P Γ.1 vwCl (XC Γ τ) H) (hS : va_S (wA (alC Γ) s.heap.size) s.heap H locs) (hl : lv_has ls 4 [(0, .ref (Γ.2.2.1 (0))), (1, .ref (Γ.2.2.1 (63 + 2 * i1))), (2, .int x2), (3, .int y3)]), W p l e { frames := 6, cells := 0, slots := 0, locals := 143 } s m av.toArray below meth c H locs 0 0 (MQ below (wQi Γ.1 vwCl (tysC Γ) (XC Γ) (alC Γ) r σ' s.heap.size) av.toArray s 0 0 (wA (alC Γ) s.heap.size)) (F0 m 2 ls []) := by
    intro n2
    induction n2 with
    | zero =>
      intro y3 τ H locs ls hf
      exact absurd hf (by intro h; cases h)
    | succ n2 ih2 =>
      intro y3 τ H locs ls hf hP hS hl
      unfold f_X8_leastTroubleFitting_2 at hf
      obtain ⟨g2, hf⟩ := w_oi hf
      refine lv_iload_n hx hb dX8_leastTroubleFitting_2 rfl (lv_at hl 3 rfl) ?_
      refine lv_bipush (v := (99 : Int32)) hx hb dX8_leastTroubleFitting_3 (by decide) ?_
      refine lv_icmp_gt (tgt := 27) hx hb dX8_leastTroubleFitting_5 (by decide) (fun c3 => ?_) (fun c3 => ?_)
      · replace hf := (if_pos c3).symm.trans hf
        refine lv_iconst (v := (-1 : Int32)) hx hb dX8_leastTroubleFitting_27 (by decide) ?_
        exact w_iret (X := XC Γ) hx hb hr hlocks hK hP hS rfl hf dX8_leastTroubleFitting_28
      · replace hf := (if_neg c3).symm.trans hf
        refine lv_aload_n hx hb dX8_leastTroubleFitting_8 rfl (lv_at hl 0 rfl) ?_
        refine lv_aload_n hx hb dX8_leastTroubleFitting_9 rfl (lv_at hl 1 rfl) ?_
        refine lv_iload_n hx hb dX8_leastTroubleFitting_10 rfl (lv_at hl 2 rfl) ?_
        refine lv_iconst (v := (3 : Int32)) hx hb dX8_leastTroubleFitting_11 (by decide) ?_
        refine lv_iload_n hx hb dX8_leastTroubleFitting_12 rfl (lv_at hl 3 rfl) ?_
        obtain ⟨q4, h5, hf⟩ := w_ob hf
        refine w_ci (va_runV (As := [.ref (Γ.2.2.1 (63 + 2 * i1)), .int x2, .int (3 : Int32), .int y3]) (rest := []) ⟨hx, hb, hml, hown, hts⟩ (c_X8_fits l Γ hG (i1) x2 (3 : Int32) y3 τ q4.1 q4.2 h5 H.size) (cwV 4 hts (wzV K870 K867 K868 K869 K2) rfl rfl rfl (by decide +kernel) ⟨(Nat.le_of_ble_eq_true rfl), (Nat.le_of_ble_eq_true rfl)⟩) (w_preV hK hP hkc hN hS (gC_Main Γ τ) rfl) rfl rfl hl.1 rfl (lv_room (Nat.le_of_ble_eq_true rfl)) dX8_leastTroubleFitting_13 ⟨Nat.le_refl _, Nat.le_refl _⟩) hS (fun H locs hP hS => ?_)
        refine lv_if_eq (tgt := 21) hx hb dX8_leastTroubleFitting_16 (by decide) (fun c6 => ?_) (fun c6 => ?_)
        · replace hf := (if_pos c6).symm.trans hf
          refine lv_iinc (v := (y3 + (1 : Int32))) (lv' := [(3, .int (y3 + (1 : Int32))), (0, .ref (Γ.2.2.1 (0))), (1, .ref (Γ.2.2.1 (63 + 2 * i1))), (2, .int x2)]) hx hb dX8_leastTroubleFitting_21 hl (k := 3) rfl rfl (by decide) rfl (fun ls hl => ?_)
          refine lv_goto (tgt := 2) hx hb dX8_leastTroubleFitting_24 (by decide) ?_
          exact ih2 ((y3 + (1 : Int32))) q4.2 H locs ls hf hP hS (lv_sub hl [1, 2, 3, 0] rfl)
        · replace hf := (if_neg c6).symm.trans hf
          refine lv_iload_n hx hb dX8_leastTroubleFitting_19 rfl (lv_at hl 3 rfl) ?_
          exact w_iret (X := XC Γ) hx hb hr hlocks hK hP hS rfl hf dX8_leastTroubleFitting_20
  suffices hw : ∀ (H : Heap) (locs : List Loc), va_P Γ.1 vwCl (XC Γ σ) H → va_S (wA (alC Γ) s.heap.size) s.heap H locs → W p l e { frames := 6, cells := 0, slots := 0, locals := 143 } s m av.toArray below meth c H locs 0 0 (MQ below (wQi Γ.1 vwCl (tysC Γ) (XC Γ) (alC Γ) r σ' s.heap.size) av.toArray s 0 0 (wA (alC Γ) s.heap.size)) (F0 m 0 ls []) from hw _ [] hP va_S.rf
  clear hP
  intro H locs hP hS
  unfold f_X8_leastTroubleFitting at hf
  obtain ⟨g1, hf⟩ := w_oi hf
  refine lv_iconst (v := (0 : Int32)) hx hb dX8_leastTroubleFitting_0 (by decide) ?_
  refine lv_istore_n (lv' := [(3, .int (0 : Int32)), (0, .ref (Γ.2.2.1 (0))), (1, .ref (Γ.2.2.1 (63 + 2 * i1))), (2, .int x2)]) hx hb dX8_leastTroubleFitting_1 rfl hl (by decide) rfl (fun ls hl => ?_)
  exact j2 5000 ((0 : Int32)) σ H locs ls hf hP hS (lv_sub hl [1, 2, 3, 0] rfl)
def f_X8_onesFitting_4 (i1 : Nat) : Nat → Int32 → Int32 → Sg → Option (Int32 × Sg)
  | 0, _, _, _ => none
  | n + 1, y2, y3, τ => if i1 < 4 then if (τ (11 * 0 + 3) 0) ≤ y3 then some (y2, τ) else (f_X1_takeFrom (1) (0) τ).bind fun (q4 : Sg) => (f_X8_firstOtherwise (i1) y3 q4).bind fun (q6 : Int32 × Sg) => if q6.1 = (-1 : Int32) then (f_X8_onesFitting_4 i1 n) ((y2 ||| ((1 : Int32) <<< (y3 &&& 31)))) ((y3 + (1 : Int32))) q6.2 else (f_X8_onesFitting_4 i1 n) (y2) ((y3 + (1 : Int32))) q6.2 else none
def f_X8_onesFitting (i1 : Nat) (σ : Sg) : Option (Int32 × Sg) := if i1 < 4 then f_X8_onesFitting_4 i1 5000 ((0 : Int32)) ((0 : Int32)) σ else none
set_option maxHeartbeats 40000000 in
set_option maxRecDepth 100000 in
theorem c_X8_onesFitting (l : Launch) (Γ : Geo) (hG : okC Γ) (i1 : Nat) (σ : Sg) (r : Int32) (σ' : Sg) (hf : f_X8_onesFitting i1 σ = some (r, σ')) (sz : Nat) : Met l yX8_onesFitting (wz yX8_onesFitting cX8_onesFitting 4 (some .int)) { frames := 5, cells := 0, slots := 0, locals := 119 } (va_Pc [.ref (Γ.2.2.1 (0)), .ref (Γ.2.2.1 (63 + 2 * i1))] (wPre Γ.1 vwCl (tysC Γ) (XC Γ) (alC Γ) Γ.2.2.2 σ sz)) (wQi Γ.1 vwCl (tysC Γ) (XC Γ) (alC Γ) r σ' sz) 0 0 (wA (alC Γ) sz) := by
  refine w_enter (cc := cX8_onesFitting) (maxL := 4) (ret := (some .int)) (by decide) rfl (Nat.le_of_ble_eq_true rfl) ?_
  intro p e s m below meth c ls hx hb hr hlocks hml hown hts hsz hP hK hkc hN hl
  subst hsz
  generalize hav : ([.ref (Γ.2.2.1 (0)), .ref (Γ.2.2.1 (63 + 2 * i1))] : List Value) = av at hl hts ⊢
  have hl : lv_has ls 4 [(0, .ref (Γ.2.2.1 (0))), (1, .ref (Γ.2.2.1 (63 + 2 * i1)))] := by rw [← hav] at hl; exact hl
  have j4 : ∀ (n4 : Nat), ∀ (y2 : Int32) (y3 : Int32) (τ : Sg) (H : Heap) (locs : List Loc) (ls : Array Slot) (hf : f_X8_onesFitting_4 i1 n4 y2 y3 τ = some (r, σ')) (hP : va_P Γ.1 vwCl (XC Γ τ) H) (hS : va_S (wA (alC Γ) s.heap.size) s.heap H locs) (hl : lv_has ls 4 [(0, .ref (Γ.2.2.1 (0))), (1, .ref (Γ.2.2.1 (63 + 2 * i1))), (2, .int y2), (3, .int y3)]), W p l e { frames := 5, cells := 0, slots := 0, locals := 119 } s m av.toArray below meth c H locs 0 0 (MQ below (wQi Γ.1 vwCl (tysC Γ) (XC Γ) (alC Γ) r σ' s.heap.size) av.toArray s 0 0 (wA (alC Γ) s.heap.size)) (F0 m 4 ls []) := by
    intro n4
    induction n4 with
    | zero =>
      intro y2 y3 τ H locs ls hf
      exact absurd hf (by intro h; cases h)
    | succ n4 ih4 =>
      intro y2 y3 τ H locs ls hf hP hS hl
      unfold f_X8_onesFitting_4 at hf
      obtain ⟨g2, hf⟩ := w_oi hf
      refine lv_iload_n hx hb dX8_onesFitting_4 rfl (lv_at hl 3 rfl) ?_
      refine lv_aload_n hx hb dX8_onesFitting_5 rfl (lv_at hl 0 rfl) ?_
      refine va_get (D := Γ.1) (ci := 7) (v := .ref (Γ.2.2.1 (1 + 8 * 0))) (C := RX8) (T := TX8) (N := 9) hx hb hts iX8 hown hK hP (0) (gC_Main Γ τ) rfl 0 (by decide) (hts (.fieldLink RX8 10 "OtherHalfOfNight" "now" "LOtherHalfOfNight$House;") (wzm K15)) (fun _ h9 => h9) rfl dX8_onesFitting_6 ?_
      refine va_get (D := Γ.1) (ci := 1) (v := .int (τ (11 * 0 + 3) 0)) (C := RX1) (T := TX1) (N := 11) hx hb hts iX1 hown hK hP (1 + 8 * 0) (gC_House Γ τ 0 (by decide)) rfl 3 (by decide) (hts (.fieldLink RX8 236 "OtherHalfOfNight$House" "ones" "I") (wzm K887)) (fun _ h9 => h9) rfl dX8_onesFitting_9 ?_
      refine lv_icmp_ge (tgt := 48) hx hb dX8_onesFitting_12 (by decide) (fun c3 => ?_) (fun c3 => ?_)
      · replace hf := (if_pos c3).symm.trans hf
        refine lv_iload_n hx hb dX8_onesFitting_48 rfl (lv_at hl 2 rfl) ?_
        exact w_iret (X := XC Γ) hx hb hr hlocks hK hP hS rfl hf dX8_onesFitting_49
      · replace hf := (if_neg c3).symm.trans hf
        refine lv_aload_n hx hb dX8_onesFitting_15 rfl (lv_at hl 0 rfl) ?_
        refine va_get (D := Γ.1) (ci := 7) (v := .ref (Γ.2.2.1 (1 + 8 * 1))) (C := RX8) (T := TX8) (N := 9) hx hb hts iX8 hown hK hP (0) (gC_Main Γ τ) rfl 1 (by decide) (hts (.fieldLink RX8 16 "OtherHalfOfNight" "thought" "LOtherHalfOfNight$House;") (wzm K16)) (fun _ h9 => h9) rfl dX8_onesFitting_16 ?_
        refine lv_aload_n hx hb dX8_onesFitting_19 rfl (lv_at hl 0 rfl) ?_
        refine va_get (D := Γ.1) (ci := 7) (v := .ref (Γ.2.2.1 (1 + 8 * 0))) (C := RX8) (T := TX8) (N := 9) hx hb hts iX8 hown hK hP (0) (gC_Main Γ τ) rfl 0 (by decide) (hts (.fieldLink RX8 10 "OtherHalfOfNight" "now" "LOtherHalfOfNight$House;") (wzm K15)) (fun _ h9 => h9) rfl dX8_onesFitting_20 ?_
        obtain ⟨q4, h5, hf⟩ := w_ob hf
        refine w_cv (va_runV (As := [.ref (Γ.2.2.1 (1 + 8 * 0))]) (rest := []) ⟨hx, hb, hml, hown, hts⟩ (c_X1_takeFrom l Γ hG (1) (0) τ q4 h5 H.size) (cwV 1 hts (wzV K703 K700 K701 K702 K14) rfl rfl rfl (by decide +kernel) ⟨(Nat.le_of_ble_eq_true rfl), (Nat.le_of_ble_eq_true rfl)⟩) (w_preV hK hP hkc hN hS (gC_House Γ τ 1 (by decide)) rfl) rfl rfl hl.1 rfl (lv_room (Nat.le_of_ble_eq_true rfl)) dX8_onesFitting_23 ⟨Nat.le_refl _, Nat.le_refl _⟩) hS (fun H locs hP hS => ?_)
        refine lv_aload_n hx hb dX8_onesFitting_26 rfl (lv_at hl 0 rfl) ?_
        refine lv_aload_n hx hb dX8_onesFitting_27 rfl (lv_at hl 1 rfl) ?_
        refine lv_iload_n hx hb dX8_onesFitting_28 rfl (lv_at hl 3 rfl) ?_
        obtain ⟨q6, h7, hf⟩ := w_ob hf
        refine w_ci (va_runV (As := [.ref (Γ.2.2.1 (63 + 2 * i1)), .int y3]) (rest := []) ⟨hx, hb, hml, hown, hts⟩ (c_X8_firstOtherwise l Γ hG (i1) y3 q4 q6.1 q6.2 h7 H.size) (cwV 2 hts (wzV K861 K858 K859 K860 K2) rfl rfl rfl (by decide +kernel) ⟨(Nat.le_of_ble_eq_true rfl), (Nat.le_of_ble_eq_true rfl)⟩) (w_preV hK hP hkc hN hS (gC_Main Γ q4) rfl) rfl rfl hl.1 rfl (lv_room (Nat.le_of_ble_eq_true rfl)) dX8_onesFitting_29 ⟨Nat.le_refl _, Nat.le_refl _⟩) hS (fun H locs hP hS => ?_)
        refine lv_iconst (v := (-1 : Int32)) hx hb dX8_onesFitting_32 (by decide) ?_
        refine lv_icmp_ne (tgt := 42) hx hb dX8_onesFitting_33 (by decide) (fun c8 => ?_) (fun c8 => ?_)
        · replace hf := (if_neg c8).symm.trans hf
          refine lv_iinc (v := (y3 + (1 : Int32))) (lv' := [(3, .int (y3 + (1 : Int32))), (0, .ref (Γ.2.2.1 (0))), (1, .ref (Γ.2.2.1 (63 + 2 * i1))), (2, .int y2)]) hx hb dX8_onesFitting_42 hl (k := 3) rfl rfl (by decide) rfl (fun ls hl => ?_)
          refine lv_goto (tgt := 4) hx hb dX8_onesFitting_45 (by decide) ?_
          exact ih4 (y2) ((y3 + (1 : Int32))) q6.2 H locs ls hf hP hS (lv_sub hl [1, 2, 3, 0] rfl)
        · replace hf := (if_pos c8).symm.trans hf
          refine lv_iload_n hx hb dX8_onesFitting_36 rfl (lv_at hl 2 rfl) ?_
          refine lv_iconst (v := (1 : Int32)) hx hb dX8_onesFitting_37 (by decide) ?_
          refine lv_iload_n hx hb dX8_onesFitting_38 rfl (lv_at hl 3 rfl) ?_
          refine lv_ishl hx hb dX8_onesFitting_39 ?_
          refine lv_ior hx hb dX8_onesFitting_40 ?_
          refine lv_istore_n (lv' := [(2, .int (y2 ||| ((1 : Int32) <<< (y3 &&& 31)))), (0, .ref (Γ.2.2.1 (0))), (1, .ref (Γ.2.2.1 (63 + 2 * i1))), (3, .int y3)]) hx hb dX8_onesFitting_41 rfl hl (by decide) rfl (fun ls hl => ?_)
          refine lv_iinc (v := (y3 + (1 : Int32))) (lv' := [(3, .int (y3 + (1 : Int32))), (2, .int (y2 ||| ((1 : Int32) <<< (y3 &&& 31)))), (0, .ref (Γ.2.2.1 (0))), (1, .ref (Γ.2.2.1 (63 + 2 * i1)))]) hx hb dX8_onesFitting_42 hl (k := 3) rfl rfl (by decide) rfl (fun ls hl => ?_)
          refine lv_goto (tgt := 4) hx hb dX8_onesFitting_45 (by decide) ?_
          exact ih4 ((y2 ||| ((1 : Int32) <<< (y3 &&& 31)))) ((y3 + (1 : Int32))) q6.2 H locs ls hf hP hS (lv_sub hl [2, 3, 1, 0] rfl)
  suffices hw : ∀ (H : Heap) (locs : List Loc), va_P Γ.1 vwCl (XC Γ σ) H → va_S (wA (alC Γ) s.heap.size) s.heap H locs → W p l e { frames := 5, cells := 0, slots := 0, locals := 119 } s m av.toArray below meth c H locs 0 0 (MQ below (wQi Γ.1 vwCl (tysC Γ) (XC Γ) (alC Γ) r σ' s.heap.size) av.toArray s 0 0 (wA (alC Γ) s.heap.size)) (F0 m 0 ls []) from hw _ [] hP va_S.rf
  clear hP
  intro H locs hP hS
  unfold f_X8_onesFitting at hf
  obtain ⟨g1, hf⟩ := w_oi hf
  refine lv_iconst (v := (0 : Int32)) hx hb dX8_onesFitting_0 (by decide) ?_
  refine lv_istore_n (lv' := [(2, .int (0 : Int32)), (0, .ref (Γ.2.2.1 (0))), (1, .ref (Γ.2.2.1 (63 + 2 * i1)))]) hx hb dX8_onesFitting_1 rfl hl (by decide) rfl (fun ls hl => ?_)
  refine lv_iconst (v := (0 : Int32)) hx hb dX8_onesFitting_2 (by decide) ?_
  refine lv_istore_n (lv' := [(3, .int (0 : Int32)), (2, .int (0 : Int32)), (0, .ref (Γ.2.2.1 (0))), (1, .ref (Γ.2.2.1 (63 + 2 * i1)))]) hx hb dX8_onesFitting_3 rfl hl (by decide) rfl (fun ls hl => ?_)
  exact j4 5000 ((0 : Int32)) ((0 : Int32)) σ H locs ls hf hP hS (lv_sub hl [2, 3, 1, 0] rfl)
def f_X8_tells (x1 : Int32) (x2 : Int32) (x3 : Int32) (σ : Sg) : Option (Int32 × Sg) := (f_X8_isSheet x1 σ).bind fun (q1 : Int32 × Sg) => if q1.1 = 0 then some ((-2 : Int32), q1.2) else (f_X1_lodges (0) x2 q1.2).bind fun (q4 : Int32 × Sg) => if q4.1 = 0 then some ((-2 : Int32), q4.2) else if x3 < 0 then some ((-2 : Int32), q4.2) else if x3 ≤ (7 : Int32) then if okI x1 4 then (f_X5_isMissing ((x1).toNatClampNeg) q4.2).bind fun (q10 : Int32 × Sg) => if q10.1 = 0 then if (q10.2 (74 + 3 * ((x1).toNatClampNeg)) 0) ≤ (20 : Int32) then if x3 = 0 then (f_X1_takeFrom (1) (0) q10.2).bind fun (q15 : Sg) => (f_X8_firstOtherwise ((x1).toNatClampNeg) x2 q15).bind fun (q17 : Int32 × Sg) => some (q17.1, q17.2) else if x3 = 1 then (f_X8_fitting ((x1).toNatClampNeg) x2 (7 : Int32) (5 : Int32) q10.2).bind fun (q20 : Int32 × Sg) => some (q20.1, q20.2) else if x3 = 2 then (f_X8_fitting ((x1).toNatClampNeg) x2 (2 : Int32) (9 : Int32) q10.2).bind fun (q23 : Int32 × Sg) => some (q23.1, q23.2) else if x3 = 3 then (f_X8_troublesFitting ((x1).toNatClampNeg) x2 q10.2).bind fun (q26 : Int32 × Sg) => some (q26.1, q26.2) else if x3 = 4 then (f_X8_leastTroubleFitting ((x1).toNatClampNeg) x2 q10.2).bind fun (q29 : Int32 × Sg) => some (q29.1, q29.2) else if x3 = 5 then (f_X8_fitting ((x1).toNatClampNeg) x2 (1 : Int32) (23 : Int32) q10.2).bind fun (q32 : Int32 × Sg) => some (q32.1, q32.2) else if x3 = 6 then (f_X2_size q10.2).bind fun (q35 : Int32 × Sg) => (f_X8_fitting ((x1).toNatClampNeg) x2 (11 : Int32) (q35.1 - (1 : Int32)) q35.2).bind fun (q37 : Int32 × Sg) => some (q37.1, q37.2) else (f_X8_onesFitting ((x1).toNatClampNeg) q10.2).bind fun (q39 : Int32 × Sg) => some (q39.1, q39.2) else some ((-2 : Int32), q10.2) else some ((-11 : Int32), q10.2) else none else some ((-2 : Int32), q4.2)
set_option maxHeartbeats 40000000 in
set_option maxRecDepth 100000 in
theorem c_X8_tells (l : Launch) (Γ : Geo) (hG : okC Γ) (x1 : Int32) (x2 : Int32) (x3 : Int32) (σ : Sg) (r : Int32) (σ' : Sg) (hf : f_X8_tells x1 x2 x3 σ = some (r, σ')) (sz : Nat) : Met l yX8_tells (wz yX8_tells cX8_tells 5 (some .int)) { frames := 7, cells := 0, slots := 0, locals := 169 } (va_Pc [.ref (Γ.2.2.1 (0)), .int x1, .int x2, .int x3] (wPre Γ.1 vwCl (tysC Γ) (XC Γ) (alC Γ) Γ.2.2.2 σ sz)) (wQi Γ.1 vwCl (tysC Γ) (XC Γ) (alC Γ) r σ' sz) 0 0 (wA (alC Γ) sz) := by
  refine w_enter (cc := cX8_tells) (maxL := 5) (ret := (some .int)) (by decide) rfl (Nat.le_of_ble_eq_true rfl) ?_
  intro p e s m below meth c ls hx hb hr hlocks hml hown hts hsz hP hK hkc hN hl
  subst hsz
  generalize hav : ([.ref (Γ.2.2.1 (0)), .int x1, .int x2, .int x3] : List Value) = av at hl hts ⊢
  have hl : lv_has ls 5 [(0, .ref (Γ.2.2.1 (0))), (1, .int x1), (2, .int x2), (3, .int x3)] := by rw [← hav] at hl; exact hl
  suffices hw : ∀ (H : Heap) (locs : List Loc), va_P Γ.1 vwCl (XC Γ σ) H → va_S (wA (alC Γ) s.heap.size) s.heap H locs → W p l e { frames := 7, cells := 0, slots := 0, locals := 169 } s m av.toArray below meth c H locs 0 0 (MQ below (wQi Γ.1 vwCl (tysC Γ) (XC Γ) (alC Γ) r σ' s.heap.size) av.toArray s 0 0 (wA (alC Γ) s.heap.size)) (F0 m 0 ls []) from hw _ [] hP va_S.rf
  clear hP
  intro H locs hP hS
  unfold f_X8_tells at hf
  refine lv_iload_n hx hb dX8_tells_0 rfl (lv_at hl 1 rfl) ?_
  obtain ⟨q1, h2, hf⟩ := w_ob hf
  refine w_ci (va_runS (As := [.int x1]) (rest := []) ⟨hx, hb, hml, hown, hts⟩ (c_X8_isSheet l Γ hG x1 σ q1.1 q1.2 h2 H.size) (cwS 1 hts (wzS K853 K851 K852 K2) rfl rfl rfl (by decide +kernel) ⟨(Nat.le_of_ble_eq_true rfl), (Nat.le_of_ble_eq_true rfl)⟩) (w_pre hK hP hkc hN hS) rfl rfl hl.1 rfl (lv_room (Nat.le_of_ble_eq_true rfl)) dX8_tells_1 ⟨Nat.le_refl _, Nat.le_refl _⟩) hS (fun H locs hP hS => ?_)
  refine lv_if_eq (tgt := 28) hx hb dX8_tells_4 (by decide) (fun c3 => ?_) (fun c3 => ?_)
  · replace hf := (if_pos c3).symm.trans hf
    refine lv_bipush (v := (-2 : Int32)) hx hb dX8_tells_28 (by decide) ?_
    exact w_iret (X := XC Γ) hx hb hr hlocks hK hP hS rfl hf dX8_tells_30
  · replace hf := (if_neg c3).symm.trans hf
    refine lv_aload_n hx hb dX8_tells_7 rfl (lv_at hl 0 rfl) ?_
    refine va_get (D := Γ.1) (ci := 7) (v := .ref (Γ.2.2.1 (1 + 8 * 0))) (C := RX8) (T := TX8) (N := 9) hx hb hts iX8 hown hK hP (0) (gC_Main Γ q1.2) rfl 0 (by decide) (hts (.fieldLink RX8 10 "OtherHalfOfNight" "now" "LOtherHalfOfNight$House;") (wzm K15)) (fun _ h9 => h9) rfl dX8_tells_8 ?_
    refine lv_iload_n hx hb dX8_tells_11 rfl (lv_at hl 2 rfl) ?_
    obtain ⟨q4, h5, hf⟩ := w_ob hf
    refine w_ci (va_runV (As := [.int x2]) (rest := []) ⟨hx, hb, hml, hown, hts⟩ (c_X1_lodges l Γ hG (0) x2 q1.2 q4.1 q4.2 h5 H.size) (cwV 1 hts (wzV K144 K332 K142 K143 K14) rfl rfl rfl (by decide +kernel) ⟨(Nat.le_of_ble_eq_true rfl), (Nat.le_of_ble_eq_true rfl)⟩) (w_preV hK hP hkc hN hS (gC_House Γ q1.2 0 (by decide)) rfl) rfl rfl hl.1 rfl (lv_room (Nat.le_of_ble_eq_true rfl)) dX8_tells_12 ⟨Nat.le_refl _, Nat.le_refl _⟩) hS (fun H locs hP hS => ?_)
    refine lv_if_eq (tgt := 28) hx hb dX8_tells_15 (by decide) (fun c6 => ?_) (fun c6 => ?_)
    · replace hf := (if_pos c6).symm.trans hf
      refine lv_bipush (v := (-2 : Int32)) hx hb dX8_tells_28 (by decide) ?_
      exact w_iret (X := XC Γ) hx hb hr hlocks hK hP hS rfl hf dX8_tells_30
    · replace hf := (if_neg c6).symm.trans hf
      refine lv_iload_n hx hb dX8_tells_18 rfl (lv_at hl 3 rfl) ?_
      refine lv_if_lt (tgt := 28) hx hb dX8_tells_19 (by decide) (fun c7 => ?_) (fun c7 => ?_)
      · replace hf := (if_pos c7).symm.trans hf
        refine lv_bipush (v := (-2 : Int32)) hx hb dX8_tells_28 (by decide) ?_
        exact w_iret (X := XC Γ) hx hb hr hlocks hK hP hS rfl hf dX8_tells_30
      · replace hf := (if_neg c7).symm.trans hf
        refine lv_iload_n hx hb dX8_tells_22 rfl (lv_at hl 3 rfl) ?_
        refine lv_bipush (v := (7 : Int32)) hx hb dX8_tells_23 (by decide) ?_
        refine lv_icmp_le (tgt := 31) hx hb dX8_tells_25 (by decide) (fun c8 => ?_) (fun c8 => ?_)
        · replace hf := (if_pos c8).symm.trans hf
          refine lv_aload_n hx hb dX8_tells_31 rfl (lv_at hl 0 rfl) ?_
          refine va_get (D := Γ.1) (ci := 7) (v := .ref (Γ.2.2.1 (62))) (C := RX8) (T := TX8) (N := 9) hx hb hts iX8 hown hK hP (0) (gC_Main Γ q4.2) rfl 8 (by decide) (hts (.fieldLink RX8 52 "OtherHalfOfNight" "sheets" "[LOtherHalfOfNight$Sheet;") (wzm K35)) (fun _ h9 => h9) rfl dX8_tells_32 ?_
          refine lv_iload_n hx hb dX8_tells_35 rfl (lv_at hl 1 rfl) ?_
          obtain ⟨g9, hf⟩ := w_oi hf
          refine w_aaldq (D := Γ.1) (tys := (tysC Γ)) (g := fun j => Γ.2.2.1 (63 + 2 * j)) hx hb hK hP (62) 3 (gC_sheets Γ q4.2) rfl g9 dX8_tells_36 ?_
          refine lv_astore (lv' := [(4, .ref (Γ.2.2.1 (63 + 2 * ((x1).toNatClampNeg)))), (0, .ref (Γ.2.2.1 (0))), (1, .int x1), (2, .int x2), (3, .int x3)]) hx hb dX8_tells_37 hl (by decide) rfl (fun ls hl => ?_)
          refine lv_aload hx hb dX8_tells_39 (lv_at hl 0 rfl) ?_
          obtain ⟨q10, h11, hf⟩ := w_ob hf
          refine w_ci (va_runV (As := []) (rest := []) ⟨hx, hb, hml, hown, hts⟩ (c_X5_isMissing l Γ hG ((x1).toNatClampNeg) q4.2 q10.1 q10.2 h11 H.size) (cwV 0 hts (wzV K857 K854 K855 K856 K37) rfl rfl rfl (by decide +kernel) ⟨(Nat.le_of_ble_eq_true rfl), (Nat.le_of_ble_eq_true rfl)⟩) (w_preV hK hP hkc hN hS (gC_Sheet Γ q4.2 ((x1).toNatClampNeg) (w_lt g9)) rfl) rfl rfl hl.1 rfl (lv_room (Nat.le_of_ble_eq_true rfl)) dX8_tells_41 ⟨Nat.le_refl _, Nat.le_refl _⟩) hS (fun H locs hP hS => ?_)
          refine lv_if_eq (tgt := 50) hx hb dX8_tells_44 (by decide) (fun c12 => ?_) (fun c12 => ?_)
          · replace hf := (if_pos c12).symm.trans hf
            refine lv_aload hx hb dX8_tells_50 (lv_at hl 0 rfl) ?_
            refine va_get (D := Γ.1) (ci := 5) (v := .int (q10.2 (74 + 3 * ((x1).toNatClampNeg)) 0)) (C := RX5) (T := TX5) (N := 3) hx hb hts iX5 hown hK hP (63 + 2 * ((x1).toNatClampNeg)) (gC_Sheet Γ q10.2 ((x1).toNatClampNeg) (w_lt g9)) rfl 1 (by decide) (hts (.fieldLink RX8 201 "OtherHalfOfNight$Sheet" "size" "I") (wzm K850)) (fun _ h9 => h9) rfl dX8_tells_52 ?_
            refine lv_bipush (v := (20 : Int32)) hx hb dX8_tells_55 (by decide) ?_
            refine lv_icmp_le (tgt := 63) hx hb dX8_tells_57 (by decide) (fun c13 => ?_) (fun c13 => ?_)
            · replace hf := (if_pos c13).symm.trans hf
              refine lv_iload_n hx hb dX8_tells_63 rfl (lv_at hl 4 rfl) ?_
              by_cases c14 : x3 = 0
              · replace hf := (if_pos c14).symm.trans hf
                refine lv_tableIn (off := 44) (tgt := 108) hx hb dX8_tells_64 (by rw [c14]; decide) (by rw [c14]; decide) (by rw [c14]; rfl) (by decide) ?_
                refine lv_aload_n hx hb dX8_tells_108 rfl (lv_at hl 1 rfl) ?_
                refine va_get (D := Γ.1) (ci := 7) (v := .ref (Γ.2.2.1 (1 + 8 * 1))) (C := RX8) (T := TX8) (N := 9) hx hb hts iX8 hown hK hP (0) (gC_Main Γ q10.2) rfl 1 (by decide) (hts (.fieldLink RX8 16 "OtherHalfOfNight" "thought" "LOtherHalfOfNight$House;") (wzm K16)) (fun _ h9 => h9) rfl dX8_tells_109 ?_
                refine lv_aload_n hx hb dX8_tells_112 rfl (lv_at hl 1 rfl) ?_
                refine va_get (D := Γ.1) (ci := 7) (v := .ref (Γ.2.2.1 (1 + 8 * 0))) (C := RX8) (T := TX8) (N := 9) hx hb hts iX8 hown hK hP (0) (gC_Main Γ q10.2) rfl 0 (by decide) (hts (.fieldLink RX8 10 "OtherHalfOfNight" "now" "LOtherHalfOfNight$House;") (wzm K15)) (fun _ h9 => h9) rfl dX8_tells_113 ?_
                obtain ⟨q15, h16, hf⟩ := w_ob hf
                refine w_cv (va_runV (As := [.ref (Γ.2.2.1 (1 + 8 * 0))]) (rest := []) ⟨hx, hb, hml, hown, hts⟩ (c_X1_takeFrom l Γ hG (1) (0) q10.2 q15 h16 H.size) (cwV 1 hts (wzV K703 K700 K701 K702 K14) rfl rfl rfl (by decide +kernel) ⟨(Nat.le_of_ble_eq_true rfl), (Nat.le_of_ble_eq_true rfl)⟩) (w_preV hK hP hkc hN hS (gC_House Γ q10.2 1 (by decide)) rfl) rfl rfl hl.1 rfl (lv_room (Nat.le_of_ble_eq_true rfl)) dX8_tells_116 ⟨Nat.le_refl _, Nat.le_refl _⟩) hS (fun H locs hP hS => ?_)
                refine lv_aload_n hx hb dX8_tells_119 rfl (lv_at hl 1 rfl) ?_
                refine lv_aload hx hb dX8_tells_120 (lv_at hl 0 rfl) ?_
                refine lv_iload_n hx hb dX8_tells_122 rfl (lv_at hl 3 rfl) ?_
                obtain ⟨q17, h18, hf⟩ := w_ob hf
                refine w_ci (va_runV (As := [.ref (Γ.2.2.1 (63 + 2 * ((x1).toNatClampNeg))), .int x2]) (rest := []) ⟨hx, hb, hml, hown, hts⟩ (c_X8_firstOtherwise l Γ hG ((x1).toNatClampNeg) x2 q15 q17.1 q17.2 h18 H.size) (cwV 2 hts (wzV K861 K858 K859 K860 K2) rfl rfl rfl (by decide +kernel) ⟨(Nat.le_of_ble_eq_true rfl), (Nat.le_of_ble_eq_true rfl)⟩) (w_preV hK hP hkc hN hS (gC_Main Γ q15) rfl) rfl rfl hl.1 rfl (lv_room (Nat.le_of_ble_eq_true rfl)) dX8_tells_123 ⟨Nat.le_refl _, Nat.le_refl _⟩) hS (fun H locs hP hS => ?_)
                exact w_iret (X := XC Γ) hx hb hr hlocks hK hP hS rfl hf dX8_tells_126
              · replace hf := (if_neg c14).symm.trans hf
                by_cases c19 : x3 = 1
                · replace hf := (if_pos c19).symm.trans hf
                  refine lv_tableIn (off := 63) (tgt := 127) hx hb dX8_tells_64 (by rw [c19]; decide) (by rw [c19]; decide) (by rw [c19]; rfl) (by decide) ?_
                  refine lv_aload_n hx hb dX8_tells_127 rfl (lv_at hl 1 rfl) ?_
                  refine lv_aload hx hb dX8_tells_128 (lv_at hl 0 rfl) ?_
                  refine lv_iload_n hx hb dX8_tells_130 rfl (lv_at hl 3 rfl) ?_
                  refine lv_bipush (v := (7 : Int32)) hx hb dX8_tells_131 (by decide) ?_
                  refine lv_iconst (v := (5 : Int32)) hx hb dX8_tells_133 (by decide) ?_
                  obtain ⟨q20, h21, hf⟩ := w_ob hf
                  refine w_ci (va_runV (As := [.ref (Γ.2.2.1 (63 + 2 * ((x1).toNatClampNeg))), .int x2, .int (7 : Int32), .int (5 : Int32)]) (rest := []) ⟨hx, hb, hml, hown, hts⟩ (c_X8_fitting l Γ hG ((x1).toNatClampNeg) x2 (7 : Int32) (5 : Int32) q10.2 q20.1 q20.2 h21 H.size) (cwV 4 hts (wzV K866 K863 K864 K865 K2) rfl rfl rfl (by decide +kernel) ⟨(Nat.le_of_ble_eq_true rfl), (Nat.le_of_ble_eq_true rfl)⟩) (w_preV hK hP hkc hN hS (gC_Main Γ q10.2) rfl) rfl rfl hl.1 rfl (lv_room (Nat.le_of_ble_eq_true rfl)) dX8_tells_134 ⟨Nat.le_refl _, Nat.le_refl _⟩) hS (fun H locs hP hS => ?_)
                  exact w_iret (X := XC Γ) hx hb hr hlocks hK hP hS rfl hf dX8_tells_137
                · replace hf := (if_neg c19).symm.trans hf
                  by_cases c22 : x3 = 2
                  · replace hf := (if_pos c22).symm.trans hf
                    refine lv_tableIn (off := 74) (tgt := 138) hx hb dX8_tells_64 (by rw [c22]; decide) (by rw [c22]; decide) (by rw [c22]; rfl) (by decide) ?_
                    refine lv_aload_n hx hb dX8_tells_138 rfl (lv_at hl 1 rfl) ?_
                    refine lv_aload hx hb dX8_tells_139 (lv_at hl 0 rfl) ?_
                    refine lv_iload_n hx hb dX8_tells_141 rfl (lv_at hl 3 rfl) ?_
                    refine lv_iconst (v := (2 : Int32)) hx hb dX8_tells_142 (by decide) ?_
                    refine lv_bipush (v := (9 : Int32)) hx hb dX8_tells_143 (by decide) ?_
                    obtain ⟨q23, h24, hf⟩ := w_ob hf
                    refine w_ci (va_runV (As := [.ref (Γ.2.2.1 (63 + 2 * ((x1).toNatClampNeg))), .int x2, .int (2 : Int32), .int (9 : Int32)]) (rest := []) ⟨hx, hb, hml, hown, hts⟩ (c_X8_fitting l Γ hG ((x1).toNatClampNeg) x2 (2 : Int32) (9 : Int32) q10.2 q23.1 q23.2 h24 H.size) (cwV 4 hts (wzV K866 K863 K864 K865 K2) rfl rfl rfl (by decide +kernel) ⟨(Nat.le_of_ble_eq_true rfl), (Nat.le_of_ble_eq_true rfl)⟩) (w_preV hK hP hkc hN hS (gC_Main Γ q10.2) rfl) rfl rfl hl.1 rfl (lv_room (Nat.le_of_ble_eq_true rfl)) dX8_tells_145 ⟨Nat.le_refl _, Nat.le_refl _⟩) hS (fun H locs hP hS => ?_)
                    exact w_iret (X := XC Γ) hx hb hr hlocks hK hP hS rfl hf dX8_tells_148
                  · replace hf := (if_neg c22).symm.trans hf
                    by_cases c25 : x3 = 3
                    · replace hf := (if_pos c25).symm.trans hf
                      refine lv_tableIn (off := 85) (tgt := 149) hx hb dX8_tells_64 (by rw [c25]; decide) (by rw [c25]; decide) (by rw [c25]; rfl) (by decide) ?_
                      refine lv_aload_n hx hb dX8_tells_149 rfl (lv_at hl 1 rfl) ?_
                      refine lv_aload hx hb dX8_tells_150 (lv_at hl 0 rfl) ?_
                      refine lv_iload_n hx hb dX8_tells_152 rfl (lv_at hl 3 rfl) ?_
                      obtain ⟨q26, h27, hf⟩ := w_ob hf
                      refine w_ci (va_runV (As := [.ref (Γ.2.2.1 (63 + 2 * ((x1).toNatClampNeg))), .int x2]) (rest := []) ⟨hx, hb, hml, hown, hts⟩ (c_X8_troublesFitting l Γ hG ((x1).toNatClampNeg) x2 q10.2 q26.1 q26.2 h27 H.size) (cwV 2 hts (wzV K874 K871 K872 K873 K2) rfl rfl rfl (by decide +kernel) ⟨(Nat.le_of_ble_eq_true rfl), (Nat.le_of_ble_eq_true rfl)⟩) (w_preV hK hP hkc hN hS (gC_Main Γ q10.2) rfl) rfl rfl hl.1 rfl (lv_room (Nat.le_of_ble_eq_true rfl)) dX8_tells_153 ⟨Nat.le_refl _, Nat.le_refl _⟩) hS (fun H locs hP hS => ?_)
                      exact w_iret (X := XC Γ) hx hb hr hlocks hK hP hS rfl hf dX8_tells_156
                    · replace hf := (if_neg c25).symm.trans hf
                      by_cases c28 : x3 = 4
                      · replace hf := (if_pos c28).symm.trans hf
                        refine lv_tableIn (off := 93) (tgt := 157) hx hb dX8_tells_64 (by rw [c28]; decide) (by rw [c28]; decide) (by rw [c28]; rfl) (by decide) ?_
                        refine lv_aload_n hx hb dX8_tells_157 rfl (lv_at hl 1 rfl) ?_
                        refine lv_aload hx hb dX8_tells_158 (lv_at hl 0 rfl) ?_
                        refine lv_iload_n hx hb dX8_tells_160 rfl (lv_at hl 3 rfl) ?_
                        obtain ⟨q29, h30, hf⟩ := w_ob hf
                        refine w_ci (va_runV (As := [.ref (Γ.2.2.1 (63 + 2 * ((x1).toNatClampNeg))), .int x2]) (rest := []) ⟨hx, hb, hml, hown, hts⟩ (c_X8_leastTroubleFitting l Γ hG ((x1).toNatClampNeg) x2 q10.2 q29.1 q29.2 h30 H.size) (cwV 2 hts (wzV K878 K875 K876 K877 K2) rfl rfl rfl (by decide +kernel) ⟨(Nat.le_of_ble_eq_true rfl), (Nat.le_of_ble_eq_true rfl)⟩) (w_preV hK hP hkc hN hS (gC_Main Γ q10.2) rfl) rfl rfl hl.1 rfl (lv_room (Nat.le_of_ble_eq_true rfl)) dX8_tells_161 ⟨Nat.le_refl _, Nat.le_refl _⟩) hS (fun H locs hP hS => ?_)
                        exact w_iret (X := XC Γ) hx hb hr hlocks hK hP hS rfl hf dX8_tells_164
                      · replace hf := (if_neg c28).symm.trans hf
                        by_cases c31 : x3 = 5
                        · replace hf := (if_pos c31).symm.trans hf
                          refine lv_tableIn (off := 101) (tgt := 165) hx hb dX8_tells_64 (by rw [c31]; decide) (by rw [c31]; decide) (by rw [c31]; rfl) (by decide) ?_
                          refine lv_aload_n hx hb dX8_tells_165 rfl (lv_at hl 1 rfl) ?_
                          refine lv_aload hx hb dX8_tells_166 (lv_at hl 0 rfl) ?_
                          refine lv_iload_n hx hb dX8_tells_168 rfl (lv_at hl 3 rfl) ?_
                          refine lv_iconst (v := (1 : Int32)) hx hb dX8_tells_169 (by decide) ?_
                          refine lv_bipush (v := (23 : Int32)) hx hb dX8_tells_170 (by decide) ?_
                          obtain ⟨q32, h33, hf⟩ := w_ob hf
                          refine w_ci (va_runV (As := [.ref (Γ.2.2.1 (63 + 2 * ((x1).toNatClampNeg))), .int x2, .int (1 : Int32), .int (23 : Int32)]) (rest := []) ⟨hx, hb, hml, hown, hts⟩ (c_X8_fitting l Γ hG ((x1).toNatClampNeg) x2 (1 : Int32) (23 : Int32) q10.2 q32.1 q32.2 h33 H.size) (cwV 4 hts (wzV K866 K863 K864 K865 K2) rfl rfl rfl (by decide +kernel) ⟨(Nat.le_of_ble_eq_true rfl), (Nat.le_of_ble_eq_true rfl)⟩) (w_preV hK hP hkc hN hS (gC_Main Γ q10.2) rfl) rfl rfl hl.1 rfl (lv_room (Nat.le_of_ble_eq_true rfl)) dX8_tells_172 ⟨Nat.le_refl _, Nat.le_refl _⟩) hS (fun H locs hP hS => ?_)
                          exact w_iret (X := XC Γ) hx hb hr hlocks hK hP hS rfl hf dX8_tells_175
                        · replace hf := (if_neg c31).symm.trans hf
                          by_cases c34 : x3 = 6
                          · replace hf := (if_pos c34).symm.trans hf
                            refine lv_tableIn (off := 112) (tgt := 176) hx hb dX8_tells_64 (by rw [c34]; decide) (by rw [c34]; decide) (by rw [c34]; rfl) (by decide) ?_
                            refine lv_aload_n hx hb dX8_tells_176 rfl (lv_at hl 1 rfl) ?_
                            refine lv_aload hx hb dX8_tells_177 (lv_at hl 0 rfl) ?_
                            refine lv_iload_n hx hb dX8_tells_179 rfl (lv_at hl 3 rfl) ?_
                            refine lv_bipush (v := (11 : Int32)) hx hb dX8_tells_180 (by decide) ?_
                            refine lv_aload_n hx hb dX8_tells_182 rfl (lv_at hl 1 rfl) ?_
                            refine va_get (D := Γ.1) (ci := 7) (v := .ref (Γ.2.2.1 (27))) (C := RX8) (T := TX8) (N := 9) hx hb hts iX8 hown hK hP (0) (gC_Main Γ q10.2) rfl 5 (by decide) (hts (.fieldLink RX8 32 "OtherHalfOfNight" "law" "LOtherHalfOfNight$Law;") (wzm K25)) (fun _ h9 => h9) rfl dX8_tells_183 ?_
                            obtain ⟨q35, h36, hf⟩ := w_ob hf
                            refine w_ci (va_runV (As := []) (rest := [.int (11 : Int32), .int x2, .ref (Γ.2.2.1 (63 + 2 * ((x1).toNatClampNeg))), .ref (Γ.2.2.1 (0))]) ⟨hx, hb, hml, hown, hts⟩ (c_X2_size l Γ hG q10.2 q35.1 q35.2 h36 H.size) (cwV 0 hts (wzV K882 K879 K880 K881 K24) rfl rfl rfl (by decide +kernel) ⟨(Nat.le_of_ble_eq_true rfl), (Nat.le_of_ble_eq_true rfl)⟩) (w_preV hK hP hkc hN hS (gC_Law Γ q10.2) rfl) rfl rfl hl.1 rfl (lv_room (Nat.le_of_ble_eq_true rfl)) dX8_tells_186 ⟨Nat.le_refl _, Nat.le_refl _⟩) hS (fun H locs hP hS => ?_)
                            refine lv_iconst (v := (1 : Int32)) hx hb dX8_tells_189 (by decide) ?_
                            refine lv_isub hx hb dX8_tells_190 ?_
                            obtain ⟨q37, h38, hf⟩ := w_ob hf
                            refine w_ci (va_runV (As := [.ref (Γ.2.2.1 (63 + 2 * ((x1).toNatClampNeg))), .int x2, .int (11 : Int32), .int (q35.1 - (1 : Int32))]) (rest := []) ⟨hx, hb, hml, hown, hts⟩ (c_X8_fitting l Γ hG ((x1).toNatClampNeg) x2 (11 : Int32) (q35.1 - (1 : Int32)) q35.2 q37.1 q37.2 h38 H.size) (cwV 4 hts (wzV K866 K863 K864 K865 K2) rfl rfl rfl (by decide +kernel) ⟨(Nat.le_of_ble_eq_true rfl), (Nat.le_of_ble_eq_true rfl)⟩) (w_preV hK hP hkc hN hS (gC_Main Γ q35.2) rfl) rfl rfl hl.1 rfl (lv_room (Nat.le_of_ble_eq_true rfl)) dX8_tells_191 ⟨Nat.le_refl _, Nat.le_refl _⟩) hS (fun H locs hP hS => ?_)
                            exact w_iret (X := XC Γ) hx hb hr hlocks hK hP hS rfl hf dX8_tells_194
                          · replace hf := (if_neg c34).symm.trans hf
                            have nc14 : ¬ (x3).toInt = 0 := fun q => c14 (Int32.toInt_inj.mp q)
                            have nc19 : ¬ (x3).toInt = 1 := fun q => c19 (Int32.toInt_inj.mp q)
                            have nc22 : ¬ (x3).toInt = 2 := fun q => c22 (Int32.toInt_inj.mp q)
                            have nc25 : ¬ (x3).toInt = 3 := fun q => c25 (Int32.toInt_inj.mp q)
                            have nc28 : ¬ (x3).toInt = 4 := fun q => c28 (Int32.toInt_inj.mp q)
                            have nc31 : ¬ (x3).toInt = 5 := fun q => c31 (Int32.toInt_inj.mp q)
                            have nc34 : ¬ (x3).toInt = 6 := fun q => c34 (Int32.toInt_inj.mp q)
                            refine lv_tableOut (tgt := 195) hx hb dX8_tells_64 (by omega) (by decide) ?_
                            refine lv_aload_n hx hb dX8_tells_195 rfl (lv_at hl 1 rfl) ?_
                            refine lv_aload hx hb dX8_tells_196 (lv_at hl 0 rfl) ?_
                            obtain ⟨q39, h40, hf⟩ := w_ob hf
                            refine w_ci (va_runV (As := [.ref (Γ.2.2.1 (63 + 2 * ((x1).toNatClampNeg)))]) (rest := []) ⟨hx, hb, hml, hown, hts⟩ (c_X8_onesFitting l Γ hG ((x1).toNatClampNeg) q10.2 q39.1 q39.2 h40 H.size) (cwV 1 hts (wzV K886 K883 K884 K885 K2) rfl rfl rfl (by decide +kernel) ⟨(Nat.le_of_ble_eq_true rfl), (Nat.le_of_ble_eq_true rfl)⟩) (w_preV hK hP hkc hN hS (gC_Main Γ q10.2) rfl) rfl rfl hl.1 rfl (lv_room (Nat.le_of_ble_eq_true rfl)) dX8_tells_198 ⟨Nat.le_refl _, Nat.le_refl _⟩) hS (fun H locs hP hS => ?_)
                            exact w_iret (X := XC Γ) hx hb hr hlocks hK hP hS rfl hf dX8_tells_201
            · replace hf := (if_neg c13).symm.trans hf
              refine lv_bipush (v := (-2 : Int32)) hx hb dX8_tells_60 (by decide) ?_
              exact w_iret (X := XC Γ) hx hb hr hlocks hK hP hS rfl hf dX8_tells_62
          · replace hf := (if_neg c12).symm.trans hf
            refine lv_bipush (v := (-11 : Int32)) hx hb dX8_tells_47 (by decide) ?_
            exact w_iret (X := XC Γ) hx hb hr hlocks hK hP hS rfl hf dX8_tells_49
        · replace hf := (if_neg c8).symm.trans hf
          refine lv_bipush (v := (-2 : Int32)) hx hb dX8_tells_28 (by decide) ?_
          exact w_iret (X := XC Γ) hx hb hr hlocks hK hP hS rfl hf dX8_tells_30
def f_X8_film_63 (x1 : Int32) (x2 : Int32) (x3 : Int32) : Nat → Int32 → Int32 → Sg → Option (Int32 × Sg)
  | 0, _, _, _ => none
  | n + 1, y5, y6, τ => if (x1).toNatClampNeg < 4 then if x3 ≤ y6 then some (y5, τ) else (f_X2_yieldOf (1) x2 τ).bind fun (q16 : Int32 × Sg) => (f_X5_put ((x1).toNatClampNeg) y6 q16.1 q16.2).bind fun (q18 : Int32 × Sg) => (f_X2_easeOne (1) x2 q18.2).bind fun (q20 : Sg) => (f_X8_film_63 x1 x2 x3 n) ((y5 + q16.1)) ((y6 + (1 : Int32))) (up q20 (11 * 1) 0 ((q20 (11 * 1) 0) + (1 : Int32))) else none
def f_X8_film (x1 : Int32) (x2 : Int32) (x3 : Int32) (σ : Sg) : Option (Int32 × Sg) := (f_X8_isSheet x1 σ).bind fun (q1 : Int32 × Sg) => if q1.1 = 0 then some ((-2 : Int32), q1.2) else (f_X1_lodges (0) x2 q1.2).bind fun (q4 : Int32 × Sg) => if q4.1 = 0 then some ((-2 : Int32), q4.2) else if x3 < 0 then some ((-2 : Int32), q4.2) else if x3 ≤ (20 : Int32) then if okI x1 4 then (f_X5_become ((x1).toNatClampNeg) (0 : Int32) x3 q4.2).bind fun (q10 : Sg) => (f_X1_takeFrom (1) (0) q10).bind fun (q12 : Sg) => f_X8_film_63 x1 x2 x3 5000 ((0 : Int32)) ((0 : Int32)) q12 else none else some ((-2 : Int32), q4.2)
set_option maxHeartbeats 40000000 in
set_option maxRecDepth 100000 in
theorem c_X8_film (l : Launch) (Γ : Geo) (hG : okC Γ) (x1 : Int32) (x2 : Int32) (x3 : Int32) (σ : Sg) (r : Int32) (σ' : Sg) (hf : f_X8_film x1 x2 x3 σ = some (r, σ')) (sz : Nat) : Met l yX8_film (wz yX8_film cX8_film 8 (some .int)) { frames := 4, cells := 0, slots := 0, locals := 101 } (va_Pc [.ref (Γ.2.2.1 (0)), .int x1, .int x2, .int x3] (wPre Γ.1 vwCl (tysC Γ) (XC Γ) (alC Γ) Γ.2.2.2 σ sz)) (wQi Γ.1 vwCl (tysC Γ) (XC Γ) (alC Γ) r σ' sz) 0 0 (wA (alC Γ) sz) := by
  refine w_enter (cc := cX8_film) (maxL := 8) (ret := (some .int)) (by decide) rfl (Nat.le_of_ble_eq_true rfl) ?_
  intro p e s m below meth c ls hx hb hr hlocks hml hown hts hsz hP hK hkc hN hl
  subst hsz
  generalize hav : ([.ref (Γ.2.2.1 (0)), .int x1, .int x2, .int x3] : List Value) = av at hl hts ⊢
  have hl : lv_has ls 8 [(0, .ref (Γ.2.2.1 (0))), (1, .int x1), (2, .int x2), (3, .int x3)] := by rw [← hav] at hl; exact hl
  have j63 : ∀ (n63 : Nat), ∀ (y5 : Int32) (y6 : Int32) (τ : Sg) (H : Heap) (locs : List Loc) (ls : Array Slot) (hf : f_X8_film_63 x1 x2 x3 n63 y5 y6 τ = some (r, σ')) (hP : va_P Γ.1 vwCl (XC Γ τ) H) (hS : va_S (wA (alC Γ) s.heap.size) s.heap H locs) (hl : lv_has ls 8 [(0, .ref (Γ.2.2.1 (0))), (2, .int x2), (3, .int x3), (4, .ref (Γ.2.2.1 (63 + 2 * ((x1).toNatClampNeg)))), (5, .int y5), (6, .int y6)]), W p l e { frames := 4, cells := 0, slots := 0, locals := 101 } s m av.toArray below meth c H locs 0 0 (MQ below (wQi Γ.1 vwCl (tysC Γ) (XC Γ) (alC Γ) r σ' s.heap.size) av.toArray s 0 0 (wA (alC Γ) s.heap.size)) (F0 m 63 ls []) := by
    intro n63
    induction n63 with
    | zero =>
      intro y5 y6 τ H locs ls hf
      exact absurd hf (by intro h; cases h)
    | succ n63 ih63 =>
      intro y5 y6 τ H locs ls hf hP hS hl
      unfold f_X8_film_63 at hf
      obtain ⟨g14, hf⟩ := w_oi hf
      refine lv_iload hx hb dX8_film_63 (lv_at hl 5 rfl) ?_
      refine lv_iload_n hx hb dX8_film_65 rfl (lv_at hl 2 rfl) ?_
      refine lv_icmp_ge (tgt := 131) hx hb dX8_film_66 (by decide) (fun c15 => ?_) (fun c15 => ?_)
      · replace hf := (if_pos c15).symm.trans hf
        refine lv_iload hx hb dX8_film_131 (lv_at hl 4 rfl) ?_
        exact w_iret (X := XC Γ) hx hb hr hlocks hK hP hS rfl hf dX8_film_133
      · replace hf := (if_neg c15).symm.trans hf
        refine lv_aload_n hx hb dX8_film_69 rfl (lv_at hl 0 rfl) ?_
        refine va_get (D := Γ.1) (ci := 7) (v := .ref (Γ.2.2.1 (27))) (C := RX8) (T := TX8) (N := 9) hx hb hts iX8 hown hK hP (0) (gC_Main Γ τ) rfl 5 (by decide) (hts (.fieldLink RX8 32 "OtherHalfOfNight" "law" "LOtherHalfOfNight$Law;") (wzm K25)) (fun _ h9 => h9) rfl dX8_film_70 ?_
        refine lv_aload_n hx hb dX8_film_73 rfl (lv_at hl 0 rfl) ?_
        refine va_get (D := Γ.1) (ci := 7) (v := .ref (Γ.2.2.1 (1 + 8 * 1))) (C := RX8) (T := TX8) (N := 9) hx hb hts iX8 hown hK hP (0) (gC_Main Γ τ) rfl 1 (by decide) (hts (.fieldLink RX8 16 "OtherHalfOfNight" "thought" "LOtherHalfOfNight$House;") (wzm K16)) (fun _ h9 => h9) rfl dX8_film_74 ?_
        refine lv_iload_n hx hb dX8_film_77 rfl (lv_at hl 1 rfl) ?_
        obtain ⟨q16, h17, hf⟩ := w_ob hf
        refine w_ci (va_runV (As := [.ref (Γ.2.2.1 (1 + 8 * 1)), .int x2]) (rest := []) ⟨hx, hb, hml, hown, hts⟩ (c_X2_yieldOf l Γ hG (1) x2 τ q16.1 q16.2 h17 H.size) (cwV 2 hts (wzV K336 K333 K334 K335 K24) rfl rfl rfl (by decide +kernel) ⟨(Nat.le_of_ble_eq_true rfl), (Nat.le_of_ble_eq_true rfl)⟩) (w_preV hK hP hkc hN hS (gC_Law Γ τ) rfl) rfl rfl hl.1 rfl (lv_room (Nat.le_of_ble_eq_true rfl)) dX8_film_78 ⟨Nat.le_refl _, Nat.le_refl _⟩) hS (fun H locs hP hS => ?_)
        refine lv_istore (lv' := [(7, .int q16.1), (0, .ref (Γ.2.2.1 (0))), (2, .int x2), (3, .int x3), (4, .ref (Γ.2.2.1 (63 + 2 * ((x1).toNatClampNeg)))), (5, .int y5), (6, .int y6)]) hx hb dX8_film_81 hl (by decide) rfl (fun ls hl => ?_)
        refine lv_aload hx hb dX8_film_83 (lv_at hl 4 rfl) ?_
        refine lv_iload hx hb dX8_film_85 (lv_at hl 6 rfl) ?_
        refine lv_iload hx hb dX8_film_87 (lv_at hl 0 rfl) ?_
        obtain ⟨q18, h19, hf⟩ := w_ob hf
        refine w_ci (va_runV (As := [.int y6, .int q16.1]) (rest := []) ⟨hx, hb, hml, hown, hts⟩ (c_X5_put l Γ hG ((x1).toNatClampNeg) y6 q16.1 q16.2 q18.1 q18.2 h19 H.size) (cwV 2 hts (wzV K918 K915 K916 K917 K37) rfl rfl rfl (by decide +kernel) ⟨(Nat.le_of_ble_eq_true rfl), (Nat.le_of_ble_eq_true rfl)⟩) (w_preV hK hP hkc hN hS (gC_Sheet Γ q16.2 ((x1).toNatClampNeg) g14) rfl) rfl rfl hl.1 rfl (lv_room (Nat.le_of_ble_eq_true rfl)) dX8_film_89 ⟨Nat.le_refl _, Nat.le_refl _⟩) hS (fun H locs hP hS => ?_)
        refine lv_pop hx hb dX8_film_92 rfl ?_
        refine lv_iload hx hb dX8_film_93 (lv_at hl 5 rfl) ?_
        refine lv_iload hx hb dX8_film_95 (lv_at hl 0 rfl) ?_
        refine lv_iadd hx hb dX8_film_97 ?_
        refine lv_istore (lv' := [(5, .int (y5 + q16.1)), (7, .int q16.1), (0, .ref (Γ.2.2.1 (0))), (2, .int x2), (3, .int x3), (4, .ref (Γ.2.2.1 (63 + 2 * ((x1).toNatClampNeg)))), (6, .int y6)]) hx hb dX8_film_98 hl (by decide) rfl (fun ls hl => ?_)
        refine lv_aload_n hx hb dX8_film_100 rfl (lv_at hl 2 rfl) ?_
        refine va_get (D := Γ.1) (ci := 7) (v := .ref (Γ.2.2.1 (27))) (C := RX8) (T := TX8) (N := 9) hx hb hts iX8 hown hK hP (0) (gC_Main Γ q18.2) rfl 5 (by decide) (hts (.fieldLink RX8 32 "OtherHalfOfNight" "law" "LOtherHalfOfNight$Law;") (wzm K25)) (fun _ h9 => h9) rfl dX8_film_101 ?_
        refine lv_aload_n hx hb dX8_film_104 rfl (lv_at hl 2 rfl) ?_
        refine va_get (D := Γ.1) (ci := 7) (v := .ref (Γ.2.2.1 (1 + 8 * 1))) (C := RX8) (T := TX8) (N := 9) hx hb hts iX8 hown hK hP (0) (gC_Main Γ q18.2) rfl 1 (by decide) (hts (.fieldLink RX8 16 "OtherHalfOfNight" "thought" "LOtherHalfOfNight$House;") (wzm K16)) (fun _ h9 => h9) rfl dX8_film_105 ?_
        refine lv_iload_n hx hb dX8_film_108 rfl (lv_at hl 3 rfl) ?_
        obtain ⟨q20, h21, hf⟩ := w_ob hf
        refine w_cv (va_runV (As := [.ref (Γ.2.2.1 (1 + 8 * 1)), .int x2]) (rest := []) ⟨hx, hb, hml, hown, hts⟩ (c_X2_easeOne l Γ hG (1) x2 q18.2 q20 h21 H.size) (cwV 2 hts (wzV K667 K726 K665 K666 K24) rfl rfl rfl (by decide +kernel) ⟨(Nat.le_of_ble_eq_true rfl), (Nat.le_of_ble_eq_true rfl)⟩) (w_preV hK hP hkc hN hS (gC_Law Γ q18.2) rfl) rfl rfl hl.1 rfl (lv_room (Nat.le_of_ble_eq_true rfl)) dX8_film_109 ⟨Nat.le_refl _, Nat.le_refl _⟩) hS (fun H locs hP hS => ?_)
        refine lv_aload_n hx hb dX8_film_112 rfl (lv_at hl 2 rfl) ?_
        refine va_get (D := Γ.1) (ci := 7) (v := .ref (Γ.2.2.1 (1 + 8 * 1))) (C := RX8) (T := TX8) (N := 9) hx hb hts iX8 hown hK hP (0) (gC_Main Γ q20) rfl 1 (by decide) (hts (.fieldLink RX8 16 "OtherHalfOfNight" "thought" "LOtherHalfOfNight$House;") (wzm K16)) (fun _ h9 => h9) rfl dX8_film_113 ?_
        refine lv_dup hx hb dX8_film_116 rfl ?_
        refine va_get (D := Γ.1) (ci := 1) (v := .int (q20 (11 * 1) 0)) (C := RX1) (T := TX1) (N := 11) hx hb hts iX1 hown hK hP (1 + 8 * 1) (gC_House Γ q20 1 (by decide)) rfl 0 (by decide) (hts (.fieldLink RX8 119 "OtherHalfOfNight$House" "night" "I") (wzm K644)) (fun _ h9 => h9) rfl dX8_film_117 ?_
        refine lv_iconst (v := (1 : Int32)) hx hb dX8_film_120 (by decide) ?_
        refine lv_iadd hx hb dX8_film_121 ?_
        refine w_put (X := XC Γ) (σ' := (up q20 (11 * 1) 0 ((q20 (11 * 1) 0) + (1 : Int32)))) (ci := 1) (C := RX1) (T := TX1) (N := 11) (ty := .int) hx hb hts iX1 tyX1 tyX1_ok nmX1 hown hK hP (halC Γ) hG hS (1 + 8 * 1) (gC_House Γ q20 1 (by decide)) rfl 0 (by decide) (hts (.fieldLink RX8 119 "OtherHalfOfNight$House" "night" "I") (wzm K644)) (fun _ h9 => h9) rfl (by decide +kernel) rfl rfl (Nat.le_of_ble_eq_true rfl) dX8_film_122 (sC_House_night Γ q20 1 (by decide) ((q20 (11 * 1) 0) + (1 : Int32))) (fun H locs hP hS => ?_)
        refine lv_iinc (v := (y6 + (1 : Int32))) (lv' := [(6, .int (y6 + (1 : Int32))), (5, .int (y5 + q16.1)), (7, .int q16.1), (0, .ref (Γ.2.2.1 (0))), (2, .int x2), (3, .int x3), (4, .ref (Γ.2.2.1 (63 + 2 * ((x1).toNatClampNeg))))]) hx hb dX8_film_125 hl (k := 6) rfl rfl (by decide) rfl (fun ls hl => ?_)
        refine lv_goto (tgt := 63) hx hb dX8_film_128 (by decide) ?_
        exact ih63 ((y5 + q16.1)) ((y6 + (1 : Int32))) (up q20 (11 * 1) 0 ((q20 (11 * 1) 0) + (1 : Int32))) H locs ls hf hP hS (lv_sub hl [3, 4, 5, 6, 1, 0] rfl)
  suffices hw : ∀ (H : Heap) (locs : List Loc), va_P Γ.1 vwCl (XC Γ σ) H → va_S (wA (alC Γ) s.heap.size) s.heap H locs → W p l e { frames := 4, cells := 0, slots := 0, locals := 101 } s m av.toArray below meth c H locs 0 0 (MQ below (wQi Γ.1 vwCl (tysC Γ) (XC Γ) (alC Γ) r σ' s.heap.size) av.toArray s 0 0 (wA (alC Γ) s.heap.size)) (F0 m 0 ls []) from hw _ [] hP va_S.rf
  clear hP
  intro H locs hP hS
  unfold f_X8_film at hf
  refine lv_iload_n hx hb dX8_film_0 rfl (lv_at hl 1 rfl) ?_
  obtain ⟨q1, h2, hf⟩ := w_ob hf
  refine w_ci (va_runS (As := [.int x1]) (rest := []) ⟨hx, hb, hml, hown, hts⟩ (c_X8_isSheet l Γ hG x1 σ q1.1 q1.2 h2 H.size) (cwS 1 hts (wzS K853 K851 K852 K2) rfl rfl rfl (by decide +kernel) ⟨(Nat.le_of_ble_eq_true rfl), (Nat.le_of_ble_eq_true rfl)⟩) (w_pre hK hP hkc hN hS) rfl rfl hl.1 rfl (lv_room (Nat.le_of_ble_eq_true rfl)) dX8_film_1 ⟨Nat.le_refl _, Nat.le_refl _⟩) hS (fun H locs hP hS => ?_)
  refine lv_if_eq (tgt := 28) hx hb dX8_film_4 (by decide) (fun c3 => ?_) (fun c3 => ?_)
  · replace hf := (if_pos c3).symm.trans hf
    refine lv_bipush (v := (-2 : Int32)) hx hb dX8_film_28 (by decide) ?_
    exact w_iret (X := XC Γ) hx hb hr hlocks hK hP hS rfl hf dX8_film_30
  · replace hf := (if_neg c3).symm.trans hf
    refine lv_aload_n hx hb dX8_film_7 rfl (lv_at hl 0 rfl) ?_
    refine va_get (D := Γ.1) (ci := 7) (v := .ref (Γ.2.2.1 (1 + 8 * 0))) (C := RX8) (T := TX8) (N := 9) hx hb hts iX8 hown hK hP (0) (gC_Main Γ q1.2) rfl 0 (by decide) (hts (.fieldLink RX8 10 "OtherHalfOfNight" "now" "LOtherHalfOfNight$House;") (wzm K15)) (fun _ h9 => h9) rfl dX8_film_8 ?_
    refine lv_iload_n hx hb dX8_film_11 rfl (lv_at hl 2 rfl) ?_
    obtain ⟨q4, h5, hf⟩ := w_ob hf
    refine w_ci (va_runV (As := [.int x2]) (rest := []) ⟨hx, hb, hml, hown, hts⟩ (c_X1_lodges l Γ hG (0) x2 q1.2 q4.1 q4.2 h5 H.size) (cwV 1 hts (wzV K144 K332 K142 K143 K14) rfl rfl rfl (by decide +kernel) ⟨(Nat.le_of_ble_eq_true rfl), (Nat.le_of_ble_eq_true rfl)⟩) (w_preV hK hP hkc hN hS (gC_House Γ q1.2 0 (by decide)) rfl) rfl rfl hl.1 rfl (lv_room (Nat.le_of_ble_eq_true rfl)) dX8_film_12 ⟨Nat.le_refl _, Nat.le_refl _⟩) hS (fun H locs hP hS => ?_)
    refine lv_if_eq (tgt := 28) hx hb dX8_film_15 (by decide) (fun c6 => ?_) (fun c6 => ?_)
    · replace hf := (if_pos c6).symm.trans hf
      refine lv_bipush (v := (-2 : Int32)) hx hb dX8_film_28 (by decide) ?_
      exact w_iret (X := XC Γ) hx hb hr hlocks hK hP hS rfl hf dX8_film_30
    · replace hf := (if_neg c6).symm.trans hf
      refine lv_iload_n hx hb dX8_film_18 rfl (lv_at hl 3 rfl) ?_
      refine lv_if_lt (tgt := 28) hx hb dX8_film_19 (by decide) (fun c7 => ?_) (fun c7 => ?_)
      · replace hf := (if_pos c7).symm.trans hf
        refine lv_bipush (v := (-2 : Int32)) hx hb dX8_film_28 (by decide) ?_
        exact w_iret (X := XC Γ) hx hb hr hlocks hK hP hS rfl hf dX8_film_30
      · replace hf := (if_neg c7).symm.trans hf
        refine lv_iload_n hx hb dX8_film_22 rfl (lv_at hl 3 rfl) ?_
        refine lv_bipush (v := (20 : Int32)) hx hb dX8_film_23 (by decide) ?_
        refine lv_icmp_le (tgt := 31) hx hb dX8_film_25 (by decide) (fun c8 => ?_) (fun c8 => ?_)
        · replace hf := (if_pos c8).symm.trans hf
          refine lv_aload_n hx hb dX8_film_31 rfl (lv_at hl 0 rfl) ?_
          refine va_get (D := Γ.1) (ci := 7) (v := .ref (Γ.2.2.1 (62))) (C := RX8) (T := TX8) (N := 9) hx hb hts iX8 hown hK hP (0) (gC_Main Γ q4.2) rfl 8 (by decide) (hts (.fieldLink RX8 52 "OtherHalfOfNight" "sheets" "[LOtherHalfOfNight$Sheet;") (wzm K35)) (fun _ h9 => h9) rfl dX8_film_32 ?_
          refine lv_iload_n hx hb dX8_film_35 rfl (lv_at hl 1 rfl) ?_
          obtain ⟨g9, hf⟩ := w_oi hf
          refine w_aaldq (D := Γ.1) (tys := (tysC Γ)) (g := fun j => Γ.2.2.1 (63 + 2 * j)) hx hb hK hP (62) 3 (gC_sheets Γ q4.2) rfl g9 dX8_film_36 ?_
          refine lv_astore (lv' := [(4, .ref (Γ.2.2.1 (63 + 2 * ((x1).toNatClampNeg)))), (0, .ref (Γ.2.2.1 (0))), (1, .int x1), (2, .int x2), (3, .int x3)]) hx hb dX8_film_37 hl (by decide) rfl (fun ls hl => ?_)
          refine lv_aload hx hb dX8_film_39 (lv_at hl 0 rfl) ?_
          refine lv_iconst (v := (0 : Int32)) hx hb dX8_film_41 (by decide) ?_
          refine lv_iload_n hx hb dX8_film_42 rfl (lv_at hl 4 rfl) ?_
          obtain ⟨q10, h11, hf⟩ := w_ob hf
          refine w_cv (va_runV (As := [.int (0 : Int32), .int x3]) (rest := []) ⟨hx, hb, hml, hown, hts⟩ (c_X5_become l Γ hG ((x1).toNatClampNeg) (0 : Int32) x3 q4.2 q10 h11 H.size) (cwV 2 hts (wzV K911 K908 K909 K910 K37) rfl rfl rfl (by decide +kernel) ⟨(Nat.le_of_ble_eq_true rfl), (Nat.le_of_ble_eq_true rfl)⟩) (w_preV hK hP hkc hN hS (gC_Sheet Γ q4.2 ((x1).toNatClampNeg) (w_lt g9)) rfl) rfl rfl hl.1 rfl (lv_room (Nat.le_of_ble_eq_true rfl)) dX8_film_43 ⟨Nat.le_refl _, Nat.le_refl _⟩) hS (fun H locs hP hS => ?_)
          refine lv_aload_n hx hb dX8_film_46 rfl (lv_at hl 1 rfl) ?_
          refine va_get (D := Γ.1) (ci := 7) (v := .ref (Γ.2.2.1 (1 + 8 * 1))) (C := RX8) (T := TX8) (N := 9) hx hb hts iX8 hown hK hP (0) (gC_Main Γ q10) rfl 1 (by decide) (hts (.fieldLink RX8 16 "OtherHalfOfNight" "thought" "LOtherHalfOfNight$House;") (wzm K16)) (fun _ h9 => h9) rfl dX8_film_47 ?_
          refine lv_aload_n hx hb dX8_film_50 rfl (lv_at hl 1 rfl) ?_
          refine va_get (D := Γ.1) (ci := 7) (v := .ref (Γ.2.2.1 (1 + 8 * 0))) (C := RX8) (T := TX8) (N := 9) hx hb hts iX8 hown hK hP (0) (gC_Main Γ q10) rfl 0 (by decide) (hts (.fieldLink RX8 10 "OtherHalfOfNight" "now" "LOtherHalfOfNight$House;") (wzm K15)) (fun _ h9 => h9) rfl dX8_film_51 ?_
          obtain ⟨q12, h13, hf⟩ := w_ob hf
          refine w_cv (va_runV (As := [.ref (Γ.2.2.1 (1 + 8 * 0))]) (rest := []) ⟨hx, hb, hml, hown, hts⟩ (c_X1_takeFrom l Γ hG (1) (0) q10 q12 h13 H.size) (cwV 1 hts (wzV K703 K700 K701 K702 K14) rfl rfl rfl (by decide +kernel) ⟨(Nat.le_of_ble_eq_true rfl), (Nat.le_of_ble_eq_true rfl)⟩) (w_preV hK hP hkc hN hS (gC_House Γ q10 1 (by decide)) rfl) rfl rfl hl.1 rfl (lv_room (Nat.le_of_ble_eq_true rfl)) dX8_film_54 ⟨Nat.le_refl _, Nat.le_refl _⟩) hS (fun H locs hP hS => ?_)
          refine lv_iconst (v := (0 : Int32)) hx hb dX8_film_57 (by decide) ?_
          refine lv_istore (lv' := [(5, .int (0 : Int32)), (4, .ref (Γ.2.2.1 (63 + 2 * ((x1).toNatClampNeg)))), (0, .ref (Γ.2.2.1 (0))), (1, .int x1), (2, .int x2), (3, .int x3)]) hx hb dX8_film_58 hl (by decide) rfl (fun ls hl => ?_)
          refine lv_iconst (v := (0 : Int32)) hx hb dX8_film_60 (by decide) ?_
          refine lv_istore (lv' := [(6, .int (0 : Int32)), (5, .int (0 : Int32)), (4, .ref (Γ.2.2.1 (63 + 2 * ((x1).toNatClampNeg)))), (0, .ref (Γ.2.2.1 (0))), (1, .int x1), (2, .int x2), (3, .int x3)]) hx hb dX8_film_61 hl (by decide) rfl (fun ls hl => ?_)
          exact j63 5000 ((0 : Int32)) ((0 : Int32)) q12 H locs ls hf hP hS (lv_sub hl [3, 5, 6, 2, 1, 0] rfl)
        · replace hf := (if_neg c8).symm.trans hf
          refine lv_bipush (v := (-2 : Int32)) hx hb dX8_film_28 (by decide) ?_
          exact w_iret (X := XC Γ) hx hb hr hlocks hK hP hS rfl hf dX8_film_30
def f_X8_pouredBySeed_68 (k19 : Int32 → Int32 → Int32 → Sg → Option (Int32 × Sg)) (x1 : Int32) (x2 : Int32) (y3 : Int32) (y4 : Int32) (y5 : Int32) (τ : Sg) : Option (Int32 × Sg) := (f_X3_pass (1) τ).bind fun (q11 : Int32 × Sg) => k19 ((y3 + q11.1)) (y4) ((y5 + (1 : Int32))) q11.2
def f_X8_pouredBySeed_19 (x1 : Int32) (x2 : Int32) : Nat → Int32 → Int32 → Int32 → Sg → Option (Int32 × Sg)
  | 0, _, _, _, _ => none
  | n + 1, y3, y4, y5, τ => if x2 ≤ y5 then some (y3, τ) else (some ((w_ushr ((y4 * (1103515245 : Int32)) + (12345 : Int32)) (9 : Int32)) - (w_ushr ((y4 * (1103515245 : Int32)) + (12345 : Int32)) (9 : Int32)) / (8 : Int32) * (8 : Int32))).bind fun (v4 : Int32) => (f_X1_lodges (1) v4 τ).bind fun (q6 : Int32 × Sg) => if q6.1 = 0 then f_X8_pouredBySeed_68 (f_X8_pouredBySeed_19 x1 x2 n) x1 x2 (y3) (((y4 * (1103515245 : Int32)) + (12345 : Int32))) (y5) q6.2 else (f_X1_bringNews (1) v4 q6.2).bind fun (q9 : Sg) => f_X8_pouredBySeed_68 (f_X8_pouredBySeed_19 x1 x2 n) x1 x2 (y3) (((y4 * (1103515245 : Int32)) + (12345 : Int32))) (y5) q9
def f_X8_pouredBySeed (x1 : Int32) (x2 : Int32) (σ : Sg) : Option (Int32 × Sg) := (f_X1_takeFrom (1) (0) σ).bind fun (q1 : Sg) => f_X8_pouredBySeed_19 x1 x2 5000 ((0 : Int32)) (x1) ((0 : Int32)) q1
set_option maxHeartbeats 40000000 in
set_option maxRecDepth 100000 in
theorem c_X8_pouredBySeed (l : Launch) (Γ : Geo) (hG : okC Γ) (x1 : Int32) (x2 : Int32) (σ : Sg) (r : Int32) (σ' : Sg) (hf : f_X8_pouredBySeed x1 x2 σ = some (r, σ')) (sz : Nat) : Met l yX8_pouredBySeed (wz yX8_pouredBySeed cX8_pouredBySeed 7 (some .int)) { frames := 6, cells := 0, slots := 0, locals := 152 } (va_Pc [.ref (Γ.2.2.1 (0)), .int x1, .int x2] (wPre Γ.1 vwCl (tysC Γ) (XC Γ) (alC Γ) Γ.2.2.2 σ sz)) (wQi Γ.1 vwCl (tysC Γ) (XC Γ) (alC Γ) r σ' sz) 0 0 (wA (alC Γ) sz) := by
  refine w_enter (cc := cX8_pouredBySeed) (maxL := 7) (ret := (some .int)) (by decide) rfl (Nat.le_of_ble_eq_true rfl) ?_
  intro p e s m below meth c ls hx hb hr hlocks hml hown hts hsz hP hK hkc hN hl
  subst hsz
  generalize hav : ([.ref (Γ.2.2.1 (0)), .int x1, .int x2] : List Value) = av at hl hts ⊢
  have hl : lv_has ls 7 [(0, .ref (Γ.2.2.1 (0))), (1, .int x1), (2, .int x2)] := by rw [← hav] at hl; exact hl
  have j19 : ∀ (n19 : Nat), ∀ (y3 : Int32) (y4 : Int32) (y5 : Int32) (τ : Sg) (H : Heap) (locs : List Loc) (ls : Array Slot) (hf : f_X8_pouredBySeed_19 x1 x2 n19 y3 y4 y5 τ = some (r, σ')) (hP : va_P Γ.1 vwCl (XC Γ τ) H) (hS : va_S (wA (alC Γ) s.heap.size) s.heap H locs) (hl : lv_has ls 7 [(0, .ref (Γ.2.2.1 (0))), (2, .int x2), (3, .int y3), (4, .int y4), (5, .int y5)]), W p l e { frames := 6, cells := 0, slots := 0, locals := 152 } s m av.toArray below meth c H locs 0 0 (MQ below (wQi Γ.1 vwCl (tysC Γ) (XC Γ) (alC Γ) r σ' s.heap.size) av.toArray s 0 0 (wA (alC Γ) s.heap.size)) (F0 m 19 ls []) := by
    intro n19
    induction n19 with
    | zero =>
      intro y3 y4 y5 τ H locs ls hf
      exact absurd hf (by intro h; cases h)
    | succ n19 ih19 =>
      have j68 : ∀ (y3 : Int32) (y4 : Int32) (y5 : Int32) (τ : Sg) (H : Heap) (locs : List Loc) (ls : Array Slot) (hf : f_X8_pouredBySeed_68 (f_X8_pouredBySeed_19 x1 x2 n19) x1 x2 y3 y4 y5 τ = some (r, σ')) (hP : va_P Γ.1 vwCl (XC Γ τ) H) (hS : va_S (wA (alC Γ) s.heap.size) s.heap H locs) (hl : lv_has ls 7 [(0, .ref (Γ.2.2.1 (0))), (2, .int x2), (3, .int y3), (4, .int y4), (5, .int y5)]), W p l e { frames := 6, cells := 0, slots := 0, locals := 152 } s m av.toArray below meth c H locs 0 0 (MQ below (wQi Γ.1 vwCl (tysC Γ) (XC Γ) (alC Γ) r σ' s.heap.size) av.toArray s 0 0 (wA (alC Γ) s.heap.size)) (F0 m 68 ls []) := by
        intro y3 y4 y5 τ H locs ls hf hP hS hl
        unfold f_X8_pouredBySeed_68 at hf
        refine lv_iload_n hx hb dX8_pouredBySeed_68 rfl (lv_at hl 2 rfl) ?_
        refine lv_aload_n hx hb dX8_pouredBySeed_69 rfl (lv_at hl 0 rfl) ?_
        refine va_get (D := Γ.1) (ci := 7) (v := .ref (Γ.2.2.1 (51))) (C := RX8) (T := TX8) (N := 9) hx hb hts iX8 hown hK hP (0) (gC_Main Γ τ) rfl 6 (by decide) (hts (.fieldLink RX8 39 "OtherHalfOfNight" "pouring" "LOtherHalfOfNight$Pouring;") (wzm K29)) (fun _ h9 => h9) rfl dX8_pouredBySeed_70 ?_
        refine lv_aload_n hx hb dX8_pouredBySeed_73 rfl (lv_at hl 0 rfl) ?_
        refine va_get (D := Γ.1) (ci := 7) (v := .ref (Γ.2.2.1 (27))) (C := RX8) (T := TX8) (N := 9) hx hb hts iX8 hown hK hP (0) (gC_Main Γ τ) rfl 5 (by decide) (hts (.fieldLink RX8 32 "OtherHalfOfNight" "law" "LOtherHalfOfNight$Law;") (wzm K25)) (fun _ h9 => h9) rfl dX8_pouredBySeed_74 ?_
        refine lv_aload_n hx hb dX8_pouredBySeed_77 rfl (lv_at hl 0 rfl) ?_
        refine va_get (D := Γ.1) (ci := 7) (v := .ref (Γ.2.2.1 (1 + 8 * 1))) (C := RX8) (T := TX8) (N := 9) hx hb hts iX8 hown hK hP (0) (gC_Main Γ τ) rfl 1 (by decide) (hts (.fieldLink RX8 16 "OtherHalfOfNight" "thought" "LOtherHalfOfNight$House;") (wzm K16)) (fun _ h9 => h9) rfl dX8_pouredBySeed_78 ?_
        obtain ⟨q11, h12, hf⟩ := w_ob hf
        refine w_ci (va_runV (As := [.ref (Γ.2.2.1 (27)), .ref (Γ.2.2.1 (1 + 8 * 1))]) (rest := [.int y3]) ⟨hx, hb, hml, hown, hts⟩ (c_X3_pass l Γ hG (1) τ q11.1 q11.2 h12 H.size) (cwV 2 hts (wzV K648 K645 K646 K647 K28) rfl rfl rfl (by decide +kernel) ⟨(Nat.le_of_ble_eq_true rfl), (Nat.le_of_ble_eq_true rfl)⟩) (w_preV hK hP hkc hN hS (gC_Pouring Γ τ) rfl) rfl rfl hl.1 rfl (lv_room (Nat.le_of_ble_eq_true rfl)) dX8_pouredBySeed_81 ⟨Nat.le_refl _, Nat.le_refl _⟩) hS (fun H locs hP hS => ?_)
        refine lv_iadd hx hb dX8_pouredBySeed_84 ?_
        refine lv_istore_n (lv' := [(3, .int (y3 + q11.1)), (0, .ref (Γ.2.2.1 (0))), (2, .int x2), (4, .int y4), (5, .int y5)]) hx hb dX8_pouredBySeed_85 rfl hl (by decide) rfl (fun ls hl => ?_)
        refine lv_iinc (v := (y5 + (1 : Int32))) (lv' := [(5, .int (y5 + (1 : Int32))), (3, .int (y3 + q11.1)), (0, .ref (Γ.2.2.1 (0))), (2, .int x2), (4, .int y4)]) hx hb dX8_pouredBySeed_86 hl (k := 4) rfl rfl (by decide) rfl (fun ls hl => ?_)
        refine lv_goto (tgt := 19) hx hb dX8_pouredBySeed_89 (by decide) ?_
        exact ih19 ((y3 + q11.1)) (y4) ((y5 + (1 : Int32))) q11.2 H locs ls hf hP hS (lv_sub hl [2, 3, 1, 4, 0] rfl)
      intro y3 y4 y5 τ H locs ls hf hP hS hl
      unfold f_X8_pouredBySeed_19 at hf
      refine lv_iload hx hb dX8_pouredBySeed_19 (lv_at hl 4 rfl) ?_
      refine lv_iload_n hx hb dX8_pouredBySeed_21 rfl (lv_at hl 1 rfl) ?_
      refine lv_icmp_ge (tgt := 92) hx hb dX8_pouredBySeed_22 (by decide) (fun c3 => ?_) (fun c3 => ?_)
      · replace hf := (if_pos c3).symm.trans hf
        refine lv_iload_n hx hb dX8_pouredBySeed_92 rfl (lv_at hl 2 rfl) ?_
        exact w_iret (X := XC Γ) hx hb hr hlocks hK hP hS rfl hf dX8_pouredBySeed_93
      · replace hf := (if_neg c3).symm.trans hf
        refine lv_iload hx hb dX8_pouredBySeed_25 (lv_at hl 3 rfl) ?_
        refine lv_ldcw (v := (1103515245 : Int32)) hx hb hown (hts (.constant RX8 274 (1103515245)) (wzm K941)) dX8_pouredBySeed_27 ?_
        refine lv_imul hx hb dX8_pouredBySeed_30 ?_
        refine lv_sipush (v := (12345 : Int32)) hx hb dX8_pouredBySeed_31 (by decide) ?_
        refine lv_iadd hx hb dX8_pouredBySeed_34 ?_
        refine lv_istore (lv' := [(4, .int ((y4 * (1103515245 : Int32)) + (12345 : Int32))), (0, .ref (Γ.2.2.1 (0))), (2, .int x2), (3, .int y3), (5, .int y5)]) hx hb dX8_pouredBySeed_35 hl (by decide) rfl (fun ls hl => ?_)
        refine lv_iload hx hb dX8_pouredBySeed_37 (lv_at hl 0 rfl) ?_
        refine lv_bipush (v := (9 : Int32)) hx hb dX8_pouredBySeed_39 (by decide) ?_
        refine lv_iushr (v := (w_ushr ((y4 * (1103515245 : Int32)) + (12345 : Int32)) (9 : Int32))) hx hb dX8_pouredBySeed_41 rfl ?_
        refine lv_bipush (v := (8 : Int32)) hx hb dX8_pouredBySeed_42 (by decide) ?_
        refine lv_irem hx hb dX8_pouredBySeed_44 (by decide) ?_
        obtain ⟨v4, e5, hf⟩ := w_ob hf
        replace e5 := Option.some.inj e5
        rw [e5]
        refine lv_istore (lv' := [(6, .int v4), (4, .int ((y4 * (1103515245 : Int32)) + (12345 : Int32))), (0, .ref (Γ.2.2.1 (0))), (2, .int x2), (3, .int y3), (5, .int y5)]) hx hb dX8_pouredBySeed_45 hl (by decide) rfl (fun ls hl => ?_)
        refine lv_aload_n hx hb dX8_pouredBySeed_47 rfl (lv_at hl 2 rfl) ?_
        refine va_get (D := Γ.1) (ci := 7) (v := .ref (Γ.2.2.1 (1 + 8 * 1))) (C := RX8) (T := TX8) (N := 9) hx hb hts iX8 hown hK hP (0) (gC_Main Γ τ) rfl 1 (by decide) (hts (.fieldLink RX8 16 "OtherHalfOfNight" "thought" "LOtherHalfOfNight$House;") (wzm K16)) (fun _ h9 => h9) rfl dX8_pouredBySeed_48 ?_
        refine lv_iload hx hb dX8_pouredBySeed_51 (lv_at hl 0 rfl) ?_
        obtain ⟨q6, h7, hf⟩ := w_ob hf
        refine w_ci (va_runV (As := [.int v4]) (rest := []) ⟨hx, hb, hml, hown, hts⟩ (c_X1_lodges l Γ hG (1) v4 τ q6.1 q6.2 h7 H.size) (cwV 1 hts (wzV K144 K332 K142 K143 K14) rfl rfl rfl (by decide +kernel) ⟨(Nat.le_of_ble_eq_true rfl), (Nat.le_of_ble_eq_true rfl)⟩) (w_preV hK hP hkc hN hS (gC_House Γ τ 1 (by decide)) rfl) rfl rfl hl.1 rfl (lv_room (Nat.le_of_ble_eq_true rfl)) dX8_pouredBySeed_53 ⟨Nat.le_refl _, Nat.le_refl _⟩) hS (fun H locs hP hS => ?_)
        refine lv_if_eq (tgt := 68) hx hb dX8_pouredBySeed_56 (by decide) (fun c8 => ?_) (fun c8 => ?_)
        · replace hf := (if_pos c8).symm.trans hf
          exact j68 (y3) (((y4 * (1103515245 : Int32)) + (12345 : Int32))) (y5) q6.2 H locs ls hf hP hS (lv_sub hl [2, 3, 4, 1, 5] rfl)
        · replace hf := (if_neg c8).symm.trans hf
          refine lv_aload_n hx hb dX8_pouredBySeed_59 rfl (lv_at hl 2 rfl) ?_
          refine va_get (D := Γ.1) (ci := 7) (v := .ref (Γ.2.2.1 (1 + 8 * 1))) (C := RX8) (T := TX8) (N := 9) hx hb hts iX8 hown hK hP (0) (gC_Main Γ q6.2) rfl 1 (by decide) (hts (.fieldLink RX8 16 "OtherHalfOfNight" "thought" "LOtherHalfOfNight$House;") (wzm K16)) (fun _ h9 => h9) rfl dX8_pouredBySeed_60 ?_
          refine lv_iload hx hb dX8_pouredBySeed_63 (lv_at hl 0 rfl) ?_
          obtain ⟨q9, h10, hf⟩ := w_ob hf
          refine w_cv (va_runV (As := [.int v4]) (rest := []) ⟨hx, hb, hml, hown, hts⟩ (c_X1_bringNews l Γ hG (1) v4 q6.2 q9 h10 H.size) (cwV 1 hts (wzV K685 K682 K683 K684 K14) rfl rfl rfl (by decide +kernel) ⟨(Nat.le_of_ble_eq_true rfl), (Nat.le_of_ble_eq_true rfl)⟩) (w_preV hK hP hkc hN hS (gC_House Γ q6.2 1 (by decide)) rfl) rfl rfl hl.1 rfl (lv_room (Nat.le_of_ble_eq_true rfl)) dX8_pouredBySeed_65 ⟨Nat.le_refl _, Nat.le_refl _⟩) hS (fun H locs hP hS => ?_)
          exact j68 (y3) (((y4 * (1103515245 : Int32)) + (12345 : Int32))) (y5) q9 H locs ls hf hP hS (lv_sub hl [2, 3, 4, 1, 5] rfl)
  suffices hw : ∀ (H : Heap) (locs : List Loc), va_P Γ.1 vwCl (XC Γ σ) H → va_S (wA (alC Γ) s.heap.size) s.heap H locs → W p l e { frames := 6, cells := 0, slots := 0, locals := 152 } s m av.toArray below meth c H locs 0 0 (MQ below (wQi Γ.1 vwCl (tysC Γ) (XC Γ) (alC Γ) r σ' s.heap.size) av.toArray s 0 0 (wA (alC Γ) s.heap.size)) (F0 m 0 ls []) from hw _ [] hP va_S.rf
  clear hP
  intro H locs hP hS
  unfold f_X8_pouredBySeed at hf
  refine lv_aload_n hx hb dX8_pouredBySeed_0 rfl (lv_at hl 0 rfl) ?_
  refine va_get (D := Γ.1) (ci := 7) (v := .ref (Γ.2.2.1 (1 + 8 * 1))) (C := RX8) (T := TX8) (N := 9) hx hb hts iX8 hown hK hP (0) (gC_Main Γ σ) rfl 1 (by decide) (hts (.fieldLink RX8 16 "OtherHalfOfNight" "thought" "LOtherHalfOfNight$House;") (wzm K16)) (fun _ h9 => h9) rfl dX8_pouredBySeed_1 ?_
  refine lv_aload_n hx hb dX8_pouredBySeed_4 rfl (lv_at hl 0 rfl) ?_
  refine va_get (D := Γ.1) (ci := 7) (v := .ref (Γ.2.2.1 (1 + 8 * 0))) (C := RX8) (T := TX8) (N := 9) hx hb hts iX8 hown hK hP (0) (gC_Main Γ σ) rfl 0 (by decide) (hts (.fieldLink RX8 10 "OtherHalfOfNight" "now" "LOtherHalfOfNight$House;") (wzm K15)) (fun _ h9 => h9) rfl dX8_pouredBySeed_5 ?_
  obtain ⟨q1, h2, hf⟩ := w_ob hf
  refine w_cv (va_runV (As := [.ref (Γ.2.2.1 (1 + 8 * 0))]) (rest := []) ⟨hx, hb, hml, hown, hts⟩ (c_X1_takeFrom l Γ hG (1) (0) σ q1 h2 H.size) (cwV 1 hts (wzV K703 K700 K701 K702 K14) rfl rfl rfl (by decide +kernel) ⟨(Nat.le_of_ble_eq_true rfl), (Nat.le_of_ble_eq_true rfl)⟩) (w_preV hK hP hkc hN hS (gC_House Γ σ 1 (by decide)) rfl) rfl rfl hl.1 rfl (lv_room (Nat.le_of_ble_eq_true rfl)) dX8_pouredBySeed_8 ⟨Nat.le_refl _, Nat.le_refl _⟩) hS (fun H locs hP hS => ?_)
  refine lv_iconst (v := (0 : Int32)) hx hb dX8_pouredBySeed_11 (by decide) ?_
  refine lv_istore_n (lv' := [(3, .int (0 : Int32)), (0, .ref (Γ.2.2.1 (0))), (1, .int x1), (2, .int x2)]) hx hb dX8_pouredBySeed_12 rfl hl (by decide) rfl (fun ls hl => ?_)
  refine lv_iload_n hx hb dX8_pouredBySeed_13 rfl (lv_at hl 2 rfl) ?_
  refine lv_istore (lv' := [(4, .int x1), (3, .int (0 : Int32)), (0, .ref (Γ.2.2.1 (0))), (1, .int x1), (2, .int x2)]) hx hb dX8_pouredBySeed_14 hl (by decide) rfl (fun ls hl => ?_)
  refine lv_iconst (v := (0 : Int32)) hx hb dX8_pouredBySeed_16 (by decide) ?_
  refine lv_istore (lv' := [(5, .int (0 : Int32)), (4, .int x1), (3, .int (0 : Int32)), (0, .ref (Γ.2.2.1 (0))), (1, .int x1), (2, .int x2)]) hx hb dX8_pouredBySeed_17 hl (by decide) rfl (fun ls hl => ?_)
  exact j19 5000 ((0 : Int32)) (x1) ((0 : Int32)) q1 H locs ls hf hP hS (lv_sub hl [3, 5, 2, 1, 0] rfl)
def f_X8_drawn (x1 : Int32) (x2 : Int32) (σ : Sg) : Option (Int32 × Sg) := if x2 < 0 then some ((-2 : Int32), σ) else if x2 ≤ (40 : Int32) then (f_X8_pouredBySeed x1 x2 σ).bind fun (q3 : Int32 × Sg) => some (q3.1, q3.2) else some ((-2 : Int32), σ)
set_option maxHeartbeats 40000000 in
set_option maxRecDepth 100000 in
theorem c_X8_drawn (l : Launch) (Γ : Geo) (hG : okC Γ) (x1 : Int32) (x2 : Int32) (σ : Sg) (r : Int32) (σ' : Sg) (hf : f_X8_drawn x1 x2 σ = some (r, σ')) (sz : Nat) : Met l yX8_drawn (wz yX8_drawn cX8_drawn 3 (some .int)) { frames := 7, cells := 0, slots := 0, locals := 178 } (va_Pc [.ref (Γ.2.2.1 (0)), .int x1, .int x2] (wPre Γ.1 vwCl (tysC Γ) (XC Γ) (alC Γ) Γ.2.2.2 σ sz)) (wQi Γ.1 vwCl (tysC Γ) (XC Γ) (alC Γ) r σ' sz) 0 0 (wA (alC Γ) sz) := by
  refine w_enter (cc := cX8_drawn) (maxL := 3) (ret := (some .int)) (by decide) rfl (Nat.le_of_ble_eq_true rfl) ?_
  intro p e s m below meth c ls hx hb hr hlocks hml hown hts hsz hP hK hkc hN hl
  subst hsz
  generalize hav : ([.ref (Γ.2.2.1 (0)), .int x1, .int x2] : List Value) = av at hl hts ⊢
  have hl : lv_has ls 3 [(0, .ref (Γ.2.2.1 (0))), (1, .int x1), (2, .int x2)] := by rw [← hav] at hl; exact hl
  suffices hw : ∀ (H : Heap) (locs : List Loc), va_P Γ.1 vwCl (XC Γ σ) H → va_S (wA (alC Γ) s.heap.size) s.heap H locs → W p l e { frames := 7, cells := 0, slots := 0, locals := 178 } s m av.toArray below meth c H locs 0 0 (MQ below (wQi Γ.1 vwCl (tysC Γ) (XC Γ) (alC Γ) r σ' s.heap.size) av.toArray s 0 0 (wA (alC Γ) s.heap.size)) (F0 m 0 ls []) from hw _ [] hP va_S.rf
  clear hP
  intro H locs hP hS
  unfold f_X8_drawn at hf
  refine lv_iload_n hx hb dX8_drawn_0 rfl (lv_at hl 2 rfl) ?_
  refine lv_if_lt (tgt := 10) hx hb dX8_drawn_1 (by decide) (fun c1 => ?_) (fun c1 => ?_)
  · replace hf := (if_pos c1).symm.trans hf
    refine lv_bipush (v := (-2 : Int32)) hx hb dX8_drawn_10 (by decide) ?_
    refine lv_goto (tgt := 21) hx hb dX8_drawn_12 (by decide) ?_
    exact w_iret (X := XC Γ) hx hb hr hlocks hK hP hS rfl hf dX8_drawn_21
  · replace hf := (if_neg c1).symm.trans hf
    refine lv_iload_n hx hb dX8_drawn_4 rfl (lv_at hl 2 rfl) ?_
    refine lv_bipush (v := (40 : Int32)) hx hb dX8_drawn_5 (by decide) ?_
    refine lv_icmp_le (tgt := 15) hx hb dX8_drawn_7 (by decide) (fun c2 => ?_) (fun c2 => ?_)
    · replace hf := (if_pos c2).symm.trans hf
      refine lv_aload_n hx hb dX8_drawn_15 rfl (lv_at hl 0 rfl) ?_
      refine lv_iload_n hx hb dX8_drawn_16 rfl (lv_at hl 1 rfl) ?_
      refine lv_iload_n hx hb dX8_drawn_17 rfl (lv_at hl 2 rfl) ?_
      obtain ⟨q3, h4, hf⟩ := w_ob hf
      refine w_ci (va_runV (As := [.int x1, .int x2]) (rest := []) ⟨hx, hb, hml, hown, hts⟩ (c_X8_pouredBySeed l Γ hG x1 x2 σ q3.1 q3.2 h4 H.size) (cwV 2 hts (wzV K940 K937 K938 K939 K2) rfl rfl rfl (by decide +kernel) ⟨(Nat.le_of_ble_eq_true rfl), (Nat.le_of_ble_eq_true rfl)⟩) (w_preV hK hP hkc hN hS (gC_Main Γ σ) rfl) rfl rfl hl.1 rfl (lv_room (Nat.le_of_ble_eq_true rfl)) dX8_drawn_18 ⟨Nat.le_refl _, Nat.le_refl _⟩) hS (fun H locs hP hS => ?_)
      exact w_iret (X := XC Γ) hx hb hr hlocks hK hP hS rfl hf dX8_drawn_21
    · replace hf := (if_neg c2).symm.trans hf
      refine lv_bipush (v := (-2 : Int32)) hx hb dX8_drawn_10 (by decide) ?_
      refine lv_goto (tgt := 21) hx hb dX8_drawn_12 (by decide) ?_
      exact w_iret (X := XC Γ) hx hb hr hlocks hK hP hS rfl hf dX8_drawn_21
def f_X8_chance_43 (x1 : Int32) (x2 : Int32) (x3 : Int32) (x4 : Int32) : Nat → Int32 → Int32 → Sg → Option (Int64 × Sg)
  | 0, _, _, _ => none
  | n + 1, y5, y6, τ => if x2 ≤ y6 then (f_X8_lowest y5 x2 x4 τ).bind fun (q8 : Int64 × Sg) => some (q8.1, q8.2) else (f_X8_pouredBySeed (x1 + y6) (6 : Int32) τ).bind fun (q10 : Int32 × Sg) => if q10.1 < x3 then (f_X8_chance_43 x1 x2 x3 x4 n) (y5) ((y6 + (1 : Int32))) q10.2 else (f_X8_chance_43 x1 x2 x3 x4 n) ((y5 + (1 : Int32))) ((y6 + (1 : Int32))) q10.2
def f_X8_chance (x1 : Int32) (x2 : Int32) (x3 : Int32) (x4 : Int32) (σ : Sg) : Option (Int64 × Sg) := if x2 < (1 : Int32) then some ((-4611686018427387904 : Int64), σ) else if (20 : Int32) < x2 then some ((-4611686018427387904 : Int64), σ) else if x3 < 0 then some ((-4611686018427387904 : Int64), σ) else if (9999 : Int32) < x3 then some ((-4611686018427387904 : Int64), σ) else if x4 < 0 then some ((-4611686018427387904 : Int64), σ) else if x4 ≤ (1 : Int32) then f_X8_chance_43 x1 x2 x3 x4 5000 ((0 : Int32)) ((0 : Int32)) σ else some ((-4611686018427387904 : Int64), σ)
set_option maxHeartbeats 40000000 in
set_option maxRecDepth 100000 in
theorem c_X8_chance (l : Launch) (Γ : Geo) (hG : okC Γ) (x1 : Int32) (x2 : Int32) (x3 : Int32) (x4 : Int32) (σ : Sg) (r : Int64) (σ' : Sg) (hf : f_X8_chance x1 x2 x3 x4 σ = some (r, σ')) (sz : Nat) : Met l yX8_chance (wz yX8_chance cX8_chance 7 (some .long)) { frames := 7, cells := 0, slots := 0, locals := 178 } (va_Pc [.ref (Γ.2.2.1 (0)), .int x1, .int x2, .int x3, .int x4] (wPre Γ.1 vwCl (tysC Γ) (XC Γ) (alC Γ) Γ.2.2.2 σ sz)) (wQl Γ.1 vwCl (tysC Γ) (XC Γ) (alC Γ) r σ' sz) 0 0 (wA (alC Γ) sz) := by
  refine w_enter (cc := cX8_chance) (maxL := 7) (ret := (some .long)) (by decide) rfl (Nat.le_of_ble_eq_true rfl) ?_
  intro p e s m below meth c ls hx hb hr hlocks hml hown hts hsz hP hK hkc hN hl
  subst hsz
  generalize hav : ([.ref (Γ.2.2.1 (0)), .int x1, .int x2, .int x3, .int x4] : List Value) = av at hl hts ⊢
  have hl : lv_has ls 7 [(0, .ref (Γ.2.2.1 (0))), (1, .int x1), (2, .int x2), (3, .int x3), (4, .int x4)] := by rw [← hav] at hl; exact hl
  have j43 : ∀ (n43 : Nat), ∀ (y5 : Int32) (y6 : Int32) (τ : Sg) (H : Heap) (locs : List Loc) (ls : Array Slot) (hf : f_X8_chance_43 x1 x2 x3 x4 n43 y5 y6 τ = some (r, σ')) (hP : va_P Γ.1 vwCl (XC Γ τ) H) (hS : va_S (wA (alC Γ) s.heap.size) s.heap H locs) (hl : lv_has ls 7 [(0, .ref (Γ.2.2.1 (0))), (1, .int x1), (2, .int x2), (3, .int x3), (4, .int x4), (5, .int y5), (6, .int y6)]), W p l e { frames := 7, cells := 0, slots := 0, locals := 178 } s m av.toArray below meth c H locs 0 0 (MQ below (wQl Γ.1 vwCl (tysC Γ) (XC Γ) (alC Γ) r σ' s.heap.size) av.toArray s 0 0 (wA (alC Γ) s.heap.size)) (F0 m 43 ls []) := by
    intro n43
    induction n43 with
    | zero =>
      intro y5 y6 τ H locs ls hf
      exact absurd hf (by intro h; cases h)
    | succ n43 ih43 =>
      intro y5 y6 τ H locs ls hf hP hS hl
      unfold f_X8_chance_43 at hf
      refine lv_iload hx hb dX8_chance_43 (lv_at hl 6 rfl) ?_
      refine lv_iload_n hx hb dX8_chance_45 rfl (lv_at hl 2 rfl) ?_
      refine lv_icmp_ge (tgt := 72) hx hb dX8_chance_46 (by decide) (fun c7 => ?_) (fun c7 => ?_)
      · replace hf := (if_pos c7).symm.trans hf
        refine lv_iload hx hb dX8_chance_72 (lv_at hl 5 rfl) ?_
        refine lv_iload_n hx hb dX8_chance_74 rfl (lv_at hl 2 rfl) ?_
        refine lv_iload hx hb dX8_chance_75 (lv_at hl 4 rfl) ?_
        obtain ⟨q8, h9, hf⟩ := w_ob hf
        refine w_cl (va_runS (As := [.int y5, .int x2, .int x4]) (rest := []) ⟨hx, hb, hml, hown, hts⟩ (c_X8_lowest l Γ hG y5 x2 x4 τ q8.1 q8.2 h9 H.size) (cwS 3 hts (wzS K837 K835 K836 K2) rfl rfl rfl (by decide +kernel) ⟨(Nat.le_of_ble_eq_true rfl), (Nat.le_of_ble_eq_true rfl)⟩) (w_pre hK hP hkc hN hS) rfl rfl hl.1 rfl (lv_room (Nat.le_of_ble_eq_true rfl)) dX8_chance_77 ⟨Nat.le_refl _, Nat.le_refl _⟩) hS (fun H locs hP hS => ?_)
        exact w_lret (X := XC Γ) hx hb hr hlocks hK hP hS hf dX8_chance_80
      · replace hf := (if_neg c7).symm.trans hf
        refine lv_aload_n hx hb dX8_chance_49 rfl (lv_at hl 0 rfl) ?_
        refine lv_iload_n hx hb dX8_chance_50 rfl (lv_at hl 1 rfl) ?_
        refine lv_iload hx hb dX8_chance_51 (lv_at hl 6 rfl) ?_
        refine lv_iadd hx hb dX8_chance_53 ?_
        refine lv_bipush (v := (6 : Int32)) hx hb dX8_chance_54 (by decide) ?_
        obtain ⟨q10, h11, hf⟩ := w_ob hf
        refine w_ci (va_runV (As := [.int (x1 + y6), .int (6 : Int32)]) (rest := []) ⟨hx, hb, hml, hown, hts⟩ (c_X8_pouredBySeed l Γ hG (x1 + y6) (6 : Int32) τ q10.1 q10.2 h11 H.size) (cwV 2 hts (wzV K940 K937 K938 K939 K2) rfl rfl rfl (by decide +kernel) ⟨(Nat.le_of_ble_eq_true rfl), (Nat.le_of_ble_eq_true rfl)⟩) (w_preV hK hP hkc hN hS (gC_Main Γ τ) rfl) rfl rfl hl.1 rfl (lv_room (Nat.le_of_ble_eq_true rfl)) dX8_chance_56 ⟨Nat.le_refl _, Nat.le_refl _⟩) hS (fun H locs hP hS => ?_)
        refine lv_iload_n hx hb dX8_chance_59 rfl (lv_at hl 3 rfl) ?_
        refine lv_icmp_lt (tgt := 66) hx hb dX8_chance_60 (by decide) (fun c12 => ?_) (fun c12 => ?_)
        · replace hf := (if_pos c12).symm.trans hf
          refine lv_iinc (v := (y6 + (1 : Int32))) (lv' := [(6, .int (y6 + (1 : Int32))), (0, .ref (Γ.2.2.1 (0))), (1, .int x1), (2, .int x2), (3, .int x3), (4, .int x4), (5, .int y5)]) hx hb dX8_chance_66 hl (k := 6) rfl rfl (by decide) rfl (fun ls hl => ?_)
          refine lv_goto (tgt := 43) hx hb dX8_chance_69 (by decide) ?_
          exact ih43 (y5) ((y6 + (1 : Int32))) q10.2 H locs ls hf hP hS (lv_sub hl [1, 2, 3, 4, 5, 6, 0] rfl)
        · replace hf := (if_neg c12).symm.trans hf
          refine lv_iinc (v := (y5 + (1 : Int32))) (lv' := [(5, .int (y5 + (1 : Int32))), (0, .ref (Γ.2.2.1 (0))), (1, .int x1), (2, .int x2), (3, .int x3), (4, .int x4), (6, .int y6)]) hx hb dX8_chance_63 hl (k := 5) rfl rfl (by decide) rfl (fun ls hl => ?_)
          refine lv_iinc (v := (y6 + (1 : Int32))) (lv' := [(6, .int (y6 + (1 : Int32))), (5, .int (y5 + (1 : Int32))), (0, .ref (Γ.2.2.1 (0))), (1, .int x1), (2, .int x2), (3, .int x3), (4, .int x4)]) hx hb dX8_chance_66 hl (k := 6) rfl rfl (by decide) rfl (fun ls hl => ?_)
          refine lv_goto (tgt := 43) hx hb dX8_chance_69 (by decide) ?_
          exact ih43 ((y5 + (1 : Int32))) ((y6 + (1 : Int32))) q10.2 H locs ls hf hP hS (lv_sub hl [2, 3, 4, 5, 6, 1, 0] rfl)
  suffices hw : ∀ (H : Heap) (locs : List Loc), va_P Γ.1 vwCl (XC Γ σ) H → va_S (wA (alC Γ) s.heap.size) s.heap H locs → W p l e { frames := 7, cells := 0, slots := 0, locals := 178 } s m av.toArray below meth c H locs 0 0 (MQ below (wQl Γ.1 vwCl (tysC Γ) (XC Γ) (alC Γ) r σ' s.heap.size) av.toArray s 0 0 (wA (alC Γ) s.heap.size)) (F0 m 0 ls []) from hw _ [] hP va_S.rf
  clear hP
  intro H locs hP hS
  unfold f_X8_chance at hf
  refine lv_iload_n hx hb dX8_chance_0 rfl (lv_at hl 2 rfl) ?_
  refine lv_iconst (v := (1 : Int32)) hx hb dX8_chance_1 (by decide) ?_
  refine lv_icmp_lt (tgt := 33) hx hb dX8_chance_2 (by decide) (fun c1 => ?_) (fun c1 => ?_)
  · replace hf := (if_pos c1).symm.trans hf
    refine lv_ldc2 (v := (-4611686018427387904 : Int64)) hx hb hown (hts (.constantLong RX8 185 (-4611686018427387904)) (wzm K833)) dX8_chance_33 ?_
    exact w_lret (X := XC Γ) hx hb hr hlocks hK hP hS hf dX8_chance_36
  · replace hf := (if_neg c1).symm.trans hf
    refine lv_iload_n hx hb dX8_chance_5 rfl (lv_at hl 2 rfl) ?_
    refine lv_bipush (v := (20 : Int32)) hx hb dX8_chance_6 (by decide) ?_
    refine lv_icmp_gt (tgt := 33) hx hb dX8_chance_8 (by decide) (fun c2 => ?_) (fun c2 => ?_)
    · replace hf := (if_pos c2).symm.trans hf
      refine lv_ldc2 (v := (-4611686018427387904 : Int64)) hx hb hown (hts (.constantLong RX8 185 (-4611686018427387904)) (wzm K833)) dX8_chance_33 ?_
      exact w_lret (X := XC Γ) hx hb hr hlocks hK hP hS hf dX8_chance_36
    · replace hf := (if_neg c2).symm.trans hf
      refine lv_iload_n hx hb dX8_chance_11 rfl (lv_at hl 3 rfl) ?_
      refine lv_if_lt (tgt := 33) hx hb dX8_chance_12 (by decide) (fun c3 => ?_) (fun c3 => ?_)
      · replace hf := (if_pos c3).symm.trans hf
        refine lv_ldc2 (v := (-4611686018427387904 : Int64)) hx hb hown (hts (.constantLong RX8 185 (-4611686018427387904)) (wzm K833)) dX8_chance_33 ?_
        exact w_lret (X := XC Γ) hx hb hr hlocks hK hP hS hf dX8_chance_36
      · replace hf := (if_neg c3).symm.trans hf
        refine lv_iload_n hx hb dX8_chance_15 rfl (lv_at hl 3 rfl) ?_
        refine lv_sipush (v := (9999 : Int32)) hx hb dX8_chance_16 (by decide) ?_
        refine lv_icmp_gt (tgt := 33) hx hb dX8_chance_19 (by decide) (fun c4 => ?_) (fun c4 => ?_)
        · replace hf := (if_pos c4).symm.trans hf
          refine lv_ldc2 (v := (-4611686018427387904 : Int64)) hx hb hown (hts (.constantLong RX8 185 (-4611686018427387904)) (wzm K833)) dX8_chance_33 ?_
          exact w_lret (X := XC Γ) hx hb hr hlocks hK hP hS hf dX8_chance_36
        · replace hf := (if_neg c4).symm.trans hf
          refine lv_iload hx hb dX8_chance_22 (lv_at hl 4 rfl) ?_
          refine lv_if_lt (tgt := 33) hx hb dX8_chance_24 (by decide) (fun c5 => ?_) (fun c5 => ?_)
          · replace hf := (if_pos c5).symm.trans hf
            refine lv_ldc2 (v := (-4611686018427387904 : Int64)) hx hb hown (hts (.constantLong RX8 185 (-4611686018427387904)) (wzm K833)) dX8_chance_33 ?_
            exact w_lret (X := XC Γ) hx hb hr hlocks hK hP hS hf dX8_chance_36
          · replace hf := (if_neg c5).symm.trans hf
            refine lv_iload hx hb dX8_chance_27 (lv_at hl 4 rfl) ?_
            refine lv_iconst (v := (1 : Int32)) hx hb dX8_chance_29 (by decide) ?_
            refine lv_icmp_le (tgt := 37) hx hb dX8_chance_30 (by decide) (fun c6 => ?_) (fun c6 => ?_)
            · replace hf := (if_pos c6).symm.trans hf
              refine lv_iconst (v := (0 : Int32)) hx hb dX8_chance_37 (by decide) ?_
              refine lv_istore (lv' := [(5, .int (0 : Int32)), (0, .ref (Γ.2.2.1 (0))), (1, .int x1), (2, .int x2), (3, .int x3), (4, .int x4)]) hx hb dX8_chance_38 hl (by decide) rfl (fun ls hl => ?_)
              refine lv_iconst (v := (0 : Int32)) hx hb dX8_chance_40 (by decide) ?_
              refine lv_istore (lv' := [(6, .int (0 : Int32)), (5, .int (0 : Int32)), (0, .ref (Γ.2.2.1 (0))), (1, .int x1), (2, .int x2), (3, .int x3), (4, .int x4)]) hx hb dX8_chance_41 hl (by decide) rfl (fun ls hl => ?_)
              exact j43 5000 ((0 : Int32)) ((0 : Int32)) σ H locs ls hf hP hS (lv_sub hl [2, 3, 4, 5, 6, 1, 0] rfl)
            · replace hf := (if_neg c6).symm.trans hf
              refine lv_ldc2 (v := (-4611686018427387904 : Int64)) hx hb hown (hts (.constantLong RX8 185 (-4611686018427387904)) (wzm K833)) dX8_chance_33 ?_
              exact w_lret (X := XC Γ) hx hb hr hlocks hK hP hS hf dX8_chance_36
def f_X8_image (σ : Sg) : Option (Int32 × Sg) := (f_X1_takeFrom (2) (0) σ).bind fun (q1 : Sg) => some (((up q1 (33) 0 (1 : Int32)) (11 * 2 + 3) 0), (up q1 (33) 0 (1 : Int32)))
set_option maxHeartbeats 40000000 in
set_option maxRecDepth 100000 in
theorem c_X8_image (l : Launch) (Γ : Geo) (hG : okC Γ) (σ : Sg) (r : Int32) (σ' : Sg) (hf : f_X8_image σ = some (r, σ')) (sz : Nat) : Met l yX8_image (wz yX8_image cX8_image 1 (some .int)) { frames := 2, cells := 0, slots := 0, locals := 101 } (va_Pc [.ref (Γ.2.2.1 (0))] (wPre Γ.1 vwCl (tysC Γ) (XC Γ) (alC Γ) Γ.2.2.2 σ sz)) (wQi Γ.1 vwCl (tysC Γ) (XC Γ) (alC Γ) r σ' sz) 0 0 (wA (alC Γ) sz) := by
  refine w_enter (cc := cX8_image) (maxL := 1) (ret := (some .int)) (by decide) rfl (Nat.le_of_ble_eq_true rfl) ?_
  intro p e s m below meth c ls hx hb hr hlocks hml hown hts hsz hP hK hkc hN hl
  subst hsz
  generalize hav : ([.ref (Γ.2.2.1 (0))] : List Value) = av at hl hts ⊢
  have hl : lv_has ls 1 [(0, .ref (Γ.2.2.1 (0)))] := by rw [← hav] at hl; exact hl
  suffices hw : ∀ (H : Heap) (locs : List Loc), va_P Γ.1 vwCl (XC Γ σ) H → va_S (wA (alC Γ) s.heap.size) s.heap H locs → W p l e { frames := 2, cells := 0, slots := 0, locals := 101 } s m av.toArray below meth c H locs 0 0 (MQ below (wQi Γ.1 vwCl (tysC Γ) (XC Γ) (alC Γ) r σ' s.heap.size) av.toArray s 0 0 (wA (alC Γ) s.heap.size)) (F0 m 0 ls []) from hw _ [] hP va_S.rf
  clear hP
  intro H locs hP hS
  unfold f_X8_image at hf
  refine lv_aload_n hx hb dX8_image_0 rfl (lv_at hl 0 rfl) ?_
  refine va_get (D := Γ.1) (ci := 7) (v := .ref (Γ.2.2.1 (1 + 8 * 2))) (C := RX8) (T := TX8) (N := 9) hx hb hts iX8 hown hK hP (0) (gC_Main Γ σ) rfl 2 (by decide) (hts (.fieldLink RX8 19 "OtherHalfOfNight" "kept" "LOtherHalfOfNight$House;") (wzm K17)) (fun _ h9 => h9) rfl dX8_image_1 ?_
  refine lv_aload_n hx hb dX8_image_4 rfl (lv_at hl 0 rfl) ?_
  refine va_get (D := Γ.1) (ci := 7) (v := .ref (Γ.2.2.1 (1 + 8 * 0))) (C := RX8) (T := TX8) (N := 9) hx hb hts iX8 hown hK hP (0) (gC_Main Γ σ) rfl 0 (by decide) (hts (.fieldLink RX8 10 "OtherHalfOfNight" "now" "LOtherHalfOfNight$House;") (wzm K15)) (fun _ h9 => h9) rfl dX8_image_5 ?_
  obtain ⟨q1, h2, hf⟩ := w_ob hf
  refine w_cv (va_runV (As := [.ref (Γ.2.2.1 (1 + 8 * 0))]) (rest := []) ⟨hx, hb, hml, hown, hts⟩ (c_X1_takeFrom l Γ hG (2) (0) σ q1 h2 H.size) (cwV 1 hts (wzV K703 K700 K701 K702 K14) rfl rfl rfl (by decide +kernel) ⟨(Nat.le_of_ble_eq_true rfl), (Nat.le_of_ble_eq_true rfl)⟩) (w_preV hK hP hkc hN hS (gC_House Γ σ 2 (by decide)) rfl) rfl rfl hl.1 rfl (lv_room (Nat.le_of_ble_eq_true rfl)) dX8_image_8 ⟨Nat.le_refl _, Nat.le_refl _⟩) hS (fun H locs hP hS => ?_)
  refine lv_aload_n hx hb dX8_image_11 rfl (lv_at hl 0 rfl) ?_
  refine lv_iconst (v := (1 : Int32)) hx hb dX8_image_12 (by decide) ?_
  refine w_put (X := XC Γ) (σ' := (up q1 (33) 0 (1 : Int32))) (ci := 7) (C := RX8) (T := TX8) (N := 9) (ty := .boolean) hx hb hts iX8 tyX8 tyX8_ok nmX8 hown hK hP (halC Γ) hG hS (0) (gC_Main Γ q1) rfl 3 (by decide) (hts (.fieldLink RX8 232 "OtherHalfOfNight" "hasKept" "Z") (wzm K964)) (fun _ h9 => h9) rfl (by decide +kernel) (by decide) rfl (Nat.le_of_ble_eq_true rfl) dX8_image_13 (sC_Main_hasKept Γ q1 (1 : Int32)) (fun H locs hP hS => ?_)
  refine lv_aload_n hx hb dX8_image_16 rfl (lv_at hl 0 rfl) ?_
  refine va_get (D := Γ.1) (ci := 7) (v := .ref (Γ.2.2.1 (1 + 8 * 2))) (C := RX8) (T := TX8) (N := 9) hx hb hts iX8 hown hK hP (0) (gC_Main Γ (up q1 (33) 0 (1 : Int32))) rfl 2 (by decide) (hts (.fieldLink RX8 19 "OtherHalfOfNight" "kept" "LOtherHalfOfNight$House;") (wzm K17)) (fun _ h9 => h9) rfl dX8_image_17 ?_
  refine va_get (D := Γ.1) (ci := 1) (v := .int ((up q1 (33) 0 (1 : Int32)) (11 * 2 + 3) 0)) (C := RX1) (T := TX1) (N := 11) hx hb hts iX1 hown hK hP (1 + 8 * 2) (gC_House Γ (up q1 (33) 0 (1 : Int32)) 2 (by decide)) rfl 3 (by decide) (hts (.fieldLink RX8 236 "OtherHalfOfNight$House" "ones" "I") (wzm K887)) (fun _ h9 => h9) rfl dX8_image_20 ?_
  exact w_iret (X := XC Γ) hx hb hr hlocks hK hP hS rfl hf dX8_image_23
def f_X8_back (σ : Sg) : Option (Int32 × Sg) := if (σ (33) 0) = 0 then some ((-3 : Int32), σ) else (f_X1_takeFrom (0) (2) σ).bind fun (q2 : Sg) => some ((q2 (11 * 0 + 3) 0), q2)
set_option maxHeartbeats 40000000 in
set_option maxRecDepth 100000 in
theorem c_X8_back (l : Launch) (Γ : Geo) (hG : okC Γ) (σ : Sg) (r : Int32) (σ' : Sg) (hf : f_X8_back σ = some (r, σ')) (sz : Nat) : Met l yX8_back (wz yX8_back cX8_back 1 (some .int)) { frames := 2, cells := 0, slots := 0, locals := 101 } (va_Pc [.ref (Γ.2.2.1 (0))] (wPre Γ.1 vwCl (tysC Γ) (XC Γ) (alC Γ) Γ.2.2.2 σ sz)) (wQi Γ.1 vwCl (tysC Γ) (XC Γ) (alC Γ) r σ' sz) 0 0 (wA (alC Γ) sz) := by
  refine w_enter (cc := cX8_back) (maxL := 1) (ret := (some .int)) (by decide) rfl (Nat.le_of_ble_eq_true rfl) ?_
  intro p e s m below meth c ls hx hb hr hlocks hml hown hts hsz hP hK hkc hN hl
  subst hsz
  generalize hav : ([.ref (Γ.2.2.1 (0))] : List Value) = av at hl hts ⊢
  have hl : lv_has ls 1 [(0, .ref (Γ.2.2.1 (0)))] := by rw [← hav] at hl; exact hl
  suffices hw : ∀ (H : Heap) (locs : List Loc), va_P Γ.1 vwCl (XC Γ σ) H → va_S (wA (alC Γ) s.heap.size) s.heap H locs → W p l e { frames := 2, cells := 0, slots := 0, locals := 101 } s m av.toArray below meth c H locs 0 0 (MQ below (wQi Γ.1 vwCl (tysC Γ) (XC Γ) (alC Γ) r σ' s.heap.size) av.toArray s 0 0 (wA (alC Γ) s.heap.size)) (F0 m 0 ls []) from hw _ [] hP va_S.rf
  clear hP
  intro H locs hP hS
  unfold f_X8_back at hf
  refine lv_aload_n hx hb dX8_back_0 rfl (lv_at hl 0 rfl) ?_
  refine va_get (D := Γ.1) (ci := 7) (v := .int (σ (33) 0)) (C := RX8) (T := TX8) (N := 9) hx hb hts iX8 hown hK hP (0) (gC_Main Γ σ) rfl 3 (by decide) (hts (.fieldLink RX8 232 "OtherHalfOfNight" "hasKept" "Z") (wzm K964)) (fun _ h9 => h9) rfl dX8_back_1 ?_
  refine lv_if_ne (tgt := 10) hx hb dX8_back_4 (by decide) (fun c1 => ?_) (fun c1 => ?_)
  · replace hf := (if_neg c1).symm.trans hf
    refine lv_aload_n hx hb dX8_back_10 rfl (lv_at hl 0 rfl) ?_
    refine va_get (D := Γ.1) (ci := 7) (v := .ref (Γ.2.2.1 (1 + 8 * 0))) (C := RX8) (T := TX8) (N := 9) hx hb hts iX8 hown hK hP (0) (gC_Main Γ σ) rfl 0 (by decide) (hts (.fieldLink RX8 10 "OtherHalfOfNight" "now" "LOtherHalfOfNight$House;") (wzm K15)) (fun _ h9 => h9) rfl dX8_back_11 ?_
    refine lv_aload_n hx hb dX8_back_14 rfl (lv_at hl 0 rfl) ?_
    refine va_get (D := Γ.1) (ci := 7) (v := .ref (Γ.2.2.1 (1 + 8 * 2))) (C := RX8) (T := TX8) (N := 9) hx hb hts iX8 hown hK hP (0) (gC_Main Γ σ) rfl 2 (by decide) (hts (.fieldLink RX8 19 "OtherHalfOfNight" "kept" "LOtherHalfOfNight$House;") (wzm K17)) (fun _ h9 => h9) rfl dX8_back_15 ?_
    obtain ⟨q2, h3, hf⟩ := w_ob hf
    refine w_cv (va_runV (As := [.ref (Γ.2.2.1 (1 + 8 * 2))]) (rest := []) ⟨hx, hb, hml, hown, hts⟩ (c_X1_takeFrom l Γ hG (0) (2) σ q2 h3 H.size) (cwV 1 hts (wzV K703 K700 K701 K702 K14) rfl rfl rfl (by decide +kernel) ⟨(Nat.le_of_ble_eq_true rfl), (Nat.le_of_ble_eq_true rfl)⟩) (w_preV hK hP hkc hN hS (gC_House Γ σ 0 (by decide)) rfl) rfl rfl hl.1 rfl (lv_room (Nat.le_of_ble_eq_true rfl)) dX8_back_18 ⟨Nat.le_refl _, Nat.le_refl _⟩) hS (fun H locs hP hS => ?_)
    refine lv_aload_n hx hb dX8_back_21 rfl (lv_at hl 0 rfl) ?_
    refine va_get (D := Γ.1) (ci := 7) (v := .ref (Γ.2.2.1 (1 + 8 * 0))) (C := RX8) (T := TX8) (N := 9) hx hb hts iX8 hown hK hP (0) (gC_Main Γ q2) rfl 0 (by decide) (hts (.fieldLink RX8 10 "OtherHalfOfNight" "now" "LOtherHalfOfNight$House;") (wzm K15)) (fun _ h9 => h9) rfl dX8_back_22 ?_
    refine va_get (D := Γ.1) (ci := 1) (v := .int (q2 (11 * 0 + 3) 0)) (C := RX1) (T := TX1) (N := 11) hx hb hts iX1 hown hK hP (1 + 8 * 0) (gC_House Γ q2 0 (by decide)) rfl 3 (by decide) (hts (.fieldLink RX8 236 "OtherHalfOfNight$House" "ones" "I") (wzm K887)) (fun _ h9 => h9) rfl dX8_back_25 ?_
    exact w_iret (X := XC Γ) hx hb hr hlocks hK hP hS rfl hf dX8_back_28
  · replace hf := (if_pos c1).symm.trans hf
    refine lv_bipush (v := (-3 : Int32)) hx hb dX8_back_7 (by decide) ?_
    exact w_iret (X := XC Γ) hx hb hr hlocks hK hP hS rfl hf dX8_back_9
def f_X8_count (x1 : Int32) (σ : Sg) : Option (Int32 × Sg) := if x1 = 0 then some ((σ (11 * 0 + 3) 0), σ) else if x1 = 1 then (f_X1_heldInAll (0) σ).bind fun (q3 : Int32 × Sg) => some (q3.1, q3.2) else if x1 = 2 then some ((σ (11 * 0) 0), σ) else if x1 = 3 then (f_X2_size σ).bind fun (q7 : Int32 × Sg) => some (q7.1, q7.2) else if x1 = 4 then some ((σ (35) 0), σ) else if x1 = 5 then some ((σ (11 * 0 + 2) 0), σ) else some ((-2 : Int32), σ)
set_option maxHeartbeats 40000000 in
set_option maxRecDepth 100000 in
theorem c_X8_count (l : Launch) (Γ : Geo) (hG : okC Γ) (x1 : Int32) (σ : Sg) (r : Int32) (σ' : Sg) (hf : f_X8_count x1 σ = some (r, σ')) (sz : Nat) : Met l yX8_count (wz yX8_count cX8_count 2 (some .int)) { frames := 1, cells := 0, slots := 0, locals := 22 } (va_Pc [.ref (Γ.2.2.1 (0)), .int x1] (wPre Γ.1 vwCl (tysC Γ) (XC Γ) (alC Γ) Γ.2.2.2 σ sz)) (wQi Γ.1 vwCl (tysC Γ) (XC Γ) (alC Γ) r σ' sz) 0 0 (wA (alC Γ) sz) := by
  refine w_enter (cc := cX8_count) (maxL := 2) (ret := (some .int)) (by decide) rfl (Nat.le_of_ble_eq_true rfl) ?_
  intro p e s m below meth c ls hx hb hr hlocks hml hown hts hsz hP hK hkc hN hl
  subst hsz
  generalize hav : ([.ref (Γ.2.2.1 (0)), .int x1] : List Value) = av at hl hts ⊢
  have hl : lv_has ls 2 [(0, .ref (Γ.2.2.1 (0))), (1, .int x1)] := by rw [← hav] at hl; exact hl
  suffices hw : ∀ (H : Heap) (locs : List Loc), va_P Γ.1 vwCl (XC Γ σ) H → va_S (wA (alC Γ) s.heap.size) s.heap H locs → W p l e { frames := 1, cells := 0, slots := 0, locals := 22 } s m av.toArray below meth c H locs 0 0 (MQ below (wQi Γ.1 vwCl (tysC Γ) (XC Γ) (alC Γ) r σ' s.heap.size) av.toArray s 0 0 (wA (alC Γ) s.heap.size)) (F0 m 0 ls []) from hw _ [] hP va_S.rf
  clear hP
  intro H locs hP hS
  unfold f_X8_count at hf
  refine lv_iload_n hx hb dX8_count_0 rfl (lv_at hl 1 rfl) ?_
  by_cases c1 : x1 = 0
  · replace hf := (if_pos c1).symm.trans hf
    refine lv_tableIn (off := 39) (tgt := 40) hx hb dX8_count_1 (by rw [c1]; decide) (by rw [c1]; decide) (by rw [c1]; rfl) (by decide) ?_
    refine lv_aload_n hx hb dX8_count_40 rfl (lv_at hl 0 rfl) ?_
    refine va_get (D := Γ.1) (ci := 7) (v := .ref (Γ.2.2.1 (1 + 8 * 0))) (C := RX8) (T := TX8) (N := 9) hx hb hts iX8 hown hK hP (0) (gC_Main Γ σ) rfl 0 (by decide) (hts (.fieldLink RX8 10 "OtherHalfOfNight" "now" "LOtherHalfOfNight$House;") (wzm K15)) (fun _ h9 => h9) rfl dX8_count_41 ?_
    refine va_get (D := Γ.1) (ci := 1) (v := .int (σ (11 * 0 + 3) 0)) (C := RX1) (T := TX1) (N := 11) hx hb hts iX1 hown hK hP (1 + 8 * 0) (gC_House Γ σ 0 (by decide)) rfl 3 (by decide) (hts (.fieldLink RX8 236 "OtherHalfOfNight$House" "ones" "I") (wzm K887)) (fun _ h9 => h9) rfl dX8_count_44 ?_
    exact w_iret (X := XC Γ) hx hb hr hlocks hK hP hS rfl hf dX8_count_47
  · replace hf := (if_neg c1).symm.trans hf
    by_cases c2 : x1 = 1
    · replace hf := (if_pos c2).symm.trans hf
      refine lv_tableIn (off := 47) (tgt := 48) hx hb dX8_count_1 (by rw [c2]; decide) (by rw [c2]; decide) (by rw [c2]; rfl) (by decide) ?_
      refine lv_aload_n hx hb dX8_count_48 rfl (lv_at hl 0 rfl) ?_
      refine va_get (D := Γ.1) (ci := 7) (v := .ref (Γ.2.2.1 (1 + 8 * 0))) (C := RX8) (T := TX8) (N := 9) hx hb hts iX8 hown hK hP (0) (gC_Main Γ σ) rfl 0 (by decide) (hts (.fieldLink RX8 10 "OtherHalfOfNight" "now" "LOtherHalfOfNight$House;") (wzm K15)) (fun _ h9 => h9) rfl dX8_count_49 ?_
      obtain ⟨q3, h4, hf⟩ := w_ob hf
      refine w_ci (va_runV (As := []) (rest := []) ⟨hx, hb, hml, hown, hts⟩ (c_X1_heldInAll l Γ hG (0) σ q3.1 q3.2 h4 H.size) (cwV 0 hts (wzV K987 K984 K985 K986 K14) rfl rfl rfl (by decide +kernel) ⟨(Nat.le_of_ble_eq_true rfl), (Nat.le_of_ble_eq_true rfl)⟩) (w_preV hK hP hkc hN hS (gC_House Γ σ 0 (by decide)) rfl) rfl rfl hl.1 rfl (lv_room (Nat.le_of_ble_eq_true rfl)) dX8_count_52 ⟨Nat.le_refl _, Nat.le_refl _⟩) hS (fun H locs hP hS => ?_)
      exact w_iret (X := XC Γ) hx hb hr hlocks hK hP hS rfl hf dX8_count_55
    · replace hf := (if_neg c2).symm.trans hf
      by_cases c5 : x1 = 2
      · replace hf := (if_pos c5).symm.trans hf
        refine lv_tableIn (off := 55) (tgt := 56) hx hb dX8_count_1 (by rw [c5]; decide) (by rw [c5]; decide) (by rw [c5]; rfl) (by decide) ?_
        refine lv_aload_n hx hb dX8_count_56 rfl (lv_at hl 0 rfl) ?_
        refine va_get (D := Γ.1) (ci := 7) (v := .ref (Γ.2.2.1 (1 + 8 * 0))) (C := RX8) (T := TX8) (N := 9) hx hb hts iX8 hown hK hP (0) (gC_Main Γ σ) rfl 0 (by decide) (hts (.fieldLink RX8 10 "OtherHalfOfNight" "now" "LOtherHalfOfNight$House;") (wzm K15)) (fun _ h9 => h9) rfl dX8_count_57 ?_
        refine va_get (D := Γ.1) (ci := 1) (v := .int (σ (11 * 0) 0)) (C := RX1) (T := TX1) (N := 11) hx hb hts iX1 hown hK hP (1 + 8 * 0) (gC_House Γ σ 0 (by decide)) rfl 0 (by decide) (hts (.fieldLink RX8 119 "OtherHalfOfNight$House" "night" "I") (wzm K644)) (fun _ h9 => h9) rfl dX8_count_60 ?_
        exact w_iret (X := XC Γ) hx hb hr hlocks hK hP hS rfl hf dX8_count_63
      · replace hf := (if_neg c5).symm.trans hf
        by_cases c6 : x1 = 3
        · replace hf := (if_pos c6).symm.trans hf
          refine lv_tableIn (off := 63) (tgt := 64) hx hb dX8_count_1 (by rw [c6]; decide) (by rw [c6]; decide) (by rw [c6]; rfl) (by decide) ?_
          refine lv_aload_n hx hb dX8_count_64 rfl (lv_at hl 0 rfl) ?_
          refine va_get (D := Γ.1) (ci := 7) (v := .ref (Γ.2.2.1 (27))) (C := RX8) (T := TX8) (N := 9) hx hb hts iX8 hown hK hP (0) (gC_Main Γ σ) rfl 5 (by decide) (hts (.fieldLink RX8 32 "OtherHalfOfNight" "law" "LOtherHalfOfNight$Law;") (wzm K25)) (fun _ h9 => h9) rfl dX8_count_65 ?_
          obtain ⟨q7, h8, hf⟩ := w_ob hf
          refine w_ci (va_runV (As := []) (rest := []) ⟨hx, hb, hml, hown, hts⟩ (c_X2_size l Γ hG σ q7.1 q7.2 h8 H.size) (cwV 0 hts (wzV K882 K879 K880 K881 K24) rfl rfl rfl (by decide +kernel) ⟨(Nat.le_of_ble_eq_true rfl), (Nat.le_of_ble_eq_true rfl)⟩) (w_preV hK hP hkc hN hS (gC_Law Γ σ) rfl) rfl rfl hl.1 rfl (lv_room (Nat.le_of_ble_eq_true rfl)) dX8_count_68 ⟨Nat.le_refl _, Nat.le_refl _⟩) hS (fun H locs hP hS => ?_)
          exact w_iret (X := XC Γ) hx hb hr hlocks hK hP hS rfl hf dX8_count_71
        · replace hf := (if_neg c6).symm.trans hf
          by_cases c9 : x1 = 4
          · replace hf := (if_pos c9).symm.trans hf
            refine lv_tableIn (off := 71) (tgt := 72) hx hb dX8_count_1 (by rw [c9]; decide) (by rw [c9]; decide) (by rw [c9]; rfl) (by decide) ?_
            refine lv_aload_n hx hb dX8_count_72 rfl (lv_at hl 0 rfl) ?_
            refine va_get (D := Γ.1) (ci := 7) (v := .ref (Γ.2.2.1 (25))) (C := RX8) (T := TX8) (N := 9) hx hb hts iX8 hown hK hP (0) (gC_Main Γ σ) rfl 4 (by decide) (hts (.fieldLink RX8 25 "OtherHalfOfNight" "reader" "LOtherHalfOfNight$Reader;") (wzm K21)) (fun _ h9 => h9) rfl dX8_count_73 ?_
            refine va_get (D := Γ.1) (ci := 4) (v := .int (σ (35) 0)) (C := RX4) (T := TX4) (N := 7) hx hb hts iX4 hown hK hP (25) (gC_Reader Γ σ) rfl 1 (by decide) (hts (.fieldLink RX8 94 "OtherHalfOfNight$Reader" "size" "I") (wzm K420)) (fun _ h9 => h9) rfl dX8_count_76 ?_
            exact w_iret (X := XC Γ) hx hb hr hlocks hK hP hS rfl hf dX8_count_79
          · replace hf := (if_neg c9).symm.trans hf
            by_cases c10 : x1 = 5
            · replace hf := (if_pos c10).symm.trans hf
              refine lv_tableIn (off := 79) (tgt := 80) hx hb dX8_count_1 (by rw [c10]; decide) (by rw [c10]; decide) (by rw [c10]; rfl) (by decide) ?_
              refine lv_aload_n hx hb dX8_count_80 rfl (lv_at hl 0 rfl) ?_
              refine va_get (D := Γ.1) (ci := 7) (v := .ref (Γ.2.2.1 (1 + 8 * 0))) (C := RX8) (T := TX8) (N := 9) hx hb hts iX8 hown hK hP (0) (gC_Main Γ σ) rfl 0 (by decide) (hts (.fieldLink RX8 10 "OtherHalfOfNight" "now" "LOtherHalfOfNight$House;") (wzm K15)) (fun _ h9 => h9) rfl dX8_count_81 ?_
              refine va_get (D := Γ.1) (ci := 1) (v := .int (σ (11 * 0 + 2) 0)) (C := RX1) (T := TX1) (N := 11) hx hb hts iX1 hown hK hP (1 + 8 * 0) (gC_House Γ σ 0 (by decide)) rfl 2 (by decide) (hts (.fieldLink RX8 116 "OtherHalfOfNight$House" "rule" "I") (wzm K634)) (fun _ h9 => h9) rfl dX8_count_84 ?_
              exact w_iret (X := XC Γ) hx hb hr hlocks hK hP hS rfl hf dX8_count_87
            · replace hf := (if_neg c10).symm.trans hf
              have nc1 : ¬ (x1).toInt = 0 := fun q => c1 (Int32.toInt_inj.mp q)
              have nc2 : ¬ (x1).toInt = 1 := fun q => c2 (Int32.toInt_inj.mp q)
              have nc5 : ¬ (x1).toInt = 2 := fun q => c5 (Int32.toInt_inj.mp q)
              have nc6 : ¬ (x1).toInt = 3 := fun q => c6 (Int32.toInt_inj.mp q)
              have nc9 : ¬ (x1).toInt = 4 := fun q => c9 (Int32.toInt_inj.mp q)
              have nc10 : ¬ (x1).toInt = 5 := fun q => c10 (Int32.toInt_inj.mp q)
              refine lv_tableOut (tgt := 88) hx hb dX8_count_1 (by omega) (by decide) ?_
              refine lv_bipush (v := (-2 : Int32)) hx hb dX8_count_88 (by decide) ?_
              exact w_iret (X := XC Γ) hx hb hr hlocks hK hP hS rfl hf dX8_count_90
def f_X8_sheet (x1 : Int32) (x2 : Int32) (x3 : Int32) (σ : Sg) : Option (Int32 × Sg) := (f_X8_isSheet x1 σ).bind fun (q1 : Int32 × Sg) => if q1.1 = 0 then some ((-2 : Int32), q1.2) else if x2 < (-1 : Int32) then some ((-2 : Int32), q1.2) else if x2 ≤ (2 : Int32) then if x2 = (-1 : Int32) then if okI x1 4 then (f_X5_become ((x1).toNatClampNeg) (-1 : Int32) (0 : Int32) q1.2).bind fun (q13 : Sg) => some ((1 : Int32), q13) else none else if x3 ≤ (40 : Int32) then if 0 ≤ x3 then if okI x1 4 then (f_X5_become ((x1).toNatClampNeg) x2 x3 q1.2).bind fun (q10 : Sg) => some ((1 : Int32), q10) else none else some ((-14 : Int32), q1.2) else some ((-2 : Int32), q1.2) else some ((-2 : Int32), q1.2)
set_option maxHeartbeats 40000000 in
set_option maxRecDepth 100000 in
theorem c_X8_sheet (l : Launch) (Γ : Geo) (hG : okC Γ) (x1 : Int32) (x2 : Int32) (x3 : Int32) (σ : Sg) (r : Int32) (σ' : Sg) (hf : f_X8_sheet x1 x2 x3 σ = some (r, σ')) (sz : Nat) : Met l yX8_sheet (wz yX8_sheet cX8_sheet 4 (some .int)) { frames := 2, cells := 0, slots := 0, locals := 44 } (va_Pc [.ref (Γ.2.2.1 (0)), .int x1, .int x2, .int x3] (wPre Γ.1 vwCl (tysC Γ) (XC Γ) (alC Γ) Γ.2.2.2 σ sz)) (wQi Γ.1 vwCl (tysC Γ) (XC Γ) (alC Γ) r σ' sz) 0 0 (wA (alC Γ) sz) := by
  refine w_enter (cc := cX8_sheet) (maxL := 4) (ret := (some .int)) (by decide) rfl (Nat.le_of_ble_eq_true rfl) ?_
  intro p e s m below meth c ls hx hb hr hlocks hml hown hts hsz hP hK hkc hN hl
  subst hsz
  generalize hav : ([.ref (Γ.2.2.1 (0)), .int x1, .int x2, .int x3] : List Value) = av at hl hts ⊢
  have hl : lv_has ls 4 [(0, .ref (Γ.2.2.1 (0))), (1, .int x1), (2, .int x2), (3, .int x3)] := by rw [← hav] at hl; exact hl
  suffices hw : ∀ (H : Heap) (locs : List Loc), va_P Γ.1 vwCl (XC Γ σ) H → va_S (wA (alC Γ) s.heap.size) s.heap H locs → W p l e { frames := 2, cells := 0, slots := 0, locals := 44 } s m av.toArray below meth c H locs 0 0 (MQ below (wQi Γ.1 vwCl (tysC Γ) (XC Γ) (alC Γ) r σ' s.heap.size) av.toArray s 0 0 (wA (alC Γ) s.heap.size)) (F0 m 0 ls []) from hw _ [] hP va_S.rf
  clear hP
  intro H locs hP hS
  unfold f_X8_sheet at hf
  refine lv_iload_n hx hb dX8_sheet_0 rfl (lv_at hl 1 rfl) ?_
  obtain ⟨q1, h2, hf⟩ := w_ob hf
  refine w_ci (va_runS (As := [.int x1]) (rest := []) ⟨hx, hb, hml, hown, hts⟩ (c_X8_isSheet l Γ hG x1 σ q1.1 q1.2 h2 H.size) (cwS 1 hts (wzS K853 K851 K852 K2) rfl rfl rfl (by decide +kernel) ⟨(Nat.le_of_ble_eq_true rfl), (Nat.le_of_ble_eq_true rfl)⟩) (w_pre hK hP hkc hN hS) rfl rfl hl.1 rfl (lv_room (Nat.le_of_ble_eq_true rfl)) dX8_sheet_1 ⟨Nat.le_refl _, Nat.le_refl _⟩) hS (fun H locs hP hS => ?_)
  refine lv_if_eq (tgt := 17) hx hb dX8_sheet_4 (by decide) (fun c3 => ?_) (fun c3 => ?_)
  · replace hf := (if_pos c3).symm.trans hf
    refine lv_bipush (v := (-2 : Int32)) hx hb dX8_sheet_17 (by decide) ?_
    exact w_iret (X := XC Γ) hx hb hr hlocks hK hP hS rfl hf dX8_sheet_19
  · replace hf := (if_neg c3).symm.trans hf
    refine lv_iload_n hx hb dX8_sheet_7 rfl (lv_at hl 2 rfl) ?_
    refine lv_iconst (v := (-1 : Int32)) hx hb dX8_sheet_8 (by decide) ?_
    refine lv_icmp_lt (tgt := 17) hx hb dX8_sheet_9 (by decide) (fun c4 => ?_) (fun c4 => ?_)
    · replace hf := (if_pos c4).symm.trans hf
      refine lv_bipush (v := (-2 : Int32)) hx hb dX8_sheet_17 (by decide) ?_
      exact w_iret (X := XC Γ) hx hb hr hlocks hK hP hS rfl hf dX8_sheet_19
    · replace hf := (if_neg c4).symm.trans hf
      refine lv_iload_n hx hb dX8_sheet_12 rfl (lv_at hl 2 rfl) ?_
      refine lv_iconst (v := (2 : Int32)) hx hb dX8_sheet_13 (by decide) ?_
      refine lv_icmp_le (tgt := 20) hx hb dX8_sheet_14 (by decide) (fun c5 => ?_) (fun c5 => ?_)
      · replace hf := (if_pos c5).symm.trans hf
        refine lv_iload_n hx hb dX8_sheet_20 rfl (lv_at hl 2 rfl) ?_
        refine lv_iconst (v := (-1 : Int32)) hx hb dX8_sheet_21 (by decide) ?_
        refine lv_icmp_ne (tgt := 38) hx hb dX8_sheet_22 (by decide) (fun c6 => ?_) (fun c6 => ?_)
        · replace hf := (if_neg c6).symm.trans hf
          refine lv_iload_n hx hb dX8_sheet_38 rfl (lv_at hl 3 rfl) ?_
          refine lv_bipush (v := (40 : Int32)) hx hb dX8_sheet_39 (by decide) ?_
          refine lv_icmp_le (tgt := 47) hx hb dX8_sheet_41 (by decide) (fun c7 => ?_) (fun c7 => ?_)
          · replace hf := (if_pos c7).symm.trans hf
            refine lv_iload_n hx hb dX8_sheet_47 rfl (lv_at hl 3 rfl) ?_
            refine lv_if_ge (tgt := 54) hx hb dX8_sheet_48 (by decide) (fun c8 => ?_) (fun c8 => ?_)
            · replace hf := (if_pos c8).symm.trans hf
              refine lv_aload_n hx hb dX8_sheet_54 rfl (lv_at hl 0 rfl) ?_
              refine va_get (D := Γ.1) (ci := 7) (v := .ref (Γ.2.2.1 (62))) (C := RX8) (T := TX8) (N := 9) hx hb hts iX8 hown hK hP (0) (gC_Main Γ q1.2) rfl 8 (by decide) (hts (.fieldLink RX8 52 "OtherHalfOfNight" "sheets" "[LOtherHalfOfNight$Sheet;") (wzm K35)) (fun _ h9 => h9) rfl dX8_sheet_55 ?_
              refine lv_iload_n hx hb dX8_sheet_58 rfl (lv_at hl 1 rfl) ?_
              obtain ⟨g9, hf⟩ := w_oi hf
              refine w_aaldq (D := Γ.1) (tys := (tysC Γ)) (g := fun j => Γ.2.2.1 (63 + 2 * j)) hx hb hK hP (62) 3 (gC_sheets Γ q1.2) rfl g9 dX8_sheet_59 ?_
              refine lv_iload_n hx hb dX8_sheet_60 rfl (lv_at hl 2 rfl) ?_
              refine lv_iload_n hx hb dX8_sheet_61 rfl (lv_at hl 3 rfl) ?_
              obtain ⟨q10, h11, hf⟩ := w_ob hf
              refine w_cv (va_runV (As := [.int x2, .int x3]) (rest := []) ⟨hx, hb, hml, hown, hts⟩ (c_X5_become l Γ hG ((x1).toNatClampNeg) x2 x3 q1.2 q10 h11 H.size) (cwV 2 hts (wzV K911 K908 K909 K910 K37) rfl rfl rfl (by decide +kernel) ⟨(Nat.le_of_ble_eq_true rfl), (Nat.le_of_ble_eq_true rfl)⟩) (w_preV hK hP hkc hN hS (gC_Sheet Γ q1.2 ((x1).toNatClampNeg) (w_lt g9)) rfl) rfl rfl hl.1 rfl (lv_room (Nat.le_of_ble_eq_true rfl)) dX8_sheet_62 ⟨Nat.le_refl _, Nat.le_refl _⟩) hS (fun H locs hP hS => ?_)
              refine lv_iconst (v := (1 : Int32)) hx hb dX8_sheet_65 (by decide) ?_
              exact w_iret (X := XC Γ) hx hb hr hlocks hK hP hS rfl hf dX8_sheet_66
            · replace hf := (if_neg c8).symm.trans hf
              refine lv_bipush (v := (-14 : Int32)) hx hb dX8_sheet_51 (by decide) ?_
              exact w_iret (X := XC Γ) hx hb hr hlocks hK hP hS rfl hf dX8_sheet_53
          · replace hf := (if_neg c7).symm.trans hf
            refine lv_bipush (v := (-2 : Int32)) hx hb dX8_sheet_44 (by decide) ?_
            exact w_iret (X := XC Γ) hx hb hr hlocks hK hP hS rfl hf dX8_sheet_46
        · replace hf := (if_pos c6).symm.trans hf
          refine lv_aload_n hx hb dX8_sheet_25 rfl (lv_at hl 0 rfl) ?_
          refine va_get (D := Γ.1) (ci := 7) (v := .ref (Γ.2.2.1 (62))) (C := RX8) (T := TX8) (N := 9) hx hb hts iX8 hown hK hP (0) (gC_Main Γ q1.2) rfl 8 (by decide) (hts (.fieldLink RX8 52 "OtherHalfOfNight" "sheets" "[LOtherHalfOfNight$Sheet;") (wzm K35)) (fun _ h9 => h9) rfl dX8_sheet_26 ?_
          refine lv_iload_n hx hb dX8_sheet_29 rfl (lv_at hl 1 rfl) ?_
          obtain ⟨g12, hf⟩ := w_oi hf
          refine w_aaldq (D := Γ.1) (tys := (tysC Γ)) (g := fun j => Γ.2.2.1 (63 + 2 * j)) hx hb hK hP (62) 3 (gC_sheets Γ q1.2) rfl g12 dX8_sheet_30 ?_
          refine lv_iconst (v := (-1 : Int32)) hx hb dX8_sheet_31 (by decide) ?_
          refine lv_iconst (v := (0 : Int32)) hx hb dX8_sheet_32 (by decide) ?_
          obtain ⟨q13, h14, hf⟩ := w_ob hf
          refine w_cv (va_runV (As := [.int (-1 : Int32), .int (0 : Int32)]) (rest := []) ⟨hx, hb, hml, hown, hts⟩ (c_X5_become l Γ hG ((x1).toNatClampNeg) (-1 : Int32) (0 : Int32) q1.2 q13 h14 H.size) (cwV 2 hts (wzV K911 K908 K909 K910 K37) rfl rfl rfl (by decide +kernel) ⟨(Nat.le_of_ble_eq_true rfl), (Nat.le_of_ble_eq_true rfl)⟩) (w_preV hK hP hkc hN hS (gC_Sheet Γ q1.2 ((x1).toNatClampNeg) (w_lt g12)) rfl) rfl rfl hl.1 rfl (lv_room (Nat.le_of_ble_eq_true rfl)) dX8_sheet_33 ⟨Nat.le_refl _, Nat.le_refl _⟩) hS (fun H locs hP hS => ?_)
          refine lv_iconst (v := (1 : Int32)) hx hb dX8_sheet_36 (by decide) ?_
          exact w_iret (X := XC Γ) hx hb hr hlocks hK hP hS rfl hf dX8_sheet_37
      · replace hf := (if_neg c5).symm.trans hf
        refine lv_bipush (v := (-2 : Int32)) hx hb dX8_sheet_17 (by decide) ?_
        exact w_iret (X := XC Γ) hx hb hr hlocks hK hP hS rfl hf dX8_sheet_19
def f_X8_cell (x1 : Int32) (x2 : Int32) (x3 : Int32) (σ : Sg) : Option (Int32 × Sg) := (f_X8_isSheet x1 σ).bind fun (q1 : Int32 × Sg) => if q1.1 = 0 then some ((-2 : Int32), q1.2) else if okI x1 4 then (f_X5_isMissing ((x1).toNatClampNeg) q1.2).bind fun (q5 : Int32 × Sg) => if q5.1 = 0 then if okI x1 4 then (f_X5_put ((x1).toNatClampNeg) x2 x3 q5.2).bind fun (q9 : Int32 × Sg) => if q9.1 = 0 then some ((-12 : Int32), q9.2) else some ((1 : Int32), q9.2) else none else some ((-11 : Int32), q5.2) else none
set_option maxHeartbeats 40000000 in
set_option maxRecDepth 100000 in
theorem c_X8_cell (l : Launch) (Γ : Geo) (hG : okC Γ) (x1 : Int32) (x2 : Int32) (x3 : Int32) (σ : Sg) (r : Int32) (σ' : Sg) (hf : f_X8_cell x1 x2 x3 σ = some (r, σ')) (sz : Nat) : Met l yX8_cell (wz yX8_cell cX8_cell 4 (some .int)) { frames := 2, cells := 0, slots := 0, locals := 44 } (va_Pc [.ref (Γ.2.2.1 (0)), .int x1, .int x2, .int x3] (wPre Γ.1 vwCl (tysC Γ) (XC Γ) (alC Γ) Γ.2.2.2 σ sz)) (wQi Γ.1 vwCl (tysC Γ) (XC Γ) (alC Γ) r σ' sz) 0 0 (wA (alC Γ) sz) := by
  refine w_enter (cc := cX8_cell) (maxL := 4) (ret := (some .int)) (by decide) rfl (Nat.le_of_ble_eq_true rfl) ?_
  intro p e s m below meth c ls hx hb hr hlocks hml hown hts hsz hP hK hkc hN hl
  subst hsz
  generalize hav : ([.ref (Γ.2.2.1 (0)), .int x1, .int x2, .int x3] : List Value) = av at hl hts ⊢
  have hl : lv_has ls 4 [(0, .ref (Γ.2.2.1 (0))), (1, .int x1), (2, .int x2), (3, .int x3)] := by rw [← hav] at hl; exact hl
  suffices hw : ∀ (H : Heap) (locs : List Loc), va_P Γ.1 vwCl (XC Γ σ) H → va_S (wA (alC Γ) s.heap.size) s.heap H locs → W p l e { frames := 2, cells := 0, slots := 0, locals := 44 } s m av.toArray below meth c H locs 0 0 (MQ below (wQi Γ.1 vwCl (tysC Γ) (XC Γ) (alC Γ) r σ' s.heap.size) av.toArray s 0 0 (wA (alC Γ) s.heap.size)) (F0 m 0 ls []) from hw _ [] hP va_S.rf
  clear hP
  intro H locs hP hS
  unfold f_X8_cell at hf
  refine lv_iload_n hx hb dX8_cell_0 rfl (lv_at hl 1 rfl) ?_
  obtain ⟨q1, h2, hf⟩ := w_ob hf
  refine w_ci (va_runS (As := [.int x1]) (rest := []) ⟨hx, hb, hml, hown, hts⟩ (c_X8_isSheet l Γ hG x1 σ q1.1 q1.2 h2 H.size) (cwS 1 hts (wzS K853 K851 K852 K2) rfl rfl rfl (by decide +kernel) ⟨(Nat.le_of_ble_eq_true rfl), (Nat.le_of_ble_eq_true rfl)⟩) (w_pre hK hP hkc hN hS) rfl rfl hl.1 rfl (lv_room (Nat.le_of_ble_eq_true rfl)) dX8_cell_1 ⟨Nat.le_refl _, Nat.le_refl _⟩) hS (fun H locs hP hS => ?_)
  refine lv_if_ne (tgt := 10) hx hb dX8_cell_4 (by decide) (fun c3 => ?_) (fun c3 => ?_)
  · replace hf := (if_neg c3).symm.trans hf
    refine lv_aload_n hx hb dX8_cell_10 rfl (lv_at hl 0 rfl) ?_
    refine va_get (D := Γ.1) (ci := 7) (v := .ref (Γ.2.2.1 (62))) (C := RX8) (T := TX8) (N := 9) hx hb hts iX8 hown hK hP (0) (gC_Main Γ q1.2) rfl 8 (by decide) (hts (.fieldLink RX8 52 "OtherHalfOfNight" "sheets" "[LOtherHalfOfNight$Sheet;") (wzm K35)) (fun _ h9 => h9) rfl dX8_cell_11 ?_
    refine lv_iload_n hx hb dX8_cell_14 rfl (lv_at hl 1 rfl) ?_
    obtain ⟨g4, hf⟩ := w_oi hf
    refine w_aaldq (D := Γ.1) (tys := (tysC Γ)) (g := fun j => Γ.2.2.1 (63 + 2 * j)) hx hb hK hP (62) 3 (gC_sheets Γ q1.2) rfl g4 dX8_cell_15 ?_
    obtain ⟨q5, h6, hf⟩ := w_ob hf
    refine w_ci (va_runV (As := []) (rest := []) ⟨hx, hb, hml, hown, hts⟩ (c_X5_isMissing l Γ hG ((x1).toNatClampNeg) q1.2 q5.1 q5.2 h6 H.size) (cwV 0 hts (wzV K857 K854 K855 K856 K37) rfl rfl rfl (by decide +kernel) ⟨(Nat.le_of_ble_eq_true rfl), (Nat.le_of_ble_eq_true rfl)⟩) (w_preV hK hP hkc hN hS (gC_Sheet Γ q1.2 ((x1).toNatClampNeg) (w_lt g4)) rfl) rfl rfl hl.1 rfl (lv_room (Nat.le_of_ble_eq_true rfl)) dX8_cell_16 ⟨Nat.le_refl _, Nat.le_refl _⟩) hS (fun H locs hP hS => ?_)
    refine lv_if_eq (tgt := 25) hx hb dX8_cell_19 (by decide) (fun c7 => ?_) (fun c7 => ?_)
    · replace hf := (if_pos c7).symm.trans hf
      refine lv_aload_n hx hb dX8_cell_25 rfl (lv_at hl 0 rfl) ?_
      refine va_get (D := Γ.1) (ci := 7) (v := .ref (Γ.2.2.1 (62))) (C := RX8) (T := TX8) (N := 9) hx hb hts iX8 hown hK hP (0) (gC_Main Γ q5.2) rfl 8 (by decide) (hts (.fieldLink RX8 52 "OtherHalfOfNight" "sheets" "[LOtherHalfOfNight$Sheet;") (wzm K35)) (fun _ h9 => h9) rfl dX8_cell_26 ?_
      refine lv_iload_n hx hb dX8_cell_29 rfl (lv_at hl 1 rfl) ?_
      obtain ⟨g8, hf⟩ := w_oi hf
      refine w_aaldq (D := Γ.1) (tys := (tysC Γ)) (g := fun j => Γ.2.2.1 (63 + 2 * j)) hx hb hK hP (62) 3 (gC_sheets Γ q5.2) rfl g8 dX8_cell_30 ?_
      refine lv_iload_n hx hb dX8_cell_31 rfl (lv_at hl 2 rfl) ?_
      refine lv_iload_n hx hb dX8_cell_32 rfl (lv_at hl 3 rfl) ?_
      obtain ⟨q9, h10, hf⟩ := w_ob hf
      refine w_ci (va_runV (As := [.int x2, .int x3]) (rest := []) ⟨hx, hb, hml, hown, hts⟩ (c_X5_put l Γ hG ((x1).toNatClampNeg) x2 x3 q5.2 q9.1 q9.2 h10 H.size) (cwV 2 hts (wzV K918 K915 K916 K917 K37) rfl rfl rfl (by decide +kernel) ⟨(Nat.le_of_ble_eq_true rfl), (Nat.le_of_ble_eq_true rfl)⟩) (w_preV hK hP hkc hN hS (gC_Sheet Γ q5.2 ((x1).toNatClampNeg) (w_lt g8)) rfl) rfl rfl hl.1 rfl (lv_room (Nat.le_of_ble_eq_true rfl)) dX8_cell_33 ⟨Nat.le_refl _, Nat.le_refl _⟩) hS (fun H locs hP hS => ?_)
      refine lv_if_eq (tgt := 43) hx hb dX8_cell_36 (by decide) (fun c11 => ?_) (fun c11 => ?_)
      · replace hf := (if_pos c11).symm.trans hf
        refine lv_bipush (v := (-12 : Int32)) hx hb dX8_cell_43 (by decide) ?_
        exact w_iret (X := XC Γ) hx hb hr hlocks hK hP hS rfl hf dX8_cell_45
      · replace hf := (if_neg c11).symm.trans hf
        refine lv_iconst (v := (1 : Int32)) hx hb dX8_cell_39 (by decide) ?_
        refine lv_goto (tgt := 45) hx hb dX8_cell_40 (by decide) ?_
        exact w_iret (X := XC Γ) hx hb hr hlocks hK hP hS rfl hf dX8_cell_45
    · replace hf := (if_neg c7).symm.trans hf
      refine lv_bipush (v := (-11 : Int32)) hx hb dX8_cell_22 (by decide) ?_
      exact w_iret (X := XC Γ) hx hb hr hlocks hK hP hS rfl hf dX8_cell_24
  · replace hf := (if_pos c3).symm.trans hf
    refine lv_bipush (v := (-2 : Int32)) hx hb dX8_cell_7 (by decide) ?_
    exact w_iret (X := XC Γ) hx hb hr hlocks hK hP hS rfl hf dX8_cell_9
def f_X8_copy (x1 : Int32) (x2 : Int32) (x3 : Int32) (x4 : Int32) (x5 : Int32) (σ : Sg) : Option (Int32 × Sg) := (f_X8_isSheet x1 σ).bind fun (q1 : Int32 × Sg) => if q1.1 = 0 then some ((-2 : Int32), q1.2) else (f_X8_isSheet x3 q1.2).bind fun (q4 : Int32 × Sg) => if q4.1 = 0 then some ((-2 : Int32), q4.2) else if okI x1 4 then if okI x3 4 then (f_X5_isMissing ((x1).toNatClampNeg) q4.2).bind fun (q9 : Int32 × Sg) => if q9.1 = 0 then (f_X5_isMissing ((x3).toNatClampNeg) q9.2).bind fun (q12 : Int32 × Sg) => if q12.1 = 0 then if (q12.2 (73 + 3 * ((x1).toNatClampNeg)) 0) = (q12.2 (73 + 3 * ((x3).toNatClampNeg)) 0) then (f_X5_hasRange ((x1).toNatClampNeg) x2 x5 q12.2).bind fun (q16 : Int32 × Sg) => if q16.1 = 0 then some ((-12 : Int32), q16.2) else (f_X5_hasRange ((x3).toNatClampNeg) x4 x5 q16.2).bind fun (q19 : Int32 × Sg) => if q19.1 = 0 then some ((-12 : Int32), q19.2) else if (¬ x2 < 0 ∧ ¬ x4 < 0 ∧ ¬ x5 < 0 ∧ (x2).toNatClampNeg + (x5).toNatClampNeg ≤ 40 ∧ (x4).toNatClampNeg + (x5).toNatClampNeg ≤ 40) then (some (upA q19.2 (75 + 3 * ((x3).toNatClampNeg)) (va_cpy (q19.2 (75 + 3 * ((x1).toNatClampNeg))) (q19.2 (75 + 3 * ((x3).toNatClampNeg))) (x2).toNatClampNeg (x4).toNatClampNeg (x5).toNatClampNeg))).bind fun (τ23 : Sg) => some (x5, τ23) else none else some ((-13 : Int32), q12.2) else some ((-11 : Int32), q12.2) else some ((-11 : Int32), q9.2) else none else none
set_option maxHeartbeats 40000000 in
set_option maxRecDepth 100000 in
theorem c_X8_copy (l : Launch) (Γ : Geo) (hG : okC Γ) (x1 : Int32) (x2 : Int32) (x3 : Int32) (x4 : Int32) (x5 : Int32) (σ : Sg) (r : Int32) (σ' : Sg) (hf : f_X8_copy x1 x2 x3 x4 x5 σ = some (r, σ')) (sz : Nat) : Met l yX8_copy (wz yX8_copy cX8_copy 8 (some .int)) { frames := 1, cells := 0, slots := 0, locals := 80 } (va_Pc [.ref (Γ.2.2.1 (0)), .int x1, .int x2, .int x3, .int x4, .int x5] (wPre Γ.1 vwCl (tysC Γ) (XC Γ) (alC Γ) Γ.2.2.2 σ sz)) (wQi Γ.1 vwCl (tysC Γ) (XC Γ) (alC Γ) r σ' sz) 0 0 (wA (alC Γ) sz) := by
  refine w_enter (cc := cX8_copy) (maxL := 8) (ret := (some .int)) (by decide) rfl (Nat.le_of_ble_eq_true rfl) ?_
  intro p e s m below meth c ls hx hb hr hlocks hml hown hts hsz hP hK hkc hN hl
  subst hsz
  generalize hav : ([.ref (Γ.2.2.1 (0)), .int x1, .int x2, .int x3, .int x4, .int x5] : List Value) = av at hl hts ⊢
  have hl : lv_has ls 8 [(0, .ref (Γ.2.2.1 (0))), (1, .int x1), (2, .int x2), (3, .int x3), (4, .int x4), (5, .int x5)] := by rw [← hav] at hl; exact hl
  suffices hw : ∀ (H : Heap) (locs : List Loc), va_P Γ.1 vwCl (XC Γ σ) H → va_S (wA (alC Γ) s.heap.size) s.heap H locs → W p l e { frames := 1, cells := 0, slots := 0, locals := 80 } s m av.toArray below meth c H locs 0 0 (MQ below (wQi Γ.1 vwCl (tysC Γ) (XC Γ) (alC Γ) r σ' s.heap.size) av.toArray s 0 0 (wA (alC Γ) s.heap.size)) (F0 m 0 ls []) from hw _ [] hP va_S.rf
  clear hP
  intro H locs hP hS
  unfold f_X8_copy at hf
  refine lv_iload_n hx hb dX8_copy_0 rfl (lv_at hl 1 rfl) ?_
  obtain ⟨q1, h2, hf⟩ := w_ob hf
  refine w_ci (va_runS (As := [.int x1]) (rest := []) ⟨hx, hb, hml, hown, hts⟩ (c_X8_isSheet l Γ hG x1 σ q1.1 q1.2 h2 H.size) (cwS 1 hts (wzS K853 K851 K852 K2) rfl rfl rfl (by decide +kernel) ⟨(Nat.le_of_ble_eq_true rfl), (Nat.le_of_ble_eq_true rfl)⟩) (w_pre hK hP hkc hN hS) rfl rfl hl.1 rfl (lv_room (Nat.le_of_ble_eq_true rfl)) dX8_copy_1 ⟨Nat.le_refl _, Nat.le_refl _⟩) hS (fun H locs hP hS => ?_)
  refine lv_if_eq (tgt := 14) hx hb dX8_copy_4 (by decide) (fun c3 => ?_) (fun c3 => ?_)
  · replace hf := (if_pos c3).symm.trans hf
    refine lv_bipush (v := (-2 : Int32)) hx hb dX8_copy_14 (by decide) ?_
    exact w_iret (X := XC Γ) hx hb hr hlocks hK hP hS rfl hf dX8_copy_16
  · replace hf := (if_neg c3).symm.trans hf
    refine lv_iload_n hx hb dX8_copy_7 rfl (lv_at hl 3 rfl) ?_
    obtain ⟨q4, h5, hf⟩ := w_ob hf
    refine w_ci (va_runS (As := [.int x3]) (rest := []) ⟨hx, hb, hml, hown, hts⟩ (c_X8_isSheet l Γ hG x3 q1.2 q4.1 q4.2 h5 H.size) (cwS 1 hts (wzS K853 K851 K852 K2) rfl rfl rfl (by decide +kernel) ⟨(Nat.le_of_ble_eq_true rfl), (Nat.le_of_ble_eq_true rfl)⟩) (w_pre hK hP hkc hN hS) rfl rfl hl.1 rfl (lv_room (Nat.le_of_ble_eq_true rfl)) dX8_copy_8 ⟨Nat.le_refl _, Nat.le_refl _⟩) hS (fun H locs hP hS => ?_)
    refine lv_if_ne (tgt := 17) hx hb dX8_copy_11 (by decide) (fun c6 => ?_) (fun c6 => ?_)
    · replace hf := (if_neg c6).symm.trans hf
      refine lv_aload_n hx hb dX8_copy_17 rfl (lv_at hl 0 rfl) ?_
      refine va_get (D := Γ.1) (ci := 7) (v := .ref (Γ.2.2.1 (62))) (C := RX8) (T := TX8) (N := 9) hx hb hts iX8 hown hK hP (0) (gC_Main Γ q4.2) rfl 8 (by decide) (hts (.fieldLink RX8 52 "OtherHalfOfNight" "sheets" "[LOtherHalfOfNight$Sheet;") (wzm K35)) (fun _ h9 => h9) rfl dX8_copy_18 ?_
      refine lv_iload_n hx hb dX8_copy_21 rfl (lv_at hl 1 rfl) ?_
      obtain ⟨g7, hf⟩ := w_oi hf
      refine w_aaldq (D := Γ.1) (tys := (tysC Γ)) (g := fun j => Γ.2.2.1 (63 + 2 * j)) hx hb hK hP (62) 3 (gC_sheets Γ q4.2) rfl g7 dX8_copy_22 ?_
      refine lv_astore (lv' := [(6, .ref (Γ.2.2.1 (63 + 2 * ((x1).toNatClampNeg)))), (0, .ref (Γ.2.2.1 (0))), (1, .int x1), (2, .int x2), (3, .int x3), (4, .int x4), (5, .int x5)]) hx hb dX8_copy_23 hl (by decide) rfl (fun ls hl => ?_)
      refine lv_aload_n hx hb dX8_copy_25 rfl (lv_at hl 1 rfl) ?_
      refine va_get (D := Γ.1) (ci := 7) (v := .ref (Γ.2.2.1 (62))) (C := RX8) (T := TX8) (N := 9) hx hb hts iX8 hown hK hP (0) (gC_Main Γ q4.2) rfl 8 (by decide) (hts (.fieldLink RX8 52 "OtherHalfOfNight" "sheets" "[LOtherHalfOfNight$Sheet;") (wzm K35)) (fun _ h9 => h9) rfl dX8_copy_26 ?_
      refine lv_iload_n hx hb dX8_copy_29 rfl (lv_at hl 4 rfl) ?_
      obtain ⟨g8, hf⟩ := w_oi hf
      refine w_aaldq (D := Γ.1) (tys := (tysC Γ)) (g := fun j => Γ.2.2.1 (63 + 2 * j)) hx hb hK hP (62) 3 (gC_sheets Γ q4.2) rfl g8 dX8_copy_30 ?_
      refine lv_astore (lv' := [(7, .ref (Γ.2.2.1 (63 + 2 * ((x3).toNatClampNeg)))), (6, .ref (Γ.2.2.1 (63 + 2 * ((x1).toNatClampNeg)))), (0, .ref (Γ.2.2.1 (0))), (1, .int x1), (2, .int x2), (3, .int x3), (4, .int x4), (5, .int x5)]) hx hb dX8_copy_31 hl (by decide) rfl (fun ls hl => ?_)
      refine lv_aload hx hb dX8_copy_33 (lv_at hl 1 rfl) ?_
      obtain ⟨q9, h10, hf⟩ := w_ob hf
      refine w_ci (va_runV (As := []) (rest := []) ⟨hx, hb, hml, hown, hts⟩ (c_X5_isMissing l Γ hG ((x1).toNatClampNeg) q4.2 q9.1 q9.2 h10 H.size) (cwV 0 hts (wzV K857 K854 K855 K856 K37) rfl rfl rfl (by decide +kernel) ⟨(Nat.le_of_ble_eq_true rfl), (Nat.le_of_ble_eq_true rfl)⟩) (w_preV hK hP hkc hN hS (gC_Sheet Γ q4.2 ((x1).toNatClampNeg) (w_lt g7)) rfl) rfl rfl hl.1 rfl (lv_room (Nat.le_of_ble_eq_true rfl)) dX8_copy_35 ⟨Nat.le_refl _, Nat.le_refl _⟩) hS (fun H locs hP hS => ?_)
      refine lv_if_ne (tgt := 49) hx hb dX8_copy_38 (by decide) (fun c11 => ?_) (fun c11 => ?_)
      · replace hf := (if_neg c11).symm.trans hf
        refine lv_bipush (v := (-11 : Int32)) hx hb dX8_copy_49 (by decide) ?_
        exact w_iret (X := XC Γ) hx hb hr hlocks hK hP hS rfl hf dX8_copy_51
      · replace hf := (if_pos c11).symm.trans hf
        refine lv_aload hx hb dX8_copy_41 (lv_at hl 0 rfl) ?_
        obtain ⟨q12, h13, hf⟩ := w_ob hf
        refine w_ci (va_runV (As := []) (rest := []) ⟨hx, hb, hml, hown, hts⟩ (c_X5_isMissing l Γ hG ((x3).toNatClampNeg) q9.2 q12.1 q12.2 h13 H.size) (cwV 0 hts (wzV K857 K854 K855 K856 K37) rfl rfl rfl (by decide +kernel) ⟨(Nat.le_of_ble_eq_true rfl), (Nat.le_of_ble_eq_true rfl)⟩) (w_preV hK hP hkc hN hS (gC_Sheet Γ q9.2 ((x3).toNatClampNeg) (w_lt g8)) rfl) rfl rfl hl.1 rfl (lv_room (Nat.le_of_ble_eq_true rfl)) dX8_copy_43 ⟨Nat.le_refl _, Nat.le_refl _⟩) hS (fun H locs hP hS => ?_)
        refine lv_if_eq (tgt := 52) hx hb dX8_copy_46 (by decide) (fun c14 => ?_) (fun c14 => ?_)
        · replace hf := (if_pos c14).symm.trans hf
          refine lv_aload hx hb dX8_copy_52 (lv_at hl 1 rfl) ?_
          refine va_get (D := Γ.1) (ci := 5) (v := .int (q12.2 (73 + 3 * ((x1).toNatClampNeg)) 0)) (C := RX5) (T := TX5) (N := 3) hx hb hts iX5 hown hK hP (63 + 2 * ((x1).toNatClampNeg)) (gC_Sheet Γ q12.2 ((x1).toNatClampNeg) (w_lt g7)) rfl 0 (by decide) (hts (.fieldLink RX8 242 "OtherHalfOfNight$Sheet" "sort" "I") (wzm K1009)) (fun _ h9 => h9) rfl dX8_copy_54 ?_
          refine lv_aload hx hb dX8_copy_57 (lv_at hl 0 rfl) ?_
          refine va_get (D := Γ.1) (ci := 5) (v := .int (q12.2 (73 + 3 * ((x3).toNatClampNeg)) 0)) (C := RX5) (T := TX5) (N := 3) hx hb hts iX5 hown hK hP (63 + 2 * ((x3).toNatClampNeg)) (gC_Sheet Γ q12.2 ((x3).toNatClampNeg) (w_lt g8)) rfl 0 (by decide) (hts (.fieldLink RX8 242 "OtherHalfOfNight$Sheet" "sort" "I") (wzm K1009)) (fun _ h9 => h9) rfl dX8_copy_59 ?_
          refine lv_icmp_eq (tgt := 68) hx hb dX8_copy_62 (by decide) (fun c15 => ?_) (fun c15 => ?_)
          · replace hf := (if_pos c15).symm.trans hf
            refine lv_aload hx hb dX8_copy_68 (lv_at hl 1 rfl) ?_
            refine lv_iload_n hx hb dX8_copy_70 rfl (lv_at hl 4 rfl) ?_
            refine lv_iload hx hb dX8_copy_71 (lv_at hl 7 rfl) ?_
            obtain ⟨q16, h17, hf⟩ := w_ob hf
            refine w_ci (va_runV (As := [.int x2, .int x5]) (rest := []) ⟨hx, hb, hml, hown, hts⟩ (c_X5_hasRange l Γ hG ((x1).toNatClampNeg) x2 x5 q12.2 q16.1 q16.2 h17 H.size) (cwV 2 hts (wzV K922 K1011 K920 K921 K37) rfl rfl rfl (by decide +kernel) ⟨(Nat.le_of_ble_eq_true rfl), (Nat.le_of_ble_eq_true rfl)⟩) (w_preV hK hP hkc hN hS (gC_Sheet Γ q12.2 ((x1).toNatClampNeg) (w_lt g7)) rfl) rfl rfl hl.1 rfl (lv_room (Nat.le_of_ble_eq_true rfl)) dX8_copy_73 ⟨Nat.le_refl _, Nat.le_refl _⟩) hS (fun H locs hP hS => ?_)
            refine lv_if_eq (tgt := 91) hx hb dX8_copy_76 (by decide) (fun c18 => ?_) (fun c18 => ?_)
            · replace hf := (if_pos c18).symm.trans hf
              refine lv_bipush (v := (-12 : Int32)) hx hb dX8_copy_91 (by decide) ?_
              exact w_iret (X := XC Γ) hx hb hr hlocks hK hP hS rfl hf dX8_copy_93
            · replace hf := (if_neg c18).symm.trans hf
              refine lv_aload hx hb dX8_copy_79 (lv_at hl 0 rfl) ?_
              refine lv_iload hx hb dX8_copy_81 (lv_at hl 6 rfl) ?_
              refine lv_iload hx hb dX8_copy_83 (lv_at hl 7 rfl) ?_
              obtain ⟨q19, h20, hf⟩ := w_ob hf
              refine w_ci (va_runV (As := [.int x4, .int x5]) (rest := []) ⟨hx, hb, hml, hown, hts⟩ (c_X5_hasRange l Γ hG ((x3).toNatClampNeg) x4 x5 q16.2 q19.1 q19.2 h20 H.size) (cwV 2 hts (wzV K922 K1011 K920 K921 K37) rfl rfl rfl (by decide +kernel) ⟨(Nat.le_of_ble_eq_true rfl), (Nat.le_of_ble_eq_true rfl)⟩) (w_preV hK hP hkc hN hS (gC_Sheet Γ q16.2 ((x3).toNatClampNeg) (w_lt g8)) rfl) rfl rfl hl.1 rfl (lv_room (Nat.le_of_ble_eq_true rfl)) dX8_copy_85 ⟨Nat.le_refl _, Nat.le_refl _⟩) hS (fun H locs hP hS => ?_)
              refine lv_if_ne (tgt := 94) hx hb dX8_copy_88 (by decide) (fun c21 => ?_) (fun c21 => ?_)
              · replace hf := (if_neg c21).symm.trans hf
                refine lv_aload hx hb dX8_copy_94 (lv_at hl 1 rfl) ?_
                refine va_get (D := Γ.1) (ci := 5) (v := .ref (Γ.2.2.1 (64 + 2 * ((x1).toNatClampNeg)))) (C := RX5) (T := TX5) (N := 3) hx hb hts iX5 hown hK hP (63 + 2 * ((x1).toNatClampNeg)) (gC_Sheet Γ q19.2 ((x1).toNatClampNeg) (w_lt g7)) rfl 2 (by decide) (hts (.fieldLink RX8 248 "OtherHalfOfNight$Sheet" "items" "[I") (wzm K862)) (fun _ h9 => h9) rfl dX8_copy_96 ?_
                refine lv_iload_n hx hb dX8_copy_99 rfl (lv_at hl 4 rfl) ?_
                refine lv_aload hx hb dX8_copy_100 (lv_at hl 0 rfl) ?_
                refine va_get (D := Γ.1) (ci := 5) (v := .ref (Γ.2.2.1 (64 + 2 * ((x3).toNatClampNeg)))) (C := RX5) (T := TX5) (N := 3) hx hb hts iX5 hown hK hP (63 + 2 * ((x3).toNatClampNeg)) (gC_Sheet Γ q19.2 ((x3).toNatClampNeg) (w_lt g8)) rfl 2 (by decide) (hts (.fieldLink RX8 248 "OtherHalfOfNight$Sheet" "items" "[I") (wzm K862)) (fun _ h9 => h9) rfl dX8_copy_102 ?_
                refine lv_iload hx hb dX8_copy_105 (lv_at hl 6 rfl) ?_
                refine lv_iload hx hb dX8_copy_107 (lv_at hl 7 rfl) ?_
                obtain ⟨g22, hf⟩ := w_oi hf
                refine w_copy (D := Γ.1) (tys := (tysC Γ)) (X := XC Γ) (σ' := (upA q19.2 (75 + 3 * ((x3).toNatClampNeg)) (va_cpy (q19.2 (75 + 3 * ((x1).toNatClampNeg))) (q19.2 (75 + 3 * ((x3).toNatClampNeg))) (x2).toNatClampNeg (x4).toNatClampNeg (x5).toNatClampNeg))) hx hb (hml.trans hl.1.symm) hown (hts (.methodLink RX8 251 arraycopyName) (wzm K1010)) (hts (.native arraycopyName) (wzm K705)) (hts (.static arraycopyName) (wzm K706)) (hts (.initialized "java/lang/System") (wzm K707)) hK hP (halC Γ) hG hS (64 + 2 * ((x1).toNatClampNeg)) (64 + 2 * ((x3).toNatClampNeg)) 0 0 (gC_Sheet_items Γ q19.2 ((x1).toNatClampNeg) (w_lt g7)) (gC_Sheet_items Γ q19.2 ((x3).toNatClampNeg) (w_lt g8)) rfl rfl g22 (Nat.le_of_ble_eq_true rfl) (Nat.le_of_ble_eq_true rfl) dX8_copy_109 (sAC_Sheet_items Γ q19.2 ((x3).toNatClampNeg) (w_lt g8) _) (fun H locs hP hS => ?_)
                obtain ⟨τ23, e24, hf⟩ := w_ob hf
                replace e24 := Option.some.inj e24
                rw [e24] at hP
                refine lv_iload hx hb dX8_copy_112 (lv_at hl 7 rfl) ?_
                exact w_iret (X := XC Γ) hx hb hr hlocks hK hP hS rfl hf dX8_copy_114
              · replace hf := (if_pos c21).symm.trans hf
                refine lv_bipush (v := (-12 : Int32)) hx hb dX8_copy_91 (by decide) ?_
                exact w_iret (X := XC Γ) hx hb hr hlocks hK hP hS rfl hf dX8_copy_93
          · replace hf := (if_neg c15).symm.trans hf
            refine lv_bipush (v := (-13 : Int32)) hx hb dX8_copy_65 (by decide) ?_
            exact w_iret (X := XC Γ) hx hb hr hlocks hK hP hS rfl hf dX8_copy_67
        · replace hf := (if_neg c14).symm.trans hf
          refine lv_bipush (v := (-11 : Int32)) hx hb dX8_copy_49 (by decide) ?_
          exact w_iret (X := XC Γ) hx hb hr hlocks hK hP hS rfl hf dX8_copy_51
    · replace hf := (if_pos c6).symm.trans hf
      refine lv_bipush (v := (-2 : Int32)) hx hb dX8_copy_14 (by decide) ?_
      exact w_iret (X := XC Γ) hx hb hr hlocks hK hP hS rfl hf dX8_copy_16
def f_X8_house_67 (x1 : Int32) (x2 : Int32) (x3 : Int32) (x4 : Int32) : Nat → Int32 → Int32 → Sg → Option (Int32 × Sg)
  | 0, _, _, _ => none
  | n + 1, y6, y7, τ => if (x1).toNatClampNeg < 4 then if x4 ≤ y7 then some (y6, τ) else (f_X5_hasRange ((x1).toNatClampNeg) x3 ((3 : Int32) * (y7 + (1 : Int32))) τ).bind fun (q15 : Int32 × Sg) => if q15.1 = 0 then some ((-12 : Int32), q15.2) else if okI (x3 + ((3 : Int32) * y7)) 40 then if okI ((x3 + ((3 : Int32) * y7)) + (1 : Int32)) 40 then if okI ((x3 + ((3 : Int32) * y7)) + (2 : Int32)) 40 then (f_X1_admit (0) (q15.2 (75 + 3 * ((x1).toNatClampNeg)) ((x3 + ((3 : Int32) * y7))).toNatClampNeg) (q15.2 (75 + 3 * ((x1).toNatClampNeg)) (((x3 + ((3 : Int32) * y7)) + (1 : Int32))).toNatClampNeg) (q15.2 (75 + 3 * ((x1).toNatClampNeg)) (((x3 + ((3 : Int32) * y7)) + (2 : Int32))).toNatClampNeg) q15.2).bind fun (q21 : Int32 × Sg) => if q21.1 < 0 then (f_X8_house_67 x1 x2 x3 x4 n) (y6) ((y7 + (1 : Int32))) q21.2 else (f_X8_house_67 x1 x2 x3 x4 n) ((y6 + (1 : Int32))) ((y7 + (1 : Int32))) q21.2 else none else none else none else none
def f_X8_house (x1 : Int32) (x2 : Int32) (x3 : Int32) (x4 : Int32) (σ : Sg) : Option (Int32 × Sg) := (f_X8_isSheet x1 σ).bind fun (q1 : Int32 × Sg) => if q1.1 = 0 then some ((-2 : Int32), q1.2) else if x2 < 0 then some ((-2 : Int32), q1.2) else if (2 : Int32) < x2 then some ((-2 : Int32), q1.2) else if x4 < 0 then some ((-2 : Int32), q1.2) else if x4 ≤ (5 : Int32) then if okI x1 4 then (f_X5_isMissing ((x1).toNatClampNeg) q1.2).bind fun (q9 : Int32 × Sg) => if q9.1 = 0 then if (q9.2 (73 + 3 * ((x1).toNatClampNeg)) 0) = x2 then f_X8_house_67 x1 x2 x3 x4 5000 ((0 : Int32)) ((0 : Int32)) q9.2 else some ((-13 : Int32), q9.2) else some ((-11 : Int32), q9.2) else none else some ((-2 : Int32), q1.2)
set_option maxHeartbeats 40000000 in
set_option maxRecDepth 100000 in
theorem c_X8_house (l : Launch) (Γ : Geo) (hG : okC Γ) (x1 : Int32) (x2 : Int32) (x3 : Int32) (x4 : Int32) (σ : Sg) (r : Int32) (σ' : Sg) (hf : f_X8_house x1 x2 x3 x4 σ = some (r, σ')) (sz : Nat) : Met l yX8_house (wz yX8_house cX8_house 9 (some .int)) { frames := 1, cells := 0, slots := 0, locals := 23 } (va_Pc [.ref (Γ.2.2.1 (0)), .int x1, .int x2, .int x3, .int x4] (wPre Γ.1 vwCl (tysC Γ) (XC Γ) (alC Γ) Γ.2.2.2 σ sz)) (wQi Γ.1 vwCl (tysC Γ) (XC Γ) (alC Γ) r σ' sz) 0 0 (wA (alC Γ) sz) := by
  refine w_enter (cc := cX8_house) (maxL := 9) (ret := (some .int)) (by decide) rfl (Nat.le_of_ble_eq_true rfl) ?_
  intro p e s m below meth c ls hx hb hr hlocks hml hown hts hsz hP hK hkc hN hl
  subst hsz
  generalize hav : ([.ref (Γ.2.2.1 (0)), .int x1, .int x2, .int x3, .int x4] : List Value) = av at hl hts ⊢
  have hl : lv_has ls 9 [(0, .ref (Γ.2.2.1 (0))), (1, .int x1), (2, .int x2), (3, .int x3), (4, .int x4)] := by rw [← hav] at hl; exact hl
  have j67 : ∀ (n67 : Nat), ∀ (y6 : Int32) (y7 : Int32) (τ : Sg) (H : Heap) (locs : List Loc) (ls : Array Slot) (hf : f_X8_house_67 x1 x2 x3 x4 n67 y6 y7 τ = some (r, σ')) (hP : va_P Γ.1 vwCl (XC Γ τ) H) (hS : va_S (wA (alC Γ) s.heap.size) s.heap H locs) (hl : lv_has ls 9 [(0, .ref (Γ.2.2.1 (0))), (3, .int x3), (4, .int x4), (5, .ref (Γ.2.2.1 (63 + 2 * ((x1).toNatClampNeg)))), (6, .int y6), (7, .int y7)]), W p l e { frames := 1, cells := 0, slots := 0, locals := 23 } s m av.toArray below meth c H locs 0 0 (MQ below (wQi Γ.1 vwCl (tysC Γ) (XC Γ) (alC Γ) r σ' s.heap.size) av.toArray s 0 0 (wA (alC Γ) s.heap.size)) (F0 m 67 ls []) := by
    intro n67
    induction n67 with
    | zero =>
      intro y6 y7 τ H locs ls hf
      exact absurd hf (by intro h; cases h)
    | succ n67 ih67 =>
      intro y6 y7 τ H locs ls hf hP hS hl
      unfold f_X8_house_67 at hf
      obtain ⟨g13, hf⟩ := w_oi hf
      refine lv_iload hx hb dX8_house_67 (lv_at hl 5 rfl) ?_
      refine lv_iload hx hb dX8_house_69 (lv_at hl 2 rfl) ?_
      refine lv_icmp_ge (tgt := 147) hx hb dX8_house_71 (by decide) (fun c14 => ?_) (fun c14 => ?_)
      · replace hf := (if_pos c14).symm.trans hf
        refine lv_iload hx hb dX8_house_147 (lv_at hl 4 rfl) ?_
        exact w_iret (X := XC Γ) hx hb hr hlocks hK hP hS rfl hf dX8_house_149
      · replace hf := (if_neg c14).symm.trans hf
        refine lv_aload hx hb dX8_house_74 (lv_at hl 3 rfl) ?_
        refine lv_iload_n hx hb dX8_house_76 rfl (lv_at hl 1 rfl) ?_
        refine lv_iconst (v := (3 : Int32)) hx hb dX8_house_77 (by decide) ?_
        refine lv_iload hx hb dX8_house_78 (lv_at hl 5 rfl) ?_
        refine lv_iconst (v := (1 : Int32)) hx hb dX8_house_80 (by decide) ?_
        refine lv_iadd hx hb dX8_house_81 ?_
        refine lv_imul hx hb dX8_house_82 ?_
        obtain ⟨q15, h16, hf⟩ := w_ob hf
        refine w_ci (va_runV (As := [.int x3, .int ((3 : Int32) * (y7 + (1 : Int32)))]) (rest := []) ⟨hx, hb, hml, hown, hts⟩ (c_X5_hasRange l Γ hG ((x1).toNatClampNeg) x3 ((3 : Int32) * (y7 + (1 : Int32))) τ q15.1 q15.2 h16 H.size) (cwV 2 hts (wzV K922 K1011 K920 K921 K37) rfl rfl rfl (by decide +kernel) ⟨(Nat.le_of_ble_eq_true rfl), (Nat.le_of_ble_eq_true rfl)⟩) (w_preV hK hP hkc hN hS (gC_Sheet Γ τ ((x1).toNatClampNeg) g13) rfl) rfl rfl hl.1 rfl (lv_room (Nat.le_of_ble_eq_true rfl)) dX8_house_83 ⟨Nat.le_refl _, Nat.le_refl _⟩) hS (fun H locs hP hS => ?_)
        refine lv_if_ne (tgt := 92) hx hb dX8_house_86 (by decide) (fun c17 => ?_) (fun c17 => ?_)
        · replace hf := (if_neg c17).symm.trans hf
          refine lv_iload_n hx hb dX8_house_92 rfl (lv_at hl 1 rfl) ?_
          refine lv_iconst (v := (3 : Int32)) hx hb dX8_house_93 (by decide) ?_
          refine lv_iload hx hb dX8_house_94 (lv_at hl 5 rfl) ?_
          refine lv_imul hx hb dX8_house_96 ?_
          refine lv_iadd hx hb dX8_house_97 ?_
          refine lv_istore (lv' := [(8, .int (x3 + ((3 : Int32) * y7))), (0, .ref (Γ.2.2.1 (0))), (3, .int x3), (4, .int x4), (5, .ref (Γ.2.2.1 (63 + 2 * ((x1).toNatClampNeg)))), (6, .int y6), (7, .int y7)]) hx hb dX8_house_98 hl (by decide) rfl (fun ls hl => ?_)
          refine lv_aload_n hx hb dX8_house_100 rfl (lv_at hl 1 rfl) ?_
          refine va_get (D := Γ.1) (ci := 7) (v := .ref (Γ.2.2.1 (1 + 8 * 0))) (C := RX8) (T := TX8) (N := 9) hx hb hts iX8 hown hK hP (0) (gC_Main Γ q15.2) rfl 0 (by decide) (hts (.fieldLink RX8 10 "OtherHalfOfNight" "now" "LOtherHalfOfNight$House;") (wzm K15)) (fun _ h9 => h9) rfl dX8_house_101 ?_
          refine lv_aload hx hb dX8_house_104 (lv_at hl 4 rfl) ?_
          refine va_get (D := Γ.1) (ci := 5) (v := .ref (Γ.2.2.1 (64 + 2 * ((x1).toNatClampNeg)))) (C := RX5) (T := TX5) (N := 3) hx hb hts iX5 hown hK hP (63 + 2 * ((x1).toNatClampNeg)) (gC_Sheet Γ q15.2 ((x1).toNatClampNeg) g13) rfl 2 (by decide) (hts (.fieldLink RX8 248 "OtherHalfOfNight$Sheet" "items" "[I") (wzm K862)) (fun _ h9 => h9) rfl dX8_house_106 ?_
          refine lv_iload hx hb dX8_house_109 (lv_at hl 0 rfl) ?_
          obtain ⟨g18, hf⟩ := w_oi hf
          refine va_iald (D := Γ.1) (tys := (tysC Γ)) hx hb hK hP (64 + 2 * ((x1).toNatClampNeg)) 0 (gC_Sheet_items Γ q15.2 ((x1).toNatClampNeg) g13) rfl g18 dX8_house_111 ?_
          refine lv_aload hx hb dX8_house_112 (lv_at hl 4 rfl) ?_
          refine va_get (D := Γ.1) (ci := 5) (v := .ref (Γ.2.2.1 (64 + 2 * ((x1).toNatClampNeg)))) (C := RX5) (T := TX5) (N := 3) hx hb hts iX5 hown hK hP (63 + 2 * ((x1).toNatClampNeg)) (gC_Sheet Γ q15.2 ((x1).toNatClampNeg) g13) rfl 2 (by decide) (hts (.fieldLink RX8 248 "OtherHalfOfNight$Sheet" "items" "[I") (wzm K862)) (fun _ h9 => h9) rfl dX8_house_114 ?_
          refine lv_iload hx hb dX8_house_117 (lv_at hl 0 rfl) ?_
          refine lv_iconst (v := (1 : Int32)) hx hb dX8_house_119 (by decide) ?_
          refine lv_iadd hx hb dX8_house_120 ?_
          obtain ⟨g19, hf⟩ := w_oi hf
          refine va_iald (D := Γ.1) (tys := (tysC Γ)) hx hb hK hP (64 + 2 * ((x1).toNatClampNeg)) 0 (gC_Sheet_items Γ q15.2 ((x1).toNatClampNeg) g13) rfl g19 dX8_house_121 ?_
          refine lv_aload hx hb dX8_house_122 (lv_at hl 4 rfl) ?_
          refine va_get (D := Γ.1) (ci := 5) (v := .ref (Γ.2.2.1 (64 + 2 * ((x1).toNatClampNeg)))) (C := RX5) (T := TX5) (N := 3) hx hb hts iX5 hown hK hP (63 + 2 * ((x1).toNatClampNeg)) (gC_Sheet Γ q15.2 ((x1).toNatClampNeg) g13) rfl 2 (by decide) (hts (.fieldLink RX8 248 "OtherHalfOfNight$Sheet" "items" "[I") (wzm K862)) (fun _ h9 => h9) rfl dX8_house_124 ?_
          refine lv_iload hx hb dX8_house_127 (lv_at hl 0 rfl) ?_
          refine lv_iconst (v := (2 : Int32)) hx hb dX8_house_129 (by decide) ?_
          refine lv_iadd hx hb dX8_house_130 ?_
          obtain ⟨g20, hf⟩ := w_oi hf
          refine va_iald (D := Γ.1) (tys := (tysC Γ)) hx hb hK hP (64 + 2 * ((x1).toNatClampNeg)) 0 (gC_Sheet_items Γ q15.2 ((x1).toNatClampNeg) g13) rfl g20 dX8_house_131 ?_
          obtain ⟨q21, h22, hf⟩ := w_ob hf
          refine w_ci (va_runV (As := [.int (q15.2 (75 + 3 * ((x1).toNatClampNeg)) ((x3 + ((3 : Int32) * y7))).toNatClampNeg), .int (q15.2 (75 + 3 * ((x1).toNatClampNeg)) (((x3 + ((3 : Int32) * y7)) + (1 : Int32))).toNatClampNeg), .int (q15.2 (75 + 3 * ((x1).toNatClampNeg)) (((x3 + ((3 : Int32) * y7)) + (2 : Int32))).toNatClampNeg)]) (rest := []) ⟨hx, hb, hml, hown, hts⟩ (c_X1_admit l Γ hG (0) (q15.2 (75 + 3 * ((x1).toNatClampNeg)) ((x3 + ((3 : Int32) * y7))).toNatClampNeg) (q15.2 (75 + 3 * ((x1).toNatClampNeg)) (((x3 + ((3 : Int32) * y7)) + (1 : Int32))).toNatClampNeg) (q15.2 (75 + 3 * ((x1).toNatClampNeg)) (((x3 + ((3 : Int32) * y7)) + (2 : Int32))).toNatClampNeg) q15.2 q21.1 q21.2 h22 H.size) (cwV 3 hts (wzV K321 K318 K319 K320 K14) rfl rfl rfl (by decide +kernel) ⟨(Nat.le_of_ble_eq_true rfl), (Nat.le_of_ble_eq_true rfl)⟩) (w_preV hK hP hkc hN hS (gC_House Γ q15.2 0 (by decide)) rfl) rfl rfl hl.1 rfl (lv_room (Nat.le_of_ble_eq_true rfl)) dX8_house_132 ⟨Nat.le_refl _, Nat.le_refl _⟩) hS (fun H locs hP hS => ?_)
          refine lv_if_lt (tgt := 141) hx hb dX8_house_135 (by decide) (fun c23 => ?_) (fun c23 => ?_)
          · replace hf := (if_pos c23).symm.trans hf
            refine lv_iinc (v := (y7 + (1 : Int32))) (lv' := [(7, .int (y7 + (1 : Int32))), (8, .int (x3 + ((3 : Int32) * y7))), (0, .ref (Γ.2.2.1 (0))), (3, .int x3), (4, .int x4), (5, .ref (Γ.2.2.1 (63 + 2 * ((x1).toNatClampNeg)))), (6, .int y6)]) hx hb dX8_house_141 hl (k := 6) rfl rfl (by decide) rfl (fun ls hl => ?_)
            refine lv_goto (tgt := 67) hx hb dX8_house_144 (by decide) ?_
            exact ih67 (y6) ((y7 + (1 : Int32))) q21.2 H locs ls hf hP hS (lv_sub hl [2, 3, 4, 5, 6, 0] rfl)
          · replace hf := (if_neg c23).symm.trans hf
            refine lv_iinc (v := (y6 + (1 : Int32))) (lv' := [(6, .int (y6 + (1 : Int32))), (8, .int (x3 + ((3 : Int32) * y7))), (0, .ref (Γ.2.2.1 (0))), (3, .int x3), (4, .int x4), (5, .ref (Γ.2.2.1 (63 + 2 * ((x1).toNatClampNeg)))), (7, .int y7)]) hx hb dX8_house_138 hl (k := 5) rfl rfl (by decide) rfl (fun ls hl => ?_)
            refine lv_iinc (v := (y7 + (1 : Int32))) (lv' := [(7, .int (y7 + (1 : Int32))), (6, .int (y6 + (1 : Int32))), (8, .int (x3 + ((3 : Int32) * y7))), (0, .ref (Γ.2.2.1 (0))), (3, .int x3), (4, .int x4), (5, .ref (Γ.2.2.1 (63 + 2 * ((x1).toNatClampNeg))))]) hx hb dX8_house_141 hl (k := 6) rfl rfl (by decide) rfl (fun ls hl => ?_)
            refine lv_goto (tgt := 67) hx hb dX8_house_144 (by decide) ?_
            exact ih67 ((y6 + (1 : Int32))) ((y7 + (1 : Int32))) q21.2 H locs ls hf hP hS (lv_sub hl [3, 4, 5, 6, 1, 0] rfl)
        · replace hf := (if_pos c17).symm.trans hf
          refine lv_bipush (v := (-12 : Int32)) hx hb dX8_house_89 (by decide) ?_
          exact w_iret (X := XC Γ) hx hb hr hlocks hK hP hS rfl hf dX8_house_91
  suffices hw : ∀ (H : Heap) (locs : List Loc), va_P Γ.1 vwCl (XC Γ σ) H → va_S (wA (alC Γ) s.heap.size) s.heap H locs → W p l e { frames := 1, cells := 0, slots := 0, locals := 23 } s m av.toArray below meth c H locs 0 0 (MQ below (wQi Γ.1 vwCl (tysC Γ) (XC Γ) (alC Γ) r σ' s.heap.size) av.toArray s 0 0 (wA (alC Γ) s.heap.size)) (F0 m 0 ls []) from hw _ [] hP va_S.rf
  clear hP
  intro H locs hP hS
  unfold f_X8_house at hf
  refine lv_iload_n hx hb dX8_house_0 rfl (lv_at hl 1 rfl) ?_
  obtain ⟨q1, h2, hf⟩ := w_ob hf
  refine w_ci (va_runS (As := [.int x1]) (rest := []) ⟨hx, hb, hml, hown, hts⟩ (c_X8_isSheet l Γ hG x1 σ q1.1 q1.2 h2 H.size) (cwS 1 hts (wzS K853 K851 K852 K2) rfl rfl rfl (by decide +kernel) ⟨(Nat.le_of_ble_eq_true rfl), (Nat.le_of_ble_eq_true rfl)⟩) (w_pre hK hP hkc hN hS) rfl rfl hl.1 rfl (lv_room (Nat.le_of_ble_eq_true rfl)) dX8_house_1 ⟨Nat.le_refl _, Nat.le_refl _⟩) hS (fun H locs hP hS => ?_)
  refine lv_if_eq (tgt := 27) hx hb dX8_house_4 (by decide) (fun c3 => ?_) (fun c3 => ?_)
  · replace hf := (if_pos c3).symm.trans hf
    refine lv_bipush (v := (-2 : Int32)) hx hb dX8_house_27 (by decide) ?_
    exact w_iret (X := XC Γ) hx hb hr hlocks hK hP hS rfl hf dX8_house_29
  · replace hf := (if_neg c3).symm.trans hf
    refine lv_iload_n hx hb dX8_house_7 rfl (lv_at hl 2 rfl) ?_
    refine lv_if_lt (tgt := 27) hx hb dX8_house_8 (by decide) (fun c4 => ?_) (fun c4 => ?_)
    · replace hf := (if_pos c4).symm.trans hf
      refine lv_bipush (v := (-2 : Int32)) hx hb dX8_house_27 (by decide) ?_
      exact w_iret (X := XC Γ) hx hb hr hlocks hK hP hS rfl hf dX8_house_29
    · replace hf := (if_neg c4).symm.trans hf
      refine lv_iload_n hx hb dX8_house_11 rfl (lv_at hl 2 rfl) ?_
      refine lv_iconst (v := (2 : Int32)) hx hb dX8_house_12 (by decide) ?_
      refine lv_icmp_gt (tgt := 27) hx hb dX8_house_13 (by decide) (fun c5 => ?_) (fun c5 => ?_)
      · replace hf := (if_pos c5).symm.trans hf
        refine lv_bipush (v := (-2 : Int32)) hx hb dX8_house_27 (by decide) ?_
        exact w_iret (X := XC Γ) hx hb hr hlocks hK hP hS rfl hf dX8_house_29
      · replace hf := (if_neg c5).symm.trans hf
        refine lv_iload hx hb dX8_house_16 (lv_at hl 4 rfl) ?_
        refine lv_if_lt (tgt := 27) hx hb dX8_house_18 (by decide) (fun c6 => ?_) (fun c6 => ?_)
        · replace hf := (if_pos c6).symm.trans hf
          refine lv_bipush (v := (-2 : Int32)) hx hb dX8_house_27 (by decide) ?_
          exact w_iret (X := XC Γ) hx hb hr hlocks hK hP hS rfl hf dX8_house_29
        · replace hf := (if_neg c6).symm.trans hf
          refine lv_iload hx hb dX8_house_21 (lv_at hl 4 rfl) ?_
          refine lv_iconst (v := (5 : Int32)) hx hb dX8_house_23 (by decide) ?_
          refine lv_icmp_le (tgt := 30) hx hb dX8_house_24 (by decide) (fun c7 => ?_) (fun c7 => ?_)
          · replace hf := (if_pos c7).symm.trans hf
            refine lv_aload_n hx hb dX8_house_30 rfl (lv_at hl 0 rfl) ?_
            refine va_get (D := Γ.1) (ci := 7) (v := .ref (Γ.2.2.1 (62))) (C := RX8) (T := TX8) (N := 9) hx hb hts iX8 hown hK hP (0) (gC_Main Γ q1.2) rfl 8 (by decide) (hts (.fieldLink RX8 52 "OtherHalfOfNight" "sheets" "[LOtherHalfOfNight$Sheet;") (wzm K35)) (fun _ h9 => h9) rfl dX8_house_31 ?_
            refine lv_iload_n hx hb dX8_house_34 rfl (lv_at hl 1 rfl) ?_
            obtain ⟨g8, hf⟩ := w_oi hf
            refine w_aaldq (D := Γ.1) (tys := (tysC Γ)) (g := fun j => Γ.2.2.1 (63 + 2 * j)) hx hb hK hP (62) 3 (gC_sheets Γ q1.2) rfl g8 dX8_house_35 ?_
            refine lv_astore (lv' := [(5, .ref (Γ.2.2.1 (63 + 2 * ((x1).toNatClampNeg)))), (0, .ref (Γ.2.2.1 (0))), (1, .int x1), (2, .int x2), (3, .int x3), (4, .int x4)]) hx hb dX8_house_36 hl (by decide) rfl (fun ls hl => ?_)
            refine lv_aload hx hb dX8_house_38 (lv_at hl 0 rfl) ?_
            obtain ⟨q9, h10, hf⟩ := w_ob hf
            refine w_ci (va_runV (As := []) (rest := []) ⟨hx, hb, hml, hown, hts⟩ (c_X5_isMissing l Γ hG ((x1).toNatClampNeg) q1.2 q9.1 q9.2 h10 H.size) (cwV 0 hts (wzV K857 K854 K855 K856 K37) rfl rfl rfl (by decide +kernel) ⟨(Nat.le_of_ble_eq_true rfl), (Nat.le_of_ble_eq_true rfl)⟩) (w_preV hK hP hkc hN hS (gC_Sheet Γ q1.2 ((x1).toNatClampNeg) (w_lt g8)) rfl) rfl rfl hl.1 rfl (lv_room (Nat.le_of_ble_eq_true rfl)) dX8_house_40 ⟨Nat.le_refl _, Nat.le_refl _⟩) hS (fun H locs hP hS => ?_)
            refine lv_if_eq (tgt := 49) hx hb dX8_house_43 (by decide) (fun c11 => ?_) (fun c11 => ?_)
            · replace hf := (if_pos c11).symm.trans hf
              refine lv_aload hx hb dX8_house_49 (lv_at hl 0 rfl) ?_
              refine va_get (D := Γ.1) (ci := 5) (v := .int (q9.2 (73 + 3 * ((x1).toNatClampNeg)) 0)) (C := RX5) (T := TX5) (N := 3) hx hb hts iX5 hown hK hP (63 + 2 * ((x1).toNatClampNeg)) (gC_Sheet Γ q9.2 ((x1).toNatClampNeg) (w_lt g8)) rfl 0 (by decide) (hts (.fieldLink RX8 242 "OtherHalfOfNight$Sheet" "sort" "I") (wzm K1009)) (fun _ h9 => h9) rfl dX8_house_51 ?_
              refine lv_iload_n hx hb dX8_house_54 rfl (lv_at hl 3 rfl) ?_
              refine lv_icmp_eq (tgt := 61) hx hb dX8_house_55 (by decide) (fun c12 => ?_) (fun c12 => ?_)
              · replace hf := (if_pos c12).symm.trans hf
                refine lv_iconst (v := (0 : Int32)) hx hb dX8_house_61 (by decide) ?_
                refine lv_istore (lv' := [(6, .int (0 : Int32)), (5, .ref (Γ.2.2.1 (63 + 2 * ((x1).toNatClampNeg)))), (0, .ref (Γ.2.2.1 (0))), (1, .int x1), (2, .int x2), (3, .int x3), (4, .int x4)]) hx hb dX8_house_62 hl (by decide) rfl (fun ls hl => ?_)
                refine lv_iconst (v := (0 : Int32)) hx hb dX8_house_64 (by decide) ?_
                refine lv_istore (lv' := [(7, .int (0 : Int32)), (6, .int (0 : Int32)), (5, .ref (Γ.2.2.1 (63 + 2 * ((x1).toNatClampNeg)))), (0, .ref (Γ.2.2.1 (0))), (1, .int x1), (2, .int x2), (3, .int x3), (4, .int x4)]) hx hb dX8_house_65 hl (by decide) rfl (fun ls hl => ?_)
                exact j67 5000 ((0 : Int32)) ((0 : Int32)) q9.2 H locs ls hf hP hS (lv_sub hl [3, 6, 7, 2, 1, 0] rfl)
              · replace hf := (if_neg c12).symm.trans hf
                refine lv_bipush (v := (-13 : Int32)) hx hb dX8_house_58 (by decide) ?_
                exact w_iret (X := XC Γ) hx hb hr hlocks hK hP hS rfl hf dX8_house_60
            · replace hf := (if_neg c11).symm.trans hf
              refine lv_bipush (v := (-11 : Int32)) hx hb dX8_house_46 (by decide) ?_
              exact w_iret (X := XC Γ) hx hb hr hlocks hK hP hS rfl hf dX8_house_48
          · replace hf := (if_neg c7).symm.trans hf
            refine lv_bipush (v := (-2 : Int32)) hx hb dX8_house_27 (by decide) ?_
            exact w_iret (X := XC Γ) hx hb hr hlocks hK hP hS rfl hf dX8_house_29
def f_X8_taken (x1 : Int32) (x2 : Int32) (σ : Sg) : Option (Int32 × Sg) := if x2 < 0 then some ((-2 : Int32), σ) else if x2 ≤ (5 : Int32) then (f_X1_lodges (0) x1 σ).bind fun (q3 : Int32 × Sg) => if q3.1 = 0 then some ((-11 : Int32), q3.2) else if okI x1 5 then (f_X8_isUnder (q3.2 (11 * 0 + 4) (x1).toNatClampNeg) x2 q3.2).bind fun (q7 : Int32 × Sg) => if q7.1 = 0 then some ((-13 : Int32), q7.2) else if okI x1 5 then some ((q7.2 (11 * 0 + 5) (x1).toNatClampNeg), q7.2) else none else none else some ((-2 : Int32), σ)
set_option maxHeartbeats 40000000 in
set_option maxRecDepth 100000 in
theorem c_X8_taken (l : Launch) (Γ : Geo) (hG : okC Γ) (x1 : Int32) (x2 : Int32) (σ : Sg) (r : Int32) (σ' : Sg) (hf : f_X8_taken x1 x2 σ = some (r, σ')) (sz : Nat) : Met l yX8_taken (wz yX8_taken cX8_taken 3 (some .int)) { frames := 1, cells := 0, slots := 0, locals := 21 } (va_Pc [.ref (Γ.2.2.1 (0)), .int x1, .int x2] (wPre Γ.1 vwCl (tysC Γ) (XC Γ) (alC Γ) Γ.2.2.2 σ sz)) (wQi Γ.1 vwCl (tysC Γ) (XC Γ) (alC Γ) r σ' sz) 0 0 (wA (alC Γ) sz) := by
  refine w_enter (cc := cX8_taken) (maxL := 3) (ret := (some .int)) (by decide) rfl (Nat.le_of_ble_eq_true rfl) ?_
  intro p e s m below meth c ls hx hb hr hlocks hml hown hts hsz hP hK hkc hN hl
  subst hsz
  generalize hav : ([.ref (Γ.2.2.1 (0)), .int x1, .int x2] : List Value) = av at hl hts ⊢
  have hl : lv_has ls 3 [(0, .ref (Γ.2.2.1 (0))), (1, .int x1), (2, .int x2)] := by rw [← hav] at hl; exact hl
  suffices hw : ∀ (H : Heap) (locs : List Loc), va_P Γ.1 vwCl (XC Γ σ) H → va_S (wA (alC Γ) s.heap.size) s.heap H locs → W p l e { frames := 1, cells := 0, slots := 0, locals := 21 } s m av.toArray below meth c H locs 0 0 (MQ below (wQi Γ.1 vwCl (tysC Γ) (XC Γ) (alC Γ) r σ' s.heap.size) av.toArray s 0 0 (wA (alC Γ) s.heap.size)) (F0 m 0 ls []) from hw _ [] hP va_S.rf
  clear hP
  intro H locs hP hS
  unfold f_X8_taken at hf
  refine lv_iload_n hx hb dX8_taken_0 rfl (lv_at hl 2 rfl) ?_
  refine lv_if_lt (tgt := 9) hx hb dX8_taken_1 (by decide) (fun c1 => ?_) (fun c1 => ?_)
  · replace hf := (if_pos c1).symm.trans hf
    refine lv_bipush (v := (-2 : Int32)) hx hb dX8_taken_9 (by decide) ?_
    exact w_iret (X := XC Γ) hx hb hr hlocks hK hP hS rfl hf dX8_taken_11
  · replace hf := (if_neg c1).symm.trans hf
    refine lv_iload_n hx hb dX8_taken_4 rfl (lv_at hl 2 rfl) ?_
    refine lv_iconst (v := (5 : Int32)) hx hb dX8_taken_5 (by decide) ?_
    refine lv_icmp_le (tgt := 12) hx hb dX8_taken_6 (by decide) (fun c2 => ?_) (fun c2 => ?_)
    · replace hf := (if_pos c2).symm.trans hf
      refine lv_aload_n hx hb dX8_taken_12 rfl (lv_at hl 0 rfl) ?_
      refine va_get (D := Γ.1) (ci := 7) (v := .ref (Γ.2.2.1 (1 + 8 * 0))) (C := RX8) (T := TX8) (N := 9) hx hb hts iX8 hown hK hP (0) (gC_Main Γ σ) rfl 0 (by decide) (hts (.fieldLink RX8 10 "OtherHalfOfNight" "now" "LOtherHalfOfNight$House;") (wzm K15)) (fun _ h9 => h9) rfl dX8_taken_13 ?_
      refine lv_iload_n hx hb dX8_taken_16 rfl (lv_at hl 1 rfl) ?_
      obtain ⟨q3, h4, hf⟩ := w_ob hf
      refine w_ci (va_runV (As := [.int x1]) (rest := []) ⟨hx, hb, hml, hown, hts⟩ (c_X1_lodges l Γ hG (0) x1 σ q3.1 q3.2 h4 H.size) (cwV 1 hts (wzV K144 K332 K142 K143 K14) rfl rfl rfl (by decide +kernel) ⟨(Nat.le_of_ble_eq_true rfl), (Nat.le_of_ble_eq_true rfl)⟩) (w_preV hK hP hkc hN hS (gC_House Γ σ 0 (by decide)) rfl) rfl rfl hl.1 rfl (lv_room (Nat.le_of_ble_eq_true rfl)) dX8_taken_17 ⟨Nat.le_refl _, Nat.le_refl _⟩) hS (fun H locs hP hS => ?_)
      refine lv_if_ne (tgt := 26) hx hb dX8_taken_20 (by decide) (fun c5 => ?_) (fun c5 => ?_)
      · replace hf := (if_neg c5).symm.trans hf
        refine lv_aload_n hx hb dX8_taken_26 rfl (lv_at hl 0 rfl) ?_
        refine va_get (D := Γ.1) (ci := 7) (v := .ref (Γ.2.2.1 (1 + 8 * 0))) (C := RX8) (T := TX8) (N := 9) hx hb hts iX8 hown hK hP (0) (gC_Main Γ q3.2) rfl 0 (by decide) (hts (.fieldLink RX8 10 "OtherHalfOfNight" "now" "LOtherHalfOfNight$House;") (wzm K15)) (fun _ h9 => h9) rfl dX8_taken_27 ?_
        refine va_get (D := Γ.1) (ci := 1) (v := .ref (Γ.2.2.1 (2 + 8 * 0))) (C := RX1) (T := TX1) (N := 11) hx hb hts iX1 hown hK hP (1 + 8 * 0) (gC_House Γ q3.2 0 (by decide)) rfl 4 (by decide) (hts (.fieldLink RX8 257 "OtherHalfOfNight$House" "kind" "[I") (wzm K1029)) (fun _ h9 => h9) rfl dX8_taken_30 ?_
        refine lv_iload_n hx hb dX8_taken_33 rfl (lv_at hl 1 rfl) ?_
        obtain ⟨g6, hf⟩ := w_oi hf
        refine va_iald (D := Γ.1) (tys := (tysC Γ)) hx hb hK hP (2 + 8 * 0) 0 (gC_House_kind Γ q3.2 0 (by decide)) rfl g6 dX8_taken_34 ?_
        refine lv_iload_n hx hb dX8_taken_35 rfl (lv_at hl 2 rfl) ?_
        obtain ⟨q7, h8, hf⟩ := w_ob hf
        refine w_ci (va_runS (As := [.int (q3.2 (11 * 0 + 4) (x1).toNatClampNeg), .int x2]) (rest := []) ⟨hx, hb, hml, hown, hts⟩ (c_X8_isUnder l Γ hG (q3.2 (11 * 0 + 4) (x1).toNatClampNeg) x2 q3.2 q7.1 q7.2 h8 H.size) (cwS 2 hts (wzS K1033 K1031 K1032 K2) rfl rfl rfl (by decide +kernel) ⟨(Nat.le_of_ble_eq_true rfl), (Nat.le_of_ble_eq_true rfl)⟩) (w_pre hK hP hkc hN hS) rfl rfl hl.1 rfl (lv_room (Nat.le_of_ble_eq_true rfl)) dX8_taken_36 ⟨Nat.le_refl _, Nat.le_refl _⟩) hS (fun H locs hP hS => ?_)
        refine lv_if_eq (tgt := 54) hx hb dX8_taken_39 (by decide) (fun c9 => ?_) (fun c9 => ?_)
        · replace hf := (if_pos c9).symm.trans hf
          refine lv_bipush (v := (-13 : Int32)) hx hb dX8_taken_54 (by decide) ?_
          exact w_iret (X := XC Γ) hx hb hr hlocks hK hP hS rfl hf dX8_taken_56
        · replace hf := (if_neg c9).symm.trans hf
          refine lv_aload_n hx hb dX8_taken_42 rfl (lv_at hl 0 rfl) ?_
          refine va_get (D := Γ.1) (ci := 7) (v := .ref (Γ.2.2.1 (1 + 8 * 0))) (C := RX8) (T := TX8) (N := 9) hx hb hts iX8 hown hK hP (0) (gC_Main Γ q7.2) rfl 0 (by decide) (hts (.fieldLink RX8 10 "OtherHalfOfNight" "now" "LOtherHalfOfNight$House;") (wzm K15)) (fun _ h9 => h9) rfl dX8_taken_43 ?_
          refine va_get (D := Γ.1) (ci := 1) (v := .ref (Γ.2.2.1 (3 + 8 * 0))) (C := RX1) (T := TX1) (N := 11) hx hb hts iX1 hown hK hP (1 + 8 * 0) (gC_House Γ q7.2 0 (by decide)) rfl 5 (by decide) (hts (.fieldLink RX8 263 "OtherHalfOfNight$House" "number" "[I") (wzm K1030)) (fun _ h9 => h9) rfl dX8_taken_46 ?_
          refine lv_iload_n hx hb dX8_taken_49 rfl (lv_at hl 1 rfl) ?_
          obtain ⟨g10, hf⟩ := w_oi hf
          refine va_iald (D := Γ.1) (tys := (tysC Γ)) hx hb hK hP (3 + 8 * 0) 0 (gC_House_number Γ q7.2 0 (by decide)) rfl g10 dX8_taken_50 ?_
          refine lv_goto (tgt := 56) hx hb dX8_taken_51 (by decide) ?_
          exact w_iret (X := XC Γ) hx hb hr hlocks hK hP hS rfl hf dX8_taken_56
      · replace hf := (if_pos c5).symm.trans hf
        refine lv_bipush (v := (-11 : Int32)) hx hb dX8_taken_23 (by decide) ?_
        exact w_iret (X := XC Γ) hx hb hr hlocks hK hP hS rfl hf dX8_taken_25
    · replace hf := (if_neg c2).symm.trans hf
      refine lv_bipush (v := (-2 : Int32)) hx hb dX8_taken_9 (by decide) ?_
      exact w_iret (X := XC Γ) hx hb hr hlocks hK hP hS rfl hf dX8_taken_11
