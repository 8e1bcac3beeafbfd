def f_X4_readPart (x1 : Int32) (x2 : Int32) (σ : Sg) : Option (Int32 × Sg) := if (σ (38) 0) = x1 then (f_X4_step σ).bind fun (q2 : Sg) => (f_X4_readAny (0 : Int32) q2).bind fun (q4 : Int32 × Sg) => if q4.1 = 0 then some ((0 : Int32), q4.2) else if (q4.2 (38) 0) = (59 : Int32) then (f_X4_step q4.2).bind fun (q8 : Sg) => if (q8 (40) 0).toNatClampNeg < 7 then (f_X6_endPart ((q8 (40) 0).toNatClampNeg) x2 q8).bind fun (q11 : Sg) => some ((1 : Int32), q11) else none else some ((0 : Int32), q4.2) else some ((0 : Int32), σ)
set_option maxHeartbeats 40000000 in
set_option maxRecDepth 100000 in
theorem c_X4_readPart (l : Launch) (Γ : Geo) (hG : okC Γ) (x1 : Int32) (x2 : Int32) (σ : Sg) (r : Int32) (σ' : Sg) (hf : f_X4_readPart x1 x2 σ = some (r, σ')) (sz : Nat) : Met l yX4_readPart (wz yX4_readPart cX4_readPart 3 (some .boolean)) { frames := 77, cells := 0, slots := 0, locals := 2982 } (va_Pc [.ref (Γ.2.2.1 (25)), .int x1, .int x2] (wPre Γ.1 vwCl (tysC Γ) (XC Γ) (alC Γ) Γ.2.2.2 σ sz)) (wQi Γ.1 vwCl (tysC Γ) (XC Γ) (alC Γ) r σ' sz) 0 0 (wA (alC Γ) sz) := by
  refine w_enter (cc := cX4_readPart) (maxL := 3) (ret := (some .boolean)) (by decide) rfl (Nat.le_of_ble_eq_true rfl) ?_
  intro p e s m below meth c ls hx hb hr hlocks hml hown hts hsz hP hK hkc hN hl
  subst hsz
  generalize hav : ([.ref (Γ.2.2.1 (25)), .int x1, .int x2] : List Value) = av at hl hts ⊢
  have hl : lv_has ls 3 [(0, .ref (Γ.2.2.1 (25))), (1, .int x1), (2, .int x2)] := by rw [← hav] at hl; exact hl
  suffices hw : ∀ (H : Heap) (locs : List Loc), va_P Γ.1 vwCl (XC Γ σ) H → va_S (wA (alC Γ) s.heap.size) s.heap H locs → W p l e { frames := 77, cells := 0, slots := 0, locals := 2982 } s m av.toArray below meth c H locs 0 0 (MQ below (wQi Γ.1 vwCl (tysC Γ) (XC Γ) (alC Γ) r σ' s.heap.size) av.toArray s 0 0 (wA (alC Γ) s.heap.size)) (F0 m 0 ls []) from hw _ [] hP va_S.rf
  clear hP
  intro H locs hP hS
  unfold f_X4_readPart at hf
  refine lv_aload_n hx hb dX4_readPart_0 rfl (lv_at hl 0 rfl) ?_
  refine va_get (D := Γ.1) (ci := 4) (v := .int (σ (38) 0)) (C := RX4) (T := TX4) (N := 7) hx hb hts iX4 hown hK hP (25) (gC_Reader Γ σ) rfl 5 (by decide) (hts (.fieldLink RX4 41 "OtherHalfOfNight$Reader" "token" "I") (wzm K449)) (fun _ h9 => h9) rfl dX4_readPart_1 ?_
  refine lv_iload_n hx hb dX4_readPart_4 rfl (lv_at hl 1 rfl) ?_
  refine lv_icmp_eq (tgt := 10) hx hb dX4_readPart_5 (by decide) (fun c1 => ?_) (fun c1 => ?_)
  · replace hf := (if_pos c1).symm.trans hf
    refine lv_aload_n hx hb dX4_readPart_10 rfl (lv_at hl 0 rfl) ?_
    obtain ⟨q2, h3, hf⟩ := w_ob hf
    refine w_cv (va_runV (As := []) (rest := []) ⟨hx, hb, hml, hown, hts⟩ (c_X4_step l Γ hG σ q2 h3 H.size) (cwV 0 hts (wzV K455 K452 K453 K454 K20) rfl rfl rfl (by decide +kernel) ⟨(Nat.le_of_ble_eq_true rfl), (Nat.le_of_ble_eq_true rfl)⟩) (w_preV hK hP hkc hN hS (gC_Reader Γ σ) rfl) rfl rfl hl.1 rfl (lv_room (Nat.le_of_ble_eq_true rfl)) dX4_readPart_11 ⟨Nat.le_refl _, Nat.le_refl _⟩) hS (fun H locs hP hS => ?_)
    refine lv_aload_n hx hb dX4_readPart_14 rfl (lv_at hl 0 rfl) ?_
    refine lv_iconst (v := (0 : Int32)) hx hb dX4_readPart_15 (by decide) ?_
    obtain ⟨q4, h5, hf⟩ := w_ob hf
    refine w_ci (va_runV (As := [.int (0 : Int32)]) (rest := []) ⟨hx, hb, hml, hown, hts⟩ (c_X4_readAny l Γ hG (0 : Int32) q2 q4.1 q4.2 h5 H.size) (cwV 1 hts (wzV K590 K587 K588 K589 K20) rfl rfl rfl (by decide +kernel) ⟨(Nat.le_of_ble_eq_true rfl), (Nat.le_of_ble_eq_true rfl)⟩) (w_preV hK hP hkc hN hS (gC_Reader Γ q2) rfl) rfl rfl hl.1 rfl (lv_room (Nat.le_of_ble_eq_true rfl)) dX4_readPart_16 ⟨Nat.le_refl _, Nat.le_refl _⟩) hS (fun H locs hP hS => ?_)
    refine lv_if_eq (tgt := 31) hx hb dX4_readPart_19 (by decide) (fun c6 => ?_) (fun c6 => ?_)
    · replace hf := (if_pos c6).symm.trans hf
      refine lv_iconst (v := (0 : Int32)) hx hb dX4_readPart_31 (by decide) ?_
      exact w_iret (X := XC Γ) hx hb hr hlocks hK hP hS (by decide) hf dX4_readPart_32
    · replace hf := (if_neg c6).symm.trans hf
      refine lv_aload_n hx hb dX4_readPart_22 rfl (lv_at hl 0 rfl) ?_
      refine va_get (D := Γ.1) (ci := 4) (v := .int (q4.2 (38) 0)) (C := RX4) (T := TX4) (N := 7) hx hb hts iX4 hown hK hP (25) (gC_Reader Γ q4.2) rfl 5 (by decide) (hts (.fieldLink RX4 41 "OtherHalfOfNight$Reader" "token" "I") (wzm K449)) (fun _ h9 => h9) rfl dX4_readPart_23 ?_
      refine lv_bipush (v := (59 : Int32)) hx hb dX4_readPart_26 (by decide) ?_
      refine lv_icmp_eq (tgt := 33) hx hb dX4_readPart_28 (by decide) (fun c7 => ?_) (fun c7 => ?_)
      · replace hf := (if_pos c7).symm.trans hf
        refine lv_aload_n hx hb dX4_readPart_33 rfl (lv_at hl 0 rfl) ?_
        obtain ⟨q8, h9, hf⟩ := w_ob hf
        refine w_cv (va_runV (As := []) (rest := []) ⟨hx, hb, hml, hown, hts⟩ (c_X4_step l Γ hG q4.2 q8 h9 H.size) (cwV 0 hts (wzV K455 K452 K453 K454 K20) rfl rfl rfl (by decide +kernel) ⟨(Nat.le_of_ble_eq_true rfl), (Nat.le_of_ble_eq_true rfl)⟩) (w_preV hK hP hkc hN hS (gC_Reader Γ q4.2) rfl) rfl rfl hl.1 rfl (lv_room (Nat.le_of_ble_eq_true rfl)) dX4_readPart_34 ⟨Nat.le_refl _, Nat.le_refl _⟩) hS (fun H locs hP hS => ?_)
        refine lv_aload_n hx hb dX4_readPart_37 rfl (lv_at hl 0 rfl) ?_
        obtain ⟨g10, hf⟩ := w_oi hf
        refine va_get (D := Γ.1) (ci := 4) (v := .ref (Γ.2.2.1 (30 + 3 * ((q8 (40) 0).toNatClampNeg)))) (C := RX4) (T := TX4) (N := 7) hx hb hts iX4 hown hK hP (25) (gC_Reader Γ q8) rfl 2 (by decide) (hts (.fieldLink RX4 18 "OtherHalfOfNight$Reader" "text" "LOtherHalfOfNight$Text;") (wzm K57)) (fun _ h9 => h9) rfl dX4_readPart_38 ?_
        refine lv_iload_n hx hb dX4_readPart_41 rfl (lv_at hl 2 rfl) ?_
        obtain ⟨q11, h12, hf⟩ := w_ob hf
        refine w_cv (va_runV (As := [.int x2]) (rest := []) ⟨hx, hb, hml, hown, hts⟩ (c_X6_endPart l Γ hG ((q8 (40) 0).toNatClampNeg) x2 q8 q11 h12 H.size) (cwV 1 hts (wzV K87 K621 K85 K86 K56) rfl rfl rfl (by decide +kernel) ⟨(Nat.le_of_ble_eq_true rfl), (Nat.le_of_ble_eq_true rfl)⟩) (w_preV hK hP hkc hN hS (gC_Text Γ q8 ((q8 (40) 0).toNatClampNeg) g10) rfl) rfl rfl hl.1 rfl (lv_room (Nat.le_of_ble_eq_true rfl)) dX4_readPart_42 ⟨Nat.le_refl _, Nat.le_refl _⟩) hS (fun H locs hP hS => ?_)
        refine lv_iconst (v := (1 : Int32)) hx hb dX4_readPart_45 (by decide) ?_
        exact w_iret (X := XC Γ) hx hb hr hlocks hK hP hS (by decide) hf dX4_readPart_46
      · replace hf := (if_neg c7).symm.trans hf
        refine lv_iconst (v := (0 : Int32)) hx hb dX4_readPart_31 (by decide) ?_
        exact w_iret (X := XC Γ) hx hb hr hlocks hK hP hS (by decide) hf dX4_readPart_32
  · replace hf := (if_neg c1).symm.trans hf
    refine lv_iconst (v := (0 : Int32)) hx hb dX4_readPart_8 (by decide) ?_
    exact w_iret (X := XC Γ) hx hb hr hlocks hK hP hS (by decide) hf dX4_readPart_9
def f_X4_read_69 (i1 : Nat) (z0 : Int32) (τ : Sg) : Option (Int32 × Sg) := if z0 = 0 then some (((up τ (35) 0 (0 : Int32)) (37) 0), (up τ (35) 0 (0 : Int32))) else some ((-1 : Int32), (up τ (35) 0 (0 : Int32)))
def f_X4_read (i1 : Nat) (σ : Sg) : Option (Int32 × Sg) := if i1 < 7 then if ((up σ (40) 0 (nI (i1))) (40) 0).toNatClampNeg < 7 then (f_X6_clear (((up σ (40) 0 (nI (i1))) (40) 0).toNatClampNeg) (up σ (40) 0 (nI (i1)))).bind fun (q3 : Sg) => (f_X4_step (up q3 (36) 0 (0 : Int32))).bind fun (q5 : Sg) => (f_X4_readPart (256 : Int32) (0 : Int32) q5).bind fun (q7 : Int32 × Sg) => if q7.1 = 0 then f_X4_read_69 i1 ((0 : Int32)) q7.2 else (f_X4_readPart (257 : Int32) (1 : Int32) q7.2).bind fun (q10 : Int32 × Sg) => if q10.1 = 0 then f_X4_read_69 i1 ((0 : Int32)) q10.2 else (f_X4_readPart (258 : Int32) (2 : Int32) q10.2).bind fun (q13 : Int32 × Sg) => if q13.1 = 0 then f_X4_read_69 i1 ((0 : Int32)) q13.2 else if (q13.2 (38) 0) = (269 : Int32) then f_X4_read_69 i1 ((1 : Int32)) q13.2 else f_X4_read_69 i1 ((0 : Int32)) q13.2 else none else none
set_option maxHeartbeats 40000000 in
set_option maxRecDepth 100000 in
theorem c_X4_read (l : Launch) (Γ : Geo) (hG : okC Γ) (i1 : Nat) (σ : Sg) (r : Int32) (σ' : Sg) (hf : f_X4_read i1 σ = some (r, σ')) (sz : Nat) : Met l yX4_read (wz yX4_read cX4_read 3 (some .int)) { frames := 78, cells := 0, slots := 0, locals := 3004 } (va_Pc [.ref (Γ.2.2.1 (25)), .ref (Γ.2.2.1 (30 + 3 * i1))] (wPre Γ.1 vwCl (tysC Γ) (XC Γ) (alC Γ) Γ.2.2.2 σ sz)) (wQi Γ.1 vwCl (tysC Γ) (XC Γ) (alC Γ) r σ' sz) 0 0 (wA (alC Γ) sz) := by
  refine w_enter (cc := cX4_read) (maxL := 3) (ret := (some .int)) (by decide) rfl (Nat.le_of_ble_eq_true rfl) ?_
  intro p e s m below meth c ls hx hb hr hlocks hml hown hts hsz hP hK hkc hN hl
  subst hsz
  generalize hav : ([.ref (Γ.2.2.1 (25)), .ref (Γ.2.2.1 (30 + 3 * i1))] : List Value) = av at hl hts ⊢
  have hl : lv_has ls 3 [(0, .ref (Γ.2.2.1 (25))), (1, .ref (Γ.2.2.1 (30 + 3 * i1)))] := by rw [← hav] at hl; exact hl
  have j69 : ∀ (z0 : Int32) (τ : Sg) (H : Heap) (locs : List Loc) (ls : Array Slot) (hf : f_X4_read_69 i1 z0 τ = some (r, σ')) (hP : va_P Γ.1 vwCl (XC Γ τ) H) (hS : va_S (wA (alC Γ) s.heap.size) s.heap H locs) (hl : lv_has ls 3 [(0, .ref (Γ.2.2.1 (25)))]), W p l e { frames := 78, cells := 0, slots := 0, locals := 3004 } s m av.toArray below meth c H locs 0 0 (MQ below (wQi Γ.1 vwCl (tysC Γ) (XC Γ) (alC Γ) r σ' s.heap.size) av.toArray s 0 0 (wA (alC Γ) s.heap.size)) (F0 m 69 ls [.int z0]) := by
    intro z0 τ H locs ls hf hP hS hl
    unfold f_X4_read_69 at hf
    refine lv_istore_n (lv' := [(2, .int z0), (0, .ref (Γ.2.2.1 (25)))]) hx hb dX4_read_69 rfl hl (by decide) rfl (fun ls hl => ?_)
    refine lv_aload_n hx hb dX4_read_70 rfl (lv_at hl 1 rfl) ?_
    refine lv_iconst (v := (0 : Int32)) hx hb dX4_read_71 (by decide) ?_
    refine w_put (X := XC Γ) (σ' := (up τ (35) 0 (0 : Int32))) (ci := 4) (C := RX4) (T := TX4) (N := 7) (ty := .int) hx hb hts iX4 tyX4 tyX4_ok nmX4 hown hK hP (halC Γ) hG hS (25) (gC_Reader Γ τ) rfl 1 (by decide) (hts (.fieldLink RX4 22 "OtherHalfOfNight$Reader" "size" "I") (wzm K425)) (fun _ h9 => h9) rfl (by decide +kernel) rfl rfl (Nat.le_of_ble_eq_true rfl) dX4_read_72 (sC_Reader_size Γ τ (0 : Int32)) (fun H locs hP hS => ?_)
    refine lv_iload_n hx hb dX4_read_75 rfl (lv_at hl 0 rfl) ?_
    refine lv_if_eq (tgt := 83) hx hb dX4_read_76 (by decide) (fun c17 => ?_) (fun c17 => ?_)
    · replace hf := (if_pos c17).symm.trans hf
      refine lv_aload_n hx hb dX4_read_83 rfl (lv_at hl 1 rfl) ?_
      refine va_get (D := Γ.1) (ci := 4) (v := .int ((up τ (35) 0 (0 : Int32)) (37) 0)) (C := RX4) (T := TX4) (N := 7) hx hb hts iX4 hown hK hP (25) (gC_Reader Γ (up τ (35) 0 (0 : Int32))) rfl 4 (by decide) (hts (.fieldLink RX4 44 "OtherHalfOfNight$Reader" "start" "I") (wzm K450)) (fun _ h9 => h9) rfl dX4_read_84 ?_
      exact w_iret (X := XC Γ) hx hb hr hlocks hK hP hS rfl hf dX4_read_87
    · replace hf := (if_neg c17).symm.trans hf
      refine lv_iconst (v := (-1 : Int32)) hx hb dX4_read_79 (by decide) ?_
      refine lv_goto (tgt := 87) hx hb dX4_read_80 (by decide) ?_
      exact w_iret (X := XC Γ) hx hb hr hlocks hK hP hS rfl hf dX4_read_87
  suffices hw : ∀ (H : Heap) (locs : List Loc), va_P Γ.1 vwCl (XC Γ σ) H → va_S (wA (alC Γ) s.heap.size) s.heap H locs → W p l e { frames := 78, cells := 0, slots := 0, locals := 3004 } s m av.toArray below meth c H locs 0 0 (MQ below (wQi Γ.1 vwCl (tysC Γ) (XC Γ) (alC Γ) r σ' s.heap.size) av.toArray s 0 0 (wA (alC Γ) s.heap.size)) (F0 m 0 ls []) from hw _ [] hP va_S.rf
  clear hP
  intro H locs hP hS
  unfold f_X4_read at hf
  obtain ⟨g1, hf⟩ := w_oi hf
  refine lv_aload_n hx hb dX4_read_0 rfl (lv_at hl 0 rfl) ?_
  refine lv_aload_n hx hb dX4_read_1 rfl (lv_at hl 1 rfl) ?_
  refine w_put (X := XC Γ) (σ' := (up σ (40) 0 (nI (i1)))) (ci := 4) (C := RX4) (T := TX4) (N := 7) (ty := (.object "OtherHalfOfNight$Text")) hx hb hts iX4 tyX4 tyX4_ok nmX4 hown hK hP (halC Γ) hG hS (25) (gC_Reader Γ σ) rfl 2 (by decide) (hts (.fieldLink RX4 18 "OtherHalfOfNight$Reader" "text" "LOtherHalfOfNight$Text;") (wzm K57)) (fun _ h9 => h9) rfl (by decide +kernel) rfl rfl (Nat.le_of_ble_eq_true rfl) dX4_read_2 (sC_Reader_text Γ σ (i1) g1) (fun H locs hP hS => ?_)
  refine lv_aload_n hx hb dX4_read_5 rfl (lv_at hl 0 rfl) ?_
  obtain ⟨g2, hf⟩ := w_oi hf
  refine va_get (D := Γ.1) (ci := 4) (v := .ref (Γ.2.2.1 (30 + 3 * (((up σ (40) 0 (nI (i1))) (40) 0).toNatClampNeg)))) (C := RX4) (T := TX4) (N := 7) hx hb hts iX4 hown hK hP (25) (gC_Reader Γ (up σ (40) 0 (nI (i1)))) rfl 2 (by decide) (hts (.fieldLink RX4 18 "OtherHalfOfNight$Reader" "text" "LOtherHalfOfNight$Text;") (wzm K57)) (fun _ h9 => h9) rfl dX4_read_6 ?_
  obtain ⟨q3, h4, hf⟩ := w_ob hf
  refine w_cv (va_runV (As := []) (rest := []) ⟨hx, hb, hml, hown, hts⟩ (c_X6_clear l Γ hG (((up σ (40) 0 (nI (i1))) (40) 0).toNatClampNeg) (up σ (40) 0 (nI (i1))) q3 h4 H.size) (cwV 0 hts (wzV K78 K451 K76 K77 K56) rfl rfl rfl (by decide +kernel) ⟨(Nat.le_of_ble_eq_true rfl), (Nat.le_of_ble_eq_true rfl)⟩) (w_preV hK hP hkc hN hS (gC_Text Γ (up σ (40) 0 (nI (i1))) (((up σ (40) 0 (nI (i1))) (40) 0).toNatClampNeg) g2) rfl) rfl rfl hl.1 rfl (lv_room (Nat.le_of_ble_eq_true rfl)) dX4_read_9 ⟨Nat.le_refl _, Nat.le_refl _⟩) hS (fun H locs hP hS => ?_)
  refine lv_aload_n hx hb dX4_read_12 rfl (lv_at hl 0 rfl) ?_
  refine lv_iconst (v := (0 : Int32)) hx hb dX4_read_13 (by decide) ?_
  refine w_put (X := XC Γ) (σ' := (up q3 (36) 0 (0 : Int32))) (ci := 4) (C := RX4) (T := TX4) (N := 7) (ty := .int) hx hb hts iX4 tyX4 tyX4_ok nmX4 hown hK hP (halC Γ) hG hS (25) (gC_Reader Γ q3) rfl 3 (by decide) (hts (.fieldLink RX4 29 "OtherHalfOfNight$Reader" "at" "I") (wzm K448)) (fun _ h9 => h9) rfl (by decide +kernel) rfl rfl (Nat.le_of_ble_eq_true rfl) dX4_read_14 (sC_Reader_at Γ q3 (0 : Int32)) (fun H locs hP hS => ?_)
  refine lv_aload_n hx hb dX4_read_17 rfl (lv_at hl 0 rfl) ?_
  obtain ⟨q5, h6, hf⟩ := w_ob hf
  refine w_cv (va_runV (As := []) (rest := []) ⟨hx, hb, hml, hown, hts⟩ (c_X4_step l Γ hG (up q3 (36) 0 (0 : Int32)) q5 h6 H.size) (cwV 0 hts (wzV K455 K452 K453 K454 K20) rfl rfl rfl (by decide +kernel) ⟨(Nat.le_of_ble_eq_true rfl), (Nat.le_of_ble_eq_true rfl)⟩) (w_preV hK hP hkc hN hS (gC_Reader Γ (up q3 (36) 0 (0 : Int32))) rfl) rfl rfl hl.1 rfl (lv_room (Nat.le_of_ble_eq_true rfl)) dX4_read_18 ⟨Nat.le_refl _, Nat.le_refl _⟩) hS (fun H locs hP hS => ?_)
  refine lv_aload_n hx hb dX4_read_21 rfl (lv_at hl 0 rfl) ?_
  refine lv_sipush (v := (256 : Int32)) hx hb dX4_read_22 (by decide) ?_
  refine lv_iconst (v := (0 : Int32)) hx hb dX4_read_25 (by decide) ?_
  obtain ⟨q7, h8, hf⟩ := w_ob hf
  refine w_ci (va_runV (As := [.int (256 : Int32), .int (0 : Int32)]) (rest := []) ⟨hx, hb, hml, hown, hts⟩ (c_X4_readPart l Γ hG (256 : Int32) (0 : Int32) q5 q7.1 q7.2 h8 H.size) (cwV 2 hts (wzV K586 K583 K584 K585 K20) rfl rfl rfl (by decide +kernel) ⟨(Nat.le_of_ble_eq_true rfl), (Nat.le_of_ble_eq_true rfl)⟩) (w_preV hK hP hkc hN hS (gC_Reader Γ q5) rfl) rfl rfl hl.1 rfl (lv_room (Nat.le_of_ble_eq_true rfl)) dX4_read_26 ⟨Nat.le_refl _, Nat.le_refl _⟩) hS (fun H locs hP hS => ?_)
  refine lv_if_eq (tgt := 68) hx hb dX4_read_29 (by decide) (fun c9 => ?_) (fun c9 => ?_)
  · replace hf := (if_pos c9).symm.trans hf
    refine lv_iconst (v := (0 : Int32)) hx hb dX4_read_68 (by decide) ?_
    exact j69 ((0 : Int32)) q7.2 H locs ls hf hP hS (lv_sub hl [0] rfl)
  · replace hf := (if_neg c9).symm.trans hf
    refine lv_aload_n hx hb dX4_read_32 rfl (lv_at hl 0 rfl) ?_
    refine lv_sipush (v := (257 : Int32)) hx hb dX4_read_33 (by decide) ?_
    refine lv_iconst (v := (1 : Int32)) hx hb dX4_read_36 (by decide) ?_
    obtain ⟨q10, h11, hf⟩ := w_ob hf
    refine w_ci (va_runV (As := [.int (257 : Int32), .int (1 : Int32)]) (rest := []) ⟨hx, hb, hml, hown, hts⟩ (c_X4_readPart l Γ hG (257 : Int32) (1 : Int32) q7.2 q10.1 q10.2 h11 H.size) (cwV 2 hts (wzV K586 K583 K584 K585 K20) rfl rfl rfl (by decide +kernel) ⟨(Nat.le_of_ble_eq_true rfl), (Nat.le_of_ble_eq_true rfl)⟩) (w_preV hK hP hkc hN hS (gC_Reader Γ q7.2) rfl) rfl rfl hl.1 rfl (lv_room (Nat.le_of_ble_eq_true rfl)) dX4_read_37 ⟨Nat.le_refl _, Nat.le_refl _⟩) hS (fun H locs hP hS => ?_)
    refine lv_if_eq (tgt := 68) hx hb dX4_read_40 (by decide) (fun c12 => ?_) (fun c12 => ?_)
    · replace hf := (if_pos c12).symm.trans hf
      refine lv_iconst (v := (0 : Int32)) hx hb dX4_read_68 (by decide) ?_
      exact j69 ((0 : Int32)) q10.2 H locs ls hf hP hS (lv_sub hl [0] rfl)
    · replace hf := (if_neg c12).symm.trans hf
      refine lv_aload_n hx hb dX4_read_43 rfl (lv_at hl 0 rfl) ?_
      refine lv_sipush (v := (258 : Int32)) hx hb dX4_read_44 (by decide) ?_
      refine lv_iconst (v := (2 : Int32)) hx hb dX4_read_47 (by decide) ?_
      obtain ⟨q13, h14, hf⟩ := w_ob hf
      refine w_ci (va_runV (As := [.int (258 : Int32), .int (2 : Int32)]) (rest := []) ⟨hx, hb, hml, hown, hts⟩ (c_X4_readPart l Γ hG (258 : Int32) (2 : Int32) q10.2 q13.1 q13.2 h14 H.size) (cwV 2 hts (wzV K586 K583 K584 K585 K20) rfl rfl rfl (by decide +kernel) ⟨(Nat.le_of_ble_eq_true rfl), (Nat.le_of_ble_eq_true rfl)⟩) (w_preV hK hP hkc hN hS (gC_Reader Γ q10.2) rfl) rfl rfl hl.1 rfl (lv_room (Nat.le_of_ble_eq_true rfl)) dX4_read_48 ⟨Nat.le_refl _, Nat.le_refl _⟩) hS (fun H locs hP hS => ?_)
      refine lv_if_eq (tgt := 68) hx hb dX4_read_51 (by decide) (fun c15 => ?_) (fun c15 => ?_)
      · replace hf := (if_pos c15).symm.trans hf
        refine lv_iconst (v := (0 : Int32)) hx hb dX4_read_68 (by decide) ?_
        exact j69 ((0 : Int32)) q13.2 H locs ls hf hP hS (lv_sub hl [0] rfl)
      · replace hf := (if_neg c15).symm.trans hf
        refine lv_aload_n hx hb dX4_read_54 rfl (lv_at hl 0 rfl) ?_
        refine va_get (D := Γ.1) (ci := 4) (v := .int (q13.2 (38) 0)) (C := RX4) (T := TX4) (N := 7) hx hb hts iX4 hown hK hP (25) (gC_Reader Γ q13.2) rfl 5 (by decide) (hts (.fieldLink RX4 41 "OtherHalfOfNight$Reader" "token" "I") (wzm K449)) (fun _ h9 => h9) rfl dX4_read_55 ?_
        refine lv_sipush (v := (269 : Int32)) hx hb dX4_read_58 (by decide) ?_
        refine lv_icmp_ne (tgt := 68) hx hb dX4_read_61 (by decide) (fun c16 => ?_) (fun c16 => ?_)
        · replace hf := (if_neg c16).symm.trans hf
          refine lv_iconst (v := (0 : Int32)) hx hb dX4_read_68 (by decide) ?_
          exact j69 ((0 : Int32)) q13.2 H locs ls hf hP hS (lv_sub hl [0] rfl)
        · replace hf := (if_pos c16).symm.trans hf
          refine lv_iconst (v := (1 : Int32)) hx hb dX4_read_64 (by decide) ?_
          refine lv_goto (tgt := 69) hx hb dX4_read_65 (by decide) ?_
          exact j69 ((1 : Int32)) q13.2 H locs ls hf hP hS (lv_sub hl [0] rfl)
def f_X8_text (σ : Sg) : Option (Int32 × Sg) := (f_X2_isFull σ).bind fun (q1 : Int32 × Sg) => if q1.1 = 0 then (f_X2_nextText q1.2).bind fun (q4 : Nat × Sg) => if q4.1 < 7 then (f_X4_read (q4.1) q4.2).bind fun (q7 : Int32 × Sg) => if q7.1 = (-1 : Int32) then (f_X2_keepNext q7.2).bind fun (q10 : Int32 × Sg) => some (q10.1, q10.2) else some (((-100 : Int32) - q7.1), q7.2) else none else some ((-4 : Int32), q1.2)
set_option maxHeartbeats 40000000 in
set_option maxRecDepth 100000 in
theorem c_X8_text (l : Launch) (Γ : Geo) (hG : okC Γ) (σ : Sg) (r : Int32) (σ' : Sg) (hf : f_X8_text σ = some (r, σ')) (sz : Nat) : Met l yX8_text (wz yX8_text cX8_text 2 (some .int)) { frames := 79, cells := 0, slots := 0, locals := 3026 } (va_Pc [.ref (Γ.2.2.1 (0))] (wPre Γ.1 vwCl (tysC Γ) (XC Γ) (alC Γ) Γ.2.2.2 σ sz)) (wQi Γ.1 vwCl (tysC Γ) (XC Γ) (alC Γ) r σ' sz) 0 0 (wA (alC Γ) sz) := by
  refine w_enter (cc := cX8_text) (maxL := 2) (ret := (some .int)) (by decide) rfl (Nat.le_of_ble_eq_true rfl) ?_
  intro p e s m below meth c ls hx hb hr hlocks hml hown hts hsz hP hK hkc hN hl
  subst hsz
  generalize hav : ([.ref (Γ.2.2.1 (0))] : List Value) = av at hl hts ⊢
  have hl : lv_has ls 2 [(0, .ref (Γ.2.2.1 (0)))] := by rw [← hav] at hl; exact hl
  suffices hw : ∀ (H : Heap) (locs : List Loc), va_P Γ.1 vwCl (XC Γ σ) H → va_S (wA (alC Γ) s.heap.size) s.heap H locs → W p l e { frames := 79, cells := 0, slots := 0, locals := 3026 } s m av.toArray below meth c H locs 0 0 (MQ below (wQi Γ.1 vwCl (tysC Γ) (XC Γ) (alC Γ) r σ' s.heap.size) av.toArray s 0 0 (wA (alC Γ) s.heap.size)) (F0 m 0 ls []) from hw _ [] hP va_S.rf
  clear hP
  intro H locs hP hS
  unfold f_X8_text at hf
  refine lv_aload_n hx hb dX8_text_0 rfl (lv_at hl 0 rfl) ?_
  refine va_get (D := Γ.1) (ci := 7) (v := .ref (Γ.2.2.1 (27))) (C := RX8) (T := TX8) (N := 9) hx hb hts iX8 hown hK hP (0) (gC_Main Γ σ) rfl 5 (by decide) (hts (.fieldLink RX8 32 "OtherHalfOfNight" "law" "LOtherHalfOfNight$Law;") (wzm K25)) (fun _ h9 => h9) rfl dX8_text_1 ?_
  obtain ⟨q1, h2, hf⟩ := w_ob hf
  refine w_ci (va_runV (As := []) (rest := []) ⟨hx, hb, hml, hown, hts⟩ (c_X2_isFull l Γ hG σ q1.1 q1.2 h2 H.size) (cwV 0 hts (wzV K439 K436 K437 K438 K24) rfl rfl rfl (by decide +kernel) ⟨(Nat.le_of_ble_eq_true rfl), (Nat.le_of_ble_eq_true rfl)⟩) (w_preV hK hP hkc hN hS (gC_Law Γ σ) rfl) rfl rfl hl.1 rfl (lv_room (Nat.le_of_ble_eq_true rfl)) dX8_text_4 ⟨Nat.le_refl _, Nat.le_refl _⟩) hS (fun H locs hP hS => ?_)
  refine lv_if_eq (tgt := 13) hx hb dX8_text_7 (by decide) (fun c3 => ?_) (fun c3 => ?_)
  · replace hf := (if_pos c3).symm.trans hf
    refine lv_aload_n hx hb dX8_text_13 rfl (lv_at hl 0 rfl) ?_
    refine va_get (D := Γ.1) (ci := 7) (v := .ref (Γ.2.2.1 (25))) (C := RX8) (T := TX8) (N := 9) hx hb hts iX8 hown hK hP (0) (gC_Main Γ q1.2) rfl 4 (by decide) (hts (.fieldLink RX8 25 "OtherHalfOfNight" "reader" "LOtherHalfOfNight$Reader;") (wzm K21)) (fun _ h9 => h9) rfl dX8_text_14 ?_
    refine lv_aload_n hx hb dX8_text_17 rfl (lv_at hl 0 rfl) ?_
    refine va_get (D := Γ.1) (ci := 7) (v := .ref (Γ.2.2.1 (27))) (C := RX8) (T := TX8) (N := 9) hx hb hts iX8 hown hK hP (0) (gC_Main Γ q1.2) rfl 5 (by decide) (hts (.fieldLink RX8 32 "OtherHalfOfNight" "law" "LOtherHalfOfNight$Law;") (wzm K25)) (fun _ h9 => h9) rfl dX8_text_18 ?_
    obtain ⟨q4, h5, hf⟩ := w_ob hf
    refine w_cr (va_runV (As := []) (rest := [.ref (Γ.2.2.1 (25))]) ⟨hx, hb, hml, hown, hts⟩ (c_X2_nextText l Γ hG q1.2 q4.1 q4.2 h5 H.size) (cwV 0 hts (wzV K443 K440 K441 K442 K24) rfl rfl rfl (by decide +kernel) ⟨(Nat.le_of_ble_eq_true rfl), (Nat.le_of_ble_eq_true rfl)⟩) (w_preV hK hP hkc hN hS (gC_Law Γ q1.2) rfl) rfl rfl hl.1 rfl (lv_room (Nat.le_of_ble_eq_true rfl)) dX8_text_21 ⟨Nat.le_refl _, Nat.le_refl _⟩) hS (fun H locs hP hS => ?_)
    obtain ⟨g6, hf⟩ := w_oi hf
    obtain ⟨q7, h8, hf⟩ := w_ob hf
    refine w_ci (va_runV (As := [.ref (Γ.2.2.1 (30 + 3 * (q4.1)))]) (rest := []) ⟨hx, hb, hml, hown, hts⟩ (c_X4_read l Γ hG (q4.1) q4.2 q7.1 q7.2 h8 H.size) (cwV 1 hts (wzV K447 K444 K445 K446 K20) rfl rfl rfl (by decide +kernel) ⟨(Nat.le_of_ble_eq_true rfl), (Nat.le_of_ble_eq_true rfl)⟩) (w_preV hK hP hkc hN hS (gC_Reader Γ q4.2) rfl) rfl rfl hl.1 rfl (lv_room (Nat.le_of_ble_eq_true rfl)) dX8_text_24 ⟨Nat.le_refl _, Nat.le_refl _⟩) hS (fun H locs hP hS => ?_)
    refine lv_istore_n (lv' := [(1, .int q7.1), (0, .ref (Γ.2.2.1 (0)))]) hx hb dX8_text_27 rfl hl (by decide) rfl (fun ls hl => ?_)
    refine lv_iload_n hx hb dX8_text_28 rfl (lv_at hl 0 rfl) ?_
    refine lv_iconst (v := (-1 : Int32)) hx hb dX8_text_29 (by decide) ?_
    refine lv_icmp_ne (tgt := 43) hx hb dX8_text_30 (by decide) (fun c9 => ?_) (fun c9 => ?_)
    · replace hf := (if_neg c9).symm.trans hf
      refine lv_bipush (v := (-100 : Int32)) hx hb dX8_text_43 (by decide) ?_
      refine lv_iload_n hx hb dX8_text_45 rfl (lv_at hl 0 rfl) ?_
      refine lv_isub hx hb dX8_text_46 ?_
      exact w_iret (X := XC Γ) hx hb hr hlocks hK hP hS rfl hf dX8_text_47
    · replace hf := (if_pos c9).symm.trans hf
      refine lv_aload_n hx hb dX8_text_33 rfl (lv_at hl 1 rfl) ?_
      refine va_get (D := Γ.1) (ci := 7) (v := .ref (Γ.2.2.1 (27))) (C := RX8) (T := TX8) (N := 9) hx hb hts iX8 hown hK hP (0) (gC_Main Γ q7.2) rfl 5 (by decide) (hts (.fieldLink RX8 32 "OtherHalfOfNight" "law" "LOtherHalfOfNight$Law;") (wzm K25)) (fun _ h9 => h9) rfl dX8_text_34 ?_
      obtain ⟨q10, h11, hf⟩ := w_ob hf
      refine w_ci (va_runV (As := []) (rest := []) ⟨hx, hb, hml, hown, hts⟩ (c_X2_keepNext l Γ hG q7.2 q10.1 q10.2 h11 H.size) (cwV 0 hts (wzV K625 K622 K623 K624 K24) rfl rfl rfl (by decide +kernel) ⟨(Nat.le_of_ble_eq_true rfl), (Nat.le_of_ble_eq_true rfl)⟩) (w_preV hK hP hkc hN hS (gC_Law Γ q7.2) rfl) rfl rfl hl.1 rfl (lv_room (Nat.le_of_ble_eq_true rfl)) dX8_text_37 ⟨Nat.le_refl _, Nat.le_refl _⟩) hS (fun H locs hP hS => ?_)
      refine lv_goto (tgt := 47) hx hb dX8_text_40 (by decide) ?_
      exact w_iret (X := XC Γ) hx hb hr hlocks hK hP hS rfl hf dX8_text_47
  · replace hf := (if_neg c3).symm.trans hf
    refine lv_bipush (v := (-4 : Int32)) hx hb dX8_text_10 (by decide) ?_
    exact w_iret (X := XC Γ) hx hb hr hlocks hK hP hS rfl hf dX8_text_12
