def f_X9_part_48 (x1 : Int32) (y2 : Int32) (τ : Sm) : Option (Int32 × Sm) := if (τ.1 (26) 0) = 0 then (f_X9_next τ).bind fun (q16 : Sm) => some (y2, q16) else some (y2, τ)
def f_X9_part_34 (x1 : Int32) (z0 : Int32) (τ : Sm) : Option (Int32 × Sm) := (f_X9_isSign (59 : Int32) τ).bind fun (q10 : Int32 × Sm) => if q10.1 = 0 then (f_X9_fail q10.2).bind fun (q13 : Sm) => f_X9_part_48 x1 (z0) q13 else f_X9_part_48 x1 (z0) q10.2
def f_X9_part_19 (x1 : Int32) (τ : Sm) : Option (Int32 × Sm) := if (τ.1 (26) 0) = 0 then (f_X9_either τ).bind fun (q8 : Int32 × Sm) => f_X9_part_34 x1 (q8.1) q8.2 else f_X9_part_34 x1 ((0 : Int32)) τ
def f_X9_part_8 (x1 : Int32) (τ : Sm) : Option (Int32 × Sm) := if (τ.1 (26) 0) = 0 then (f_X9_next τ).bind fun (q5 : Sm) => f_X9_part_19 x1 q5 else f_X9_part_19 x1 τ
def f_X9_part (x1 : Int32) (σ : Sm) : Option (Int32 × Sm) := if x1 = 0 then (f_X9_fail σ).bind fun (q2 : Sm) => f_X9_part_8 x1 q2 else f_X9_part_8 x1 σ
set_option maxHeartbeats 40000000 in
set_option maxRecDepth 100000 in
theorem c_X9_part (l : Launch) (Γ : Geo) (hG : okM Γ) (x1 : Int32) (σ : Sm) (r : Int32) (σ' : Sm) (hf : f_X9_part x1 σ = some (r, σ')) (sz : Nat) : Met l yX9_part (wz yX9_part cX9_part 3 (some .int)) { frames := 70, cells := 0, slots := 0, locals := 2742 } (va_Pc [.ref (Γ.2.2.1 (0)), .int x1] (wPre Γ.1 vwCl (tysC Γ) (XM Γ) (alM Γ) Γ.2.2.2 σ sz)) (wQi Γ.1 vwCl (tysC Γ) (XM Γ) (alM Γ) r σ' sz) 0 0 (wA (alM Γ) sz) := by
  refine w_enter (cc := cX9_part) (maxL := 3) (ret := (some .int)) (by decide) rfl (Nat.le_of_ble_eq_true rfl) ?_
  intro p e s m below meth c ls hx hb hr hlocks hml hown hts hsz hP hK hkc hN hl
  subst hsz
  generalize hav : ([.ref (Γ.2.2.1 (0)), .int x1] : List Value) = av at hl hts ⊢
  have hl : lv_has ls 3 [(0, .ref (Γ.2.2.1 (0))), (1, .int x1)] := by rw [← hav] at hl; exact hl
  have j48 : ∀ (y2 : Int32) (τ : Sm) (H : Heap) (locs : List Loc) (ls : Array Slot) (hf : f_X9_part_48 x1 y2 τ = some (r, σ')) (hP : va_P Γ.1 vwCl (XM Γ τ) H) (hS : va_S (wA (alM Γ) s.heap.size) s.heap H locs) (hl : lv_has ls 3 [(0, .ref (Γ.2.2.1 (0))), (2, .int y2)]), W p l e { frames := 70, cells := 0, slots := 0, locals := 2742 } s m av.toArray below meth c H locs 0 0 (MQ below (wQi Γ.1 vwCl (tysC Γ) (XM Γ) (alM Γ) r σ' s.heap.size) av.toArray s 0 0 (wA (alM Γ) s.heap.size)) (F0 m 48 ls []) := by
    intro y2 τ H locs ls hf hP hS hl
    unfold f_X9_part_48 at hf
    refine lv_aload_n hx hb dX9_part_48 rfl (lv_at hl 0 rfl) ?_
    refine va_get (D := Γ.1) (ci := 8) (v := .int (τ.1 (26) 0)) (C := RX9) (T := TX9) (N := 44) hx hb hts iX9 hown hK hP (0) (gM_Model Γ τ) rfl 26 (by decide) (hts (.fieldLink RX9 167 "OtherHalfOfNightModel" "bad" "Z") (wzm K228)) (fun _ h9 => h9) rfl dX9_part_49 ?_
    refine lv_if_ne (tgt := 59) hx hb dX9_part_52 (by decide) (fun c15 => ?_) (fun c15 => ?_)
    · replace hf := (if_neg c15).symm.trans hf
      refine lv_iload_n hx hb dX9_part_59 rfl (lv_at hl 1 rfl) ?_
      exact w_iret (X := XM Γ) hx hb hr hlocks hK hP hS rfl hf dX9_part_60
    · replace hf := (if_pos c15).symm.trans hf
      refine lv_aload_n hx hb dX9_part_55 rfl (lv_at hl 0 rfl) ?_
      obtain ⟨q16, h17, hf⟩ := w_ob hf
      refine w_cv (va_runV (As := []) (rest := []) ⟨hx, hb, hml, hown, hts⟩ (c_X9_next l Γ hG τ q16 h17 H.size) (cwV 0 hts (wzV K233 K230 K231 K232 K5) rfl rfl rfl (by decide +kernel) ⟨(Nat.le_of_ble_eq_true rfl), (Nat.le_of_ble_eq_true rfl)⟩) (w_preV hK hP hkc hN hS (gM_Model Γ τ) rfl) rfl rfl hl.1 rfl (lv_room (Nat.le_of_ble_eq_true rfl)) dX9_part_56 ⟨Nat.le_refl _, Nat.le_refl _⟩) hS (fun H locs hP hS => ?_)
      refine lv_iload_n hx hb dX9_part_59 rfl (lv_at hl 1 rfl) ?_
      exact w_iret (X := XM Γ) hx hb hr hlocks hK hP hS rfl hf dX9_part_60
  have j34 : ∀ (z0 : Int32) (τ : Sm) (H : Heap) (locs : List Loc) (ls : Array Slot) (hf : f_X9_part_34 x1 z0 τ = some (r, σ')) (hP : va_P Γ.1 vwCl (XM Γ τ) H) (hS : va_S (wA (alM Γ) s.heap.size) s.heap H locs) (hl : lv_has ls 3 [(0, .ref (Γ.2.2.1 (0)))]), W p l e { frames := 70, cells := 0, slots := 0, locals := 2742 } s m av.toArray below meth c H locs 0 0 (MQ below (wQi Γ.1 vwCl (tysC Γ) (XM Γ) (alM Γ) r σ' s.heap.size) av.toArray s 0 0 (wA (alM Γ) s.heap.size)) (F0 m 34 ls [.int z0]) := by
    intro z0 τ H locs ls hf hP hS hl
    unfold f_X9_part_34 at hf
    refine lv_istore_n (lv' := [(2, .int z0), (0, .ref (Γ.2.2.1 (0)))]) hx hb dX9_part_34 rfl hl (by decide) rfl (fun ls hl => ?_)
    refine lv_aload_n hx hb dX9_part_35 rfl (lv_at hl 1 rfl) ?_
    refine lv_bipush (v := (59 : Int32)) hx hb dX9_part_36 (by decide) ?_
    obtain ⟨q10, h11, hf⟩ := w_ob hf
    refine w_ci (va_runV (As := [.int (59 : Int32)]) (rest := []) ⟨hx, hb, hml, hown, hts⟩ (c_X9_isSign l Γ hG (59 : Int32) τ q10.1 q10.2 h11 H.size) (cwV 1 hts (wzV K276 K273 K274 K275 K5) rfl rfl rfl (by decide +kernel) ⟨(Nat.le_of_ble_eq_true rfl), (Nat.le_of_ble_eq_true rfl)⟩) (w_preV hK hP hkc hN hS (gM_Model Γ τ) rfl) rfl rfl hl.1 rfl (lv_room (Nat.le_of_ble_eq_true rfl)) dX9_part_38 ⟨Nat.le_refl _, Nat.le_refl _⟩) hS (fun H locs hP hS => ?_)
    refine lv_if_ne (tgt := 48) hx hb dX9_part_41 (by decide) (fun c12 => ?_) (fun c12 => ?_)
    · replace hf := (if_neg c12).symm.trans hf
      exact j48 (z0) q10.2 H locs ls hf hP hS (lv_sub hl [1, 0] rfl)
    · replace hf := (if_pos c12).symm.trans hf
      refine lv_aload_n hx hb dX9_part_44 rfl (lv_at hl 1 rfl) ?_
      obtain ⟨q13, h14, hf⟩ := w_ob hf
      refine w_cv (va_runV (As := []) (rest := []) ⟨hx, hb, hml, hown, hts⟩ (c_X9_fail l Γ hG q10.2 q13 h14 H.size) (cwV 0 hts (wzV K259 K256 K257 K258 K5) rfl rfl rfl (by decide +kernel) ⟨(Nat.le_of_ble_eq_true rfl), (Nat.le_of_ble_eq_true rfl)⟩) (w_preV hK hP hkc hN hS (gM_Model Γ q10.2) rfl) rfl rfl hl.1 rfl (lv_room (Nat.le_of_ble_eq_true rfl)) dX9_part_45 ⟨Nat.le_refl _, Nat.le_refl _⟩) hS (fun H locs hP hS => ?_)
      exact j48 (z0) q13 H locs ls hf hP hS (lv_sub hl [1, 0] rfl)
  have j19 : ∀ (τ : Sm) (H : Heap) (locs : List Loc) (ls : Array Slot) (hf : f_X9_part_19 x1 τ = some (r, σ')) (hP : va_P Γ.1 vwCl (XM Γ τ) H) (hS : va_S (wA (alM Γ) s.heap.size) s.heap H locs) (hl : lv_has ls 3 [(0, .ref (Γ.2.2.1 (0)))]), W p l e { frames := 70, cells := 0, slots := 0, locals := 2742 } s m av.toArray below meth c H locs 0 0 (MQ below (wQi Γ.1 vwCl (tysC Γ) (XM Γ) (alM Γ) r σ' s.heap.size) av.toArray s 0 0 (wA (alM Γ) s.heap.size)) (F0 m 19 ls []) := by
    intro τ H locs ls hf hP hS hl
    unfold f_X9_part_19 at hf
    refine lv_aload_n hx hb dX9_part_19 rfl (lv_at hl 0 rfl) ?_
    refine va_get (D := Γ.1) (ci := 8) (v := .int (τ.1 (26) 0)) (C := RX9) (T := TX9) (N := 44) hx hb hts iX9 hown hK hP (0) (gM_Model Γ τ) rfl 26 (by decide) (hts (.fieldLink RX9 167 "OtherHalfOfNightModel" "bad" "Z") (wzm K228)) (fun _ h9 => h9) rfl dX9_part_20 ?_
    refine lv_if_eq (tgt := 30) hx hb dX9_part_23 (by decide) (fun c7 => ?_) (fun c7 => ?_)
    · replace hf := (if_pos c7).symm.trans hf
      refine lv_aload_n hx hb dX9_part_30 rfl (lv_at hl 0 rfl) ?_
      obtain ⟨q8, h9, hf⟩ := w_ob hf
      refine w_ci (va_runV (As := []) (rest := []) ⟨hx, hb, hml, hown, hts⟩ (c_X9_either l Γ hG τ q8.1 q8.2 h9 H.size) (cwV 0 hts (wzV K264 K261 K262 K263 K5) rfl rfl rfl (by decide +kernel) ⟨(Nat.le_of_ble_eq_true rfl), (Nat.le_of_ble_eq_true rfl)⟩) (w_preV hK hP hkc hN hS (gM_Model Γ τ) rfl) rfl rfl hl.1 rfl (lv_room (Nat.le_of_ble_eq_true rfl)) dX9_part_31 ⟨Nat.le_refl _, Nat.le_refl _⟩) hS (fun H locs hP hS => ?_)
      exact j34 (q8.1) q8.2 H locs ls hf hP hS (lv_sub hl [0] rfl)
    · replace hf := (if_neg c7).symm.trans hf
      refine lv_iconst (v := (0 : Int32)) hx hb dX9_part_26 (by decide) ?_
      refine lv_goto (tgt := 34) hx hb dX9_part_27 (by decide) ?_
      exact j34 ((0 : Int32)) τ H locs ls hf hP hS (lv_sub hl [0] rfl)
  have j8 : ∀ (τ : Sm) (H : Heap) (locs : List Loc) (ls : Array Slot) (hf : f_X9_part_8 x1 τ = some (r, σ')) (hP : va_P Γ.1 vwCl (XM Γ τ) H) (hS : va_S (wA (alM Γ) s.heap.size) s.heap H locs) (hl : lv_has ls 3 [(0, .ref (Γ.2.2.1 (0)))]), W p l e { frames := 70, cells := 0, slots := 0, locals := 2742 } s m av.toArray below meth c H locs 0 0 (MQ below (wQi Γ.1 vwCl (tysC Γ) (XM Γ) (alM Γ) r σ' s.heap.size) av.toArray s 0 0 (wA (alM Γ) s.heap.size)) (F0 m 8 ls []) := by
    intro τ H locs ls hf hP hS hl
    unfold f_X9_part_8 at hf
    refine lv_aload_n hx hb dX9_part_8 rfl (lv_at hl 0 rfl) ?_
    refine va_get (D := Γ.1) (ci := 8) (v := .int (τ.1 (26) 0)) (C := RX9) (T := TX9) (N := 44) hx hb hts iX9 hown hK hP (0) (gM_Model Γ τ) rfl 26 (by decide) (hts (.fieldLink RX9 167 "OtherHalfOfNightModel" "bad" "Z") (wzm K228)) (fun _ h9 => h9) rfl dX9_part_9 ?_
    refine lv_if_ne (tgt := 19) hx hb dX9_part_12 (by decide) (fun c4 => ?_) (fun c4 => ?_)
    · replace hf := (if_neg c4).symm.trans hf
      exact j19 τ H locs ls hf hP hS (lv_sub hl [0] rfl)
    · replace hf := (if_pos c4).symm.trans hf
      refine lv_aload_n hx hb dX9_part_15 rfl (lv_at hl 0 rfl) ?_
      obtain ⟨q5, h6, hf⟩ := w_ob hf
      refine w_cv (va_runV (As := []) (rest := []) ⟨hx, hb, hml, hown, hts⟩ (c_X9_next l Γ hG τ q5 h6 H.size) (cwV 0 hts (wzV K233 K230 K231 K232 K5) rfl rfl rfl (by decide +kernel) ⟨(Nat.le_of_ble_eq_true rfl), (Nat.le_of_ble_eq_true rfl)⟩) (w_preV hK hP hkc hN hS (gM_Model Γ τ) rfl) rfl rfl hl.1 rfl (lv_room (Nat.le_of_ble_eq_true rfl)) dX9_part_16 ⟨Nat.le_refl _, Nat.le_refl _⟩) hS (fun H locs hP hS => ?_)
      exact j19 q5 H locs ls hf hP hS (lv_sub hl [0] rfl)
  suffices hw : ∀ (H : Heap) (locs : List Loc), va_P Γ.1 vwCl (XM Γ σ) H → va_S (wA (alM Γ) s.heap.size) s.heap H locs → W p l e { frames := 70, cells := 0, slots := 0, locals := 2742 } s m av.toArray below meth c H locs 0 0 (MQ below (wQi Γ.1 vwCl (tysC Γ) (XM Γ) (alM Γ) r σ' s.heap.size) av.toArray s 0 0 (wA (alM Γ) s.heap.size)) (F0 m 0 ls []) from hw _ [] hP va_S.rf
  clear hP
  intro H locs hP hS
  unfold f_X9_part at hf
  refine lv_iload_n hx hb dX9_part_0 rfl (lv_at hl 1 rfl) ?_
  refine lv_if_ne (tgt := 8) hx hb dX9_part_1 (by decide) (fun c1 => ?_) (fun c1 => ?_)
  · replace hf := (if_neg c1).symm.trans hf
    exact j8 σ H locs ls hf hP hS (lv_sub hl [0] rfl)
  · replace hf := (if_pos c1).symm.trans hf
    refine lv_aload_n hx hb dX9_part_4 rfl (lv_at hl 0 rfl) ?_
    obtain ⟨q2, h3, hf⟩ := w_ob hf
    refine w_cv (va_runV (As := []) (rest := []) ⟨hx, hb, hml, hown, hts⟩ (c_X9_fail l Γ hG σ q2 h3 H.size) (cwV 0 hts (wzV K259 K256 K257 K258 K5) rfl rfl rfl (by decide +kernel) ⟨(Nat.le_of_ble_eq_true rfl), (Nat.le_of_ble_eq_true rfl)⟩) (w_preV hK hP hkc hN hS (gM_Model Γ σ) rfl) rfl rfl hl.1 rfl (lv_room (Nat.le_of_ble_eq_true rfl)) dX9_part_5 ⟨Nat.le_refl _, Nat.le_refl _⟩) hS (fun H locs hP hS => ?_)
    exact j8 q2 H locs ls hf hP hS (lv_sub hl [0] rfl)
def f_X9_read_147 (x1 : Int32) (x2 : Int32) (y3 : Int32) (y4 : Int32) (y5 : Int32) (τ : Sm) : Option (Int32 × Sm) := if x2 = 0 then some (y3, τ) else if x2 = (1 : Int32) then some (y4, τ) else some (y5, τ)
def f_X9_read_127 (x1 : Int32) (x2 : Int32) (y3 : Int32) (y4 : Int32) (z0 : Int32) (τ : Sm) : Option (Int32 × Sm) := if (τ.1 (26) 0) = 0 then if (τ.1 (22) 0) = 0 then f_X9_read_147 x1 x2 (y3) (y4) (z0) τ else (f_X9_fail τ).bind fun (q22 : Sm) => f_X9_read_147 x1 x2 (y3) (y4) (z0) q22 else f_X9_read_147 x1 x2 (y3) (y4) (z0) τ
def f_X9_read_93 (x1 : Int32) (x2 : Int32) (y3 : Int32) (z0 : Int32) (τ : Sm) : Option (Int32 × Sm) := if (τ.1 (26) 0) = 0 then (f_X9_isWord (101 : Int32) (97 : Int32) (115 : Int32) (101 : Int32) (115 : Int32) (0 : Int32) (0 : Int32) (0 : Int32) τ).bind fun (q16 : Int32 × Sm) => (f_X9_part q16.1 q16.2).bind fun (q18 : Int32 × Sm) => f_X9_read_127 x1 x2 (y3) (z0) (q18.1) q18.2 else f_X9_read_127 x1 x2 (y3) (z0) ((0 : Int32)) τ
def f_X9_read (x1 : Int32) (x2 : Int32) (σ : Sm) : Option (Int32 × Sm) := if okI x1 6 then (some (upm (upm (upm (upm σ (19) 0 ((160 : Int32) * x1)) (20) 0 ((upm σ (19) 0 ((160 : Int32) * x1)).1 (2) (x1).toNatClampNeg)) (21) 0 (0 : Int32)) (25) 0 (0 : Int32))).bind fun (τ2 : Sm) => (f_X9_next (upm τ2 (26) 0 (0 : Int32))).bind fun (q4 : Sm) => (f_X9_isWord (121 : Int32) (105 : Int32) (101 : Int32) (108 : Int32) (100 : Int32) (115 : Int32) (0 : Int32) (0 : Int32) q4).bind fun (q6 : Int32 × Sm) => (f_X9_part q6.1 q6.2).bind fun (q8 : Int32 × Sm) => if (q8.2.1 (26) 0) = 0 then (f_X9_isWord (115 : Int32) (117 : Int32) (105 : Int32) (116 : Int32) (115 : Int32) (0 : Int32) (0 : Int32) (0 : Int32) q8.2).bind fun (q11 : Int32 × Sm) => (f_X9_part q11.1 q11.2).bind fun (q13 : Int32 × Sm) => f_X9_read_93 x1 x2 (q8.1) (q13.1) q13.2 else f_X9_read_93 x1 x2 (q8.1) ((0 : Int32)) q8.2 else none
set_option maxHeartbeats 40000000 in
set_option maxRecDepth 100000 in
theorem c_X9_read (l : Launch) (Γ : Geo) (hG : okM Γ) (x1 : Int32) (x2 : Int32) (σ : Sm) (r : Int32) (σ' : Sm) (hf : f_X9_read x1 x2 σ = some (r, σ')) (sz : Nat) : Met l yX9_read (wz yX9_read cX9_read 6 (some .int)) { frames := 71, cells := 0, slots := 0, locals := 2764 } (va_Pc [.ref (Γ.2.2.1 (0)), .int x1, .int x2] (wPre Γ.1 vwCl (tysC Γ) (XM Γ) (alM Γ) Γ.2.2.2 σ sz)) (wQi Γ.1 vwCl (tysC Γ) (XM Γ) (alM Γ) r σ' sz) 0 0 (wA (alM Γ) sz) := by
  refine w_enter (cc := cX9_read) (maxL := 6) (ret := (some .int)) (by decide) rfl (Nat.le_of_ble_eq_true rfl) ?_
  intro p e s m below meth c ls hx hb hr hlocks hml hown hts hsz hP hK hkc hN hl
  subst hsz
  generalize hav : ([.ref (Γ.2.2.1 (0)), .int x1, .int x2] : List Value) = av at hl hts ⊢
  have hl : lv_has ls 6 [(0, .ref (Γ.2.2.1 (0))), (1, .int x1), (2, .int x2)] := by rw [← hav] at hl; exact hl
  have j147 : ∀ (y3 : Int32) (y4 : Int32) (y5 : Int32) (τ : Sm) (H : Heap) (locs : List Loc) (ls : Array Slot) (hf : f_X9_read_147 x1 x2 y3 y4 y5 τ = some (r, σ')) (hP : va_P Γ.1 vwCl (XM Γ τ) H) (hS : va_S (wA (alM Γ) s.heap.size) s.heap H locs) (hl : lv_has ls 6 [(2, .int x2), (3, .int y3), (4, .int y4), (5, .int y5)]), W p l e { frames := 71, cells := 0, slots := 0, locals := 2764 } s m av.toArray below meth c H locs 0 0 (MQ below (wQi Γ.1 vwCl (tysC Γ) (XM Γ) (alM Γ) r σ' s.heap.size) av.toArray s 0 0 (wA (alM Γ) s.heap.size)) (F0 m 147 ls []) := by
    intro y3 y4 y5 τ H locs ls hf hP hS hl
    unfold f_X9_read_147 at hf
    refine lv_iload_n hx hb dX9_read_147 rfl (lv_at hl 0 rfl) ?_
    refine lv_if_ne (tgt := 155) hx hb dX9_read_148 (by decide) (fun c24 => ?_) (fun c24 => ?_)
    · replace hf := (if_neg c24).symm.trans hf
      refine lv_iload_n hx hb dX9_read_155 rfl (lv_at hl 0 rfl) ?_
      refine lv_iconst (v := (1 : Int32)) hx hb dX9_read_156 (by decide) ?_
      refine lv_icmp_ne (tgt := 165) hx hb dX9_read_157 (by decide) (fun c25 => ?_) (fun c25 => ?_)
      · replace hf := (if_neg c25).symm.trans hf
        refine lv_iload hx hb dX9_read_165 (lv_at hl 3 rfl) ?_
        exact w_iret (X := XM Γ) hx hb hr hlocks hK hP hS rfl hf dX9_read_167
      · replace hf := (if_pos c25).symm.trans hf
        refine lv_iload hx hb dX9_read_160 (lv_at hl 2 rfl) ?_
        refine lv_goto (tgt := 167) hx hb dX9_read_162 (by decide) ?_
        exact w_iret (X := XM Γ) hx hb hr hlocks hK hP hS rfl hf dX9_read_167
    · replace hf := (if_pos c24).symm.trans hf
      refine lv_iload_n hx hb dX9_read_151 rfl (lv_at hl 1 rfl) ?_
      refine lv_goto (tgt := 167) hx hb dX9_read_152 (by decide) ?_
      exact w_iret (X := XM Γ) hx hb hr hlocks hK hP hS rfl hf dX9_read_167
  have j127 : ∀ (y3 : Int32) (y4 : Int32) (z0 : Int32) (τ : Sm) (H : Heap) (locs : List Loc) (ls : Array Slot) (hf : f_X9_read_127 x1 x2 y3 y4 z0 τ = some (r, σ')) (hP : va_P Γ.1 vwCl (XM Γ τ) H) (hS : va_S (wA (alM Γ) s.heap.size) s.heap H locs) (hl : lv_has ls 6 [(0, .ref (Γ.2.2.1 (0))), (2, .int x2), (3, .int y3), (4, .int y4)]), W p l e { frames := 71, cells := 0, slots := 0, locals := 2764 } s m av.toArray below meth c H locs 0 0 (MQ below (wQi Γ.1 vwCl (tysC Γ) (XM Γ) (alM Γ) r σ' s.heap.size) av.toArray s 0 0 (wA (alM Γ) s.heap.size)) (F0 m 127 ls [.int z0]) := by
    intro y3 y4 z0 τ H locs ls hf hP hS hl
    unfold f_X9_read_127 at hf
    refine lv_istore (lv' := [(5, .int z0), (0, .ref (Γ.2.2.1 (0))), (2, .int x2), (3, .int y3), (4, .int y4)]) hx hb dX9_read_127 hl (by decide) rfl (fun ls hl => ?_)
    refine lv_aload_n hx hb dX9_read_129 rfl (lv_at hl 1 rfl) ?_
    refine va_get (D := Γ.1) (ci := 8) (v := .int (τ.1 (26) 0)) (C := RX9) (T := TX9) (N := 44) hx hb hts iX9 hown hK hP (0) (gM_Model Γ τ) rfl 26 (by decide) (hts (.fieldLink RX9 167 "OtherHalfOfNightModel" "bad" "Z") (wzm K228)) (fun _ h9 => h9) rfl dX9_read_130 ?_
    refine lv_if_ne (tgt := 147) hx hb dX9_read_133 (by decide) (fun c20 => ?_) (fun c20 => ?_)
    · replace hf := (if_neg c20).symm.trans hf
      exact j147 (y3) (y4) (z0) τ H locs ls hf hP hS (lv_sub hl [2, 3, 4, 0] rfl)
    · replace hf := (if_pos c20).symm.trans hf
      refine lv_aload_n hx hb dX9_read_136 rfl (lv_at hl 1 rfl) ?_
      refine va_get (D := Γ.1) (ci := 8) (v := .int (τ.1 (22) 0)) (C := RX9) (T := TX9) (N := 44) hx hb hts iX9 hown hK hP (0) (gM_Model Γ τ) rfl 22 (by decide) (hts (.fieldLink RX9 152 "OtherHalfOfNightModel" "token" "I") (wzm K229)) (fun _ h9 => h9) rfl dX9_read_137 ?_
      refine lv_if_eq (tgt := 147) hx hb dX9_read_140 (by decide) (fun c21 => ?_) (fun c21 => ?_)
      · replace hf := (if_pos c21).symm.trans hf
        exact j147 (y3) (y4) (z0) τ H locs ls hf hP hS (lv_sub hl [2, 3, 4, 0] rfl)
      · replace hf := (if_neg c21).symm.trans hf
        refine lv_aload_n hx hb dX9_read_143 rfl (lv_at hl 1 rfl) ?_
        obtain ⟨q22, h23, hf⟩ := w_ob hf
        refine w_cv (va_runV (As := []) (rest := []) ⟨hx, hb, hml, hown, hts⟩ (c_X9_fail l Γ hG τ q22 h23 H.size) (cwV 0 hts (wzV K259 K256 K257 K258 K5) rfl rfl rfl (by decide +kernel) ⟨(Nat.le_of_ble_eq_true rfl), (Nat.le_of_ble_eq_true rfl)⟩) (w_preV hK hP hkc hN hS (gM_Model Γ τ) rfl) rfl rfl hl.1 rfl (lv_room (Nat.le_of_ble_eq_true rfl)) dX9_read_144 ⟨Nat.le_refl _, Nat.le_refl _⟩) hS (fun H locs hP hS => ?_)
        exact j147 (y3) (y4) (z0) q22 H locs ls hf hP hS (lv_sub hl [2, 3, 4, 0] rfl)
  have j93 : ∀ (y3 : Int32) (z0 : Int32) (τ : Sm) (H : Heap) (locs : List Loc) (ls : Array Slot) (hf : f_X9_read_93 x1 x2 y3 z0 τ = some (r, σ')) (hP : va_P Γ.1 vwCl (XM Γ τ) H) (hS : va_S (wA (alM Γ) s.heap.size) s.heap H locs) (hl : lv_has ls 6 [(0, .ref (Γ.2.2.1 (0))), (2, .int x2), (3, .int y3)]), W p l e { frames := 71, cells := 0, slots := 0, locals := 2764 } s m av.toArray below meth c H locs 0 0 (MQ below (wQi Γ.1 vwCl (tysC Γ) (XM Γ) (alM Γ) r σ' s.heap.size) av.toArray s 0 0 (wA (alM Γ) s.heap.size)) (F0 m 93 ls [.int z0]) := by
    intro y3 z0 τ H locs ls hf hP hS hl
    unfold f_X9_read_93 at hf
    refine lv_istore (lv' := [(4, .int z0), (0, .ref (Γ.2.2.1 (0))), (2, .int x2), (3, .int y3)]) hx hb dX9_read_93 hl (by decide) rfl (fun ls hl => ?_)
    refine lv_aload_n hx hb dX9_read_95 rfl (lv_at hl 1 rfl) ?_
    refine va_get (D := Γ.1) (ci := 8) (v := .int (τ.1 (26) 0)) (C := RX9) (T := TX9) (N := 44) hx hb hts iX9 hown hK hP (0) (gM_Model Γ τ) rfl 26 (by decide) (hts (.fieldLink RX9 167 "OtherHalfOfNightModel" "bad" "Z") (wzm K228)) (fun _ h9 => h9) rfl dX9_read_96 ?_
    refine lv_if_eq (tgt := 106) hx hb dX9_read_99 (by decide) (fun c15 => ?_) (fun c15 => ?_)
    · replace hf := (if_pos c15).symm.trans hf
      refine lv_aload_n hx hb dX9_read_106 rfl (lv_at hl 1 rfl) ?_
      refine lv_aload_n hx hb dX9_read_107 rfl (lv_at hl 1 rfl) ?_
      refine lv_bipush (v := (101 : Int32)) hx hb dX9_read_108 (by decide) ?_
      refine lv_bipush (v := (97 : Int32)) hx hb dX9_read_110 (by decide) ?_
      refine lv_bipush (v := (115 : Int32)) hx hb dX9_read_112 (by decide) ?_
      refine lv_bipush (v := (101 : Int32)) hx hb dX9_read_114 (by decide) ?_
      refine lv_bipush (v := (115 : Int32)) hx hb dX9_read_116 (by decide) ?_
      refine lv_iconst (v := (0 : Int32)) hx hb dX9_read_118 (by decide) ?_
      refine lv_iconst (v := (0 : Int32)) hx hb dX9_read_119 (by decide) ?_
      refine lv_iconst (v := (0 : Int32)) hx hb dX9_read_120 (by decide) ?_
      obtain ⟨q16, h17, hf⟩ := w_ob hf
      refine w_ci (va_runV (As := [.int (101 : Int32), .int (97 : Int32), .int (115 : Int32), .int (101 : Int32), .int (115 : Int32), .int (0 : Int32), .int (0 : Int32), .int (0 : Int32)]) (rest := [.ref (Γ.2.2.1 (0))]) ⟨hx, hb, hml, hown, hts⟩ (c_X9_isWord l Γ hG (101 : Int32) (97 : Int32) (115 : Int32) (101 : Int32) (115 : Int32) (0 : Int32) (0 : Int32) (0 : Int32) τ q16.1 q16.2 h17 H.size) (cwV 8 hts (wzV K247 K244 K245 K246 K5) rfl rfl rfl (by decide +kernel) ⟨(Nat.le_of_ble_eq_true rfl), (Nat.le_of_ble_eq_true rfl)⟩) (w_preV hK hP hkc hN hS (gM_Model Γ τ) rfl) rfl rfl hl.1 rfl (lv_room (Nat.le_of_ble_eq_true rfl)) dX9_read_121 ⟨Nat.le_refl _, Nat.le_refl _⟩) hS (fun H locs hP hS => ?_)
      obtain ⟨q18, h19, hf⟩ := w_ob hf
      refine w_ci (va_runV (As := [.int q16.1]) (rest := []) ⟨hx, hb, hml, hown, hts⟩ (c_X9_part l Γ hG q16.1 q16.2 q18.1 q18.2 h19 H.size) (cwV 1 hts (wzV K255 K252 K253 K254 K5) rfl rfl rfl (by decide +kernel) ⟨(Nat.le_of_ble_eq_true rfl), (Nat.le_of_ble_eq_true rfl)⟩) (w_preV hK hP hkc hN hS (gM_Model Γ q16.2) rfl) rfl rfl hl.1 rfl (lv_room (Nat.le_of_ble_eq_true rfl)) dX9_read_124 ⟨Nat.le_refl _, Nat.le_refl _⟩) hS (fun H locs hP hS => ?_)
      exact j127 (y3) (z0) (q18.1) q18.2 H locs ls hf hP hS (lv_sub hl [1, 2, 3, 0] rfl)
    · replace hf := (if_neg c15).symm.trans hf
      refine lv_iconst (v := (0 : Int32)) hx hb dX9_read_102 (by decide) ?_
      refine lv_goto (tgt := 127) hx hb dX9_read_103 (by decide) ?_
      exact j127 (y3) (z0) ((0 : Int32)) τ H locs ls hf hP hS (lv_sub hl [1, 2, 3, 0] rfl)
  suffices hw : ∀ (H : Heap) (locs : List Loc), va_P Γ.1 vwCl (XM Γ σ) H → va_S (wA (alM Γ) s.heap.size) s.heap H locs → W p l e { frames := 71, cells := 0, slots := 0, locals := 2764 } s m av.toArray below meth c H locs 0 0 (MQ below (wQi Γ.1 vwCl (tysC Γ) (XM Γ) (alM Γ) r σ' s.heap.size) av.toArray s 0 0 (wA (alM Γ) s.heap.size)) (F0 m 0 ls []) from hw _ [] hP va_S.rf
  clear hP
  intro H locs hP hS
  unfold f_X9_read at hf
  refine lv_aload_n hx hb dX9_read_0 rfl (lv_at hl 0 rfl) ?_
  refine lv_sipush (v := (160 : Int32)) hx hb dX9_read_1 (by decide) ?_
  refine lv_iload_n hx hb dX9_read_4 rfl (lv_at hl 1 rfl) ?_
  refine lv_imul hx hb dX9_read_5 ?_
  refine w_put (X := XM Γ) (σ' := (upm σ (19) 0 ((160 : Int32) * x1))) (ci := 8) (C := RX9) (T := TX9) (N := 44) (ty := .int) hx hb hts iX9 tyX9 tyX9_ok nmX9 hown hK hP (halM Γ) hG hS (0) (gM_Model Γ σ) rfl 19 (by decide) (hts (.fieldLink RX9 140 "OtherHalfOfNightModel" "from" "I") (wzm K224)) (fun _ h9 => h9) rfl (by decide +kernel) rfl rfl (Nat.le_of_ble_eq_true rfl) dX9_read_6 (sM_Model_from Γ σ ((160 : Int32) * x1)) (fun H locs hP hS => ?_)
  refine lv_aload_n hx hb dX9_read_9 rfl (lv_at hl 0 rfl) ?_
  refine lv_aload_n hx hb dX9_read_10 rfl (lv_at hl 0 rfl) ?_
  refine va_get (D := Γ.1) (ci := 8) (v := .ref (Γ.2.2.1 (2))) (C := RX9) (T := TX9) (N := 44) hx hb hts iX9 hown hK hP (0) (gM_Model Γ (upm σ (19) 0 ((160 : Int32) * x1))) rfl 2 (by decide) (hts (.fieldLink RX9 17 "OtherHalfOfNightModel" "textSize" "[I") (wzm K109)) (fun _ h9 => h9) rfl dX9_read_11 ?_
  refine lv_iload_n hx hb dX9_read_14 rfl (lv_at hl 1 rfl) ?_
  obtain ⟨g1, hf⟩ := w_oi hf
  refine va_iald (D := Γ.1) (tys := (tysC Γ)) hx hb hK hP (2) 0 (gM_M_textSize Γ (upm σ (19) 0 ((160 : Int32) * x1))) rfl g1 dX9_read_15 ?_
  refine w_put (X := XM Γ) (σ' := (upm (upm σ (19) 0 ((160 : Int32) * x1)) (20) 0 ((upm σ (19) 0 ((160 : Int32) * x1)).1 (2) (x1).toNatClampNeg))) (ci := 8) (C := RX9) (T := TX9) (N := 44) (ty := .int) hx hb hts iX9 tyX9 tyX9_ok nmX9 hown hK hP (halM Γ) hG hS (0) (gM_Model Γ (upm σ (19) 0 ((160 : Int32) * x1))) rfl 20 (by decide) (hts (.fieldLink RX9 137 "OtherHalfOfNightModel" "size" "I") (wzm K225)) (fun _ h9 => h9) rfl (by decide +kernel) rfl rfl (Nat.le_of_ble_eq_true rfl) dX9_read_16 (sM_Model_size Γ (upm σ (19) 0 ((160 : Int32) * x1)) ((upm σ (19) 0 ((160 : Int32) * x1)).1 (2) (x1).toNatClampNeg)) (fun H locs hP hS => ?_)
  refine lv_aload_n hx hb dX9_read_19 rfl (lv_at hl 0 rfl) ?_
  refine lv_iconst (v := (0 : Int32)) hx hb dX9_read_20 (by decide) ?_
  refine w_put (X := XM Γ) (σ' := (upm (upm (upm σ (19) 0 ((160 : Int32) * x1)) (20) 0 ((upm σ (19) 0 ((160 : Int32) * x1)).1 (2) (x1).toNatClampNeg)) (21) 0 (0 : Int32))) (ci := 8) (C := RX9) (T := TX9) (N := 44) (ty := .int) hx hb hts iX9 tyX9 tyX9_ok nmX9 hown hK hP (halM Γ) hG hS (0) (gM_Model Γ (upm (upm σ (19) 0 ((160 : Int32) * x1)) (20) 0 ((upm σ (19) 0 ((160 : Int32) * x1)).1 (2) (x1).toNatClampNeg))) rfl 21 (by decide) (hts (.fieldLink RX9 143 "OtherHalfOfNightModel" "here" "I") (wzm K226)) (fun _ h9 => h9) rfl (by decide +kernel) rfl rfl (Nat.le_of_ble_eq_true rfl) dX9_read_21 (sM_Model_here Γ (upm (upm σ (19) 0 ((160 : Int32) * x1)) (20) 0 ((upm σ (19) 0 ((160 : Int32) * x1)).1 (2) (x1).toNatClampNeg)) (0 : Int32)) (fun H locs hP hS => ?_)
  refine lv_aload_n hx hb dX9_read_24 rfl (lv_at hl 0 rfl) ?_
  refine lv_iconst (v := (0 : Int32)) hx hb dX9_read_25 (by decide) ?_
  refine w_put (X := XM Γ) (σ' := (upm (upm (upm (upm σ (19) 0 ((160 : Int32) * x1)) (20) 0 ((upm σ (19) 0 ((160 : Int32) * x1)).1 (2) (x1).toNatClampNeg)) (21) 0 (0 : Int32)) (25) 0 (0 : Int32))) (ci := 8) (C := RX9) (T := TX9) (N := 44) (ty := .int) hx hb hts iX9 tyX9 tyX9_ok nmX9 hown hK hP (halM Γ) hG hS (0) (gM_Model Γ (upm (upm (upm σ (19) 0 ((160 : Int32) * x1)) (20) 0 ((upm σ (19) 0 ((160 : Int32) * x1)).1 (2) (x1).toNatClampNeg)) (21) 0 (0 : Int32))) rfl 25 (by decide) (hts (.fieldLink RX9 177 "OtherHalfOfNightModel" "open" "I") (wzm K227)) (fun _ h9 => h9) rfl (by decide +kernel) rfl rfl (Nat.le_of_ble_eq_true rfl) dX9_read_26 (sM_Model_open Γ (upm (upm (upm σ (19) 0 ((160 : Int32) * x1)) (20) 0 ((upm σ (19) 0 ((160 : Int32) * x1)).1 (2) (x1).toNatClampNeg)) (21) 0 (0 : Int32)) (0 : Int32)) (fun H locs hP hS => ?_)
  obtain ⟨τ2, e3, hf⟩ := w_ob hf
  replace e3 := Option.some.inj e3
  rw [e3] at hP
  refine lv_aload_n hx hb dX9_read_29 rfl (lv_at hl 0 rfl) ?_
  refine lv_iconst (v := (0 : Int32)) hx hb dX9_read_30 (by decide) ?_
  refine w_put (X := XM Γ) (σ' := (upm τ2 (26) 0 (0 : Int32))) (ci := 8) (C := RX9) (T := TX9) (N := 44) (ty := .boolean) hx hb hts iX9 tyX9 tyX9_ok nmX9 hown hK hP (halM Γ) hG hS (0) (gM_Model Γ τ2) rfl 26 (by decide) (hts (.fieldLink RX9 167 "OtherHalfOfNightModel" "bad" "Z") (wzm K228)) (fun _ h9 => h9) rfl (by decide +kernel) (by decide) rfl (Nat.le_of_ble_eq_true rfl) dX9_read_31 (sM_Model_bad Γ τ2 (0 : Int32)) (fun H locs hP hS => ?_)
  refine lv_aload_n hx hb dX9_read_34 rfl (lv_at hl 0 rfl) ?_
  obtain ⟨q4, h5, hf⟩ := w_ob hf
  refine w_cv (va_runV (As := []) (rest := []) ⟨hx, hb, hml, hown, hts⟩ (c_X9_next l Γ hG (upm τ2 (26) 0 (0 : Int32)) q4 h5 H.size) (cwV 0 hts (wzV K233 K230 K231 K232 K5) rfl rfl rfl (by decide +kernel) ⟨(Nat.le_of_ble_eq_true rfl), (Nat.le_of_ble_eq_true rfl)⟩) (w_preV hK hP hkc hN hS (gM_Model Γ (upm τ2 (26) 0 (0 : Int32))) rfl) rfl rfl hl.1 rfl (lv_room (Nat.le_of_ble_eq_true rfl)) dX9_read_35 ⟨Nat.le_refl _, Nat.le_refl _⟩) hS (fun H locs hP hS => ?_)
  refine lv_aload_n hx hb dX9_read_38 rfl (lv_at hl 0 rfl) ?_
  refine lv_aload_n hx hb dX9_read_39 rfl (lv_at hl 0 rfl) ?_
  refine lv_bipush (v := (121 : Int32)) hx hb dX9_read_40 (by decide) ?_
  refine lv_bipush (v := (105 : Int32)) hx hb dX9_read_42 (by decide) ?_
  refine lv_bipush (v := (101 : Int32)) hx hb dX9_read_44 (by decide) ?_
  refine lv_bipush (v := (108 : Int32)) hx hb dX9_read_46 (by decide) ?_
  refine lv_bipush (v := (100 : Int32)) hx hb dX9_read_48 (by decide) ?_
  refine lv_bipush (v := (115 : Int32)) hx hb dX9_read_50 (by decide) ?_
  refine lv_iconst (v := (0 : Int32)) hx hb dX9_read_52 (by decide) ?_
  refine lv_iconst (v := (0 : Int32)) hx hb dX9_read_53 (by decide) ?_
  obtain ⟨q6, h7, hf⟩ := w_ob hf
  refine w_ci (va_runV (As := [.int (121 : Int32), .int (105 : Int32), .int (101 : Int32), .int (108 : Int32), .int (100 : Int32), .int (115 : Int32), .int (0 : Int32), .int (0 : Int32)]) (rest := [.ref (Γ.2.2.1 (0))]) ⟨hx, hb, hml, hown, hts⟩ (c_X9_isWord l Γ hG (121 : Int32) (105 : Int32) (101 : Int32) (108 : Int32) (100 : Int32) (115 : Int32) (0 : Int32) (0 : Int32) q4 q6.1 q6.2 h7 H.size) (cwV 8 hts (wzV K247 K244 K245 K246 K5) rfl rfl rfl (by decide +kernel) ⟨(Nat.le_of_ble_eq_true rfl), (Nat.le_of_ble_eq_true rfl)⟩) (w_preV hK hP hkc hN hS (gM_Model Γ q4) rfl) rfl rfl hl.1 rfl (lv_room (Nat.le_of_ble_eq_true rfl)) dX9_read_54 ⟨Nat.le_refl _, Nat.le_refl _⟩) hS (fun H locs hP hS => ?_)
  obtain ⟨q8, h9, hf⟩ := w_ob hf
  refine w_ci (va_runV (As := [.int q6.1]) (rest := []) ⟨hx, hb, hml, hown, hts⟩ (c_X9_part l Γ hG q6.1 q6.2 q8.1 q8.2 h9 H.size) (cwV 1 hts (wzV K255 K252 K253 K254 K5) rfl rfl rfl (by decide +kernel) ⟨(Nat.le_of_ble_eq_true rfl), (Nat.le_of_ble_eq_true rfl)⟩) (w_preV hK hP hkc hN hS (gM_Model Γ q6.2) rfl) rfl rfl hl.1 rfl (lv_room (Nat.le_of_ble_eq_true rfl)) dX9_read_57 ⟨Nat.le_refl _, Nat.le_refl _⟩) hS (fun H locs hP hS => ?_)
  refine lv_istore_n (lv' := [(3, .int q8.1), (0, .ref (Γ.2.2.1 (0))), (1, .int x1), (2, .int x2)]) hx hb dX9_read_60 rfl hl (by decide) rfl (fun ls hl => ?_)
  refine lv_aload_n hx hb dX9_read_61 rfl (lv_at hl 1 rfl) ?_
  refine va_get (D := Γ.1) (ci := 8) (v := .int (q8.2.1 (26) 0)) (C := RX9) (T := TX9) (N := 44) hx hb hts iX9 hown hK hP (0) (gM_Model Γ q8.2) rfl 26 (by decide) (hts (.fieldLink RX9 167 "OtherHalfOfNightModel" "bad" "Z") (wzm K228)) (fun _ h9 => h9) rfl dX9_read_62 ?_
  refine lv_if_eq (tgt := 72) hx hb dX9_read_65 (by decide) (fun c10 => ?_) (fun c10 => ?_)
  · replace hf := (if_pos c10).symm.trans hf
    refine lv_aload_n hx hb dX9_read_72 rfl (lv_at hl 1 rfl) ?_
    refine lv_aload_n hx hb dX9_read_73 rfl (lv_at hl 1 rfl) ?_
    refine lv_bipush (v := (115 : Int32)) hx hb dX9_read_74 (by decide) ?_
    refine lv_bipush (v := (117 : Int32)) hx hb dX9_read_76 (by decide) ?_
    refine lv_bipush (v := (105 : Int32)) hx hb dX9_read_78 (by decide) ?_
    refine lv_bipush (v := (116 : Int32)) hx hb dX9_read_80 (by decide) ?_
    refine lv_bipush (v := (115 : Int32)) hx hb dX9_read_82 (by decide) ?_
    refine lv_iconst (v := (0 : Int32)) hx hb dX9_read_84 (by decide) ?_
    refine lv_iconst (v := (0 : Int32)) hx hb dX9_read_85 (by decide) ?_
    refine lv_iconst (v := (0 : Int32)) hx hb dX9_read_86 (by decide) ?_
    obtain ⟨q11, h12, hf⟩ := w_ob hf
    refine w_ci (va_runV (As := [.int (115 : Int32), .int (117 : Int32), .int (105 : Int32), .int (116 : Int32), .int (115 : Int32), .int (0 : Int32), .int (0 : Int32), .int (0 : Int32)]) (rest := [.ref (Γ.2.2.1 (0))]) ⟨hx, hb, hml, hown, hts⟩ (c_X9_isWord l Γ hG (115 : Int32) (117 : Int32) (105 : Int32) (116 : Int32) (115 : Int32) (0 : Int32) (0 : Int32) (0 : Int32) q8.2 q11.1 q11.2 h12 H.size) (cwV 8 hts (wzV K247 K244 K245 K246 K5) rfl rfl rfl (by decide +kernel) ⟨(Nat.le_of_ble_eq_true rfl), (Nat.le_of_ble_eq_true rfl)⟩) (w_preV hK hP hkc hN hS (gM_Model Γ q8.2) rfl) rfl rfl hl.1 rfl (lv_room (Nat.le_of_ble_eq_true rfl)) dX9_read_87 ⟨Nat.le_refl _, Nat.le_refl _⟩) hS (fun H locs hP hS => ?_)
    obtain ⟨q13, h14, hf⟩ := w_ob hf
    refine w_ci (va_runV (As := [.int q11.1]) (rest := []) ⟨hx, hb, hml, hown, hts⟩ (c_X9_part l Γ hG q11.1 q11.2 q13.1 q13.2 h14 H.size) (cwV 1 hts (wzV K255 K252 K253 K254 K5) rfl rfl rfl (by decide +kernel) ⟨(Nat.le_of_ble_eq_true rfl), (Nat.le_of_ble_eq_true rfl)⟩) (w_preV hK hP hkc hN hS (gM_Model Γ q11.2) rfl) rfl rfl hl.1 rfl (lv_room (Nat.le_of_ble_eq_true rfl)) dX9_read_90 ⟨Nat.le_refl _, Nat.le_refl _⟩) hS (fun H locs hP hS => ?_)
    exact j93 (q8.1) (q13.1) q13.2 H locs ls hf hP hS (lv_sub hl [1, 3, 0] rfl)
  · replace hf := (if_neg c10).symm.trans hf
    refine lv_iconst (v := (0 : Int32)) hx hb dX9_read_68 (by decide) ?_
    refine lv_goto (tgt := 93) hx hb dX9_read_69 (by decide) ?_
    exact j93 (q8.1) ((0 : Int32)) q8.2 H locs ls hf hP hS (lv_sub hl [1, 3, 0] rfl)
def f_X9_text_14 : Nat → Int32 → Sm → Option (Int32 × Sm)
  | 0, _, _ => none
  | n + 1, y1, τ => if (τ.1 (6) 0) ≤ y1 then if okI (τ.1 (3) 0) 6 then (f_X9_read ((upm (upm τ (2) ((τ.1 (3) 0)).toNatClampNeg (τ.1 (6) 0)) (6) 0 (0 : Int32)).1 (3) 0) (0 : Int32) (upm (upm τ (2) ((τ.1 (3) 0)).toNatClampNeg (τ.1 (6) 0)) (6) 0 (0 : Int32))).bind fun (q4 : Int32 × Sm) => if (q4.2.1 (26) 0) = 0 then some ((((upm q4.2 (3) 0 ((q4.2.1 (3) 0) + (1 : Int32))).1 (3) 0) - (1 : Int32)), (upm q4.2 (3) 0 ((q4.2.1 (3) 0) + (1 : Int32)))) else some (((-100 : Int32) - (q4.2.1 (27) 0)), q4.2) else none else if okI y1 160 then if okI (((160 : Int32) * (τ.1 (3) 0)) + y1) 960 then (f_X9_text_14 n) ((y1 + (1 : Int32))) (upm τ (1) ((((160 : Int32) * (τ.1 (3) 0)) + y1)).toNatClampNeg (τ.1 (5) (y1).toNatClampNeg)) else none else none
def f_X9_text (σ : Sm) : Option (Int32 × Sm) := if (σ.1 (3) 0) = (6 : Int32) then some ((-4 : Int32), σ) else f_X9_text_14 5000 ((0 : Int32)) σ
set_option maxHeartbeats 40000000 in
set_option maxRecDepth 100000 in
theorem c_X9_text (l : Launch) (Γ : Geo) (hG : okM Γ) (σ : Sm) (r : Int32) (σ' : Sm) (hf : f_X9_text σ = some (r, σ')) (sz : Nat) : Met l yX9_text (wz yX9_text cX9_text 2 (some .int)) { frames := 72, cells := 0, slots := 0, locals := 2789 } (va_Pc [.ref (Γ.2.2.1 (0))] (wPre Γ.1 vwCl (tysC Γ) (XM Γ) (alM Γ) Γ.2.2.2 σ sz)) (wQi Γ.1 vwCl (tysC Γ) (XM Γ) (alM Γ) r σ' sz) 0 0 (wA (alM Γ) sz) := by
  refine w_enter (cc := cX9_text) (maxL := 2) (ret := (some .int)) (by decide) rfl (Nat.le_of_ble_eq_true rfl) ?_
  intro p e s m below meth c ls hx hb hr hlocks hml hown hts hsz hP hK hkc hN hl
  subst hsz
  generalize hav : ([.ref (Γ.2.2.1 (0))] : List Value) = av at hl hts ⊢
  have hl : lv_has ls 2 [(0, .ref (Γ.2.2.1 (0)))] := by rw [← hav] at hl; exact hl
  have j14 : ∀ (n14 : Nat), ∀ (y1 : Int32) (τ : Sm) (H : Heap) (locs : List Loc) (ls : Array Slot) (hf : f_X9_text_14 n14 y1 τ = some (r, σ')) (hP : va_P Γ.1 vwCl (XM Γ τ) H) (hS : va_S (wA (alM Γ) s.heap.size) s.heap H locs) (hl : lv_has ls 2 [(0, .ref (Γ.2.2.1 (0))), (1, .int y1)]), W p l e { frames := 72, cells := 0, slots := 0, locals := 2789 } s m av.toArray below meth c H locs 0 0 (MQ below (wQi Γ.1 vwCl (tysC Γ) (XM Γ) (alM Γ) r σ' s.heap.size) av.toArray s 0 0 (wA (alM Γ) s.heap.size)) (F0 m 14 ls []) := by
    intro n14
    induction n14 with
    | zero =>
      intro y1 τ H locs ls hf
      exact absurd hf (by intro h; cases h)
    | succ n14 ih14 =>
      intro y1 τ H locs ls hf hP hS hl
      unfold f_X9_text_14 at hf
      refine lv_iload_n hx hb dX9_text_14 rfl (lv_at hl 1 rfl) ?_
      refine lv_aload_n hx hb dX9_text_15 rfl (lv_at hl 0 rfl) ?_
      refine va_get (D := Γ.1) (ci := 8) (v := .int (τ.1 (6) 0)) (C := RX9) (T := TX9) (N := 44) hx hb hts iX9 hown hK hP (0) (gM_Model Γ τ) rfl 6 (by decide) (hts (.fieldLink RX9 134 "OtherHalfOfNightModel" "taped" "I") (wzm K431)) (fun _ h9 => h9) rfl dX9_text_16 ?_
      refine lv_icmp_ge (tgt := 49) hx hb dX9_text_19 (by decide) (fun c2 => ?_) (fun c2 => ?_)
      · replace hf := (if_pos c2).symm.trans hf
        refine lv_aload_n hx hb dX9_text_49 rfl (lv_at hl 0 rfl) ?_
        refine va_get (D := Γ.1) (ci := 8) (v := .ref (Γ.2.2.1 (2))) (C := RX9) (T := TX9) (N := 44) hx hb hts iX9 hown hK hP (0) (gM_Model Γ τ) rfl 2 (by decide) (hts (.fieldLink RX9 17 "OtherHalfOfNightModel" "textSize" "[I") (wzm K109)) (fun _ h9 => h9) rfl dX9_text_50 ?_
        refine lv_aload_n hx hb dX9_text_53 rfl (lv_at hl 0 rfl) ?_
        refine va_get (D := Γ.1) (ci := 8) (v := .int (τ.1 (3) 0)) (C := RX9) (T := TX9) (N := 44) hx hb hts iX9 hown hK hP (0) (gM_Model Γ τ) rfl 3 (by decide) (hts (.fieldLink RX9 74 "OtherHalfOfNightModel" "textCount" "I") (wzm K128)) (fun _ h9 => h9) rfl dX9_text_54 ?_
        refine lv_aload_n hx hb dX9_text_57 rfl (lv_at hl 0 rfl) ?_
        refine va_get (D := Γ.1) (ci := 8) (v := .int (τ.1 (6) 0)) (C := RX9) (T := TX9) (N := 44) hx hb hts iX9 hown hK hP (0) (gM_Model Γ τ) rfl 6 (by decide) (hts (.fieldLink RX9 134 "OtherHalfOfNightModel" "taped" "I") (wzm K431)) (fun _ h9 => h9) rfl dX9_text_58 ?_
        obtain ⟨g3, hf⟩ := w_oi hf
        refine w_iast (D := Γ.1) (tys := (tysC Γ)) (X := XM Γ) (σ' := (upm τ (2) ((τ.1 (3) 0)).toNatClampNeg (τ.1 (6) 0))) hx hb hK hP (halM Γ) hG hS (2) 0 (gM_M_textSize Γ τ) rfl g3 dX9_text_61 (sM_M_textSize Γ τ ((τ.1 (3) 0)).toNatClampNeg (τ.1 (6) 0)) (fun H locs hP hS => ?_)
        refine lv_aload_n hx hb dX9_text_62 rfl (lv_at hl 0 rfl) ?_
        refine lv_iconst (v := (0 : Int32)) hx hb dX9_text_63 (by decide) ?_
        refine w_put (X := XM Γ) (σ' := (upm (upm τ (2) ((τ.1 (3) 0)).toNatClampNeg (τ.1 (6) 0)) (6) 0 (0 : Int32))) (ci := 8) (C := RX9) (T := TX9) (N := 44) (ty := .int) hx hb hts iX9 tyX9 tyX9_ok nmX9 hown hK hP (halM Γ) hG hS (0) (gM_Model Γ (upm τ (2) ((τ.1 (3) 0)).toNatClampNeg (τ.1 (6) 0))) rfl 6 (by decide) (hts (.fieldLink RX9 134 "OtherHalfOfNightModel" "taped" "I") (wzm K431)) (fun _ h9 => h9) rfl (by decide +kernel) rfl rfl (Nat.le_of_ble_eq_true rfl) dX9_text_64 (sM_Model_taped Γ (upm τ (2) ((τ.1 (3) 0)).toNatClampNeg (τ.1 (6) 0)) (0 : Int32)) (fun H locs hP hS => ?_)
        refine lv_aload_n hx hb dX9_text_67 rfl (lv_at hl 0 rfl) ?_
        refine lv_aload_n hx hb dX9_text_68 rfl (lv_at hl 0 rfl) ?_
        refine va_get (D := Γ.1) (ci := 8) (v := .int ((upm (upm τ (2) ((τ.1 (3) 0)).toNatClampNeg (τ.1 (6) 0)) (6) 0 (0 : Int32)).1 (3) 0)) (C := RX9) (T := TX9) (N := 44) hx hb hts iX9 hown hK hP (0) (gM_Model Γ (upm (upm τ (2) ((τ.1 (3) 0)).toNatClampNeg (τ.1 (6) 0)) (6) 0 (0 : Int32))) rfl 3 (by decide) (hts (.fieldLink RX9 74 "OtherHalfOfNightModel" "textCount" "I") (wzm K128)) (fun _ h9 => h9) rfl dX9_text_69 ?_
        refine lv_iconst (v := (0 : Int32)) hx hb dX9_text_72 (by decide) ?_
        obtain ⟨q4, h5, hf⟩ := w_ob hf
        refine w_ci (va_runV (As := [.int ((upm (upm τ (2) ((τ.1 (3) 0)).toNatClampNeg (τ.1 (6) 0)) (6) 0 (0 : Int32)).1 (3) 0), .int (0 : Int32)]) (rest := []) ⟨hx, hb, hml, hown, hts⟩ (c_X9_read l Γ hG ((upm (upm τ (2) ((τ.1 (3) 0)).toNatClampNeg (τ.1 (6) 0)) (6) 0 (0 : Int32)).1 (3) 0) (0 : Int32) (upm (upm τ (2) ((τ.1 (3) 0)).toNatClampNeg (τ.1 (6) 0)) (6) 0 (0 : Int32)) q4.1 q4.2 h5 H.size) (cwV 2 hts (wzV K223 K220 K221 K222 K5) rfl rfl rfl (by decide +kernel) ⟨(Nat.le_of_ble_eq_true rfl), (Nat.le_of_ble_eq_true rfl)⟩) (w_preV hK hP hkc hN hS (gM_Model Γ (upm (upm τ (2) ((τ.1 (3) 0)).toNatClampNeg (τ.1 (6) 0)) (6) 0 (0 : Int32))) rfl) rfl rfl hl.1 rfl (lv_room (Nat.le_of_ble_eq_true rfl)) dX9_text_73 ⟨Nat.le_refl _, Nat.le_refl _⟩) hS (fun H locs hP hS => ?_)
        refine lv_istore_n (lv' := [(1, .int q4.1), (0, .ref (Γ.2.2.1 (0)))]) hx hb dX9_text_76 rfl hl (by decide) rfl (fun ls hl => ?_)
        refine lv_aload_n hx hb dX9_text_77 rfl (lv_at hl 1 rfl) ?_
        refine va_get (D := Γ.1) (ci := 8) (v := .int (q4.2.1 (26) 0)) (C := RX9) (T := TX9) (N := 44) hx hb hts iX9 hown hK hP (0) (gM_Model Γ q4.2) rfl 26 (by decide) (hts (.fieldLink RX9 167 "OtherHalfOfNightModel" "bad" "Z") (wzm K228)) (fun _ h9 => h9) rfl dX9_text_78 ?_
        refine lv_if_eq (tgt := 92) hx hb dX9_text_81 (by decide) (fun c6 => ?_) (fun c6 => ?_)
        · replace hf := (if_pos c6).symm.trans hf
          refine lv_aload_n hx hb dX9_text_92 rfl (lv_at hl 1 rfl) ?_
          refine lv_dup hx hb dX9_text_93 rfl ?_
          refine va_get (D := Γ.1) (ci := 8) (v := .int (q4.2.1 (3) 0)) (C := RX9) (T := TX9) (N := 44) hx hb hts iX9 hown hK hP (0) (gM_Model Γ q4.2) rfl 3 (by decide) (hts (.fieldLink RX9 74 "OtherHalfOfNightModel" "textCount" "I") (wzm K128)) (fun _ h9 => h9) rfl dX9_text_94 ?_
          refine lv_iconst (v := (1 : Int32)) hx hb dX9_text_97 (by decide) ?_
          refine lv_iadd hx hb dX9_text_98 ?_
          refine w_put (X := XM Γ) (σ' := (upm q4.2 (3) 0 ((q4.2.1 (3) 0) + (1 : Int32)))) (ci := 8) (C := RX9) (T := TX9) (N := 44) (ty := .int) hx hb hts iX9 tyX9 tyX9_ok nmX9 hown hK hP (halM Γ) hG hS (0) (gM_Model Γ q4.2) rfl 3 (by decide) (hts (.fieldLink RX9 74 "OtherHalfOfNightModel" "textCount" "I") (wzm K128)) (fun _ h9 => h9) rfl (by decide +kernel) rfl rfl (Nat.le_of_ble_eq_true rfl) dX9_text_99 (sM_Model_textCount Γ q4.2 ((q4.2.1 (3) 0) + (1 : Int32))) (fun H locs hP hS => ?_)
          refine lv_aload_n hx hb dX9_text_102 rfl (lv_at hl 1 rfl) ?_
          refine va_get (D := Γ.1) (ci := 8) (v := .int ((upm q4.2 (3) 0 ((q4.2.1 (3) 0) + (1 : Int32))).1 (3) 0)) (C := RX9) (T := TX9) (N := 44) hx hb hts iX9 hown hK hP (0) (gM_Model Γ (upm q4.2 (3) 0 ((q4.2.1 (3) 0) + (1 : Int32)))) rfl 3 (by decide) (hts (.fieldLink RX9 74 "OtherHalfOfNightModel" "textCount" "I") (wzm K128)) (fun _ h9 => h9) rfl dX9_text_103 ?_
          refine lv_iconst (v := (1 : Int32)) hx hb dX9_text_106 (by decide) ?_
          refine lv_isub hx hb dX9_text_107 ?_
          exact w_iret (X := XM Γ) hx hb hr hlocks hK hP hS rfl hf dX9_text_108
        · replace hf := (if_neg c6).symm.trans hf
          refine lv_bipush (v := (-100 : Int32)) hx hb dX9_text_84 (by decide) ?_
          refine lv_aload_n hx hb dX9_text_86 rfl (lv_at hl 1 rfl) ?_
          refine va_get (D := Γ.1) (ci := 8) (v := .int (q4.2.1 (27) 0)) (C := RX9) (T := TX9) (N := 44) hx hb hts iX9 hown hK hP (0) (gM_Model Γ q4.2) rfl 27 (by decide) (hts (.fieldLink RX9 171 "OtherHalfOfNightModel" "fault" "I") (wzm K260)) (fun _ h9 => h9) rfl dX9_text_87 ?_
          refine lv_isub hx hb dX9_text_90 ?_
          exact w_iret (X := XM Γ) hx hb hr hlocks hK hP hS rfl hf dX9_text_91
      · replace hf := (if_neg c2).symm.trans hf
        refine lv_aload_n hx hb dX9_text_22 rfl (lv_at hl 0 rfl) ?_
        refine va_get (D := Γ.1) (ci := 8) (v := .ref (Γ.2.2.1 (1))) (C := RX9) (T := TX9) (N := 44) hx hb hts iX9 hown hK hP (0) (gM_Model Γ τ) rfl 1 (by decide) (hts (.fieldLink RX9 13 "OtherHalfOfNightModel" "texts" "[I") (wzm K108)) (fun _ h9 => h9) rfl dX9_text_23 ?_
        refine lv_sipush (v := (160 : Int32)) hx hb dX9_text_26 (by decide) ?_
        refine lv_aload_n hx hb dX9_text_29 rfl (lv_at hl 0 rfl) ?_
        refine va_get (D := Γ.1) (ci := 8) (v := .int (τ.1 (3) 0)) (C := RX9) (T := TX9) (N := 44) hx hb hts iX9 hown hK hP (0) (gM_Model Γ τ) rfl 3 (by decide) (hts (.fieldLink RX9 74 "OtherHalfOfNightModel" "textCount" "I") (wzm K128)) (fun _ h9 => h9) rfl dX9_text_30 ?_
        refine lv_imul hx hb dX9_text_33 ?_
        refine lv_iload_n hx hb dX9_text_34 rfl (lv_at hl 1 rfl) ?_
        refine lv_iadd hx hb dX9_text_35 ?_
        refine lv_aload_n hx hb dX9_text_36 rfl (lv_at hl 0 rfl) ?_
        refine va_get (D := Γ.1) (ci := 8) (v := .ref (Γ.2.2.1 (3))) (C := RX9) (T := TX9) (N := 44) hx hb hts iX9 hown hK hP (0) (gM_Model Γ τ) rfl 5 (by decide) (hts (.fieldLink RX9 20 "OtherHalfOfNightModel" "tape" "[I") (wzm K110)) (fun _ h9 => h9) rfl dX9_text_37 ?_
        refine lv_iload_n hx hb dX9_text_40 rfl (lv_at hl 1 rfl) ?_
        obtain ⟨g7, hf⟩ := w_oi hf
        refine va_iald (D := Γ.1) (tys := (tysC Γ)) hx hb hK hP (3) 0 (gM_M_tape Γ τ) rfl g7 dX9_text_41 ?_
        obtain ⟨g8, hf⟩ := w_oi hf
        refine w_iast (D := Γ.1) (tys := (tysC Γ)) (X := XM Γ) (σ' := (upm τ (1) ((((160 : Int32) * (τ.1 (3) 0)) + y1)).toNatClampNeg (τ.1 (5) (y1).toNatClampNeg))) hx hb hK hP (halM Γ) hG hS (1) 0 (gM_M_texts Γ τ) rfl g8 dX9_text_42 (sM_M_texts Γ τ ((((160 : Int32) * (τ.1 (3) 0)) + y1)).toNatClampNeg (τ.1 (5) (y1).toNatClampNeg)) (fun H locs hP hS => ?_)
        refine lv_iinc (v := (y1 + (1 : Int32))) (lv' := [(1, .int (y1 + (1 : Int32))), (0, .ref (Γ.2.2.1 (0)))]) hx hb dX9_text_43 hl (k := 1) rfl rfl (by decide) rfl (fun ls hl => ?_)
        refine lv_goto (tgt := 14) hx hb dX9_text_46 (by decide) ?_
        exact ih14 ((y1 + (1 : Int32))) (upm τ (1) ((((160 : Int32) * (τ.1 (3) 0)) + y1)).toNatClampNeg (τ.1 (5) (y1).toNatClampNeg)) H locs ls hf hP hS (lv_sub hl [1, 0] rfl)
  suffices hw : ∀ (H : Heap) (locs : List Loc), va_P Γ.1 vwCl (XM Γ σ) H → va_S (wA (alM Γ) s.heap.size) s.heap H locs → W p l e { frames := 72, cells := 0, slots := 0, locals := 2789 } s m av.toArray below meth c H locs 0 0 (MQ below (wQi Γ.1 vwCl (tysC Γ) (XM Γ) (alM Γ) r σ' s.heap.size) av.toArray s 0 0 (wA (alM Γ) s.heap.size)) (F0 m 0 ls []) from hw _ [] hP va_S.rf
  clear hP
  intro H locs hP hS
  unfold f_X9_text at hf
  refine lv_aload_n hx hb dX9_text_0 rfl (lv_at hl 0 rfl) ?_
  refine va_get (D := Γ.1) (ci := 8) (v := .int (σ.1 (3) 0)) (C := RX9) (T := TX9) (N := 44) hx hb hts iX9 hown hK hP (0) (gM_Model Γ σ) rfl 3 (by decide) (hts (.fieldLink RX9 74 "OtherHalfOfNightModel" "textCount" "I") (wzm K128)) (fun _ h9 => h9) rfl dX9_text_1 ?_
  refine lv_bipush (v := (6 : Int32)) hx hb dX9_text_4 (by decide) ?_
  refine lv_icmp_ne (tgt := 12) hx hb dX9_text_6 (by decide) (fun c1 => ?_) (fun c1 => ?_)
  · replace hf := (if_neg c1).symm.trans hf
    refine lv_iconst (v := (0 : Int32)) hx hb dX9_text_12 (by decide) ?_
    refine lv_istore_n (lv' := [(1, .int (0 : Int32)), (0, .ref (Γ.2.2.1 (0)))]) hx hb dX9_text_13 rfl hl (by decide) rfl (fun ls hl => ?_)
    exact j14 5000 ((0 : Int32)) σ H locs ls hf hP hS (lv_sub hl [1, 0] rfl)
  · replace hf := (if_pos c1).symm.trans hf
    refine lv_bipush (v := (-4 : Int32)) hx hb dX9_text_9 (by decide) ?_
    exact w_iret (X := XM Γ) hx hb hr hlocks hK hP hS rfl hf dX9_text_11
def f_X9_force (x1 : Int32) (σ : Sm) : Option (Int32 × Sm) := (f_X9_in ((x1).toInt64) (0 : Int64) ((((σ.1 (3) 0) - (1 : Int32))).toInt64) σ).bind fun (q1 : Int32 × Sm) => if q1.1 = 0 then some ((-2 : Int32), q1.2) else some ((q1.2.1 (4) 0), (upm q1.2 (4) 0 x1))
set_option maxHeartbeats 40000000 in
set_option maxRecDepth 100000 in
theorem c_X9_force (l : Launch) (Γ : Geo) (hG : okM Γ) (x1 : Int32) (σ : Sm) (r : Int32) (σ' : Sm) (hf : f_X9_force x1 σ = some (r, σ')) (sz : Nat) : Met l yX9_force (wz yX9_force cX9_force 3 (some .int)) { frames := 1, cells := 0, slots := 0, locals := 25 } (va_Pc [.ref (Γ.2.2.1 (0)), .int x1] (wPre Γ.1 vwCl (tysC Γ) (XM Γ) (alM Γ) Γ.2.2.2 σ sz)) (wQi Γ.1 vwCl (tysC Γ) (XM Γ) (alM Γ) r σ' sz) 0 0 (wA (alM Γ) sz) := by
  refine w_enter (cc := cX9_force) (maxL := 3) (ret := (some .int)) (by decide) rfl (Nat.le_of_ble_eq_true rfl) ?_
  intro p e s m below meth c ls hx hb hr hlocks hml hown hts hsz hP hK hkc hN hl
  subst hsz
  generalize hav : ([.ref (Γ.2.2.1 (0)), .int x1] : List Value) = av at hl hts ⊢
  have hl : lv_has ls 3 [(0, .ref (Γ.2.2.1 (0))), (1, .int x1)] := by rw [← hav] at hl; exact hl
  suffices hw : ∀ (H : Heap) (locs : List Loc), va_P Γ.1 vwCl (XM Γ σ) H → va_S (wA (alM Γ) s.heap.size) s.heap H locs → W p l e { frames := 1, cells := 0, slots := 0, locals := 25 } s m av.toArray below meth c H locs 0 0 (MQ below (wQi Γ.1 vwCl (tysC Γ) (XM Γ) (alM Γ) r σ' s.heap.size) av.toArray s 0 0 (wA (alM Γ) s.heap.size)) (F0 m 0 ls []) from hw _ [] hP va_S.rf
  clear hP
  intro H locs hP hS
  unfold f_X9_force at hf
  refine lv_iload_n hx hb dX9_force_0 rfl (lv_at hl 1 rfl) ?_
  refine lv_i2l (v := ((x1).toInt64)) hx hb dX9_force_1 rfl ?_
  refine lv_lconst (v := (0 : Int64)) hx hb dX9_force_2 (by decide) ?_
  refine lv_aload_n hx hb dX9_force_3 rfl (lv_at hl 0 rfl) ?_
  refine va_get (D := Γ.1) (ci := 8) (v := .int (σ.1 (3) 0)) (C := RX9) (T := TX9) (N := 44) hx hb hts iX9 hown hK hP (0) (gM_Model Γ σ) rfl 3 (by decide) (hts (.fieldLink RX9 74 "OtherHalfOfNightModel" "textCount" "I") (wzm K128)) (fun _ h9 => h9) rfl dX9_force_4 ?_
  refine lv_iconst (v := (1 : Int32)) hx hb dX9_force_7 (by decide) ?_
  refine lv_isub hx hb dX9_force_8 ?_
  refine lv_i2l (v := ((((σ.1 (3) 0) - (1 : Int32))).toInt64)) hx hb dX9_force_9 rfl ?_
  obtain ⟨q1, h2, hf⟩ := w_ob hf
  refine w_ci (va_runS (As := [.long ((x1).toInt64), .long (0 : Int64), .long ((((σ.1 (3) 0) - (1 : Int32))).toInt64)]) (rest := []) ⟨hx, hb, hml, hown, hts⟩ (c_X9_in l Γ hG ((x1).toInt64) (0 : Int64) ((((σ.1 (3) 0) - (1 : Int32))).toInt64) σ q1.1 q1.2 h2 H.size) (cwS 3 hts (wzS K170 K168 K169 K5) rfl rfl rfl (by decide +kernel) ⟨(Nat.le_of_ble_eq_true rfl), (Nat.le_of_ble_eq_true rfl)⟩) (w_pre hK hP hkc hN hS) rfl rfl hl.1 rfl (lv_room (Nat.le_of_ble_eq_true rfl)) dX9_force_10 ⟨Nat.le_refl _, Nat.le_refl _⟩) hS (fun H locs hP hS => ?_)
  refine lv_if_ne (tgt := 19) hx hb dX9_force_13 (by decide) (fun c3 => ?_) (fun c3 => ?_)
  · replace hf := (if_neg c3).symm.trans hf
    refine lv_aload_n hx hb dX9_force_19 rfl (lv_at hl 0 rfl) ?_
    refine va_get (D := Γ.1) (ci := 8) (v := .int (q1.2.1 (4) 0)) (C := RX9) (T := TX9) (N := 44) hx hb hts iX9 hown hK hP (0) (gM_Model Γ q1.2) rfl 4 (by decide) (hts (.fieldLink RX9 117 "OtherHalfOfNightModel" "rule" "I") (wzm K212)) (fun _ h9 => h9) rfl dX9_force_20 ?_
    refine lv_istore_n (lv' := [(2, .int (q1.2.1 (4) 0)), (0, .ref (Γ.2.2.1 (0))), (1, .int x1)]) hx hb dX9_force_23 rfl hl (by decide) rfl (fun ls hl => ?_)
    refine lv_aload_n hx hb dX9_force_24 rfl (lv_at hl 1 rfl) ?_
    refine lv_iload_n hx hb dX9_force_25 rfl (lv_at hl 2 rfl) ?_
    refine w_put (X := XM Γ) (σ' := (upm q1.2 (4) 0 x1)) (ci := 8) (C := RX9) (T := TX9) (N := 44) (ty := .int) hx hb hts iX9 tyX9 tyX9_ok nmX9 hown hK hP (halM Γ) hG hS (0) (gM_Model Γ q1.2) rfl 4 (by decide) (hts (.fieldLink RX9 117 "OtherHalfOfNightModel" "rule" "I") (wzm K212)) (fun _ h9 => h9) rfl (by decide +kernel) rfl rfl (Nat.le_of_ble_eq_true rfl) dX9_force_26 (sM_Model_rule Γ q1.2 x1) (fun H locs hP hS => ?_)
    refine lv_iload_n hx hb dX9_force_29 rfl (lv_at hl 0 rfl) ?_
    exact w_iret (X := XM Γ) hx hb hr hlocks hK hP hS rfl hf dX9_force_30
  · replace hf := (if_pos c3).symm.trans hf
    refine lv_bipush (v := (-2 : Int32)) hx hb dX9_force_16 (by decide) ?_
    exact w_iret (X := XM Γ) hx hb hr hlocks hK hP hS rfl hf dX9_force_18
def f_X9_keptRead (x1 : Int32) (σ : Sm) : Option (Int32 × Sm) := (some (((((((σ.1 (4) 0)).toInt64) * (3 : Int64)) + ((x1).toInt64)) * (128 : Int64)) + (((σ.1 (13) 0)).toInt64))).bind fun (v1 : Int64) => (some ((((v1 * (16 : Int64)) + (((σ.1 (14) 0)).toInt64)) * (4096 : Int64)) + (((σ.1 (15) 0)).toInt64))).bind fun (v3 : Int64) => (some ((((v3 * (1024 : Int64)) + (((σ.1 (16) 0)).toInt64)) * (16 : Int64)) + (((σ.1 (17) 0)).toInt64))).bind fun (v5 : Int64) => (some (((w_lushr ((((v5 * (32 : Int64)) + (((σ.1 (18) 0)).toInt64)) + (1 : Int64)) * (7046029254386353131 : Int64)) (54 : Int32))).toInt32)).bind fun (v7 : Int32) => if okI v7 1024 then if (lg_cmp (σ.2 (28) (v7).toNatClampNeg) (((v5 * (32 : Int64)) + (((σ.1 (18) 0)).toInt64)) + (1 : Int64))) = 0 then if okI v7 1024 then some ((σ.1 (29) (v7).toNatClampNeg), σ) else none else (f_X9_read (σ.1 (4) 0) x1 σ).bind fun (q12 : Int32 × Sm) => if okI v7 1024 then if okI v7 1024 then if okI v7 1024 then some (((upj (upm q12.2 (29) (v7).toNatClampNeg q12.1) (28) (v7).toNatClampNeg (((v5 * (32 : Int64)) + (((σ.1 (18) 0)).toInt64)) + (1 : Int64))).1 (29) (v7).toNatClampNeg), (upj (upm q12.2 (29) (v7).toNatClampNeg q12.1) (28) (v7).toNatClampNeg (((v5 * (32 : Int64)) + (((σ.1 (18) 0)).toInt64)) + (1 : Int64)))) else none else none else none else none
set_option maxHeartbeats 40000000 in
set_option maxRecDepth 100000 in
theorem c_X9_keptRead (l : Launch) (Γ : Geo) (hG : okM Γ) (x1 : Int32) (σ : Sm) (r : Int32) (σ' : Sm) (hf : f_X9_keptRead x1 σ = some (r, σ')) (sz : Nat) : Met l yX9_keptRead (wz yX9_keptRead cX9_keptRead 5 (some .int)) { frames := 72, cells := 0, slots := 0, locals := 2789 } (va_Pc [.ref (Γ.2.2.1 (0)), .int x1] (wPre Γ.1 vwCl (tysC Γ) (XM Γ) (alM Γ) Γ.2.2.2 σ sz)) (wQi Γ.1 vwCl (tysC Γ) (XM Γ) (alM Γ) r σ' sz) 0 0 (wA (alM Γ) sz) := by
  refine w_enter (cc := cX9_keptRead) (maxL := 5) (ret := (some .int)) (by decide) rfl (Nat.le_of_ble_eq_true rfl) ?_
  intro p e s m below meth c ls hx hb hr hlocks hml hown hts hsz hP hK hkc hN hl
  subst hsz
  generalize hav : ([.ref (Γ.2.2.1 (0)), .int x1] : List Value) = av at hl hts ⊢
  have hl : lv_has ls 5 [(0, .ref (Γ.2.2.1 (0))), (1, .int x1)] := by rw [← hav] at hl; exact hl
  suffices hw : ∀ (H : Heap) (locs : List Loc), va_P Γ.1 vwCl (XM Γ σ) H → va_S (wA (alM Γ) s.heap.size) s.heap H locs → W p l e { frames := 72, cells := 0, slots := 0, locals := 2789 } s m av.toArray below meth c H locs 0 0 (MQ below (wQi Γ.1 vwCl (tysC Γ) (XM Γ) (alM Γ) r σ' s.heap.size) av.toArray s 0 0 (wA (alM Γ) s.heap.size)) (F0 m 0 ls []) from hw _ [] hP va_S.rf
  clear hP
  intro H locs hP hS
  unfold f_X9_keptRead at hf
  refine lv_aload_n hx hb dX9_keptRead_0 rfl (lv_at hl 0 rfl) ?_
  refine va_get (D := Γ.1) (ci := 8) (v := .int (σ.1 (4) 0)) (C := RX9) (T := TX9) (N := 44) hx hb hts iX9 hown hK hP (0) (gM_Model Γ σ) rfl 4 (by decide) (hts (.fieldLink RX9 117 "OtherHalfOfNightModel" "rule" "I") (wzm K212)) (fun _ h9 => h9) rfl dX9_keptRead_1 ?_
  refine lv_i2l (v := (((σ.1 (4) 0)).toInt64)) hx hb dX9_keptRead_4 rfl ?_
  refine lv_ldc2 (v := (3 : Int64)) hx hb hown (hts (.constantLong RX9 255 (3)) (wzm K213)) dX9_keptRead_5 ?_
  refine lv_lmul hx hb dX9_keptRead_8 ?_
  refine lv_iload_n hx hb dX9_keptRead_9 rfl (lv_at hl 1 rfl) ?_
  refine lv_i2l (v := ((x1).toInt64)) hx hb dX9_keptRead_10 rfl ?_
  refine lv_ladd hx hb dX9_keptRead_11 ?_
  refine lv_lstore_n (lv' := [(2, .long (((((σ.1 (4) 0)).toInt64) * (3 : Int64)) + ((x1).toInt64))), (0, .ref (Γ.2.2.1 (0))), (1, .int x1)]) hx hb dX9_keptRead_12 rfl hl (by decide) rfl (fun ls hl => ?_)
  refine lv_lload_n hx hb dX9_keptRead_13 rfl (lv_at hl 0 rfl) ?_
  refine lv_ldc2 (v := (128 : Int64)) hx hb hown (hts (.constantLong RX9 257 (128)) (wzm K214)) dX9_keptRead_14 ?_
  refine lv_lmul hx hb dX9_keptRead_17 ?_
  refine lv_aload_n hx hb dX9_keptRead_18 rfl (lv_at hl 1 rfl) ?_
  refine va_get (D := Γ.1) (ci := 8) (v := .int (σ.1 (13) 0)) (C := RX9) (T := TX9) (N := 44) hx hb hts iX9 hown hK hP (0) (gM_Model Γ σ) rfl 13 (by decide) (hts (.fieldLink RX9 190 "OtherHalfOfNightModel" "ofTrouble" "I") (wzm K202)) (fun _ h9 => h9) rfl dX9_keptRead_19 ?_
  refine lv_i2l (v := (((σ.1 (13) 0)).toInt64)) hx hb dX9_keptRead_22 rfl ?_
  refine lv_ladd hx hb dX9_keptRead_23 ?_
  obtain ⟨v1, e2, hf⟩ := w_ob hf
  replace e2 := Option.some.inj e2
  rw [e2]
  refine lv_lstore_n (lv' := [(2, .long v1), (0, .ref (Γ.2.2.1 (0))), (1, .int x1)]) hx hb dX9_keptRead_24 rfl hl (by decide) rfl (fun ls hl => ?_)
  refine lv_lload_n hx hb dX9_keptRead_25 rfl (lv_at hl 0 rfl) ?_
  refine lv_ldc2 (v := (16 : Int64)) hx hb hown (hts (.constantLong RX9 259 (16)) (wzm K215)) dX9_keptRead_26 ?_
  refine lv_lmul hx hb dX9_keptRead_29 ?_
  refine lv_aload_n hx hb dX9_keptRead_30 rfl (lv_at hl 1 rfl) ?_
  refine va_get (D := Γ.1) (ci := 8) (v := .int (σ.1 (14) 0)) (C := RX9) (T := TX9) (N := 44) hx hb hts iX9 hown hK hP (0) (gM_Model Γ σ) rfl 14 (by decide) (hts (.fieldLink RX9 193 "OtherHalfOfNightModel" "ofNumber" "I") (wzm K203)) (fun _ h9 => h9) rfl dX9_keptRead_31 ?_
  refine lv_i2l (v := (((σ.1 (14) 0)).toInt64)) hx hb dX9_keptRead_34 rfl ?_
  refine lv_ladd hx hb dX9_keptRead_35 ?_
  refine lv_lstore_n (lv' := [(2, .long ((v1 * (16 : Int64)) + (((σ.1 (14) 0)).toInt64))), (0, .ref (Γ.2.2.1 (0))), (1, .int x1)]) hx hb dX9_keptRead_36 rfl hl (by decide) rfl (fun ls hl => ?_)
  refine lv_lload_n hx hb dX9_keptRead_37 rfl (lv_at hl 0 rfl) ?_
  refine lv_ldc2 (v := (4096 : Int64)) hx hb hown (hts (.constantLong RX9 261 (4096)) (wzm K216)) dX9_keptRead_38 ?_
  refine lv_lmul hx hb dX9_keptRead_41 ?_
  refine lv_aload_n hx hb dX9_keptRead_42 rfl (lv_at hl 1 rfl) ?_
  refine va_get (D := Γ.1) (ci := 8) (v := .int (σ.1 (15) 0)) (C := RX9) (T := TX9) (N := 44) hx hb hts iX9 hown hK hP (0) (gM_Model Γ σ) rfl 15 (by decide) (hts (.fieldLink RX9 196 "OtherHalfOfNightModel" "ofNight" "I") (wzm K204)) (fun _ h9 => h9) rfl dX9_keptRead_43 ?_
  refine lv_i2l (v := (((σ.1 (15) 0)).toInt64)) hx hb dX9_keptRead_46 rfl ?_
  refine lv_ladd hx hb dX9_keptRead_47 ?_
  obtain ⟨v3, e4, hf⟩ := w_ob hf
  replace e4 := Option.some.inj e4
  rw [e4]
  refine lv_lstore_n (lv' := [(2, .long v3), (0, .ref (Γ.2.2.1 (0))), (1, .int x1)]) hx hb dX9_keptRead_48 rfl hl (by decide) rfl (fun ls hl => ?_)
  refine lv_lload_n hx hb dX9_keptRead_49 rfl (lv_at hl 0 rfl) ?_
  refine lv_ldc2 (v := (1024 : Int64)) hx hb hown (hts (.constantLong RX9 263 (1024)) (wzm K217)) dX9_keptRead_50 ?_
  refine lv_lmul hx hb dX9_keptRead_53 ?_
  refine lv_aload_n hx hb dX9_keptRead_54 rfl (lv_at hl 1 rfl) ?_
  refine va_get (D := Γ.1) (ci := 8) (v := .int (σ.1 (16) 0)) (C := RX9) (T := TX9) (N := 44) hx hb hts iX9 hown hK hP (0) (gM_Model Γ σ) rfl 16 (by decide) (hts (.fieldLink RX9 199 "OtherHalfOfNightModel" "ofNews" "I") (wzm K205)) (fun _ h9 => h9) rfl dX9_keptRead_55 ?_
  refine lv_i2l (v := (((σ.1 (16) 0)).toInt64)) hx hb dX9_keptRead_58 rfl ?_
  refine lv_ladd hx hb dX9_keptRead_59 ?_
  refine lv_lstore_n (lv' := [(2, .long ((v3 * (1024 : Int64)) + (((σ.1 (16) 0)).toInt64))), (0, .ref (Γ.2.2.1 (0))), (1, .int x1)]) hx hb dX9_keptRead_60 rfl hl (by decide) rfl (fun ls hl => ?_)
  refine lv_lload_n hx hb dX9_keptRead_61 rfl (lv_at hl 0 rfl) ?_
  refine lv_ldc2 (v := (16 : Int64)) hx hb hown (hts (.constantLong RX9 259 (16)) (wzm K215)) dX9_keptRead_62 ?_
  refine lv_lmul hx hb dX9_keptRead_65 ?_
  refine lv_aload_n hx hb dX9_keptRead_66 rfl (lv_at hl 1 rfl) ?_
  refine va_get (D := Γ.1) (ci := 8) (v := .int (σ.1 (17) 0)) (C := RX9) (T := TX9) (N := 44) hx hb hts iX9 hown hK hP (0) (gM_Model Γ σ) rfl 17 (by decide) (hts (.fieldLink RX9 202 "OtherHalfOfNightModel" "ofTaste" "I") (wzm K206)) (fun _ h9 => h9) rfl dX9_keptRead_67 ?_
  refine lv_i2l (v := (((σ.1 (17) 0)).toInt64)) hx hb dX9_keptRead_70 rfl ?_
  refine lv_ladd hx hb dX9_keptRead_71 ?_
  obtain ⟨v5, e6, hf⟩ := w_ob hf
  replace e6 := Option.some.inj e6
  rw [e6]
  refine lv_lstore_n (lv' := [(2, .long v5), (0, .ref (Γ.2.2.1 (0))), (1, .int x1)]) hx hb dX9_keptRead_72 rfl hl (by decide) rfl (fun ls hl => ?_)
  refine lv_lload_n hx hb dX9_keptRead_73 rfl (lv_at hl 0 rfl) ?_
  refine lv_ldc2 (v := (32 : Int64)) hx hb hown (hts (.constantLong RX9 265 (32)) (wzm K218)) dX9_keptRead_74 ?_
  refine lv_lmul hx hb dX9_keptRead_77 ?_
  refine lv_aload_n hx hb dX9_keptRead_78 rfl (lv_at hl 1 rfl) ?_
  refine va_get (D := Γ.1) (ci := 8) (v := .int (σ.1 (18) 0)) (C := RX9) (T := TX9) (N := 44) hx hb hts iX9 hown hK hP (0) (gM_Model Γ σ) rfl 18 (by decide) (hts (.fieldLink RX9 205 "OtherHalfOfNightModel" "ofHour" "I") (wzm K207)) (fun _ h9 => h9) rfl dX9_keptRead_79 ?_
  refine lv_i2l (v := (((σ.1 (18) 0)).toInt64)) hx hb dX9_keptRead_82 rfl ?_
  refine lv_ladd hx hb dX9_keptRead_83 ?_
  refine lv_lconst (v := (1 : Int64)) hx hb dX9_keptRead_84 (by decide) ?_
  refine lv_ladd hx hb dX9_keptRead_85 ?_
  refine lv_lstore_n (lv' := [(2, .long (((v5 * (32 : Int64)) + (((σ.1 (18) 0)).toInt64)) + (1 : Int64))), (0, .ref (Γ.2.2.1 (0))), (1, .int x1)]) hx hb dX9_keptRead_86 rfl hl (by decide) rfl (fun ls hl => ?_)
  refine lv_lload_n hx hb dX9_keptRead_87 rfl (lv_at hl 0 rfl) ?_
  refine lv_ldc2 (v := (7046029254386353131 : Int64)) hx hb hown (hts (.constantLong RX9 267 (7046029254386353131)) (wzm K219)) dX9_keptRead_88 ?_
  refine lv_lmul hx hb dX9_keptRead_91 ?_
  refine lv_bipush (v := (54 : Int32)) hx hb dX9_keptRead_92 (by decide) ?_
  refine lv_lushr (v := (w_lushr ((((v5 * (32 : Int64)) + (((σ.1 (18) 0)).toInt64)) + (1 : Int64)) * (7046029254386353131 : Int64)) (54 : Int32))) hx hb dX9_keptRead_94 rfl ?_
  refine lv_l2i (v := (((w_lushr ((((v5 * (32 : Int64)) + (((σ.1 (18) 0)).toInt64)) + (1 : Int64)) * (7046029254386353131 : Int64)) (54 : Int32))).toInt32)) hx hb dX9_keptRead_95 rfl ?_
  obtain ⟨v7, e8, hf⟩ := w_ob hf
  replace e8 := Option.some.inj e8
  rw [e8]
  refine lv_istore (lv' := [(4, .int v7), (2, .long (((v5 * (32 : Int64)) + (((σ.1 (18) 0)).toInt64)) + (1 : Int64))), (0, .ref (Γ.2.2.1 (0))), (1, .int x1)]) hx hb dX9_keptRead_96 hl (by decide) rfl (fun ls hl => ?_)
  refine lv_aload_n hx hb dX9_keptRead_98 rfl (lv_at hl 2 rfl) ?_
  refine va_get (D := Γ.1) (ci := 8) (v := .ref (Γ.2.2.1 (7))) (C := RX9) (T := TX9) (N := 44) hx hb hts iX9 hown hK hP (0) (gM_Model Γ σ) rfl 28 (by decide) (hts (.fieldLink RX9 32 "OtherHalfOfNightModel" "keptOf" "[J") (wzm K115)) (fun _ h9 => h9) rfl dX9_keptRead_99 ?_
  refine lv_iload hx hb dX9_keptRead_102 (lv_at hl 0 rfl) ?_
  obtain ⟨g9, hf⟩ := w_oi hf
  refine va_lald (D := Γ.1) (tys := (tysC Γ)) hx hb hK hP (7) 1 (gM_M_keptOf Γ σ) rfl g9 dX9_keptRead_104 ?_
  refine lv_lload_n hx hb dX9_keptRead_105 rfl (lv_at hl 1 rfl) ?_
  refine W.lcmp hx hb dX9_keptRead_106 ?_
  refine lv_if_eq (tgt := 134) hx hb dX9_keptRead_107 (by decide) (fun c10 => ?_) (fun c10 => ?_)
  · replace hf := (if_pos c10).symm.trans hf
    refine lv_aload_n hx hb dX9_keptRead_134 rfl (lv_at hl 2 rfl) ?_
    refine va_get (D := Γ.1) (ci := 8) (v := .ref (Γ.2.2.1 (8))) (C := RX9) (T := TX9) (N := 44) hx hb hts iX9 hown hK hP (0) (gM_Model Γ σ) rfl 29 (by decide) (hts (.fieldLink RX9 36 "OtherHalfOfNightModel" "keptWas" "[I") (wzm K116)) (fun _ h9 => h9) rfl dX9_keptRead_135 ?_
    refine lv_iload hx hb dX9_keptRead_138 (lv_at hl 0 rfl) ?_
    obtain ⟨g11, hf⟩ := w_oi hf
    refine va_iald (D := Γ.1) (tys := (tysC Γ)) hx hb hK hP (8) 0 (gM_M_keptWas Γ σ) rfl g11 dX9_keptRead_140 ?_
    exact w_iret (X := XM Γ) hx hb hr hlocks hK hP hS rfl hf dX9_keptRead_141
  · replace hf := (if_neg c10).symm.trans hf
    refine lv_aload_n hx hb dX9_keptRead_110 rfl (lv_at hl 2 rfl) ?_
    refine va_get (D := Γ.1) (ci := 8) (v := .ref (Γ.2.2.1 (8))) (C := RX9) (T := TX9) (N := 44) hx hb hts iX9 hown hK hP (0) (gM_Model Γ σ) rfl 29 (by decide) (hts (.fieldLink RX9 36 "OtherHalfOfNightModel" "keptWas" "[I") (wzm K116)) (fun _ h9 => h9) rfl dX9_keptRead_111 ?_
    refine lv_iload hx hb dX9_keptRead_114 (lv_at hl 0 rfl) ?_
    refine lv_aload_n hx hb dX9_keptRead_116 rfl (lv_at hl 2 rfl) ?_
    refine lv_aload_n hx hb dX9_keptRead_117 rfl (lv_at hl 2 rfl) ?_
    refine va_get (D := Γ.1) (ci := 8) (v := .int (σ.1 (4) 0)) (C := RX9) (T := TX9) (N := 44) hx hb hts iX9 hown hK hP (0) (gM_Model Γ σ) rfl 4 (by decide) (hts (.fieldLink RX9 117 "OtherHalfOfNightModel" "rule" "I") (wzm K212)) (fun _ h9 => h9) rfl dX9_keptRead_118 ?_
    refine lv_iload_n hx hb dX9_keptRead_121 rfl (lv_at hl 3 rfl) ?_
    obtain ⟨q12, h13, hf⟩ := w_ob hf
    refine w_ci (va_runV (As := [.int (σ.1 (4) 0), .int x1]) (rest := [.int v7, .ref (Γ.2.2.1 (8))]) ⟨hx, hb, hml, hown, hts⟩ (c_X9_read l Γ hG (σ.1 (4) 0) x1 σ q12.1 q12.2 h13 H.size) (cwV 2 hts (wzV K223 K220 K221 K222 K5) rfl rfl rfl (by decide +kernel) ⟨(Nat.le_of_ble_eq_true rfl), (Nat.le_of_ble_eq_true rfl)⟩) (w_preV hK hP hkc hN hS (gM_Model Γ σ) rfl) rfl rfl hl.1 rfl (lv_room (Nat.le_of_ble_eq_true rfl)) dX9_keptRead_122 ⟨Nat.le_refl _, Nat.le_refl _⟩) hS (fun H locs hP hS => ?_)
    obtain ⟨g14, hf⟩ := w_oi hf
    refine w_iast (D := Γ.1) (tys := (tysC Γ)) (X := XM Γ) (σ' := (upm q12.2 (29) (v7).toNatClampNeg q12.1)) hx hb hK hP (halM Γ) hG hS (8) 0 (gM_M_keptWas Γ q12.2) rfl g14 dX9_keptRead_125 (sM_M_keptWas Γ q12.2 (v7).toNatClampNeg q12.1) (fun H locs hP hS => ?_)
    refine lv_aload_n hx hb dX9_keptRead_126 rfl (lv_at hl 2 rfl) ?_
    refine va_get (D := Γ.1) (ci := 8) (v := .ref (Γ.2.2.1 (7))) (C := RX9) (T := TX9) (N := 44) hx hb hts iX9 hown hK hP (0) (gM_Model Γ (upm q12.2 (29) (v7).toNatClampNeg q12.1)) rfl 28 (by decide) (hts (.fieldLink RX9 32 "OtherHalfOfNightModel" "keptOf" "[J") (wzm K115)) (fun _ h9 => h9) rfl dX9_keptRead_127 ?_
    refine lv_iload hx hb dX9_keptRead_130 (lv_at hl 0 rfl) ?_
    refine lv_lload_n hx hb dX9_keptRead_132 rfl (lv_at hl 1 rfl) ?_
    obtain ⟨g15, hf⟩ := w_oi hf
    refine w_last (D := Γ.1) (tys := (tysC Γ)) (X := XM Γ) (σ' := (upj (upm q12.2 (29) (v7).toNatClampNeg q12.1) (28) (v7).toNatClampNeg (((v5 * (32 : Int64)) + (((σ.1 (18) 0)).toInt64)) + (1 : Int64)))) hx hb hK hP (halM Γ) hG hS (7) 1 (gM_M_keptOf Γ (upm q12.2 (29) (v7).toNatClampNeg q12.1)) rfl g15 dX9_keptRead_133 (sM_M_keptOf Γ (upm q12.2 (29) (v7).toNatClampNeg q12.1) (v7).toNatClampNeg (((v5 * (32 : Int64)) + (((σ.1 (18) 0)).toInt64)) + (1 : Int64))) (fun H locs hP hS => ?_)
    refine lv_aload_n hx hb dX9_keptRead_134 rfl (lv_at hl 2 rfl) ?_
    refine va_get (D := Γ.1) (ci := 8) (v := .ref (Γ.2.2.1 (8))) (C := RX9) (T := TX9) (N := 44) hx hb hts iX9 hown hK hP (0) (gM_Model Γ (upj (upm q12.2 (29) (v7).toNatClampNeg q12.1) (28) (v7).toNatClampNeg (((v5 * (32 : Int64)) + (((σ.1 (18) 0)).toInt64)) + (1 : Int64)))) rfl 29 (by decide) (hts (.fieldLink RX9 36 "OtherHalfOfNightModel" "keptWas" "[I") (wzm K116)) (fun _ h9 => h9) rfl dX9_keptRead_135 ?_
    refine lv_iload hx hb dX9_keptRead_138 (lv_at hl 0 rfl) ?_
    obtain ⟨g16, hf⟩ := w_oi hf
    refine va_iald (D := Γ.1) (tys := (tysC Γ)) hx hb hK hP (8) 0 (gM_M_keptWas Γ (upj (upm q12.2 (29) (v7).toNatClampNeg q12.1) (28) (v7).toNatClampNeg (((v5 * (32 : Int64)) + (((σ.1 (18) 0)).toInt64)) + (1 : Int64)))) rfl g16 dX9_keptRead_140 ?_
    exact w_iret (X := XM Γ) hx hb hr hlocks hK hP hS rfl hf dX9_keptRead_141
def f_X9_says (x1 : Int32) (x2 : Int32) (x3 : Int32) (σ : Sm) : Option (Int32 × Sm) := if okI (((3 : Int32) * x2) + (1 : Int32)) 15 then if okI ((3 : Int32) * x2) 15 then (some (upm (upm σ (13) 0 (σ.1 (10) ((((3 : Int32) * x2) + (1 : Int32))).toNatClampNeg)) (14) 0 ((upm σ (13) 0 (σ.1 (10) ((((3 : Int32) * x2) + (1 : Int32))).toNatClampNeg)).1 (10) (((3 : Int32) * x2)).toNatClampNeg))).bind fun (τ3 : Sm) => if okI (((3 : Int32) * x2) + (2 : Int32)) 15 then (some (upm (upm (upm τ3 (15) 0 (τ3.1 (7) 0)) (16) 0 ((upm τ3 (15) 0 (τ3.1 (7) 0)).1 (10) ((((3 : Int32) * x2) + (2 : Int32))).toNatClampNeg)) (17) 0 x3)).bind fun (τ6 : Sm) => (f_X9_keptRead x1 (upm τ6 (18) 0 (τ6.1 (8) 0))).bind fun (q8 : Int32 × Sm) => if x1 = (1 : Int32) then some (q8.1, q8.2) else (f_X9_within q8.1 (0 : Int32) (99 : Int32) q8.2).bind fun (q11 : Int32 × Sm) => some (q11.1, q11.2) else none else none else none
set_option maxHeartbeats 40000000 in
set_option maxRecDepth 100000 in
theorem c_X9_says (l : Launch) (Γ : Geo) (hG : okM Γ) (x1 : Int32) (x2 : Int32) (x3 : Int32) (σ : Sm) (r : Int32) (σ' : Sm) (hf : f_X9_says x1 x2 x3 σ = some (r, σ')) (sz : Nat) : Met l yX9_says (wz yX9_says cX9_says 5 (some .int)) { frames := 73, cells := 0, slots := 0, locals := 2813 } (va_Pc [.ref (Γ.2.2.1 (0)), .int x1, .int x2, .int x3] (wPre Γ.1 vwCl (tysC Γ) (XM Γ) (alM Γ) Γ.2.2.2 σ sz)) (wQi Γ.1 vwCl (tysC Γ) (XM Γ) (alM Γ) r σ' sz) 0 0 (wA (alM Γ) sz) := by
  refine w_enter (cc := cX9_says) (maxL := 5) (ret := (some .int)) (by decide) rfl (Nat.le_of_ble_eq_true rfl) ?_
  intro p e s m below meth c ls hx hb hr hlocks hml hown hts hsz hP hK hkc hN hl
  subst hsz
  generalize hav : ([.ref (Γ.2.2.1 (0)), .int x1, .int x2, .int x3] : List Value) = av at hl hts ⊢
  have hl : lv_has ls 5 [(0, .ref (Γ.2.2.1 (0))), (1, .int x1), (2, .int x2), (3, .int x3)] := by rw [← hav] at hl; exact hl
  suffices hw : ∀ (H : Heap) (locs : List Loc), va_P Γ.1 vwCl (XM Γ σ) H → va_S (wA (alM Γ) s.heap.size) s.heap H locs → W p l e { frames := 73, cells := 0, slots := 0, locals := 2813 } s m av.toArray below meth c H locs 0 0 (MQ below (wQi Γ.1 vwCl (tysC Γ) (XM Γ) (alM Γ) r σ' s.heap.size) av.toArray s 0 0 (wA (alM Γ) s.heap.size)) (F0 m 0 ls []) from hw _ [] hP va_S.rf
  clear hP
  intro H locs hP hS
  unfold f_X9_says at hf
  refine lv_aload_n hx hb dX9_says_0 rfl (lv_at hl 0 rfl) ?_
  refine lv_aload_n hx hb dX9_says_1 rfl (lv_at hl 0 rfl) ?_
  refine va_get (D := Γ.1) (ci := 8) (v := .ref (Γ.2.2.1 (5))) (C := RX9) (T := TX9) (N := 44) hx hb hts iX9 hown hK hP (0) (gM_Model Γ σ) rfl 10 (by decide) (hts (.fieldLink RX9 26 "OtherHalfOfNightModel" "rows" "[I") (wzm K112)) (fun _ h9 => h9) rfl dX9_says_2 ?_
  refine lv_iconst (v := (3 : Int32)) hx hb dX9_says_5 (by decide) ?_
  refine lv_iload_n hx hb dX9_says_6 rfl (lv_at hl 2 rfl) ?_
  refine lv_imul hx hb dX9_says_7 ?_
  refine lv_iconst (v := (1 : Int32)) hx hb dX9_says_8 (by decide) ?_
  refine lv_iadd hx hb dX9_says_9 ?_
  obtain ⟨g1, hf⟩ := w_oi hf
  refine va_iald (D := Γ.1) (tys := (tysC Γ)) hx hb hK hP (5) 0 (gM_M_rows Γ σ) rfl g1 dX9_says_10 ?_
  refine w_put (X := XM Γ) (σ' := (upm σ (13) 0 (σ.1 (10) ((((3 : Int32) * x2) + (1 : Int32))).toNatClampNeg))) (ci := 8) (C := RX9) (T := TX9) (N := 44) (ty := .int) hx hb hts iX9 tyX9 tyX9_ok nmX9 hown hK hP (halM Γ) hG hS (0) (gM_Model Γ σ) rfl 13 (by decide) (hts (.fieldLink RX9 190 "OtherHalfOfNightModel" "ofTrouble" "I") (wzm K202)) (fun _ h9 => h9) rfl (by decide +kernel) rfl rfl (Nat.le_of_ble_eq_true rfl) dX9_says_11 (sM_Model_ofTrouble Γ σ (σ.1 (10) ((((3 : Int32) * x2) + (1 : Int32))).toNatClampNeg)) (fun H locs hP hS => ?_)
  refine lv_aload_n hx hb dX9_says_14 rfl (lv_at hl 0 rfl) ?_
  refine lv_aload_n hx hb dX9_says_15 rfl (lv_at hl 0 rfl) ?_
  refine va_get (D := Γ.1) (ci := 8) (v := .ref (Γ.2.2.1 (5))) (C := RX9) (T := TX9) (N := 44) hx hb hts iX9 hown hK hP (0) (gM_Model Γ (upm σ (13) 0 (σ.1 (10) ((((3 : Int32) * x2) + (1 : Int32))).toNatClampNeg))) rfl 10 (by decide) (hts (.fieldLink RX9 26 "OtherHalfOfNightModel" "rows" "[I") (wzm K112)) (fun _ h9 => h9) rfl dX9_says_16 ?_
  refine lv_iconst (v := (3 : Int32)) hx hb dX9_says_19 (by decide) ?_
  refine lv_iload_n hx hb dX9_says_20 rfl (lv_at hl 2 rfl) ?_
  refine lv_imul hx hb dX9_says_21 ?_
  obtain ⟨g2, hf⟩ := w_oi hf
  refine va_iald (D := Γ.1) (tys := (tysC Γ)) hx hb hK hP (5) 0 (gM_M_rows Γ (upm σ (13) 0 (σ.1 (10) ((((3 : Int32) * x2) + (1 : Int32))).toNatClampNeg))) rfl g2 dX9_says_22 ?_
  refine w_put (X := XM Γ) (σ' := (upm (upm σ (13) 0 (σ.1 (10) ((((3 : Int32) * x2) + (1 : Int32))).toNatClampNeg)) (14) 0 ((upm σ (13) 0 (σ.1 (10) ((((3 : Int32) * x2) + (1 : Int32))).toNatClampNeg)).1 (10) (((3 : Int32) * x2)).toNatClampNeg))) (ci := 8) (C := RX9) (T := TX9) (N := 44) (ty := .int) hx hb hts iX9 tyX9 tyX9_ok nmX9 hown hK hP (halM Γ) hG hS (0) (gM_Model Γ (upm σ (13) 0 (σ.1 (10) ((((3 : Int32) * x2) + (1 : Int32))).toNatClampNeg))) rfl 14 (by decide) (hts (.fieldLink RX9 193 "OtherHalfOfNightModel" "ofNumber" "I") (wzm K203)) (fun _ h9 => h9) rfl (by decide +kernel) rfl rfl (Nat.le_of_ble_eq_true rfl) dX9_says_23 (sM_Model_ofNumber Γ (upm σ (13) 0 (σ.1 (10) ((((3 : Int32) * x2) + (1 : Int32))).toNatClampNeg)) ((upm σ (13) 0 (σ.1 (10) ((((3 : Int32) * x2) + (1 : Int32))).toNatClampNeg)).1 (10) (((3 : Int32) * x2)).toNatClampNeg)) (fun H locs hP hS => ?_)
  obtain ⟨τ3, e4, hf⟩ := w_ob hf
  replace e4 := Option.some.inj e4
  rw [e4] at hP
  refine lv_aload_n hx hb dX9_says_26 rfl (lv_at hl 0 rfl) ?_
  refine lv_aload_n hx hb dX9_says_27 rfl (lv_at hl 0 rfl) ?_
  refine va_get (D := Γ.1) (ci := 8) (v := .int (τ3.1 (7) 0)) (C := RX9) (T := TX9) (N := 44) hx hb hts iX9 hown hK hP (0) (gM_Model Γ τ3) rfl 7 (by decide) (hts (.fieldLink RX9 111 "OtherHalfOfNightModel" "nightNow" "I") (wzm K192)) (fun _ h9 => h9) rfl dX9_says_28 ?_
  refine w_put (X := XM Γ) (σ' := (upm τ3 (15) 0 (τ3.1 (7) 0))) (ci := 8) (C := RX9) (T := TX9) (N := 44) (ty := .int) hx hb hts iX9 tyX9 tyX9_ok nmX9 hown hK hP (halM Γ) hG hS (0) (gM_Model Γ τ3) rfl 15 (by decide) (hts (.fieldLink RX9 196 "OtherHalfOfNightModel" "ofNight" "I") (wzm K204)) (fun _ h9 => h9) rfl (by decide +kernel) rfl rfl (Nat.le_of_ble_eq_true rfl) dX9_says_31 (sM_Model_ofNight Γ τ3 (τ3.1 (7) 0)) (fun H locs hP hS => ?_)
  refine lv_aload_n hx hb dX9_says_34 rfl (lv_at hl 0 rfl) ?_
  refine lv_aload_n hx hb dX9_says_35 rfl (lv_at hl 0 rfl) ?_
  refine va_get (D := Γ.1) (ci := 8) (v := .ref (Γ.2.2.1 (5))) (C := RX9) (T := TX9) (N := 44) hx hb hts iX9 hown hK hP (0) (gM_Model Γ (upm τ3 (15) 0 (τ3.1 (7) 0))) rfl 10 (by decide) (hts (.fieldLink RX9 26 "OtherHalfOfNightModel" "rows" "[I") (wzm K112)) (fun _ h9 => h9) rfl dX9_says_36 ?_
  refine lv_iconst (v := (3 : Int32)) hx hb dX9_says_39 (by decide) ?_
  refine lv_iload_n hx hb dX9_says_40 rfl (lv_at hl 2 rfl) ?_
  refine lv_imul hx hb dX9_says_41 ?_
  refine lv_iconst (v := (2 : Int32)) hx hb dX9_says_42 (by decide) ?_
  refine lv_iadd hx hb dX9_says_43 ?_
  obtain ⟨g5, hf⟩ := w_oi hf
  refine va_iald (D := Γ.1) (tys := (tysC Γ)) hx hb hK hP (5) 0 (gM_M_rows Γ (upm τ3 (15) 0 (τ3.1 (7) 0))) rfl g5 dX9_says_44 ?_
  refine w_put (X := XM Γ) (σ' := (upm (upm τ3 (15) 0 (τ3.1 (7) 0)) (16) 0 ((upm τ3 (15) 0 (τ3.1 (7) 0)).1 (10) ((((3 : Int32) * x2) + (2 : Int32))).toNatClampNeg))) (ci := 8) (C := RX9) (T := TX9) (N := 44) (ty := .int) hx hb hts iX9 tyX9 tyX9_ok nmX9 hown hK hP (halM Γ) hG hS (0) (gM_Model Γ (upm τ3 (15) 0 (τ3.1 (7) 0))) rfl 16 (by decide) (hts (.fieldLink RX9 199 "OtherHalfOfNightModel" "ofNews" "I") (wzm K205)) (fun _ h9 => h9) rfl (by decide +kernel) rfl rfl (Nat.le_of_ble_eq_true rfl) dX9_says_45 (sM_Model_ofNews Γ (upm τ3 (15) 0 (τ3.1 (7) 0)) ((upm τ3 (15) 0 (τ3.1 (7) 0)).1 (10) ((((3 : Int32) * x2) + (2 : Int32))).toNatClampNeg)) (fun H locs hP hS => ?_)
  refine lv_aload_n hx hb dX9_says_48 rfl (lv_at hl 0 rfl) ?_
  refine lv_iload_n hx hb dX9_says_49 rfl (lv_at hl 3 rfl) ?_
  refine w_put (X := XM Γ) (σ' := (upm (upm (upm τ3 (15) 0 (τ3.1 (7) 0)) (16) 0 ((upm τ3 (15) 0 (τ3.1 (7) 0)).1 (10) ((((3 : Int32) * x2) + (2 : Int32))).toNatClampNeg)) (17) 0 x3)) (ci := 8) (C := RX9) (T := TX9) (N := 44) (ty := .int) hx hb hts iX9 tyX9 tyX9_ok nmX9 hown hK hP (halM Γ) hG hS (0) (gM_Model Γ (upm (upm τ3 (15) 0 (τ3.1 (7) 0)) (16) 0 ((upm τ3 (15) 0 (τ3.1 (7) 0)).1 (10) ((((3 : Int32) * x2) + (2 : Int32))).toNatClampNeg))) rfl 17 (by decide) (hts (.fieldLink RX9 202 "OtherHalfOfNightModel" "ofTaste" "I") (wzm K206)) (fun _ h9 => h9) rfl (by decide +kernel) rfl rfl (Nat.le_of_ble_eq_true rfl) dX9_says_50 (sM_Model_ofTaste Γ (upm (upm τ3 (15) 0 (τ3.1 (7) 0)) (16) 0 ((upm τ3 (15) 0 (τ3.1 (7) 0)).1 (10) ((((3 : Int32) * x2) + (2 : Int32))).toNatClampNeg)) x3) (fun H locs hP hS => ?_)
  obtain ⟨τ6, e7, hf⟩ := w_ob hf
  replace e7 := Option.some.inj e7
  rw [e7] at hP
  refine lv_aload_n hx hb dX9_says_53 rfl (lv_at hl 0 rfl) ?_
  refine lv_aload_n hx hb dX9_says_54 rfl (lv_at hl 0 rfl) ?_
  refine va_get (D := Γ.1) (ci := 8) (v := .int (τ6.1 (8) 0)) (C := RX9) (T := TX9) (N := 44) hx hb hts iX9 hown hK hP (0) (gM_Model Γ τ6) rfl 8 (by decide) (hts (.fieldLink RX9 114 "OtherHalfOfNightModel" "hourNow" "I") (wzm K193)) (fun _ h9 => h9) rfl dX9_says_55 ?_
  refine w_put (X := XM Γ) (σ' := (upm τ6 (18) 0 (τ6.1 (8) 0))) (ci := 8) (C := RX9) (T := TX9) (N := 44) (ty := .int) hx hb hts iX9 tyX9 tyX9_ok nmX9 hown hK hP (halM Γ) hG hS (0) (gM_Model Γ τ6) rfl 18 (by decide) (hts (.fieldLink RX9 205 "OtherHalfOfNightModel" "ofHour" "I") (wzm K207)) (fun _ h9 => h9) rfl (by decide +kernel) rfl rfl (Nat.le_of_ble_eq_true rfl) dX9_says_58 (sM_Model_ofHour Γ τ6 (τ6.1 (8) 0)) (fun H locs hP hS => ?_)
  refine lv_aload_n hx hb dX9_says_61 rfl (lv_at hl 0 rfl) ?_
  refine lv_iload_n hx hb dX9_says_62 rfl (lv_at hl 1 rfl) ?_
  obtain ⟨q8, h9, hf⟩ := w_ob hf
  refine w_ci (va_runV (As := [.int x1]) (rest := []) ⟨hx, hb, hml, hown, hts⟩ (c_X9_keptRead l Γ hG x1 (upm τ6 (18) 0 (τ6.1 (8) 0)) q8.1 q8.2 h9 H.size) (cwV 1 hts (wzV K211 K208 K209 K210 K5) rfl rfl rfl (by decide +kernel) ⟨(Nat.le_of_ble_eq_true rfl), (Nat.le_of_ble_eq_true rfl)⟩) (w_preV hK hP hkc hN hS (gM_Model Γ (upm τ6 (18) 0 (τ6.1 (8) 0))) rfl) rfl rfl hl.1 rfl (lv_room (Nat.le_of_ble_eq_true rfl)) dX9_says_63 ⟨Nat.le_refl _, Nat.le_refl _⟩) hS (fun H locs hP hS => ?_)
  refine lv_istore (lv' := [(4, .int q8.1), (0, .ref (Γ.2.2.1 (0))), (1, .int x1), (2, .int x2), (3, .int x3)]) hx hb dX9_says_66 hl (by decide) rfl (fun ls hl => ?_)
  refine lv_iload_n hx hb dX9_says_68 rfl (lv_at hl 2 rfl) ?_
  refine lv_iconst (v := (1 : Int32)) hx hb dX9_says_69 (by decide) ?_
  refine lv_icmp_ne (tgt := 78) hx hb dX9_says_70 (by decide) (fun c10 => ?_) (fun c10 => ?_)
  · replace hf := (if_neg c10).symm.trans hf
    refine lv_iload hx hb dX9_says_78 (lv_at hl 0 rfl) ?_
    refine lv_iconst (v := (0 : Int32)) hx hb dX9_says_80 (by decide) ?_
    refine lv_bipush (v := (99 : Int32)) hx hb dX9_says_81 (by decide) ?_
    obtain ⟨q11, h12, hf⟩ := w_ob hf
    refine w_ci (va_runS (As := [.int q8.1, .int (0 : Int32), .int (99 : Int32)]) (rest := []) ⟨hx, hb, hml, hown, hts⟩ (c_X9_within l Γ hG q8.1 (0 : Int32) (99 : Int32) q8.2 q11.1 q11.2 h12 H.size) (cwS 3 hts (wzS K301 K299 K300 K5) rfl rfl rfl (by decide +kernel) ⟨(Nat.le_of_ble_eq_true rfl), (Nat.le_of_ble_eq_true rfl)⟩) (w_pre hK hP hkc hN hS) rfl rfl hl.1 rfl (lv_room (Nat.le_of_ble_eq_true rfl)) dX9_says_83 ⟨Nat.le_refl _, Nat.le_refl _⟩) hS (fun H locs hP hS => ?_)
    exact w_iret (X := XM Γ) hx hb hr hlocks hK hP hS rfl hf dX9_says_86
  · replace hf := (if_pos c10).symm.trans hf
    refine lv_iload hx hb dX9_says_73 (lv_at hl 0 rfl) ?_
    refine lv_goto (tgt := 86) hx hb dX9_says_75 (by decide) ?_
    exact w_iret (X := XM Γ) hx hb hr hlocks hK hP hS rfl hf dX9_says_86
def f_X9_yieldsOf_130 (x1 : Int32) (y3 : Int32) (τ : Sm) : Option (Int32 × Sm) := (f_X9_within ((2 : Int32) * y3) (0 : Int32) (99 : Int32) τ).bind fun (q27 : Int32 × Sm) => some (q27.1, q27.2)
def f_X9_yieldsOf_86 (x1 : Int32) (y2 : Int32) (y3 : Int32) (z0 : Int32) (τ : Sm) : Option (Int32 × Sm) := (f_X9_within z0 (0 : Int32) (99 : Int32) τ).bind fun (q13 : Int32 × Sm) => if y2 = (1 : Int32) then (f_X9_within q13.1 (0 : Int32) (99 : Int32) q13.2).bind fun (q25 : Int32 × Sm) => some (q25.1, q25.2) else if y2 = (3 : Int32) then (f_X9_within q13.1 (0 : Int32) (20 : Int32) q13.2).bind fun (q21 : Int32 × Sm) => (f_X9_within q21.1 (0 : Int32) (99 : Int32) q21.2).bind fun (q23 : Int32 × Sm) => some (q23.1, q23.2) else if y2 = (2 : Int32) then f_X9_yieldsOf_130 x1 (y3) q13.2 else if y2 = (4 : Int32) then f_X9_yieldsOf_130 x1 (y3) q13.2 else (f_X9_within y3 (0 : Int32) (99 : Int32) q13.2).bind fun (q19 : Int32 × Sm) => some (q19.1, q19.2)
def f_X9_yieldsOf_54 (x1 : Int32) (y2 : Int32) (τ : Sm) : Option (Int32 × Sm) := (f_X9_says (0 : Int32) x1 (0 : Int32) τ).bind fun (q9 : Int32 × Sm) => if ((q9.2.1 (7) 0) - (q9.2.1 (7) 0) / (2 : Int32) * (2 : Int32)) = (1 : Int32) then if okI ((3 : Int32) * x1) 15 then f_X9_yieldsOf_86 x1 (y2) (q9.1) ((q9.1 + (q9.2.1 (10) (((3 : Int32) * x1)).toNatClampNeg))) q9.2 else none else f_X9_yieldsOf_86 x1 (y2) (q9.1) (q9.1) q9.2
def f_X9_yieldsOf_34 (x1 : Int32) (y2 : Int32) (τ : Sm) : Option (Int32 × Sm) := if y2 = (5 : Int32) then if okI (((3 : Int32) * x1) + (2 : Int32)) 15 then if (τ.1 (10) ((((3 : Int32) * x1) + (2 : Int32))).toNatClampNeg) ≤ 0 then f_X9_yieldsOf_54 x1 (y2) τ else some ((0 : Int32), τ) else none else f_X9_yieldsOf_54 x1 (y2) τ
def f_X9_yieldsOf (x1 : Int32) (σ : Sm) : Option (Int32 × Sm) := if okI x1 5 then if okI (((3 : Int32) * x1) + (1 : Int32)) 15 then if (σ.1 (10) ((((3 : Int32) * x1) + (1 : Int32))).toNatClampNeg) = 0 then some ((0 : Int32), σ) else if (σ.1 (9) (x1).toNatClampNeg) = (4 : Int32) then if (σ.1 (8) 0) < (11 : Int32) then some ((0 : Int32), σ) else f_X9_yieldsOf_34 x1 ((σ.1 (9) (x1).toNatClampNeg)) σ else f_X9_yieldsOf_34 x1 ((σ.1 (9) (x1).toNatClampNeg)) σ else none else none
set_option maxHeartbeats 40000000 in
set_option maxRecDepth 100000 in
theorem c_X9_yieldsOf (l : Launch) (Γ : Geo) (hG : okM Γ) (x1 : Int32) (σ : Sm) (r : Int32) (σ' : Sm) (hf : f_X9_yieldsOf x1 σ = some (r, σ')) (sz : Nat) : Met l yX9_yieldsOf (wz yX9_yieldsOf cX9_yieldsOf 5 (some .int)) { frames := 74, cells := 0, slots := 0, locals := 2837 } (va_Pc [.ref (Γ.2.2.1 (0)), .int x1] (wPre Γ.1 vwCl (tysC Γ) (XM Γ) (alM Γ) Γ.2.2.2 σ sz)) (wQi Γ.1 vwCl (tysC Γ) (XM Γ) (alM Γ) r σ' sz) 0 0 (wA (alM Γ) sz) := by
  refine w_enter (cc := cX9_yieldsOf) (maxL := 5) (ret := (some .int)) (by decide) rfl (Nat.le_of_ble_eq_true rfl) ?_
  intro p e s m below meth c ls hx hb hr hlocks hml hown hts hsz hP hK hkc hN hl
  subst hsz
  generalize hav : ([.ref (Γ.2.2.1 (0)), .int x1] : List Value) = av at hl hts ⊢
  have hl : lv_has ls 5 [(0, .ref (Γ.2.2.1 (0))), (1, .int x1)] := by rw [← hav] at hl; exact hl
  have j130 : ∀ (y3 : Int32) (τ : Sm) (H : Heap) (locs : List Loc) (ls : Array Slot) (hf : f_X9_yieldsOf_130 x1 y3 τ = some (r, σ')) (hP : va_P Γ.1 vwCl (XM Γ τ) H) (hS : va_S (wA (alM Γ) s.heap.size) s.heap H locs) (hl : lv_has ls 5 [(3, .int y3)]), W p l e { frames := 74, cells := 0, slots := 0, locals := 2837 } s m av.toArray below meth c H locs 0 0 (MQ below (wQi Γ.1 vwCl (tysC Γ) (XM Γ) (alM Γ) r σ' s.heap.size) av.toArray s 0 0 (wA (alM Γ) s.heap.size)) (F0 m 130 ls []) := by
    intro y3 τ H locs ls hf hP hS hl
    unfold f_X9_yieldsOf_130 at hf
    refine lv_iconst (v := (2 : Int32)) hx hb dX9_yieldsOf_130 (by decide) ?_
    refine lv_iload_n hx hb dX9_yieldsOf_131 rfl (lv_at hl 0 rfl) ?_
    refine lv_imul hx hb dX9_yieldsOf_132 ?_
    refine lv_goto (tgt := 137) hx hb dX9_yieldsOf_133 (by decide) ?_
    refine lv_iconst (v := (0 : Int32)) hx hb dX9_yieldsOf_137 (by decide) ?_
    refine lv_bipush (v := (99 : Int32)) hx hb dX9_yieldsOf_138 (by decide) ?_
    obtain ⟨q27, h28, hf⟩ := w_ob hf
    refine w_ci (va_runS (As := [.int ((2 : Int32) * y3), .int (0 : Int32), .int (99 : Int32)]) (rest := []) ⟨hx, hb, hml, hown, hts⟩ (c_X9_within l Γ hG ((2 : Int32) * y3) (0 : Int32) (99 : Int32) τ q27.1 q27.2 h28 H.size) (cwS 3 hts (wzS K301 K299 K300 K5) rfl rfl rfl (by decide +kernel) ⟨(Nat.le_of_ble_eq_true rfl), (Nat.le_of_ble_eq_true rfl)⟩) (w_pre hK hP hkc hN hS) rfl rfl hl.1 rfl (lv_room (Nat.le_of_ble_eq_true rfl)) dX9_yieldsOf_140 ⟨Nat.le_refl _, Nat.le_refl _⟩) hS (fun H locs hP hS => ?_)
    exact w_iret (X := XM Γ) hx hb hr hlocks hK hP hS rfl hf dX9_yieldsOf_143
  have j86 : ∀ (y2 : Int32) (y3 : Int32) (z0 : Int32) (τ : Sm) (H : Heap) (locs : List Loc) (ls : Array Slot) (hf : f_X9_yieldsOf_86 x1 y2 y3 z0 τ = some (r, σ')) (hP : va_P Γ.1 vwCl (XM Γ τ) H) (hS : va_S (wA (alM Γ) s.heap.size) s.heap H locs) (hl : lv_has ls 5 [(2, .int y2), (3, .int y3)]), W p l e { frames := 74, cells := 0, slots := 0, locals := 2837 } s m av.toArray below meth c H locs 0 0 (MQ below (wQi Γ.1 vwCl (tysC Γ) (XM Γ) (alM Γ) r σ' s.heap.size) av.toArray s 0 0 (wA (alM Γ) s.heap.size)) (F0 m 86 ls [.int z0]) := by
    intro y2 y3 z0 τ H locs ls hf hP hS hl
    unfold f_X9_yieldsOf_86 at hf
    refine lv_iconst (v := (0 : Int32)) hx hb dX9_yieldsOf_86 (by decide) ?_
    refine lv_bipush (v := (99 : Int32)) hx hb dX9_yieldsOf_87 (by decide) ?_
    obtain ⟨q13, h14, hf⟩ := w_ob hf
    refine w_ci (va_runS (As := [.int z0, .int (0 : Int32), .int (99 : Int32)]) (rest := []) ⟨hx, hb, hml, hown, hts⟩ (c_X9_within l Γ hG z0 (0 : Int32) (99 : Int32) τ q13.1 q13.2 h14 H.size) (cwS 3 hts (wzS K301 K299 K300 K5) rfl rfl rfl (by decide +kernel) ⟨(Nat.le_of_ble_eq_true rfl), (Nat.le_of_ble_eq_true rfl)⟩) (w_pre hK hP hkc hN hS) rfl rfl hl.1 rfl (lv_room (Nat.le_of_ble_eq_true rfl)) dX9_yieldsOf_89 ⟨Nat.le_refl _, Nat.le_refl _⟩) hS (fun H locs hP hS => ?_)
    refine lv_istore (lv' := [(4, .int q13.1), (2, .int y2), (3, .int y3)]) hx hb dX9_yieldsOf_92 hl (by decide) rfl (fun ls hl => ?_)
    refine lv_iload_n hx hb dX9_yieldsOf_94 rfl (lv_at hl 1 rfl) ?_
    refine lv_iconst (v := (1 : Int32)) hx hb dX9_yieldsOf_95 (by decide) ?_
    refine lv_icmp_ne (tgt := 104) hx hb dX9_yieldsOf_96 (by decide) (fun c15 => ?_) (fun c15 => ?_)
    · replace hf := (if_neg c15).symm.trans hf
      refine lv_iload_n hx hb dX9_yieldsOf_104 rfl (lv_at hl 1 rfl) ?_
      refine lv_iconst (v := (3 : Int32)) hx hb dX9_yieldsOf_105 (by decide) ?_
      refine lv_icmp_ne (tgt := 120) hx hb dX9_yieldsOf_106 (by decide) (fun c16 => ?_) (fun c16 => ?_)
      · replace hf := (if_neg c16).symm.trans hf
        refine lv_iload_n hx hb dX9_yieldsOf_120 rfl (lv_at hl 1 rfl) ?_
        refine lv_iconst (v := (2 : Int32)) hx hb dX9_yieldsOf_121 (by decide) ?_
        refine lv_icmp_eq (tgt := 130) hx hb dX9_yieldsOf_122 (by decide) (fun c17 => ?_) (fun c17 => ?_)
        · replace hf := (if_pos c17).symm.trans hf
          exact j130 (y3) q13.2 H locs ls hf hP hS (lv_sub hl [2] rfl)
        · replace hf := (if_neg c17).symm.trans hf
          refine lv_iload_n hx hb dX9_yieldsOf_125 rfl (lv_at hl 1 rfl) ?_
          refine lv_iconst (v := (4 : Int32)) hx hb dX9_yieldsOf_126 (by decide) ?_
          refine lv_icmp_ne (tgt := 136) hx hb dX9_yieldsOf_127 (by decide) (fun c18 => ?_) (fun c18 => ?_)
          · replace hf := (if_neg c18).symm.trans hf
            refine lv_iload_n hx hb dX9_yieldsOf_136 rfl (lv_at hl 2 rfl) ?_
            refine lv_iconst (v := (0 : Int32)) hx hb dX9_yieldsOf_137 (by decide) ?_
            refine lv_bipush (v := (99 : Int32)) hx hb dX9_yieldsOf_138 (by decide) ?_
            obtain ⟨q19, h20, hf⟩ := w_ob hf
            refine w_ci (va_runS (As := [.int y3, .int (0 : Int32), .int (99 : Int32)]) (rest := []) ⟨hx, hb, hml, hown, hts⟩ (c_X9_within l Γ hG y3 (0 : Int32) (99 : Int32) q13.2 q19.1 q19.2 h20 H.size) (cwS 3 hts (wzS K301 K299 K300 K5) rfl rfl rfl (by decide +kernel) ⟨(Nat.le_of_ble_eq_true rfl), (Nat.le_of_ble_eq_true rfl)⟩) (w_pre hK hP hkc hN hS) rfl rfl hl.1 rfl (lv_room (Nat.le_of_ble_eq_true rfl)) dX9_yieldsOf_140 ⟨Nat.le_refl _, Nat.le_refl _⟩) hS (fun H locs hP hS => ?_)
            exact w_iret (X := XM Γ) hx hb hr hlocks hK hP hS rfl hf dX9_yieldsOf_143
          · replace hf := (if_pos c18).symm.trans hf
            exact j130 (y3) q13.2 H locs ls hf hP hS (lv_sub hl [2] rfl)
      · replace hf := (if_pos c16).symm.trans hf
        refine lv_iload hx hb dX9_yieldsOf_109 (lv_at hl 0 rfl) ?_
        refine lv_iconst (v := (0 : Int32)) hx hb dX9_yieldsOf_111 (by decide) ?_
        refine lv_bipush (v := (20 : Int32)) hx hb dX9_yieldsOf_112 (by decide) ?_
        obtain ⟨q21, h22, hf⟩ := w_ob hf
        refine w_ci (va_runS (As := [.int q13.1, .int (0 : Int32), .int (20 : Int32)]) (rest := []) ⟨hx, hb, hml, hown, hts⟩ (c_X9_within l Γ hG q13.1 (0 : Int32) (20 : Int32) q13.2 q21.1 q21.2 h22 H.size) (cwS 3 hts (wzS K301 K299 K300 K5) rfl rfl rfl (by decide +kernel) ⟨(Nat.le_of_ble_eq_true rfl), (Nat.le_of_ble_eq_true rfl)⟩) (w_pre hK hP hkc hN hS) rfl rfl hl.1 rfl (lv_room (Nat.le_of_ble_eq_true rfl)) dX9_yieldsOf_114 ⟨Nat.le_refl _, Nat.le_refl _⟩) hS (fun H locs hP hS => ?_)
        refine lv_goto (tgt := 137) hx hb dX9_yieldsOf_117 (by decide) ?_
        refine lv_iconst (v := (0 : Int32)) hx hb dX9_yieldsOf_137 (by decide) ?_
        refine lv_bipush (v := (99 : Int32)) hx hb dX9_yieldsOf_138 (by decide) ?_
        obtain ⟨q23, h24, hf⟩ := w_ob hf
        refine w_ci (va_runS (As := [.int q21.1, .int (0 : Int32), .int (99 : Int32)]) (rest := []) ⟨hx, hb, hml, hown, hts⟩ (c_X9_within l Γ hG q21.1 (0 : Int32) (99 : Int32) q21.2 q23.1 q23.2 h24 H.size) (cwS 3 hts (wzS K301 K299 K300 K5) rfl rfl rfl (by decide +kernel) ⟨(Nat.le_of_ble_eq_true rfl), (Nat.le_of_ble_eq_true rfl)⟩) (w_pre hK hP hkc hN hS) rfl rfl hl.1 rfl (lv_room (Nat.le_of_ble_eq_true rfl)) dX9_yieldsOf_140 ⟨Nat.le_refl _, Nat.le_refl _⟩) hS (fun H locs hP hS => ?_)
        exact w_iret (X := XM Γ) hx hb hr hlocks hK hP hS rfl hf dX9_yieldsOf_143
    · replace hf := (if_pos c15).symm.trans hf
      refine lv_iload hx hb dX9_yieldsOf_99 (lv_at hl 0 rfl) ?_
      refine lv_goto (tgt := 137) hx hb dX9_yieldsOf_101 (by decide) ?_
      refine lv_iconst (v := (0 : Int32)) hx hb dX9_yieldsOf_137 (by decide) ?_
      refine lv_bipush (v := (99 : Int32)) hx hb dX9_yieldsOf_138 (by decide) ?_
      obtain ⟨q25, h26, hf⟩ := w_ob hf
      refine w_ci (va_runS (As := [.int q13.1, .int (0 : Int32), .int (99 : Int32)]) (rest := []) ⟨hx, hb, hml, hown, hts⟩ (c_X9_within l Γ hG q13.1 (0 : Int32) (99 : Int32) q13.2 q25.1 q25.2 h26 H.size) (cwS 3 hts (wzS K301 K299 K300 K5) rfl rfl rfl (by decide +kernel) ⟨(Nat.le_of_ble_eq_true rfl), (Nat.le_of_ble_eq_true rfl)⟩) (w_pre hK hP hkc hN hS) rfl rfl hl.1 rfl (lv_room (Nat.le_of_ble_eq_true rfl)) dX9_yieldsOf_140 ⟨Nat.le_refl _, Nat.le_refl _⟩) hS (fun H locs hP hS => ?_)
      exact w_iret (X := XM Γ) hx hb hr hlocks hK hP hS rfl hf dX9_yieldsOf_143
  have j54 : ∀ (y2 : Int32) (τ : Sm) (H : Heap) (locs : List Loc) (ls : Array Slot) (hf : f_X9_yieldsOf_54 x1 y2 τ = some (r, σ')) (hP : va_P Γ.1 vwCl (XM Γ τ) H) (hS : va_S (wA (alM Γ) s.heap.size) s.heap H locs) (hl : lv_has ls 5 [(0, .ref (Γ.2.2.1 (0))), (1, .int x1), (2, .int y2)]), W p l e { frames := 74, cells := 0, slots := 0, locals := 2837 } s m av.toArray below meth c H locs 0 0 (MQ below (wQi Γ.1 vwCl (tysC Γ) (XM Γ) (alM Γ) r σ' s.heap.size) av.toArray s 0 0 (wA (alM Γ) s.heap.size)) (F0 m 54 ls []) := by
    intro y2 τ H locs ls hf hP hS hl
    unfold f_X9_yieldsOf_54 at hf
    refine lv_aload_n hx hb dX9_yieldsOf_54 rfl (lv_at hl 0 rfl) ?_
    refine lv_iconst (v := (0 : Int32)) hx hb dX9_yieldsOf_55 (by decide) ?_
    refine lv_iload_n hx hb dX9_yieldsOf_56 rfl (lv_at hl 1 rfl) ?_
    refine lv_iconst (v := (0 : Int32)) hx hb dX9_yieldsOf_57 (by decide) ?_
    obtain ⟨q9, h10, hf⟩ := w_ob hf
    refine w_ci (va_runV (As := [.int (0 : Int32), .int x1, .int (0 : Int32)]) (rest := []) ⟨hx, hb, hml, hown, hts⟩ (c_X9_says l Γ hG (0 : Int32) x1 (0 : Int32) τ q9.1 q9.2 h10 H.size) (cwV 3 hts (wzV K201 K198 K199 K200 K5) rfl rfl rfl (by decide +kernel) ⟨(Nat.le_of_ble_eq_true rfl), (Nat.le_of_ble_eq_true rfl)⟩) (w_preV hK hP hkc hN hS (gM_Model Γ τ) rfl) rfl rfl hl.1 rfl (lv_room (Nat.le_of_ble_eq_true rfl)) dX9_yieldsOf_58 ⟨Nat.le_refl _, Nat.le_refl _⟩) hS (fun H locs hP hS => ?_)
    refine lv_istore_n (lv' := [(3, .int q9.1), (0, .ref (Γ.2.2.1 (0))), (1, .int x1), (2, .int y2)]) hx hb dX9_yieldsOf_61 rfl hl (by decide) rfl (fun ls hl => ?_)
    refine lv_aload_n hx hb dX9_yieldsOf_62 rfl (lv_at hl 1 rfl) ?_
    refine va_get (D := Γ.1) (ci := 8) (v := .int (q9.2.1 (7) 0)) (C := RX9) (T := TX9) (N := 44) hx hb hts iX9 hown hK hP (0) (gM_Model Γ q9.2) rfl 7 (by decide) (hts (.fieldLink RX9 111 "OtherHalfOfNightModel" "nightNow" "I") (wzm K192)) (fun _ h9 => h9) rfl dX9_yieldsOf_63 ?_
    refine lv_iconst (v := (2 : Int32)) hx hb dX9_yieldsOf_66 (by decide) ?_
    refine lv_irem hx hb dX9_yieldsOf_67 (by decide) ?_
    refine lv_iconst (v := (1 : Int32)) hx hb dX9_yieldsOf_68 (by decide) ?_
    refine lv_icmp_ne (tgt := 85) hx hb dX9_yieldsOf_69 (by decide) (fun c11 => ?_) (fun c11 => ?_)
    · replace hf := (if_neg c11).symm.trans hf
      refine lv_iload_n hx hb dX9_yieldsOf_85 rfl (lv_at hl 0 rfl) ?_
      exact j86 (y2) (q9.1) (q9.1) q9.2 H locs ls hf hP hS (lv_sub hl [3, 0] rfl)
    · replace hf := (if_pos c11).symm.trans hf
      refine lv_iload_n hx hb dX9_yieldsOf_72 rfl (lv_at hl 0 rfl) ?_
      refine lv_aload_n hx hb dX9_yieldsOf_73 rfl (lv_at hl 1 rfl) ?_
      refine va_get (D := Γ.1) (ci := 8) (v := .ref (Γ.2.2.1 (5))) (C := RX9) (T := TX9) (N := 44) hx hb hts iX9 hown hK hP (0) (gM_Model Γ q9.2) rfl 10 (by decide) (hts (.fieldLink RX9 26 "OtherHalfOfNightModel" "rows" "[I") (wzm K112)) (fun _ h9 => h9) rfl dX9_yieldsOf_74 ?_
      refine lv_iconst (v := (3 : Int32)) hx hb dX9_yieldsOf_77 (by decide) ?_
      refine lv_iload_n hx hb dX9_yieldsOf_78 rfl (lv_at hl 2 rfl) ?_
      refine lv_imul hx hb dX9_yieldsOf_79 ?_
      obtain ⟨g12, hf⟩ := w_oi hf
      refine va_iald (D := Γ.1) (tys := (tysC Γ)) hx hb hK hP (5) 0 (gM_M_rows Γ q9.2) rfl g12 dX9_yieldsOf_80 ?_
      refine lv_iadd hx hb dX9_yieldsOf_81 ?_
      refine lv_goto (tgt := 86) hx hb dX9_yieldsOf_82 (by decide) ?_
      exact j86 (y2) (q9.1) ((q9.1 + (q9.2.1 (10) (((3 : Int32) * x1)).toNatClampNeg))) q9.2 H locs ls hf hP hS (lv_sub hl [3, 0] rfl)
  have j34 : ∀ (y2 : Int32) (τ : Sm) (H : Heap) (locs : List Loc) (ls : Array Slot) (hf : f_X9_yieldsOf_34 x1 y2 τ = some (r, σ')) (hP : va_P Γ.1 vwCl (XM Γ τ) H) (hS : va_S (wA (alM Γ) s.heap.size) s.heap H locs) (hl : lv_has ls 5 [(0, .ref (Γ.2.2.1 (0))), (1, .int x1), (2, .int y2)]), W p l e { frames := 74, cells := 0, slots := 0, locals := 2837 } s m av.toArray below meth c H locs 0 0 (MQ below (wQi Γ.1 vwCl (tysC Γ) (XM Γ) (alM Γ) r σ' s.heap.size) av.toArray s 0 0 (wA (alM Γ) s.heap.size)) (F0 m 34 ls []) := by
    intro y2 τ H locs ls hf hP hS hl
    unfold f_X9_yieldsOf_34 at hf
    refine lv_iload_n hx hb dX9_yieldsOf_34 rfl (lv_at hl 2 rfl) ?_
    refine lv_iconst (v := (5 : Int32)) hx hb dX9_yieldsOf_35 (by decide) ?_
    refine lv_icmp_ne (tgt := 54) hx hb dX9_yieldsOf_36 (by decide) (fun c6 => ?_) (fun c6 => ?_)
    · replace hf := (if_neg c6).symm.trans hf
      exact j54 (y2) τ H locs ls hf hP hS (lv_sub hl [0, 1, 2] rfl)
    · replace hf := (if_pos c6).symm.trans hf
      refine lv_aload_n hx hb dX9_yieldsOf_39 rfl (lv_at hl 0 rfl) ?_
      refine va_get (D := Γ.1) (ci := 8) (v := .ref (Γ.2.2.1 (5))) (C := RX9) (T := TX9) (N := 44) hx hb hts iX9 hown hK hP (0) (gM_Model Γ τ) rfl 10 (by decide) (hts (.fieldLink RX9 26 "OtherHalfOfNightModel" "rows" "[I") (wzm K112)) (fun _ h9 => h9) rfl dX9_yieldsOf_40 ?_
      refine lv_iconst (v := (3 : Int32)) hx hb dX9_yieldsOf_43 (by decide) ?_
      refine lv_iload_n hx hb dX9_yieldsOf_44 rfl (lv_at hl 1 rfl) ?_
      refine lv_imul hx hb dX9_yieldsOf_45 ?_
      refine lv_iconst (v := (2 : Int32)) hx hb dX9_yieldsOf_46 (by decide) ?_
      refine lv_iadd hx hb dX9_yieldsOf_47 ?_
      obtain ⟨g7, hf⟩ := w_oi hf
      refine va_iald (D := Γ.1) (tys := (tysC Γ)) hx hb hK hP (5) 0 (gM_M_rows Γ τ) rfl g7 dX9_yieldsOf_48 ?_
      refine lv_if_le (tgt := 54) hx hb dX9_yieldsOf_49 (by decide) (fun c8 => ?_) (fun c8 => ?_)
      · replace hf := (if_pos c8).symm.trans hf
        exact j54 (y2) τ H locs ls hf hP hS (lv_sub hl [0, 1, 2] rfl)
      · replace hf := (if_neg c8).symm.trans hf
        refine lv_iconst (v := (0 : Int32)) hx hb dX9_yieldsOf_52 (by decide) ?_
        exact w_iret (X := XM Γ) hx hb hr hlocks hK hP hS rfl hf dX9_yieldsOf_53
  suffices hw : ∀ (H : Heap) (locs : List Loc), va_P Γ.1 vwCl (XM Γ σ) H → va_S (wA (alM Γ) s.heap.size) s.heap H locs → W p l e { frames := 74, cells := 0, slots := 0, locals := 2837 } s m av.toArray below meth c H locs 0 0 (MQ below (wQi Γ.1 vwCl (tysC Γ) (XM Γ) (alM Γ) r σ' s.heap.size) av.toArray s 0 0 (wA (alM Γ) s.heap.size)) (F0 m 0 ls []) from hw _ [] hP va_S.rf
  clear hP
  intro H locs hP hS
  unfold f_X9_yieldsOf at hf
  refine lv_aload_n hx hb dX9_yieldsOf_0 rfl (lv_at hl 0 rfl) ?_
  refine va_get (D := Γ.1) (ci := 8) (v := .ref (Γ.2.2.1 (4))) (C := RX9) (T := TX9) (N := 44) hx hb hts iX9 hown hK hP (0) (gM_Model Γ σ) rfl 9 (by decide) (hts (.fieldLink RX9 23 "OtherHalfOfNightModel" "kinds" "[I") (wzm K111)) (fun _ h9 => h9) rfl dX9_yieldsOf_1 ?_
  refine lv_iload_n hx hb dX9_yieldsOf_4 rfl (lv_at hl 1 rfl) ?_
  obtain ⟨g1, hf⟩ := w_oi hf
  refine va_iald (D := Γ.1) (tys := (tysC Γ)) hx hb hK hP (4) 0 (gM_M_kinds Γ σ) rfl g1 dX9_yieldsOf_5 ?_
  refine lv_istore_n (lv' := [(2, .int (σ.1 (9) (x1).toNatClampNeg)), (0, .ref (Γ.2.2.1 (0))), (1, .int x1)]) hx hb dX9_yieldsOf_6 rfl hl (by decide) rfl (fun ls hl => ?_)
  refine lv_aload_n hx hb dX9_yieldsOf_7 rfl (lv_at hl 1 rfl) ?_
  refine va_get (D := Γ.1) (ci := 8) (v := .ref (Γ.2.2.1 (5))) (C := RX9) (T := TX9) (N := 44) hx hb hts iX9 hown hK hP (0) (gM_Model Γ σ) rfl 10 (by decide) (hts (.fieldLink RX9 26 "OtherHalfOfNightModel" "rows" "[I") (wzm K112)) (fun _ h9 => h9) rfl dX9_yieldsOf_8 ?_
  refine lv_iconst (v := (3 : Int32)) hx hb dX9_yieldsOf_11 (by decide) ?_
  refine lv_iload_n hx hb dX9_yieldsOf_12 rfl (lv_at hl 2 rfl) ?_
  refine lv_imul hx hb dX9_yieldsOf_13 ?_
  refine lv_iconst (v := (1 : Int32)) hx hb dX9_yieldsOf_14 (by decide) ?_
  refine lv_iadd hx hb dX9_yieldsOf_15 ?_
  obtain ⟨g2, hf⟩ := w_oi hf
  refine va_iald (D := Γ.1) (tys := (tysC Γ)) hx hb hK hP (5) 0 (gM_M_rows Γ σ) rfl g2 dX9_yieldsOf_16 ?_
  refine lv_if_eq (tgt := 52) hx hb dX9_yieldsOf_17 (by decide) (fun c3 => ?_) (fun c3 => ?_)
  · replace hf := (if_pos c3).symm.trans hf
    refine lv_iconst (v := (0 : Int32)) hx hb dX9_yieldsOf_52 (by decide) ?_
    exact w_iret (X := XM Γ) hx hb hr hlocks hK hP hS rfl hf dX9_yieldsOf_53
  · replace hf := (if_neg c3).symm.trans hf
    refine lv_iload_n hx hb dX9_yieldsOf_20 rfl (lv_at hl 0 rfl) ?_
    refine lv_iconst (v := (4 : Int32)) hx hb dX9_yieldsOf_21 (by decide) ?_
    refine lv_icmp_ne (tgt := 34) hx hb dX9_yieldsOf_22 (by decide) (fun c4 => ?_) (fun c4 => ?_)
    · replace hf := (if_neg c4).symm.trans hf
      exact j34 ((σ.1 (9) (x1).toNatClampNeg)) σ H locs ls hf hP hS (lv_sub hl [1, 2, 0] rfl)
    · replace hf := (if_pos c4).symm.trans hf
      refine lv_aload_n hx hb dX9_yieldsOf_25 rfl (lv_at hl 1 rfl) ?_
      refine va_get (D := Γ.1) (ci := 8) (v := .int (σ.1 (8) 0)) (C := RX9) (T := TX9) (N := 44) hx hb hts iX9 hown hK hP (0) (gM_Model Γ σ) rfl 8 (by decide) (hts (.fieldLink RX9 114 "OtherHalfOfNightModel" "hourNow" "I") (wzm K193)) (fun _ h9 => h9) rfl dX9_yieldsOf_26 ?_
      refine lv_bipush (v := (11 : Int32)) hx hb dX9_yieldsOf_29 (by decide) ?_
      refine lv_icmp_lt (tgt := 52) hx hb dX9_yieldsOf_31 (by decide) (fun c5 => ?_) (fun c5 => ?_)
      · replace hf := (if_pos c5).symm.trans hf
        refine lv_iconst (v := (0 : Int32)) hx hb dX9_yieldsOf_52 (by decide) ?_
        exact w_iret (X := XM Γ) hx hb hr hlocks hK hP hS rfl hf dX9_yieldsOf_53
      · replace hf := (if_neg c5).symm.trans hf
        exact j34 ((σ.1 (9) (x1).toNatClampNeg)) σ H locs ls hf hP hS (lv_sub hl [1, 2, 0] rfl)
def f_X9_suits_86 (x1 : Int32) (x2 : Int32) (y3 : Int32) (y4 : Int32) (y5 : Int32) (z0 : Int32) (τ : Sm) : Option (Int32 × Sm) := if y3 = (1 : Int32) then if (z0 = 0 ∨ z0 = 1) then some (z0, τ) else none else if y3 = (3 : Int32) then if z0 = 0 then if y4 = (9 : Int32) then some ((1 : Int32), τ) else some ((0 : Int32), τ) else some ((1 : Int32), τ) else if y3 = (2 : Int32) then if y5 = 0 then if (3 : Int32) ≤ y4 then some ((0 : Int32), τ) else some ((1 : Int32), τ) else some ((1 : Int32), τ) else if (y5 = 0 ∨ y5 = 1) then some (y5, τ) else none
def f_X9_suits_61 (x1 : Int32) (x2 : Int32) (y3 : Int32) (y4 : Int32) (z0 : Int32) (τ : Sm) : Option (Int32 × Sm) := if z0 = 0 then f_X9_suits_86 x1 x2 (y3) (y4) (z0) ((0 : Int32)) τ else if okI ((3 : Int32) * x1) 15 then if y4 = (τ.1 (10) (((3 : Int32) * x1)).toNatClampNeg) then f_X9_suits_86 x1 x2 (y3) (y4) (z0) ((0 : Int32)) τ else f_X9_suits_86 x1 x2 (y3) (y4) (z0) ((1 : Int32)) τ else none
def f_X9_suits_29 (x1 : Int32) (x2 : Int32) (y3 : Int32) (τ : Sm) : Option (Int32 × Sm) := if y3 = (5 : Int32) then some ((1 : Int32), τ) else if x2 = (5 : Int32) then some ((1 : Int32), τ) else some ((0 : Int32), τ)
def f_X9_suits (x1 : Int32) (x2 : Int32) (σ : Sm) : Option (Int32 × Sm) := if okI x1 5 then if okI (((3 : Int32) * x2) + (1 : Int32)) 18 then if (σ.1 (9) (x1).toNatClampNeg) = (4 : Int32) then f_X9_suits_29 x1 x2 ((σ.1 (9) (x1).toNatClampNeg)) σ else if (σ.1 (9) (x1).toNatClampNeg) = (5 : Int32) then f_X9_suits_29 x1 x2 ((σ.1 (9) (x1).toNatClampNeg)) σ else (f_X9_says (1 : Int32) x1 (σ.1 (11) ((((3 : Int32) * x2) + (1 : Int32))).toNatClampNeg) σ).bind fun (q5 : Int32 × Sm) => if q5.1 = 0 then f_X9_suits_61 x1 x2 ((σ.1 (9) (x1).toNatClampNeg)) ((σ.1 (11) ((((3 : Int32) * x2) + (1 : Int32))).toNatClampNeg)) ((0 : Int32)) q5.2 else f_X9_suits_61 x1 x2 ((σ.1 (9) (x1).toNatClampNeg)) ((σ.1 (11) ((((3 : Int32) * x2) + (1 : Int32))).toNatClampNeg)) ((1 : Int32)) q5.2 else none else none
set_option maxHeartbeats 40000000 in
set_option maxRecDepth 100000 in
theorem c_X9_suits (l : Launch) (Γ : Geo) (hG : okM Γ) (x1 : Int32) (x2 : Int32) (σ : Sm) (r : Int32) (σ' : Sm) (hf : f_X9_suits x1 x2 σ = some (r, σ')) (sz : Nat) : Met l yX9_suits (wz yX9_suits cX9_suits 7 (some .boolean)) { frames := 74, cells := 0, slots := 0, locals := 2837 } (va_Pc [.ref (Γ.2.2.1 (0)), .int x1, .int x2] (wPre Γ.1 vwCl (tysC Γ) (XM Γ) (alM Γ) Γ.2.2.2 σ sz)) (wQi Γ.1 vwCl (tysC Γ) (XM Γ) (alM Γ) r σ' sz) 0 0 (wA (alM Γ) sz) := by
  refine w_enter (cc := cX9_suits) (maxL := 7) (ret := (some .boolean)) (by decide) rfl (Nat.le_of_ble_eq_true rfl) ?_
  intro p e s m below meth c ls hx hb hr hlocks hml hown hts hsz hP hK hkc hN hl
  subst hsz
  generalize hav : ([.ref (Γ.2.2.1 (0)), .int x1, .int x2] : List Value) = av at hl hts ⊢
  have hl : lv_has ls 7 [(0, .ref (Γ.2.2.1 (0))), (1, .int x1), (2, .int x2)] := by rw [← hav] at hl; exact hl
  have j86 : ∀ (y3 : Int32) (y4 : Int32) (y5 : Int32) (z0 : Int32) (τ : Sm) (H : Heap) (locs : List Loc) (ls : Array Slot) (hf : f_X9_suits_86 x1 x2 y3 y4 y5 z0 τ = some (r, σ')) (hP : va_P Γ.1 vwCl (XM Γ τ) H) (hS : va_S (wA (alM Γ) s.heap.size) s.heap H locs) (hl : lv_has ls 7 [(3, .int y3), (4, .int y4), (5, .int y5)]), W p l e { frames := 74, cells := 0, slots := 0, locals := 2837 } s m av.toArray below meth c H locs 0 0 (MQ below (wQi Γ.1 vwCl (tysC Γ) (XM Γ) (alM Γ) r σ' s.heap.size) av.toArray s 0 0 (wA (alM Γ) s.heap.size)) (F0 m 86 ls [.int z0]) := by
    intro y3 y4 y5 z0 τ H locs ls hf hP hS hl
    unfold f_X9_suits_86 at hf
    refine lv_istore (lv' := [(6, .int z0), (3, .int y3), (4, .int y4), (5, .int y5)]) hx hb dX9_suits_86 hl (by decide) rfl (fun ls hl => ?_)
    refine lv_iload_n hx hb dX9_suits_88 rfl (lv_at hl 1 rfl) ?_
    refine lv_iconst (v := (1 : Int32)) hx hb dX9_suits_89 (by decide) ?_
    refine lv_icmp_ne (tgt := 98) hx hb dX9_suits_90 (by decide) (fun c13 => ?_) (fun c13 => ?_)
    · replace hf := (if_neg c13).symm.trans hf
      refine lv_iload_n hx hb dX9_suits_98 rfl (lv_at hl 1 rfl) ?_
      refine lv_iconst (v := (3 : Int32)) hx hb dX9_suits_99 (by decide) ?_
      refine lv_icmp_ne (tgt := 123) hx hb dX9_suits_100 (by decide) (fun c14 => ?_) (fun c14 => ?_)
      · replace hf := (if_neg c14).symm.trans hf
        refine lv_iload_n hx hb dX9_suits_123 rfl (lv_at hl 1 rfl) ?_
        refine lv_iconst (v := (2 : Int32)) hx hb dX9_suits_124 (by decide) ?_
        refine lv_icmp_ne (tgt := 147) hx hb dX9_suits_125 (by decide) (fun c15 => ?_) (fun c15 => ?_)
        · replace hf := (if_neg c15).symm.trans hf
          refine lv_iload hx hb dX9_suits_147 (lv_at hl 3 rfl) ?_
          obtain ⟨g16, hf⟩ := w_oi hf
          exact w_iret (X := XM Γ) hx hb hr hlocks hK hP hS (w_nb g16) hf dX9_suits_149
        · replace hf := (if_pos c15).symm.trans hf
          refine lv_iload hx hb dX9_suits_128 (lv_at hl 3 rfl) ?_
          refine lv_if_ne (tgt := 139) hx hb dX9_suits_130 (by decide) (fun c17 => ?_) (fun c17 => ?_)
          · replace hf := (if_neg c17).symm.trans hf
            refine lv_iconst (v := (1 : Int32)) hx hb dX9_suits_139 (by decide) ?_
            refine lv_goto (tgt := 149) hx hb dX9_suits_140 (by decide) ?_
            exact w_iret (X := XM Γ) hx hb hr hlocks hK hP hS (by decide) hf dX9_suits_149
          · replace hf := (if_pos c17).symm.trans hf
            refine lv_iload hx hb dX9_suits_133 (lv_at hl 2 rfl) ?_
            refine lv_iconst (v := (3 : Int32)) hx hb dX9_suits_135 (by decide) ?_
            refine lv_icmp_ge (tgt := 143) hx hb dX9_suits_136 (by decide) (fun c18 => ?_) (fun c18 => ?_)
            · replace hf := (if_pos c18).symm.trans hf
              refine lv_iconst (v := (0 : Int32)) hx hb dX9_suits_143 (by decide) ?_
              refine lv_goto (tgt := 149) hx hb dX9_suits_144 (by decide) ?_
              exact w_iret (X := XM Γ) hx hb hr hlocks hK hP hS (by decide) hf dX9_suits_149
            · replace hf := (if_neg c18).symm.trans hf
              refine lv_iconst (v := (1 : Int32)) hx hb dX9_suits_139 (by decide) ?_
              refine lv_goto (tgt := 149) hx hb dX9_suits_140 (by decide) ?_
              exact w_iret (X := XM Γ) hx hb hr hlocks hK hP hS (by decide) hf dX9_suits_149
      · replace hf := (if_pos c14).symm.trans hf
        refine lv_iload hx hb dX9_suits_103 (lv_at hl 0 rfl) ?_
        refine lv_if_ne (tgt := 115) hx hb dX9_suits_105 (by decide) (fun c19 => ?_) (fun c19 => ?_)
        · replace hf := (if_neg c19).symm.trans hf
          refine lv_iconst (v := (1 : Int32)) hx hb dX9_suits_115 (by decide) ?_
          refine lv_goto (tgt := 149) hx hb dX9_suits_116 (by decide) ?_
          exact w_iret (X := XM Γ) hx hb hr hlocks hK hP hS (by decide) hf dX9_suits_149
        · replace hf := (if_pos c19).symm.trans hf
          refine lv_iload hx hb dX9_suits_108 (lv_at hl 2 rfl) ?_
          refine lv_bipush (v := (9 : Int32)) hx hb dX9_suits_110 (by decide) ?_
          refine lv_icmp_ne (tgt := 119) hx hb dX9_suits_112 (by decide) (fun c20 => ?_) (fun c20 => ?_)
          · replace hf := (if_neg c20).symm.trans hf
            refine lv_iconst (v := (0 : Int32)) hx hb dX9_suits_119 (by decide) ?_
            refine lv_goto (tgt := 149) hx hb dX9_suits_120 (by decide) ?_
            exact w_iret (X := XM Γ) hx hb hr hlocks hK hP hS (by decide) hf dX9_suits_149
          · replace hf := (if_pos c20).symm.trans hf
            refine lv_iconst (v := (1 : Int32)) hx hb dX9_suits_115 (by decide) ?_
            refine lv_goto (tgt := 149) hx hb dX9_suits_116 (by decide) ?_
            exact w_iret (X := XM Γ) hx hb hr hlocks hK hP hS (by decide) hf dX9_suits_149
    · replace hf := (if_pos c13).symm.trans hf
      refine lv_iload hx hb dX9_suits_93 (lv_at hl 0 rfl) ?_
      refine lv_goto (tgt := 149) hx hb dX9_suits_95 (by decide) ?_
      obtain ⟨g21, hf⟩ := w_oi hf
      exact w_iret (X := XM Γ) hx hb hr hlocks hK hP hS (w_nb g21) hf dX9_suits_149
  have j61 : ∀ (y3 : Int32) (y4 : Int32) (z0 : Int32) (τ : Sm) (H : Heap) (locs : List Loc) (ls : Array Slot) (hf : f_X9_suits_61 x1 x2 y3 y4 z0 τ = some (r, σ')) (hP : va_P Γ.1 vwCl (XM Γ τ) H) (hS : va_S (wA (alM Γ) s.heap.size) s.heap H locs) (hl : lv_has ls 7 [(0, .ref (Γ.2.2.1 (0))), (1, .int x1), (3, .int y3), (4, .int y4)]), W p l e { frames := 74, cells := 0, slots := 0, locals := 2837 } s m av.toArray below meth c H locs 0 0 (MQ below (wQi Γ.1 vwCl (tysC Γ) (XM Γ) (alM Γ) r σ' s.heap.size) av.toArray s 0 0 (wA (alM Γ) s.heap.size)) (F0 m 61 ls [.int z0]) := by
    intro y3 y4 z0 τ H locs ls hf hP hS hl
    unfold f_X9_suits_61 at hf
    refine lv_istore (lv' := [(5, .int z0), (0, .ref (Γ.2.2.1 (0))), (1, .int x1), (3, .int y3), (4, .int y4)]) hx hb dX9_suits_61 hl (by decide) rfl (fun ls hl => ?_)
    refine lv_iload hx hb dX9_suits_63 (lv_at hl 0 rfl) ?_
    refine lv_if_eq (tgt := 85) hx hb dX9_suits_65 (by decide) (fun c10 => ?_) (fun c10 => ?_)
    · replace hf := (if_pos c10).symm.trans hf
      refine lv_iconst (v := (0 : Int32)) hx hb dX9_suits_85 (by decide) ?_
      exact j86 (y3) (y4) (z0) ((0 : Int32)) τ H locs ls hf hP hS (lv_sub hl [3, 4, 0] rfl)
    · replace hf := (if_neg c10).symm.trans hf
      refine lv_iload hx hb dX9_suits_68 (lv_at hl 4 rfl) ?_
      refine lv_aload_n hx hb dX9_suits_70 rfl (lv_at hl 1 rfl) ?_
      refine va_get (D := Γ.1) (ci := 8) (v := .ref (Γ.2.2.1 (5))) (C := RX9) (T := TX9) (N := 44) hx hb hts iX9 hown hK hP (0) (gM_Model Γ τ) rfl 10 (by decide) (hts (.fieldLink RX9 26 "OtherHalfOfNightModel" "rows" "[I") (wzm K112)) (fun _ h9 => h9) rfl dX9_suits_71 ?_
      refine lv_iconst (v := (3 : Int32)) hx hb dX9_suits_74 (by decide) ?_
      refine lv_iload_n hx hb dX9_suits_75 rfl (lv_at hl 2 rfl) ?_
      refine lv_imul hx hb dX9_suits_76 ?_
      obtain ⟨g11, hf⟩ := w_oi hf
      refine va_iald (D := Γ.1) (tys := (tysC Γ)) hx hb hK hP (5) 0 (gM_M_rows Γ τ) rfl g11 dX9_suits_77 ?_
      refine lv_icmp_eq (tgt := 85) hx hb dX9_suits_78 (by decide) (fun c12 => ?_) (fun c12 => ?_)
      · replace hf := (if_pos c12).symm.trans hf
        refine lv_iconst (v := (0 : Int32)) hx hb dX9_suits_85 (by decide) ?_
        exact j86 (y3) (y4) (z0) ((0 : Int32)) τ H locs ls hf hP hS (lv_sub hl [3, 4, 0] rfl)
      · replace hf := (if_neg c12).symm.trans hf
        refine lv_iconst (v := (1 : Int32)) hx hb dX9_suits_81 (by decide) ?_
        refine lv_goto (tgt := 86) hx hb dX9_suits_82 (by decide) ?_
        exact j86 (y3) (y4) (z0) ((1 : Int32)) τ H locs ls hf hP hS (lv_sub hl [3, 4, 0] rfl)
  have j29 : ∀ (y3 : Int32) (τ : Sm) (H : Heap) (locs : List Loc) (ls : Array Slot) (hf : f_X9_suits_29 x1 x2 y3 τ = some (r, σ')) (hP : va_P Γ.1 vwCl (XM Γ τ) H) (hS : va_S (wA (alM Γ) s.heap.size) s.heap H locs) (hl : lv_has ls 7 [(2, .int x2), (3, .int y3)]), W p l e { frames := 74, cells := 0, slots := 0, locals := 2837 } s m av.toArray below meth c H locs 0 0 (MQ below (wQi Γ.1 vwCl (tysC Γ) (XM Γ) (alM Γ) r σ' s.heap.size) av.toArray s 0 0 (wA (alM Γ) s.heap.size)) (F0 m 29 ls []) := by
    intro y3 τ H locs ls hf hP hS hl
    unfold f_X9_suits_29 at hf
    refine lv_iload_n hx hb dX9_suits_29 rfl (lv_at hl 1 rfl) ?_
    refine lv_iconst (v := (5 : Int32)) hx hb dX9_suits_30 (by decide) ?_
    refine lv_icmp_eq (tgt := 39) hx hb dX9_suits_31 (by decide) (fun c8 => ?_) (fun c8 => ?_)
    · replace hf := (if_pos c8).symm.trans hf
      refine lv_iconst (v := (1 : Int32)) hx hb dX9_suits_39 (by decide) ?_
      refine lv_goto (tgt := 44) hx hb dX9_suits_40 (by decide) ?_
      exact w_iret (X := XM Γ) hx hb hr hlocks hK hP hS (by decide) hf dX9_suits_44
    · replace hf := (if_neg c8).symm.trans hf
      refine lv_iload_n hx hb dX9_suits_34 rfl (lv_at hl 0 rfl) ?_
      refine lv_iconst (v := (5 : Int32)) hx hb dX9_suits_35 (by decide) ?_
      refine lv_icmp_ne (tgt := 43) hx hb dX9_suits_36 (by decide) (fun c9 => ?_) (fun c9 => ?_)
      · replace hf := (if_neg c9).symm.trans hf
        refine lv_iconst (v := (0 : Int32)) hx hb dX9_suits_43 (by decide) ?_
        exact w_iret (X := XM Γ) hx hb hr hlocks hK hP hS (by decide) hf dX9_suits_44
      · replace hf := (if_pos c9).symm.trans hf
        refine lv_iconst (v := (1 : Int32)) hx hb dX9_suits_39 (by decide) ?_
        refine lv_goto (tgt := 44) hx hb dX9_suits_40 (by decide) ?_
        exact w_iret (X := XM Γ) hx hb hr hlocks hK hP hS (by decide) hf dX9_suits_44
  suffices hw : ∀ (H : Heap) (locs : List Loc), va_P Γ.1 vwCl (XM Γ σ) H → va_S (wA (alM Γ) s.heap.size) s.heap H locs → W p l e { frames := 74, cells := 0, slots := 0, locals := 2837 } s m av.toArray below meth c H locs 0 0 (MQ below (wQi Γ.1 vwCl (tysC Γ) (XM Γ) (alM Γ) r σ' s.heap.size) av.toArray s 0 0 (wA (alM Γ) s.heap.size)) (F0 m 0 ls []) from hw _ [] hP va_S.rf
  clear hP
  intro H locs hP hS
  unfold f_X9_suits at hf
  refine lv_aload_n hx hb dX9_suits_0 rfl (lv_at hl 0 rfl) ?_
  refine va_get (D := Γ.1) (ci := 8) (v := .ref (Γ.2.2.1 (4))) (C := RX9) (T := TX9) (N := 44) hx hb hts iX9 hown hK hP (0) (gM_Model Γ σ) rfl 9 (by decide) (hts (.fieldLink RX9 23 "OtherHalfOfNightModel" "kinds" "[I") (wzm K111)) (fun _ h9 => h9) rfl dX9_suits_1 ?_
  refine lv_iload_n hx hb dX9_suits_4 rfl (lv_at hl 1 rfl) ?_
  obtain ⟨g1, hf⟩ := w_oi hf
  refine va_iald (D := Γ.1) (tys := (tysC Γ)) hx hb hK hP (4) 0 (gM_M_kinds Γ σ) rfl g1 dX9_suits_5 ?_
  refine lv_istore_n (lv' := [(3, .int (σ.1 (9) (x1).toNatClampNeg)), (0, .ref (Γ.2.2.1 (0))), (1, .int x1), (2, .int x2)]) hx hb dX9_suits_6 rfl hl (by decide) rfl (fun ls hl => ?_)
  refine lv_aload_n hx hb dX9_suits_7 rfl (lv_at hl 1 rfl) ?_
  refine va_get (D := Γ.1) (ci := 8) (v := .ref (Γ.2.2.1 (6))) (C := RX9) (T := TX9) (N := 44) hx hb hts iX9 hown hK hP (0) (gM_Model Γ σ) rfl 11 (by decide) (hts (.fieldLink RX9 29 "OtherHalfOfNightModel" "cups" "[I") (wzm K113)) (fun _ h9 => h9) rfl dX9_suits_8 ?_
  refine lv_iconst (v := (3 : Int32)) hx hb dX9_suits_11 (by decide) ?_
  refine lv_iload_n hx hb dX9_suits_12 rfl (lv_at hl 3 rfl) ?_
  refine lv_imul hx hb dX9_suits_13 ?_
  refine lv_iconst (v := (1 : Int32)) hx hb dX9_suits_14 (by decide) ?_
  refine lv_iadd hx hb dX9_suits_15 ?_
  obtain ⟨g2, hf⟩ := w_oi hf
  refine va_iald (D := Γ.1) (tys := (tysC Γ)) hx hb hK hP (6) 0 (gM_M_cups Γ σ) rfl g2 dX9_suits_16 ?_
  refine lv_istore (lv' := [(4, .int (σ.1 (11) ((((3 : Int32) * x2) + (1 : Int32))).toNatClampNeg)), (3, .int (σ.1 (9) (x1).toNatClampNeg)), (0, .ref (Γ.2.2.1 (0))), (1, .int x1), (2, .int x2)]) hx hb dX9_suits_17 hl (by decide) rfl (fun ls hl => ?_)
  refine lv_iload_n hx hb dX9_suits_19 rfl (lv_at hl 1 rfl) ?_
  refine lv_iconst (v := (4 : Int32)) hx hb dX9_suits_20 (by decide) ?_
  refine lv_icmp_eq (tgt := 29) hx hb dX9_suits_21 (by decide) (fun c3 => ?_) (fun c3 => ?_)
  · replace hf := (if_pos c3).symm.trans hf
    exact j29 ((σ.1 (9) (x1).toNatClampNeg)) σ H locs ls hf hP hS (lv_sub hl [4, 1] rfl)
  · replace hf := (if_neg c3).symm.trans hf
    refine lv_iload_n hx hb dX9_suits_24 rfl (lv_at hl 1 rfl) ?_
    refine lv_iconst (v := (5 : Int32)) hx hb dX9_suits_25 (by decide) ?_
    refine lv_icmp_ne (tgt := 45) hx hb dX9_suits_26 (by decide) (fun c4 => ?_) (fun c4 => ?_)
    · replace hf := (if_neg c4).symm.trans hf
      refine lv_aload_n hx hb dX9_suits_45 rfl (lv_at hl 2 rfl) ?_
      refine lv_iconst (v := (1 : Int32)) hx hb dX9_suits_46 (by decide) ?_
      refine lv_iload_n hx hb dX9_suits_47 rfl (lv_at hl 3 rfl) ?_
      refine lv_iload hx hb dX9_suits_48 (lv_at hl 0 rfl) ?_
      obtain ⟨q5, h6, hf⟩ := w_ob hf
      refine w_ci (va_runV (As := [.int (1 : Int32), .int x1, .int (σ.1 (11) ((((3 : Int32) * x2) + (1 : Int32))).toNatClampNeg)]) (rest := []) ⟨hx, hb, hml, hown, hts⟩ (c_X9_says l Γ hG (1 : Int32) x1 (σ.1 (11) ((((3 : Int32) * x2) + (1 : Int32))).toNatClampNeg) σ q5.1 q5.2 h6 H.size) (cwV 3 hts (wzV K201 K198 K199 K200 K5) rfl rfl rfl (by decide +kernel) ⟨(Nat.le_of_ble_eq_true rfl), (Nat.le_of_ble_eq_true rfl)⟩) (w_preV hK hP hkc hN hS (gM_Model Γ σ) rfl) rfl rfl hl.1 rfl (lv_room (Nat.le_of_ble_eq_true rfl)) dX9_suits_50 ⟨Nat.le_refl _, Nat.le_refl _⟩) hS (fun H locs hP hS => ?_)
      refine lv_if_eq (tgt := 60) hx hb dX9_suits_53 (by decide) (fun c7 => ?_) (fun c7 => ?_)
      · replace hf := (if_pos c7).symm.trans hf
        refine lv_iconst (v := (0 : Int32)) hx hb dX9_suits_60 (by decide) ?_
        exact j61 ((σ.1 (9) (x1).toNatClampNeg)) ((σ.1 (11) ((((3 : Int32) * x2) + (1 : Int32))).toNatClampNeg)) ((0 : Int32)) q5.2 H locs ls hf hP hS (lv_sub hl [2, 3, 1, 0] rfl)
      · replace hf := (if_neg c7).symm.trans hf
        refine lv_iconst (v := (1 : Int32)) hx hb dX9_suits_56 (by decide) ?_
        refine lv_goto (tgt := 61) hx hb dX9_suits_57 (by decide) ?_
        exact j61 ((σ.1 (9) (x1).toNatClampNeg)) ((σ.1 (11) ((((3 : Int32) * x2) + (1 : Int32))).toNatClampNeg)) ((1 : Int32)) q5.2 H locs ls hf hP hS (lv_sub hl [2, 3, 1, 0] rfl)
    · replace hf := (if_pos c4).symm.trans hf
      exact j29 ((σ.1 (9) (x1).toNatClampNeg)) σ H locs ls hf hP hS (lv_sub hl [4, 1] rfl)
def f_X9_suitSet_25 (k4 : Int32 → Int32 → Sm → Option (Int32 × Sm)) (x1 : Int32) (y3 : Int32) (z0 : Int32) (z1 : Int32) (τ : Sm) : Option (Int32 × Sm) := k4 ((z0 ||| (z1 <<< (y3 &&& 31)))) ((y3 + (1 : Int32))) τ
def f_X9_suitSet_4 (x1 : Int32) : Nat → Int32 → Int32 → Sm → Option (Int32 × Sm)
  | 0, _, _, _ => none
  | n + 1, y2, y3, τ => if (6 : Int32) ≤ y3 then some (y2, τ) else (f_X9_suits x1 y3 τ).bind fun (q2 : Int32 × Sm) => if q2.1 = 0 then f_X9_suitSet_25 (f_X9_suitSet_4 x1 n) x1 (y3) (y2) ((0 : Int32)) q2.2 else f_X9_suitSet_25 (f_X9_suitSet_4 x1 n) x1 (y3) (y2) ((1 : Int32)) q2.2
def f_X9_suitSet (x1 : Int32) (σ : Sm) : Option (Int32 × Sm) := f_X9_suitSet_4 x1 5000 ((0 : Int32)) ((0 : Int32)) σ
set_option maxHeartbeats 40000000 in
set_option maxRecDepth 100000 in
theorem c_X9_suitSet (l : Launch) (Γ : Geo) (hG : okM Γ) (x1 : Int32) (σ : Sm) (r : Int32) (σ' : Sm) (hf : f_X9_suitSet x1 σ = some (r, σ')) (sz : Nat) : Met l yX9_suitSet (wz yX9_suitSet cX9_suitSet 4 (some .int)) { frames := 75, cells := 0, slots := 0, locals := 2863 } (va_Pc [.ref (Γ.2.2.1 (0)), .int x1] (wPre Γ.1 vwCl (tysC Γ) (XM Γ) (alM Γ) Γ.2.2.2 σ sz)) (wQi Γ.1 vwCl (tysC Γ) (XM Γ) (alM Γ) r σ' sz) 0 0 (wA (alM Γ) sz) := by
  refine w_enter (cc := cX9_suitSet) (maxL := 4) (ret := (some .int)) (by decide) rfl (Nat.le_of_ble_eq_true rfl) ?_
  intro p e s m below meth c ls hx hb hr hlocks hml hown hts hsz hP hK hkc hN hl
  subst hsz
  generalize hav : ([.ref (Γ.2.2.1 (0)), .int x1] : List Value) = av at hl hts ⊢
  have hl : lv_has ls 4 [(0, .ref (Γ.2.2.1 (0))), (1, .int x1)] := by rw [← hav] at hl; exact hl
  have j4 : ∀ (n4 : Nat), ∀ (y2 : Int32) (y3 : Int32) (τ : Sm) (H : Heap) (locs : List Loc) (ls : Array Slot) (hf : f_X9_suitSet_4 x1 n4 y2 y3 τ = some (r, σ')) (hP : va_P Γ.1 vwCl (XM Γ τ) H) (hS : va_S (wA (alM Γ) s.heap.size) s.heap H locs) (hl : lv_has ls 4 [(0, .ref (Γ.2.2.1 (0))), (1, .int x1), (2, .int y2), (3, .int y3)]), W p l e { frames := 75, cells := 0, slots := 0, locals := 2863 } s m av.toArray below meth c H locs 0 0 (MQ below (wQi Γ.1 vwCl (tysC Γ) (XM Γ) (alM Γ) r σ' s.heap.size) av.toArray s 0 0 (wA (alM Γ) s.heap.size)) (F0 m 4 ls []) := by
    intro n4
    induction n4 with
    | zero =>
      intro y2 y3 τ H locs ls hf
      exact absurd hf (by intro h; cases h)
    | succ n4 ih4 =>
      have j25 : ∀ (y3 : Int32) (z0 : Int32) (z1 : Int32) (τ : Sm) (H : Heap) (locs : List Loc) (ls : Array Slot) (hf : f_X9_suitSet_25 (f_X9_suitSet_4 x1 n4) x1 y3 z0 z1 τ = some (r, σ')) (hP : va_P Γ.1 vwCl (XM Γ τ) H) (hS : va_S (wA (alM Γ) s.heap.size) s.heap H locs) (hl : lv_has ls 4 [(0, .ref (Γ.2.2.1 (0))), (1, .int x1), (3, .int y3)]), W p l e { frames := 75, cells := 0, slots := 0, locals := 2863 } s m av.toArray below meth c H locs 0 0 (MQ below (wQi Γ.1 vwCl (tysC Γ) (XM Γ) (alM Γ) r σ' s.heap.size) av.toArray s 0 0 (wA (alM Γ) s.heap.size)) (F0 m 25 ls [.int z1, .int z0]) := by
        intro y3 z0 z1 τ H locs ls hf hP hS hl
        unfold f_X9_suitSet_25 at hf
        refine lv_iload_n hx hb dX9_suitSet_25 rfl (lv_at hl 2 rfl) ?_
        refine lv_ishl hx hb dX9_suitSet_26 ?_
        refine lv_ior hx hb dX9_suitSet_27 ?_
        refine lv_istore_n (lv' := [(2, .int (z0 ||| (z1 <<< (y3 &&& 31)))), (0, .ref (Γ.2.2.1 (0))), (1, .int x1), (3, .int y3)]) hx hb dX9_suitSet_28 rfl hl (by decide) rfl (fun ls hl => ?_)
        refine lv_iinc (v := (y3 + (1 : Int32))) (lv' := [(3, .int (y3 + (1 : Int32))), (2, .int (z0 ||| (z1 <<< (y3 &&& 31)))), (0, .ref (Γ.2.2.1 (0))), (1, .int x1)]) hx hb dX9_suitSet_29 hl (k := 3) rfl rfl (by decide) rfl (fun ls hl => ?_)
        refine lv_goto (tgt := 4) hx hb dX9_suitSet_32 (by decide) ?_
        exact ih4 ((z0 ||| (z1 <<< (y3 &&& 31)))) ((y3 + (1 : Int32))) τ H locs ls hf hP hS (lv_sub hl [2, 3, 1, 0] rfl)
      intro y2 y3 τ H locs ls hf hP hS hl
      unfold f_X9_suitSet_4 at hf
      refine lv_iload_n hx hb dX9_suitSet_4 rfl (lv_at hl 3 rfl) ?_
      refine lv_bipush (v := (6 : Int32)) hx hb dX9_suitSet_5 (by decide) ?_
      refine lv_icmp_ge (tgt := 35) hx hb dX9_suitSet_7 (by decide) (fun c1 => ?_) (fun c1 => ?_)
      · replace hf := (if_pos c1).symm.trans hf
        refine lv_iload_n hx hb dX9_suitSet_35 rfl (lv_at hl 2 rfl) ?_
        exact w_iret (X := XM Γ) hx hb hr hlocks hK hP hS rfl hf dX9_suitSet_36
      · replace hf := (if_neg c1).symm.trans hf
        refine lv_iload_n hx hb dX9_suitSet_10 rfl (lv_at hl 2 rfl) ?_
        refine lv_aload_n hx hb dX9_suitSet_11 rfl (lv_at hl 0 rfl) ?_
        refine lv_iload_n hx hb dX9_suitSet_12 rfl (lv_at hl 1 rfl) ?_
        refine lv_iload_n hx hb dX9_suitSet_13 rfl (lv_at hl 3 rfl) ?_
        obtain ⟨q2, h3, hf⟩ := w_ob hf
        refine w_ci (va_runV (As := [.int x1, .int y3]) (rest := [.int y2]) ⟨hx, hb, hml, hown, hts⟩ (c_X9_suits l Γ hG x1 y3 τ q2.1 q2.2 h3 H.size) (cwV 2 hts (wzV K309 K306 K307 K308 K5) rfl rfl rfl (by decide +kernel) ⟨(Nat.le_of_ble_eq_true rfl), (Nat.le_of_ble_eq_true rfl)⟩) (w_preV hK hP hkc hN hS (gM_Model Γ τ) rfl) rfl rfl hl.1 rfl (lv_room (Nat.le_of_ble_eq_true rfl)) dX9_suitSet_14 ⟨Nat.le_refl _, Nat.le_refl _⟩) hS (fun H locs hP hS => ?_)
        refine lv_if_eq (tgt := 24) hx hb dX9_suitSet_17 (by decide) (fun c4 => ?_) (fun c4 => ?_)
        · replace hf := (if_pos c4).symm.trans hf
          refine lv_iconst (v := (0 : Int32)) hx hb dX9_suitSet_24 (by decide) ?_
          exact j25 (y3) (y2) ((0 : Int32)) q2.2 H locs ls hf hP hS (lv_sub hl [0, 1, 3] rfl)
        · replace hf := (if_neg c4).symm.trans hf
          refine lv_iconst (v := (1 : Int32)) hx hb dX9_suitSet_20 (by decide) ?_
          refine lv_goto (tgt := 25) hx hb dX9_suitSet_21 (by decide) ?_
          exact j25 (y3) (y2) ((1 : Int32)) q2.2 H locs ls hf hP hS (lv_sub hl [0, 1, 3] rfl)
  suffices hw : ∀ (H : Heap) (locs : List Loc), va_P Γ.1 vwCl (XM Γ σ) H → va_S (wA (alM Γ) s.heap.size) s.heap H locs → W p l e { frames := 75, cells := 0, slots := 0, locals := 2863 } s m av.toArray below meth c H locs 0 0 (MQ below (wQi Γ.1 vwCl (tysC Γ) (XM Γ) (alM Γ) r σ' s.heap.size) av.toArray s 0 0 (wA (alM Γ) s.heap.size)) (F0 m 0 ls []) from hw _ [] hP va_S.rf
  clear hP
  intro H locs hP hS
  unfold f_X9_suitSet at hf
  refine lv_iconst (v := (0 : Int32)) hx hb dX9_suitSet_0 (by decide) ?_
  refine lv_istore_n (lv' := [(2, .int (0 : Int32)), (0, .ref (Γ.2.2.1 (0))), (1, .int x1)]) hx hb dX9_suitSet_1 rfl hl (by decide) rfl (fun ls hl => ?_)
  refine lv_iconst (v := (0 : Int32)) hx hb dX9_suitSet_2 (by decide) ?_
  refine lv_istore_n (lv' := [(3, .int (0 : Int32)), (2, .int (0 : Int32)), (0, .ref (Γ.2.2.1 (0))), (1, .int x1)]) hx hb dX9_suitSet_3 rfl hl (by decide) rfl (fun ls hl => ?_)
  exact j4 5000 ((0 : Int32)) ((0 : Int32)) σ H locs ls hf hP hS (lv_sub hl [2, 3, 1, 0] rfl)
def f_X9_told (x1 : Int32) (x2 : Int32) (σ : Sm) : Option (Int32 × Sm) := (f_X9_in ((x2).toInt64) (0 : Int64) (10 : Int64) σ).bind fun (q1 : Int32 × Sm) => if q1.1 = 0 then some ((-2 : Int32), q1.2) else (f_X9_isOf x2 x1 q1.2).bind fun (q4 : Int32 × Sm) => if q4.1 = 0 then some ((-2 : Int32), q4.2) else if (5 : Int32) ≤ x2 then if (8 : Int32) ≤ x2 then if x2 = (8 : Int32) then (f_X9_yieldsOf x1 q4.2).bind fun (q14 : Int32 × Sm) => some (q14.1, q14.2) else if x2 = (9 : Int32) then (f_X9_suitSet x1 q4.2).bind fun (q12 : Int32 × Sm) => some (q12.1, q12.2) else if okI (((3 : Int32) * x1) + (2 : Int32)) 18 then some ((q4.2.1 (11) ((((3 : Int32) * x1) + (2 : Int32))).toNatClampNeg), q4.2) else none else if (7 : Int32) ≤ x2 then if okI x1 5 then some ((q4.2.1 (9) (x1).toNatClampNeg), q4.2) else none else if okI ((((3 : Int32) * x1) + x2) - (5 : Int32)) 18 then some ((q4.2.1 (11) (((((3 : Int32) * x1) + x2) - (5 : Int32))).toNatClampNeg), q4.2) else none else if x2 = 0 then some ((q4.2.1 (7) 0), q4.2) else if x2 = (1 : Int32) then some ((q4.2.1 (8) 0), q4.2) else if okI ((((3 : Int32) * x1) + x2) - (2 : Int32)) 15 then some ((q4.2.1 (10) (((((3 : Int32) * x1) + x2) - (2 : Int32))).toNatClampNeg), q4.2) else none
set_option maxHeartbeats 40000000 in
set_option maxRecDepth 100000 in
theorem c_X9_told (l : Launch) (Γ : Geo) (hG : okM Γ) (x1 : Int32) (x2 : Int32) (σ : Sm) (r : Int32) (σ' : Sm) (hf : f_X9_told x1 x2 σ = some (r, σ')) (sz : Nat) : Met l yX9_told (wz yX9_told cX9_told 3 (some .int)) { frames := 76, cells := 0, slots := 0, locals := 2886 } (va_Pc [.ref (Γ.2.2.1 (0)), .int x1, .int x2] (wPre Γ.1 vwCl (tysC Γ) (XM Γ) (alM Γ) Γ.2.2.2 σ sz)) (wQi Γ.1 vwCl (tysC Γ) (XM Γ) (alM Γ) r σ' sz) 0 0 (wA (alM Γ) sz) := by
  refine w_enter (cc := cX9_told) (maxL := 3) (ret := (some .int)) (by decide) rfl (Nat.le_of_ble_eq_true rfl) ?_
  intro p e s m below meth c ls hx hb hr hlocks hml hown hts hsz hP hK hkc hN hl
  subst hsz
  generalize hav : ([.ref (Γ.2.2.1 (0)), .int x1, .int x2] : List Value) = av at hl hts ⊢
  have hl : lv_has ls 3 [(0, .ref (Γ.2.2.1 (0))), (1, .int x1), (2, .int x2)] := by rw [← hav] at hl; exact hl
  suffices hw : ∀ (H : Heap) (locs : List Loc), va_P Γ.1 vwCl (XM Γ σ) H → va_S (wA (alM Γ) s.heap.size) s.heap H locs → W p l e { frames := 76, cells := 0, slots := 0, locals := 2886 } s m av.toArray below meth c H locs 0 0 (MQ below (wQi Γ.1 vwCl (tysC Γ) (XM Γ) (alM Γ) r σ' s.heap.size) av.toArray s 0 0 (wA (alM Γ) s.heap.size)) (F0 m 0 ls []) from hw _ [] hP va_S.rf
  clear hP
  intro H locs hP hS
  unfold f_X9_told at hf
  refine lv_iload_n hx hb dX9_told_0 rfl (lv_at hl 2 rfl) ?_
  refine lv_i2l (v := ((x2).toInt64)) hx hb dX9_told_1 rfl ?_
  refine lv_lconst (v := (0 : Int64)) hx hb dX9_told_2 (by decide) ?_
  refine lv_ldc2 (v := (10 : Int64)) hx hb hown (hts (.constantLong RX9 124 (10)) (wzm K191)) dX9_told_3 ?_
  obtain ⟨q1, h2, hf⟩ := w_ob hf
  refine w_ci (va_runS (As := [.long ((x2).toInt64), .long (0 : Int64), .long (10 : Int64)]) (rest := []) ⟨hx, hb, hml, hown, hts⟩ (c_X9_in l Γ hG ((x2).toInt64) (0 : Int64) (10 : Int64) σ q1.1 q1.2 h2 H.size) (cwS 3 hts (wzS K170 K168 K169 K5) rfl rfl rfl (by decide +kernel) ⟨(Nat.le_of_ble_eq_true rfl), (Nat.le_of_ble_eq_true rfl)⟩) (w_pre hK hP hkc hN hS) rfl rfl hl.1 rfl (lv_room (Nat.le_of_ble_eq_true rfl)) dX9_told_6 ⟨Nat.le_refl _, Nat.le_refl _⟩) hS (fun H locs hP hS => ?_)
  refine lv_if_eq (tgt := 21) hx hb dX9_told_9 (by decide) (fun c3 => ?_) (fun c3 => ?_)
  · replace hf := (if_pos c3).symm.trans hf
    refine lv_bipush (v := (-2 : Int32)) hx hb dX9_told_21 (by decide) ?_
    exact w_iret (X := XM Γ) hx hb hr hlocks hK hP hS rfl hf dX9_told_23
  · replace hf := (if_neg c3).symm.trans hf
    refine lv_aload_n hx hb dX9_told_12 rfl (lv_at hl 0 rfl) ?_
    refine lv_iload_n hx hb dX9_told_13 rfl (lv_at hl 2 rfl) ?_
    refine lv_iload_n hx hb dX9_told_14 rfl (lv_at hl 1 rfl) ?_
    obtain ⟨q4, h5, hf⟩ := w_ob hf
    refine w_ci (va_runV (As := [.int x2, .int x1]) (rest := []) ⟨hx, hb, hml, hown, hts⟩ (c_X9_isOf l Γ hG x2 x1 q1.2 q4.1 q4.2 h5 H.size) (cwV 2 hts (wzV K174 K171 K172 K173 K5) rfl rfl rfl (by decide +kernel) ⟨(Nat.le_of_ble_eq_true rfl), (Nat.le_of_ble_eq_true rfl)⟩) (w_preV hK hP hkc hN hS (gM_Model Γ q1.2) rfl) rfl rfl hl.1 rfl (lv_room (Nat.le_of_ble_eq_true rfl)) dX9_told_15 ⟨Nat.le_refl _, Nat.le_refl _⟩) hS (fun H locs hP hS => ?_)
    refine lv_if_ne (tgt := 24) hx hb dX9_told_18 (by decide) (fun c6 => ?_) (fun c6 => ?_)
    · replace hf := (if_neg c6).symm.trans hf
      refine lv_iload_n hx hb dX9_told_24 rfl (lv_at hl 2 rfl) ?_
      refine lv_iconst (v := (5 : Int32)) hx hb dX9_told_25 (by decide) ?_
      refine lv_icmp_ge (tgt := 65) hx hb dX9_told_26 (by decide) (fun c7 => ?_) (fun c7 => ?_)
      · replace hf := (if_pos c7).symm.trans hf
        refine lv_iload_n hx hb dX9_told_65 rfl (lv_at hl 2 rfl) ?_
        refine lv_bipush (v := (8 : Int32)) hx hb dX9_told_66 (by decide) ?_
        refine lv_icmp_ge (tgt := 99) hx hb dX9_told_68 (by decide) (fun c8 => ?_) (fun c8 => ?_)
        · replace hf := (if_pos c8).symm.trans hf
          refine lv_iload_n hx hb dX9_told_99 rfl (lv_at hl 2 rfl) ?_
          refine lv_bipush (v := (8 : Int32)) hx hb dX9_told_100 (by decide) ?_
          refine lv_icmp_ne (tgt := 113) hx hb dX9_told_102 (by decide) (fun c9 => ?_) (fun c9 => ?_)
          · replace hf := (if_neg c9).symm.trans hf
            refine lv_iload_n hx hb dX9_told_113 rfl (lv_at hl 2 rfl) ?_
            refine lv_bipush (v := (9 : Int32)) hx hb dX9_told_114 (by decide) ?_
            refine lv_icmp_ne (tgt := 127) hx hb dX9_told_116 (by decide) (fun c10 => ?_) (fun c10 => ?_)
            · replace hf := (if_neg c10).symm.trans hf
              refine lv_aload_n hx hb dX9_told_127 rfl (lv_at hl 0 rfl) ?_
              refine va_get (D := Γ.1) (ci := 8) (v := .ref (Γ.2.2.1 (6))) (C := RX9) (T := TX9) (N := 44) hx hb hts iX9 hown hK hP (0) (gM_Model Γ q4.2) rfl 11 (by decide) (hts (.fieldLink RX9 29 "OtherHalfOfNightModel" "cups" "[I") (wzm K113)) (fun _ h9 => h9) rfl dX9_told_128 ?_
              refine lv_iconst (v := (3 : Int32)) hx hb dX9_told_131 (by decide) ?_
              refine lv_iload_n hx hb dX9_told_132 rfl (lv_at hl 1 rfl) ?_
              refine lv_imul hx hb dX9_told_133 ?_
              refine lv_iconst (v := (2 : Int32)) hx hb dX9_told_134 (by decide) ?_
              refine lv_iadd hx hb dX9_told_135 ?_
              obtain ⟨g11, hf⟩ := w_oi hf
              refine va_iald (D := Γ.1) (tys := (tysC Γ)) hx hb hK hP (6) 0 (gM_M_cups Γ q4.2) rfl g11 dX9_told_136 ?_
              exact w_iret (X := XM Γ) hx hb hr hlocks hK hP hS rfl hf dX9_told_137
            · replace hf := (if_pos c10).symm.trans hf
              refine lv_aload_n hx hb dX9_told_119 rfl (lv_at hl 0 rfl) ?_
              refine lv_iload_n hx hb dX9_told_120 rfl (lv_at hl 1 rfl) ?_
              obtain ⟨q12, h13, hf⟩ := w_ob hf
              refine w_ci (va_runV (As := [.int x1]) (rest := []) ⟨hx, hb, hml, hown, hts⟩ (c_X9_suitSet l Γ hG x1 q4.2 q12.1 q12.2 h13 H.size) (cwV 1 hts (wzV K305 K302 K303 K304 K5) rfl rfl rfl (by decide +kernel) ⟨(Nat.le_of_ble_eq_true rfl), (Nat.le_of_ble_eq_true rfl)⟩) (w_preV hK hP hkc hN hS (gM_Model Γ q4.2) rfl) rfl rfl hl.1 rfl (lv_room (Nat.le_of_ble_eq_true rfl)) dX9_told_121 ⟨Nat.le_refl _, Nat.le_refl _⟩) hS (fun H locs hP hS => ?_)
              refine lv_goto (tgt := 137) hx hb dX9_told_124 (by decide) ?_
              exact w_iret (X := XM Γ) hx hb hr hlocks hK hP hS rfl hf dX9_told_137
          · replace hf := (if_pos c9).symm.trans hf
            refine lv_aload_n hx hb dX9_told_105 rfl (lv_at hl 0 rfl) ?_
            refine lv_iload_n hx hb dX9_told_106 rfl (lv_at hl 1 rfl) ?_
            obtain ⟨q14, h15, hf⟩ := w_ob hf
            refine w_ci (va_runV (As := [.int x1]) (rest := []) ⟨hx, hb, hml, hown, hts⟩ (c_X9_yieldsOf l Γ hG x1 q4.2 q14.1 q14.2 h15 H.size) (cwV 1 hts (wzV K197 K194 K195 K196 K5) rfl rfl rfl (by decide +kernel) ⟨(Nat.le_of_ble_eq_true rfl), (Nat.le_of_ble_eq_true rfl)⟩) (w_preV hK hP hkc hN hS (gM_Model Γ q4.2) rfl) rfl rfl hl.1 rfl (lv_room (Nat.le_of_ble_eq_true rfl)) dX9_told_107 ⟨Nat.le_refl _, Nat.le_refl _⟩) hS (fun H locs hP hS => ?_)
            refine lv_goto (tgt := 137) hx hb dX9_told_110 (by decide) ?_
            exact w_iret (X := XM Γ) hx hb hr hlocks hK hP hS rfl hf dX9_told_137
        · replace hf := (if_neg c8).symm.trans hf
          refine lv_iload_n hx hb dX9_told_71 rfl (lv_at hl 2 rfl) ?_
          refine lv_bipush (v := (7 : Int32)) hx hb dX9_told_72 (by decide) ?_
          refine lv_icmp_ge (tgt := 92) hx hb dX9_told_74 (by decide) (fun c16 => ?_) (fun c16 => ?_)
          · replace hf := (if_pos c16).symm.trans hf
            refine lv_aload_n hx hb dX9_told_92 rfl (lv_at hl 0 rfl) ?_
            refine va_get (D := Γ.1) (ci := 8) (v := .ref (Γ.2.2.1 (4))) (C := RX9) (T := TX9) (N := 44) hx hb hts iX9 hown hK hP (0) (gM_Model Γ q4.2) rfl 9 (by decide) (hts (.fieldLink RX9 23 "OtherHalfOfNightModel" "kinds" "[I") (wzm K111)) (fun _ h9 => h9) rfl dX9_told_93 ?_
            refine lv_iload_n hx hb dX9_told_96 rfl (lv_at hl 1 rfl) ?_
            obtain ⟨g17, hf⟩ := w_oi hf
            refine va_iald (D := Γ.1) (tys := (tysC Γ)) hx hb hK hP (4) 0 (gM_M_kinds Γ q4.2) rfl g17 dX9_told_97 ?_
            exact w_iret (X := XM Γ) hx hb hr hlocks hK hP hS rfl hf dX9_told_98
          · replace hf := (if_neg c16).symm.trans hf
            refine lv_aload_n hx hb dX9_told_77 rfl (lv_at hl 0 rfl) ?_
            refine va_get (D := Γ.1) (ci := 8) (v := .ref (Γ.2.2.1 (6))) (C := RX9) (T := TX9) (N := 44) hx hb hts iX9 hown hK hP (0) (gM_Model Γ q4.2) rfl 11 (by decide) (hts (.fieldLink RX9 29 "OtherHalfOfNightModel" "cups" "[I") (wzm K113)) (fun _ h9 => h9) rfl dX9_told_78 ?_
            refine lv_iconst (v := (3 : Int32)) hx hb dX9_told_81 (by decide) ?_
            refine lv_iload_n hx hb dX9_told_82 rfl (lv_at hl 1 rfl) ?_
            refine lv_imul hx hb dX9_told_83 ?_
            refine lv_iload_n hx hb dX9_told_84 rfl (lv_at hl 2 rfl) ?_
            refine lv_iadd hx hb dX9_told_85 ?_
            refine lv_iconst (v := (5 : Int32)) hx hb dX9_told_86 (by decide) ?_
            refine lv_isub hx hb dX9_told_87 ?_
            obtain ⟨g18, hf⟩ := w_oi hf
            refine va_iald (D := Γ.1) (tys := (tysC Γ)) hx hb hK hP (6) 0 (gM_M_cups Γ q4.2) rfl g18 dX9_told_88 ?_
            refine lv_goto (tgt := 98) hx hb dX9_told_89 (by decide) ?_
            exact w_iret (X := XM Γ) hx hb hr hlocks hK hP hS rfl hf dX9_told_98
      · replace hf := (if_neg c7).symm.trans hf
        refine lv_iload_n hx hb dX9_told_29 rfl (lv_at hl 2 rfl) ?_
        refine lv_if_ne (tgt := 40) hx hb dX9_told_30 (by decide) (fun c19 => ?_) (fun c19 => ?_)
        · replace hf := (if_neg c19).symm.trans hf
          refine lv_iload_n hx hb dX9_told_40 rfl (lv_at hl 2 rfl) ?_
          refine lv_iconst (v := (1 : Int32)) hx hb dX9_told_41 (by decide) ?_
          refine lv_icmp_ne (tgt := 52) hx hb dX9_told_42 (by decide) (fun c20 => ?_) (fun c20 => ?_)
          · replace hf := (if_neg c20).symm.trans hf
            refine lv_aload_n hx hb dX9_told_52 rfl (lv_at hl 0 rfl) ?_
            refine va_get (D := Γ.1) (ci := 8) (v := .ref (Γ.2.2.1 (5))) (C := RX9) (T := TX9) (N := 44) hx hb hts iX9 hown hK hP (0) (gM_Model Γ q4.2) rfl 10 (by decide) (hts (.fieldLink RX9 26 "OtherHalfOfNightModel" "rows" "[I") (wzm K112)) (fun _ h9 => h9) rfl dX9_told_53 ?_
            refine lv_iconst (v := (3 : Int32)) hx hb dX9_told_56 (by decide) ?_
            refine lv_iload_n hx hb dX9_told_57 rfl (lv_at hl 1 rfl) ?_
            refine lv_imul hx hb dX9_told_58 ?_
            refine lv_iload_n hx hb dX9_told_59 rfl (lv_at hl 2 rfl) ?_
            refine lv_iadd hx hb dX9_told_60 ?_
            refine lv_iconst (v := (2 : Int32)) hx hb dX9_told_61 (by decide) ?_
            refine lv_isub hx hb dX9_told_62 ?_
            obtain ⟨g21, hf⟩ := w_oi hf
            refine va_iald (D := Γ.1) (tys := (tysC Γ)) hx hb hK hP (5) 0 (gM_M_rows Γ q4.2) rfl g21 dX9_told_63 ?_
            exact w_iret (X := XM Γ) hx hb hr hlocks hK hP hS rfl hf dX9_told_64
          · replace hf := (if_pos c20).symm.trans hf
            refine lv_aload_n hx hb dX9_told_45 rfl (lv_at hl 0 rfl) ?_
            refine va_get (D := Γ.1) (ci := 8) (v := .int (q4.2.1 (8) 0)) (C := RX9) (T := TX9) (N := 44) hx hb hts iX9 hown hK hP (0) (gM_Model Γ q4.2) rfl 8 (by decide) (hts (.fieldLink RX9 114 "OtherHalfOfNightModel" "hourNow" "I") (wzm K193)) (fun _ h9 => h9) rfl dX9_told_46 ?_
            refine lv_goto (tgt := 64) hx hb dX9_told_49 (by decide) ?_
            exact w_iret (X := XM Γ) hx hb hr hlocks hK hP hS rfl hf dX9_told_64
        · replace hf := (if_pos c19).symm.trans hf
          refine lv_aload_n hx hb dX9_told_33 rfl (lv_at hl 0 rfl) ?_
          refine va_get (D := Γ.1) (ci := 8) (v := .int (q4.2.1 (7) 0)) (C := RX9) (T := TX9) (N := 44) hx hb hts iX9 hown hK hP (0) (gM_Model Γ q4.2) rfl 7 (by decide) (hts (.fieldLink RX9 111 "OtherHalfOfNightModel" "nightNow" "I") (wzm K192)) (fun _ h9 => h9) rfl dX9_told_34 ?_
          refine lv_goto (tgt := 64) hx hb dX9_told_37 (by decide) ?_
          exact w_iret (X := XM Γ) hx hb hr hlocks hK hP hS rfl hf dX9_told_64
    · replace hf := (if_pos c6).symm.trans hf
      refine lv_bipush (v := (-2 : Int32)) hx hb dX9_told_21 (by decide) ?_
      exact w_iret (X := XM Γ) hx hb hr hlocks hK hP hS rfl hf dX9_told_23
def f_X9_set (x1 : Int32) (x2 : Int32) (x3 : Int32) (σ : Sm) : Option (Int32 × Sm) := (f_X9_in ((x1).toInt64) (0 : Int64) (6 : Int64) σ).bind fun (q1 : Int32 × Sm) => if q1.1 = 0 then some ((-2 : Int32), q1.2) else (f_X9_isOf x1 x2 q1.2).bind fun (q4 : Int32 × Sm) => if q4.1 = 0 then some ((-2 : Int32), q4.2) else (f_X9_mostOf x1 q4.2).bind fun (q7 : Int32 × Sm) => (f_X9_in ((x3).toInt64) (0 : Int64) ((q7.1).toInt64) q7.2).bind fun (q9 : Int32 × Sm) => if q9.1 = 0 then some ((-2 : Int32), q9.2) else (f_X9_told x2 x1 q9.2).bind fun (q12 : Int32 × Sm) => (f_X9_lays x1 x2 x3 q12.2).bind fun (q14 : Sm) => some (q12.1, q14)
set_option maxHeartbeats 40000000 in
set_option maxRecDepth 100000 in
theorem c_X9_set (l : Launch) (Γ : Geo) (hG : okM Γ) (x1 : Int32) (x2 : Int32) (x3 : Int32) (σ : Sm) (r : Int32) (σ' : Sm) (hf : f_X9_set x1 x2 x3 σ = some (r, σ')) (sz : Nat) : Met l yX9_set (wz yX9_set cX9_set 5 (some .int)) { frames := 77, cells := 0, slots := 0, locals := 2908 } (va_Pc [.ref (Γ.2.2.1 (0)), .int x1, .int x2, .int x3] (wPre Γ.1 vwCl (tysC Γ) (XM Γ) (alM Γ) Γ.2.2.2 σ sz)) (wQi Γ.1 vwCl (tysC Γ) (XM Γ) (alM Γ) r σ' sz) 0 0 (wA (alM Γ) sz) := by
  refine w_enter (cc := cX9_set) (maxL := 5) (ret := (some .int)) (by decide) rfl (Nat.le_of_ble_eq_true rfl) ?_
  intro p e s m below meth c ls hx hb hr hlocks hml hown hts hsz hP hK hkc hN hl
  subst hsz
  generalize hav : ([.ref (Γ.2.2.1 (0)), .int x1, .int x2, .int x3] : List Value) = av at hl hts ⊢
  have hl : lv_has ls 5 [(0, .ref (Γ.2.2.1 (0))), (1, .int x1), (2, .int x2), (3, .int x3)] := by rw [← hav] at hl; exact hl
  suffices hw : ∀ (H : Heap) (locs : List Loc), va_P Γ.1 vwCl (XM Γ σ) H → va_S (wA (alM Γ) s.heap.size) s.heap H locs → W p l e { frames := 77, cells := 0, slots := 0, locals := 2908 } s m av.toArray below meth c H locs 0 0 (MQ below (wQi Γ.1 vwCl (tysC Γ) (XM Γ) (alM Γ) r σ' s.heap.size) av.toArray s 0 0 (wA (alM Γ) s.heap.size)) (F0 m 0 ls []) from hw _ [] hP va_S.rf
  clear hP
  intro H locs hP hS
  unfold f_X9_set at hf
  refine lv_iload_n hx hb dX9_set_0 rfl (lv_at hl 1 rfl) ?_
  refine lv_i2l (v := ((x1).toInt64)) hx hb dX9_set_1 rfl ?_
  refine lv_lconst (v := (0 : Int64)) hx hb dX9_set_2 (by decide) ?_
  refine lv_ldc2 (v := (6 : Int64)) hx hb hown (hts (.constantLong RX9 93 (6)) (wzm K167)) dX9_set_3 ?_
  obtain ⟨q1, h2, hf⟩ := w_ob hf
  refine w_ci (va_runS (As := [.long ((x1).toInt64), .long (0 : Int64), .long (6 : Int64)]) (rest := []) ⟨hx, hb, hml, hown, hts⟩ (c_X9_in l Γ hG ((x1).toInt64) (0 : Int64) (6 : Int64) σ q1.1 q1.2 h2 H.size) (cwS 3 hts (wzS K170 K168 K169 K5) rfl rfl rfl (by decide +kernel) ⟨(Nat.le_of_ble_eq_true rfl), (Nat.le_of_ble_eq_true rfl)⟩) (w_pre hK hP hkc hN hS) rfl rfl hl.1 rfl (lv_room (Nat.le_of_ble_eq_true rfl)) dX9_set_6 ⟨Nat.le_refl _, Nat.le_refl _⟩) hS (fun H locs hP hS => ?_)
  refine lv_if_eq (tgt := 35) hx hb dX9_set_9 (by decide) (fun c3 => ?_) (fun c3 => ?_)
  · replace hf := (if_pos c3).symm.trans hf
    refine lv_bipush (v := (-2 : Int32)) hx hb dX9_set_35 (by decide) ?_
    exact w_iret (X := XM Γ) hx hb hr hlocks hK hP hS rfl hf dX9_set_37
  · replace hf := (if_neg c3).symm.trans hf
    refine lv_aload_n hx hb dX9_set_12 rfl (lv_at hl 0 rfl) ?_
    refine lv_iload_n hx hb dX9_set_13 rfl (lv_at hl 1 rfl) ?_
    refine lv_iload_n hx hb dX9_set_14 rfl (lv_at hl 2 rfl) ?_
    obtain ⟨q4, h5, hf⟩ := w_ob hf
    refine w_ci (va_runV (As := [.int x1, .int x2]) (rest := []) ⟨hx, hb, hml, hown, hts⟩ (c_X9_isOf l Γ hG x1 x2 q1.2 q4.1 q4.2 h5 H.size) (cwV 2 hts (wzV K174 K171 K172 K173 K5) rfl rfl rfl (by decide +kernel) ⟨(Nat.le_of_ble_eq_true rfl), (Nat.le_of_ble_eq_true rfl)⟩) (w_preV hK hP hkc hN hS (gM_Model Γ q1.2) rfl) rfl rfl hl.1 rfl (lv_room (Nat.le_of_ble_eq_true rfl)) dX9_set_15 ⟨Nat.le_refl _, Nat.le_refl _⟩) hS (fun H locs hP hS => ?_)
    refine lv_if_eq (tgt := 35) hx hb dX9_set_18 (by decide) (fun c6 => ?_) (fun c6 => ?_)
    · replace hf := (if_pos c6).symm.trans hf
      refine lv_bipush (v := (-2 : Int32)) hx hb dX9_set_35 (by decide) ?_
      exact w_iret (X := XM Γ) hx hb hr hlocks hK hP hS rfl hf dX9_set_37
    · replace hf := (if_neg c6).symm.trans hf
      refine lv_iload_n hx hb dX9_set_21 rfl (lv_at hl 3 rfl) ?_
      refine lv_i2l (v := ((x3).toInt64)) hx hb dX9_set_22 rfl ?_
      refine lv_lconst (v := (0 : Int64)) hx hb dX9_set_23 (by decide) ?_
      refine lv_iload_n hx hb dX9_set_24 rfl (lv_at hl 1 rfl) ?_
      obtain ⟨q7, h8, hf⟩ := w_ob hf
      refine w_ci (va_runS (As := [.int x1]) (rest := [.long (0 : Int64), .long ((x3).toInt64)]) ⟨hx, hb, hml, hown, hts⟩ (c_X9_mostOf l Γ hG x1 q4.2 q7.1 q7.2 h8 H.size) (cwS 1 hts (wzS K186 K184 K185 K5) rfl rfl rfl (by decide +kernel) ⟨(Nat.le_of_ble_eq_true rfl), (Nat.le_of_ble_eq_true rfl)⟩) (w_pre hK hP hkc hN hS) rfl rfl hl.1 rfl (lv_room (Nat.le_of_ble_eq_true rfl)) dX9_set_25 ⟨Nat.le_refl _, Nat.le_refl _⟩) hS (fun H locs hP hS => ?_)
      refine lv_i2l (v := ((q7.1).toInt64)) hx hb dX9_set_28 rfl ?_
      obtain ⟨q9, h10, hf⟩ := w_ob hf
      refine w_ci (va_runS (As := [.long ((x3).toInt64), .long (0 : Int64), .long ((q7.1).toInt64)]) (rest := []) ⟨hx, hb, hml, hown, hts⟩ (c_X9_in l Γ hG ((x3).toInt64) (0 : Int64) ((q7.1).toInt64) q7.2 q9.1 q9.2 h10 H.size) (cwS 3 hts (wzS K170 K168 K169 K5) rfl rfl rfl (by decide +kernel) ⟨(Nat.le_of_ble_eq_true rfl), (Nat.le_of_ble_eq_true rfl)⟩) (w_pre hK hP hkc hN hS) rfl rfl hl.1 rfl (lv_room (Nat.le_of_ble_eq_true rfl)) dX9_set_29 ⟨Nat.le_refl _, Nat.le_refl _⟩) hS (fun H locs hP hS => ?_)
      refine lv_if_ne (tgt := 38) hx hb dX9_set_32 (by decide) (fun c11 => ?_) (fun c11 => ?_)
      · replace hf := (if_neg c11).symm.trans hf
        refine lv_aload_n hx hb dX9_set_38 rfl (lv_at hl 0 rfl) ?_
        refine lv_iload_n hx hb dX9_set_39 rfl (lv_at hl 2 rfl) ?_
        refine lv_iload_n hx hb dX9_set_40 rfl (lv_at hl 1 rfl) ?_
        obtain ⟨q12, h13, hf⟩ := w_ob hf
        refine w_ci (va_runV (As := [.int x2, .int x1]) (rest := []) ⟨hx, hb, hml, hown, hts⟩ (c_X9_told l Γ hG x2 x1 q9.2 q12.1 q12.2 h13 H.size) (cwV 2 hts (wzV K190 K187 K188 K189 K5) rfl rfl rfl (by decide +kernel) ⟨(Nat.le_of_ble_eq_true rfl), (Nat.le_of_ble_eq_true rfl)⟩) (w_preV hK hP hkc hN hS (gM_Model Γ q9.2) rfl) rfl rfl hl.1 rfl (lv_room (Nat.le_of_ble_eq_true rfl)) dX9_set_41 ⟨Nat.le_refl _, Nat.le_refl _⟩) hS (fun H locs hP hS => ?_)
        refine lv_istore (lv' := [(4, .int q12.1), (0, .ref (Γ.2.2.1 (0))), (1, .int x1), (2, .int x2), (3, .int x3)]) hx hb dX9_set_44 hl (by decide) rfl (fun ls hl => ?_)
        refine lv_aload_n hx hb dX9_set_46 rfl (lv_at hl 1 rfl) ?_
        refine lv_iload_n hx hb dX9_set_47 rfl (lv_at hl 2 rfl) ?_
        refine lv_iload_n hx hb dX9_set_48 rfl (lv_at hl 3 rfl) ?_
        refine lv_iload_n hx hb dX9_set_49 rfl (lv_at hl 4 rfl) ?_
        obtain ⟨q14, h15, hf⟩ := w_ob hf
        refine w_cv (va_runV (As := [.int x1, .int x2, .int x3]) (rest := []) ⟨hx, hb, hml, hown, hts⟩ (c_X9_lays l Γ hG x1 x2 x3 q12.2 q14 h15 H.size) (cwV 3 hts (wzV K313 K310 K311 K312 K5) rfl rfl rfl (by decide +kernel) ⟨(Nat.le_of_ble_eq_true rfl), (Nat.le_of_ble_eq_true rfl)⟩) (w_preV hK hP hkc hN hS (gM_Model Γ q12.2) rfl) rfl rfl hl.1 rfl (lv_room (Nat.le_of_ble_eq_true rfl)) dX9_set_50 ⟨Nat.le_refl _, Nat.le_refl _⟩) hS (fun H locs hP hS => ?_)
        refine lv_iload hx hb dX9_set_53 (lv_at hl 0 rfl) ?_
        exact w_iret (X := XM Γ) hx hb hr hlocks hK hP hS rfl hf dX9_set_55
      · replace hf := (if_pos c11).symm.trans hf
        refine lv_bipush (v := (-2 : Int32)) hx hb dX9_set_35 (by decide) ?_
        exact w_iret (X := XM Γ) hx hb hr hlocks hK hP hS rfl hf dX9_set_37
def f_X9_easedBy_82 (x1 : Int32) (y2 : Int32) (τ : Sm) : Option (Int32 × Sm) := (f_X9_says (2 : Int32) x1 (0 : Int32) τ).bind fun (q12 : Int32 × Sm) => if y2 = (1 : Int32) then some ((q12.1 / (2 : Int32)), q12.2) else if y2 = (3 : Int32) then some ((q12.1 / (2 : Int32)), q12.2) else some (q12.1, q12.2)
def f_X9_easedBy_65 (x1 : Int32) (y2 : Int32) (τ : Sm) : Option (Int32 × Sm) := if y2 = (3 : Int32) then if ((τ.1 (7) 0) - (τ.1 (7) 0) / (7 : Int32) * (7 : Int32)) = 0 then some ((-1 : Int32), τ) else f_X9_easedBy_82 x1 (y2) τ else f_X9_easedBy_82 x1 (y2) τ
def f_X9_easedBy_17 (x1 : Int32) (y2 : Int32) (τ : Sm) : Option (Int32 × Sm) := if y2 = (4 : Int32) then if okI ((3 : Int32) * x1) 15 then some ((-(τ.1 (10) (((3 : Int32) * x1)).toNatClampNeg)), τ) else none else some ((0 : Int32), τ)
def f_X9_easedBy (x1 : Int32) (σ : Sm) : Option (Int32 × Sm) := if okI x1 5 then if (σ.1 (9) (x1).toNatClampNeg) = (2 : Int32) then f_X9_easedBy_17 x1 ((σ.1 (9) (x1).toNatClampNeg)) σ else if (σ.1 (9) (x1).toNatClampNeg) = (4 : Int32) then f_X9_easedBy_17 x1 ((σ.1 (9) (x1).toNatClampNeg)) σ else if (σ.1 (9) (x1).toNatClampNeg) = (5 : Int32) then if okI (((3 : Int32) * x1) + (2 : Int32)) 15 then if (σ.1 (10) ((((3 : Int32) * x1) + (2 : Int32))).toNatClampNeg) ≤ 0 then f_X9_easedBy_65 x1 ((σ.1 (9) (x1).toNatClampNeg)) σ else if okI (((3 : Int32) * x1) + (1 : Int32)) 15 then some ((σ.1 (10) ((((3 : Int32) * x1) + (1 : Int32))).toNatClampNeg), σ) else none else none else f_X9_easedBy_65 x1 ((σ.1 (9) (x1).toNatClampNeg)) σ else none
set_option maxHeartbeats 40000000 in
set_option maxRecDepth 100000 in
theorem c_X9_easedBy (l : Launch) (Γ : Geo) (hG : okM Γ) (x1 : Int32) (σ : Sm) (r : Int32) (σ' : Sm) (hf : f_X9_easedBy x1 σ = some (r, σ')) (sz : Nat) : Met l yX9_easedBy (wz yX9_easedBy cX9_easedBy 4 (some .int)) { frames := 74, cells := 0, slots := 0, locals := 2837 } (va_Pc [.ref (Γ.2.2.1 (0)), .int x1] (wPre Γ.1 vwCl (tysC Γ) (XM Γ) (alM Γ) Γ.2.2.2 σ sz)) (wQi Γ.1 vwCl (tysC Γ) (XM Γ) (alM Γ) r σ' sz) 0 0 (wA (alM Γ) sz) := by
  refine w_enter (cc := cX9_easedBy) (maxL := 4) (ret := (some .int)) (by decide) rfl (Nat.le_of_ble_eq_true rfl) ?_
  intro p e s m below meth c ls hx hb hr hlocks hml hown hts hsz hP hK hkc hN hl
  subst hsz
  generalize hav : ([.ref (Γ.2.2.1 (0)), .int x1] : List Value) = av at hl hts ⊢
  have hl : lv_has ls 4 [(0, .ref (Γ.2.2.1 (0))), (1, .int x1)] := by rw [← hav] at hl; exact hl
  have j82 : ∀ (y2 : Int32) (τ : Sm) (H : Heap) (locs : List Loc) (ls : Array Slot) (hf : f_X9_easedBy_82 x1 y2 τ = some (r, σ')) (hP : va_P Γ.1 vwCl (XM Γ τ) H) (hS : va_S (wA (alM Γ) s.heap.size) s.heap H locs) (hl : lv_has ls 4 [(0, .ref (Γ.2.2.1 (0))), (1, .int x1), (2, .int y2)]), W p l e { frames := 74, cells := 0, slots := 0, locals := 2837 } s m av.toArray below meth c H locs 0 0 (MQ below (wQi Γ.1 vwCl (tysC Γ) (XM Γ) (alM Γ) r σ' s.heap.size) av.toArray s 0 0 (wA (alM Γ) s.heap.size)) (F0 m 82 ls []) := by
    intro y2 τ H locs ls hf hP hS hl
    unfold f_X9_easedBy_82 at hf
    refine lv_aload_n hx hb dX9_easedBy_82 rfl (lv_at hl 0 rfl) ?_
    refine lv_iconst (v := (2 : Int32)) hx hb dX9_easedBy_83 (by decide) ?_
    refine lv_iload_n hx hb dX9_easedBy_84 rfl (lv_at hl 1 rfl) ?_
    refine lv_iconst (v := (0 : Int32)) hx hb dX9_easedBy_85 (by decide) ?_
    obtain ⟨q12, h13, hf⟩ := w_ob hf
    refine w_ci (va_runV (As := [.int (2 : Int32), .int x1, .int (0 : Int32)]) (rest := []) ⟨hx, hb, hml, hown, hts⟩ (c_X9_says l Γ hG (2 : Int32) x1 (0 : Int32) τ q12.1 q12.2 h13 H.size) (cwV 3 hts (wzV K201 K198 K199 K200 K5) rfl rfl rfl (by decide +kernel) ⟨(Nat.le_of_ble_eq_true rfl), (Nat.le_of_ble_eq_true rfl)⟩) (w_preV hK hP hkc hN hS (gM_Model Γ τ) rfl) rfl rfl hl.1 rfl (lv_room (Nat.le_of_ble_eq_true rfl)) dX9_easedBy_86 ⟨Nat.le_refl _, Nat.le_refl _⟩) hS (fun H locs hP hS => ?_)
    refine lv_istore_n (lv' := [(3, .int q12.1), (0, .ref (Γ.2.2.1 (0))), (1, .int x1), (2, .int y2)]) hx hb dX9_easedBy_89 rfl hl (by decide) rfl (fun ls hl => ?_)
    refine lv_iload_n hx hb dX9_easedBy_90 rfl (lv_at hl 3 rfl) ?_
    refine lv_iconst (v := (1 : Int32)) hx hb dX9_easedBy_91 (by decide) ?_
    refine lv_icmp_eq (tgt := 100) hx hb dX9_easedBy_92 (by decide) (fun c14 => ?_) (fun c14 => ?_)
    · replace hf := (if_pos c14).symm.trans hf
      refine lv_iload_n hx hb dX9_easedBy_100 rfl (lv_at hl 0 rfl) ?_
      refine lv_iconst (v := (2 : Int32)) hx hb dX9_easedBy_101 (by decide) ?_
      refine lv_idiv hx hb dX9_easedBy_102 (by decide) ?_
      refine lv_goto (tgt := 107) hx hb dX9_easedBy_103 (by decide) ?_
      exact w_iret (X := XM Γ) hx hb hr hlocks hK hP hS rfl hf dX9_easedBy_107
    · replace hf := (if_neg c14).symm.trans hf
      refine lv_iload_n hx hb dX9_easedBy_95 rfl (lv_at hl 3 rfl) ?_
      refine lv_iconst (v := (3 : Int32)) hx hb dX9_easedBy_96 (by decide) ?_
      refine lv_icmp_ne (tgt := 106) hx hb dX9_easedBy_97 (by decide) (fun c15 => ?_) (fun c15 => ?_)
      · replace hf := (if_neg c15).symm.trans hf
        refine lv_iload_n hx hb dX9_easedBy_106 rfl (lv_at hl 0 rfl) ?_
        exact w_iret (X := XM Γ) hx hb hr hlocks hK hP hS rfl hf dX9_easedBy_107
      · replace hf := (if_pos c15).symm.trans hf
        refine lv_iload_n hx hb dX9_easedBy_100 rfl (lv_at hl 0 rfl) ?_
        refine lv_iconst (v := (2 : Int32)) hx hb dX9_easedBy_101 (by decide) ?_
        refine lv_idiv hx hb dX9_easedBy_102 (by decide) ?_
        refine lv_goto (tgt := 107) hx hb dX9_easedBy_103 (by decide) ?_
        exact w_iret (X := XM Γ) hx hb hr hlocks hK hP hS rfl hf dX9_easedBy_107
  have j65 : ∀ (y2 : Int32) (τ : Sm) (H : Heap) (locs : List Loc) (ls : Array Slot) (hf : f_X9_easedBy_65 x1 y2 τ = some (r, σ')) (hP : va_P Γ.1 vwCl (XM Γ τ) H) (hS : va_S (wA (alM Γ) s.heap.size) s.heap H locs) (hl : lv_has ls 4 [(0, .ref (Γ.2.2.1 (0))), (1, .int x1), (2, .int y2)]), W p l e { frames := 74, cells := 0, slots := 0, locals := 2837 } s m av.toArray below meth c H locs 0 0 (MQ below (wQi Γ.1 vwCl (tysC Γ) (XM Γ) (alM Γ) r σ' s.heap.size) av.toArray s 0 0 (wA (alM Γ) s.heap.size)) (F0 m 65 ls []) := by
    intro y2 τ H locs ls hf hP hS hl
    unfold f_X9_easedBy_65 at hf
    refine lv_iload_n hx hb dX9_easedBy_65 rfl (lv_at hl 2 rfl) ?_
    refine lv_iconst (v := (3 : Int32)) hx hb dX9_easedBy_66 (by decide) ?_
    refine lv_icmp_ne (tgt := 82) hx hb dX9_easedBy_67 (by decide) (fun c10 => ?_) (fun c10 => ?_)
    · replace hf := (if_neg c10).symm.trans hf
      exact j82 (y2) τ H locs ls hf hP hS (lv_sub hl [0, 1, 2] rfl)
    · replace hf := (if_pos c10).symm.trans hf
      refine lv_aload_n hx hb dX9_easedBy_70 rfl (lv_at hl 0 rfl) ?_
      refine va_get (D := Γ.1) (ci := 8) (v := .int (τ.1 (7) 0)) (C := RX9) (T := TX9) (N := 44) hx hb hts iX9 hown hK hP (0) (gM_Model Γ τ) rfl 7 (by decide) (hts (.fieldLink RX9 111 "OtherHalfOfNightModel" "nightNow" "I") (wzm K192)) (fun _ h9 => h9) rfl dX9_easedBy_71 ?_
      refine lv_bipush (v := (7 : Int32)) hx hb dX9_easedBy_74 (by decide) ?_
      refine lv_irem hx hb dX9_easedBy_76 (by decide) ?_
      refine lv_if_ne (tgt := 82) hx hb dX9_easedBy_77 (by decide) (fun c11 => ?_) (fun c11 => ?_)
      · replace hf := (if_neg c11).symm.trans hf
        exact j82 (y2) τ H locs ls hf hP hS (lv_sub hl [0, 1, 2] rfl)
      · replace hf := (if_pos c11).symm.trans hf
        refine lv_iconst (v := (-1 : Int32)) hx hb dX9_easedBy_80 (by decide) ?_
        exact w_iret (X := XM Γ) hx hb hr hlocks hK hP hS rfl hf dX9_easedBy_81
  have j17 : ∀ (y2 : Int32) (τ : Sm) (H : Heap) (locs : List Loc) (ls : Array Slot) (hf : f_X9_easedBy_17 x1 y2 τ = some (r, σ')) (hP : va_P Γ.1 vwCl (XM Γ τ) H) (hS : va_S (wA (alM Γ) s.heap.size) s.heap H locs) (hl : lv_has ls 4 [(0, .ref (Γ.2.2.1 (0))), (1, .int x1), (2, .int y2)]), W p l e { frames := 74, cells := 0, slots := 0, locals := 2837 } s m av.toArray below meth c H locs 0 0 (MQ below (wQi Γ.1 vwCl (tysC Γ) (XM Γ) (alM Γ) r σ' s.heap.size) av.toArray s 0 0 (wA (alM Γ) s.heap.size)) (F0 m 17 ls []) := by
    intro y2 τ H locs ls hf hP hS hl
    unfold f_X9_easedBy_17 at hf
    refine lv_iload_n hx hb dX9_easedBy_17 rfl (lv_at hl 2 rfl) ?_
    refine lv_iconst (v := (4 : Int32)) hx hb dX9_easedBy_18 (by decide) ?_
    refine lv_icmp_ne (tgt := 34) hx hb dX9_easedBy_19 (by decide) (fun c8 => ?_) (fun c8 => ?_)
    · replace hf := (if_neg c8).symm.trans hf
      refine lv_iconst (v := (0 : Int32)) hx hb dX9_easedBy_34 (by decide) ?_
      exact w_iret (X := XM Γ) hx hb hr hlocks hK hP hS rfl hf dX9_easedBy_35
    · replace hf := (if_pos c8).symm.trans hf
      refine lv_aload_n hx hb dX9_easedBy_22 rfl (lv_at hl 0 rfl) ?_
      refine va_get (D := Γ.1) (ci := 8) (v := .ref (Γ.2.2.1 (5))) (C := RX9) (T := TX9) (N := 44) hx hb hts iX9 hown hK hP (0) (gM_Model Γ τ) rfl 10 (by decide) (hts (.fieldLink RX9 26 "OtherHalfOfNightModel" "rows" "[I") (wzm K112)) (fun _ h9 => h9) rfl dX9_easedBy_23 ?_
      refine lv_iconst (v := (3 : Int32)) hx hb dX9_easedBy_26 (by decide) ?_
      refine lv_iload_n hx hb dX9_easedBy_27 rfl (lv_at hl 1 rfl) ?_
      refine lv_imul hx hb dX9_easedBy_28 ?_
      obtain ⟨g9, hf⟩ := w_oi hf
      refine va_iald (D := Γ.1) (tys := (tysC Γ)) hx hb hK hP (5) 0 (gM_M_rows Γ τ) rfl g9 dX9_easedBy_29 ?_
      refine lv_ineg hx hb dX9_easedBy_30 ?_
      refine lv_goto (tgt := 35) hx hb dX9_easedBy_31 (by decide) ?_
      exact w_iret (X := XM Γ) hx hb hr hlocks hK hP hS rfl hf dX9_easedBy_35
  suffices hw : ∀ (H : Heap) (locs : List Loc), va_P Γ.1 vwCl (XM Γ σ) H → va_S (wA (alM Γ) s.heap.size) s.heap H locs → W p l e { frames := 74, cells := 0, slots := 0, locals := 2837 } s m av.toArray below meth c H locs 0 0 (MQ below (wQi Γ.1 vwCl (tysC Γ) (XM Γ) (alM Γ) r σ' s.heap.size) av.toArray s 0 0 (wA (alM Γ) s.heap.size)) (F0 m 0 ls []) from hw _ [] hP va_S.rf
  clear hP
  intro H locs hP hS
  unfold f_X9_easedBy at hf
  refine lv_aload_n hx hb dX9_easedBy_0 rfl (lv_at hl 0 rfl) ?_
  refine va_get (D := Γ.1) (ci := 8) (v := .ref (Γ.2.2.1 (4))) (C := RX9) (T := TX9) (N := 44) hx hb hts iX9 hown hK hP (0) (gM_Model Γ σ) rfl 9 (by decide) (hts (.fieldLink RX9 23 "OtherHalfOfNightModel" "kinds" "[I") (wzm K111)) (fun _ h9 => h9) rfl dX9_easedBy_1 ?_
  refine lv_iload_n hx hb dX9_easedBy_4 rfl (lv_at hl 1 rfl) ?_
  obtain ⟨g1, hf⟩ := w_oi hf
  refine va_iald (D := Γ.1) (tys := (tysC Γ)) hx hb hK hP (4) 0 (gM_M_kinds Γ σ) rfl g1 dX9_easedBy_5 ?_
  refine lv_istore_n (lv' := [(2, .int (σ.1 (9) (x1).toNatClampNeg)), (0, .ref (Γ.2.2.1 (0))), (1, .int x1)]) hx hb dX9_easedBy_6 rfl hl (by decide) rfl (fun ls hl => ?_)
  refine lv_iload_n hx hb dX9_easedBy_7 rfl (lv_at hl 0 rfl) ?_
  refine lv_iconst (v := (2 : Int32)) hx hb dX9_easedBy_8 (by decide) ?_
  refine lv_icmp_eq (tgt := 17) hx hb dX9_easedBy_9 (by decide) (fun c2 => ?_) (fun c2 => ?_)
  · replace hf := (if_pos c2).symm.trans hf
    exact j17 ((σ.1 (9) (x1).toNatClampNeg)) σ H locs ls hf hP hS (lv_sub hl [1, 2, 0] rfl)
  · replace hf := (if_neg c2).symm.trans hf
    refine lv_iload_n hx hb dX9_easedBy_12 rfl (lv_at hl 0 rfl) ?_
    refine lv_iconst (v := (4 : Int32)) hx hb dX9_easedBy_13 (by decide) ?_
    refine lv_icmp_ne (tgt := 36) hx hb dX9_easedBy_14 (by decide) (fun c3 => ?_) (fun c3 => ?_)
    · replace hf := (if_neg c3).symm.trans hf
      refine lv_iload_n hx hb dX9_easedBy_36 rfl (lv_at hl 0 rfl) ?_
      refine lv_iconst (v := (5 : Int32)) hx hb dX9_easedBy_37 (by decide) ?_
      refine lv_icmp_ne (tgt := 65) hx hb dX9_easedBy_38 (by decide) (fun c4 => ?_) (fun c4 => ?_)
      · replace hf := (if_neg c4).symm.trans hf
        exact j65 ((σ.1 (9) (x1).toNatClampNeg)) σ H locs ls hf hP hS (lv_sub hl [1, 2, 0] rfl)
      · replace hf := (if_pos c4).symm.trans hf
        refine lv_aload_n hx hb dX9_easedBy_41 rfl (lv_at hl 1 rfl) ?_
        refine va_get (D := Γ.1) (ci := 8) (v := .ref (Γ.2.2.1 (5))) (C := RX9) (T := TX9) (N := 44) hx hb hts iX9 hown hK hP (0) (gM_Model Γ σ) rfl 10 (by decide) (hts (.fieldLink RX9 26 "OtherHalfOfNightModel" "rows" "[I") (wzm K112)) (fun _ h9 => h9) rfl dX9_easedBy_42 ?_
        refine lv_iconst (v := (3 : Int32)) hx hb dX9_easedBy_45 (by decide) ?_
        refine lv_iload_n hx hb dX9_easedBy_46 rfl (lv_at hl 2 rfl) ?_
        refine lv_imul hx hb dX9_easedBy_47 ?_
        refine lv_iconst (v := (2 : Int32)) hx hb dX9_easedBy_48 (by decide) ?_
        refine lv_iadd hx hb dX9_easedBy_49 ?_
        obtain ⟨g5, hf⟩ := w_oi hf
        refine va_iald (D := Γ.1) (tys := (tysC Γ)) hx hb hK hP (5) 0 (gM_M_rows Γ σ) rfl g5 dX9_easedBy_50 ?_
        refine lv_if_le (tgt := 65) hx hb dX9_easedBy_51 (by decide) (fun c6 => ?_) (fun c6 => ?_)
        · replace hf := (if_pos c6).symm.trans hf
          exact j65 ((σ.1 (9) (x1).toNatClampNeg)) σ H locs ls hf hP hS (lv_sub hl [1, 2, 0] rfl)
        · replace hf := (if_neg c6).symm.trans hf
          refine lv_aload_n hx hb dX9_easedBy_54 rfl (lv_at hl 1 rfl) ?_
          refine va_get (D := Γ.1) (ci := 8) (v := .ref (Γ.2.2.1 (5))) (C := RX9) (T := TX9) (N := 44) hx hb hts iX9 hown hK hP (0) (gM_Model Γ σ) rfl 10 (by decide) (hts (.fieldLink RX9 26 "OtherHalfOfNightModel" "rows" "[I") (wzm K112)) (fun _ h9 => h9) rfl dX9_easedBy_55 ?_
          refine lv_iconst (v := (3 : Int32)) hx hb dX9_easedBy_58 (by decide) ?_
          refine lv_iload_n hx hb dX9_easedBy_59 rfl (lv_at hl 2 rfl) ?_
          refine lv_imul hx hb dX9_easedBy_60 ?_
          refine lv_iconst (v := (1 : Int32)) hx hb dX9_easedBy_61 (by decide) ?_
          refine lv_iadd hx hb dX9_easedBy_62 ?_
          obtain ⟨g7, hf⟩ := w_oi hf
          refine va_iald (D := Γ.1) (tys := (tysC Γ)) hx hb hK hP (5) 0 (gM_M_rows Γ σ) rfl g7 dX9_easedBy_63 ?_
          exact w_iret (X := XM Γ) hx hb hr hlocks hK hP hS rfl hf dX9_easedBy_64
    · replace hf := (if_pos c3).symm.trans hf
      exact j17 ((σ.1 (9) (x1).toNatClampNeg)) σ H locs ls hf hP hS (lv_sub hl [1, 2, 0] rfl)
def f_X9_eased (x1 : Int32) (σ : Sm) : Option (Int32 × Sm) := (f_X9_isOne x1 σ).bind fun (q1 : Int32 × Sm) => if q1.1 = 0 then some ((-1000 : Int32), q1.2) else (f_X9_easedBy x1 q1.2).bind fun (q4 : Int32 × Sm) => some (q4.1, q4.2)
set_option maxHeartbeats 40000000 in
set_option maxRecDepth 100000 in
theorem c_X9_eased (l : Launch) (Γ : Geo) (hG : okM Γ) (x1 : Int32) (σ : Sm) (r : Int32) (σ' : Sm) (hf : f_X9_eased x1 σ = some (r, σ')) (sz : Nat) : Met l yX9_eased (wz yX9_eased cX9_eased 2 (some .int)) { frames := 75, cells := 0, slots := 0, locals := 2860 } (va_Pc [.ref (Γ.2.2.1 (0)), .int x1] (wPre Γ.1 vwCl (tysC Γ) (XM Γ) (alM Γ) Γ.2.2.2 σ sz)) (wQi Γ.1 vwCl (tysC Γ) (XM Γ) (alM Γ) r σ' sz) 0 0 (wA (alM Γ) sz) := by
  refine w_enter (cc := cX9_eased) (maxL := 2) (ret := (some .int)) (by decide) rfl (Nat.le_of_ble_eq_true rfl) ?_
  intro p e s m below meth c ls hx hb hr hlocks hml hown hts hsz hP hK hkc hN hl
  subst hsz
  generalize hav : ([.ref (Γ.2.2.1 (0)), .int x1] : List Value) = av at hl hts ⊢
  have hl : lv_has ls 2 [(0, .ref (Γ.2.2.1 (0))), (1, .int x1)] := by rw [← hav] at hl; exact hl
  suffices hw : ∀ (H : Heap) (locs : List Loc), va_P Γ.1 vwCl (XM Γ σ) H → va_S (wA (alM Γ) s.heap.size) s.heap H locs → W p l e { frames := 75, cells := 0, slots := 0, locals := 2860 } s m av.toArray below meth c H locs 0 0 (MQ below (wQi Γ.1 vwCl (tysC Γ) (XM Γ) (alM Γ) r σ' s.heap.size) av.toArray s 0 0 (wA (alM Γ) s.heap.size)) (F0 m 0 ls []) from hw _ [] hP va_S.rf
  clear hP
  intro H locs hP hS
  unfold f_X9_eased at hf
  refine lv_aload_n hx hb dX9_eased_0 rfl (lv_at hl 0 rfl) ?_
  refine lv_iload_n hx hb dX9_eased_1 rfl (lv_at hl 1 rfl) ?_
  obtain ⟨q1, h2, hf⟩ := w_ob hf
  refine w_ci (va_runV (As := [.int x1]) (rest := []) ⟨hx, hb, hml, hown, hts⟩ (c_X9_isOne l Γ hG x1 σ q1.1 q1.2 h2 H.size) (cwV 1 hts (wzV K182 K179 K180 K181 K5) rfl rfl rfl (by decide +kernel) ⟨(Nat.le_of_ble_eq_true rfl), (Nat.le_of_ble_eq_true rfl)⟩) (w_preV hK hP hkc hN hS (gM_Model Γ σ) rfl) rfl rfl hl.1 rfl (lv_room (Nat.le_of_ble_eq_true rfl)) dX9_eased_2 ⟨Nat.le_refl _, Nat.le_refl _⟩) hS (fun H locs hP hS => ?_)
  refine lv_if_eq (tgt := 16) hx hb dX9_eased_5 (by decide) (fun c3 => ?_) (fun c3 => ?_)
  · replace hf := (if_pos c3).symm.trans hf
    refine lv_sipush (v := (-1000 : Int32)) hx hb dX9_eased_16 (by decide) ?_
    exact w_iret (X := XM Γ) hx hb hr hlocks hK hP hS rfl hf dX9_eased_19
  · replace hf := (if_neg c3).symm.trans hf
    refine lv_aload_n hx hb dX9_eased_8 rfl (lv_at hl 0 rfl) ?_
    refine lv_iload_n hx hb dX9_eased_9 rfl (lv_at hl 1 rfl) ?_
    obtain ⟨q4, h5, hf⟩ := w_ob hf
    refine w_ci (va_runV (As := [.int x1]) (rest := []) ⟨hx, hb, hml, hown, hts⟩ (c_X9_easedBy l Γ hG x1 q1.2 q4.1 q4.2 h5 H.size) (cwV 1 hts (wzV K415 K412 K413 K414 K5) rfl rfl rfl (by decide +kernel) ⟨(Nat.le_of_ble_eq_true rfl), (Nat.le_of_ble_eq_true rfl)⟩) (w_preV hK hP hkc hN hS (gM_Model Γ q1.2) rfl) rfl rfl hl.1 rfl (lv_room (Nat.le_of_ble_eq_true rfl)) dX9_eased_10 ⟨Nat.le_refl _, Nat.le_refl _⟩) hS (fun H locs hP hS => ?_)
    refine lv_goto (tgt := 19) hx hb dX9_eased_13 (by decide) ?_
    exact w_iret (X := XM Γ) hx hb hr hlocks hK hP hS rfl hf dX9_eased_19
def f_X9_passes_160 : Nat → Int32 → Int32 → Sm → Option (Int32 × Sm)
  | 0, _, _, _ => none
  | n + 1, y1, y2, τ => if (τ.1 (12) 0) ≤ y2 then some (y1, (upm τ (7) 0 ((τ.1 (7) 0) + (1 : Int32)))) else if okI (((3 : Int32) * y2) + (1 : Int32)) 15 then if okI y2 5 then (f_X9_within ((τ.1 (10) ((((3 : Int32) * y2) + (1 : Int32))).toNatClampNeg) - (τ.1 (31) (y2).toNatClampNeg)) (0 : Int32) (99 : Int32) τ).bind fun (q12 : Int32 × Sm) => if okI (((3 : Int32) * y2) + (1 : Int32)) 15 then (f_X9_passes_160 n) (y1) ((y2 + (1 : Int32))) (upm q12.2 (10) ((((3 : Int32) * y2) + (1 : Int32))).toNatClampNeg q12.1) else none else none else none
def f_X9_passes_104 (k29 : Int32 → Int32 → Sm → Option (Int32 × Sm)) (k57 : Int32 → Int32 → Int32 → Int32 → Sm → Option (Int32 × Sm)) (y1 : Int32) (y2 : Int32) (y3 : Int32) (y4 : Int32) (z0 : Int32) (τ : Sm) : Option (Int32 × Sm) := if okI (((6 : Int32) * y2) + y4) 30 then if okI (((3 : Int32) * y4) + (2 : Int32)) 18 then if okI (((3 : Int32) * y4) + (2 : Int32)) 18 then (some (upm (upm τ (30) ((((6 : Int32) * y2) + y4)).toNatClampNeg z0) (11) ((((3 : Int32) * y4) + (2 : Int32))).toNatClampNeg (((upm τ (30) ((((6 : Int32) * y2) + y4)).toNatClampNeg z0).1 (11) ((((3 : Int32) * y4) + (2 : Int32))).toNatClampNeg) + z0))).bind fun (τ26 : Sm) => k57 ((y1 + z0)) (y2) ((y3 - z0)) ((y4 + (1 : Int32))) τ26 else none else none else none
def f_X9_passes_57 (k29 : Int32 → Int32 → Sm → Option (Int32 × Sm)) : Nat → Int32 → Int32 → Int32 → Int32 → Sm → Option (Int32 × Sm)
  | 0, _, _, _, _, _ => none
  | n + 1, y1, y2, y3, y4, τ => if (6 : Int32) ≤ y4 then k29 (y1) ((y2 + (1 : Int32))) τ else (f_X9_suits y2 y4 τ).bind fun (q16 : Int32 × Sm) => if q16.1 = 0 then f_X9_passes_104 k29 (f_X9_passes_57 k29 n) (y1) (y2) (y3) (y4) ((0 : Int32)) q16.2 else if okI ((3 : Int32) * y4) 18 then if okI (((3 : Int32) * y4) + (2 : Int32)) 18 then (f_X9_within ((q16.2.1 (11) (((3 : Int32) * y4)).toNatClampNeg) - (q16.2.1 (11) ((((3 : Int32) * y4) + (2 : Int32))).toNatClampNeg)) (0 : Int32) y3 q16.2).bind fun (q21 : Int32 × Sm) => f_X9_passes_104 k29 (f_X9_passes_57 k29 n) (y1) (y2) (y3) (y4) (q21.1) q21.2 else none else none
def f_X9_passes_29 : Nat → Int32 → Int32 → Sm → Option (Int32 × Sm)
  | 0, _, _, _ => none
  | n + 1, y1, y2, τ => if (τ.1 (12) 0) ≤ y2 then f_X9_passes_160 5000 (y1) ((0 : Int32)) τ else (f_X9_yieldsOf y2 τ).bind fun (q4 : Int32 × Sm) => (f_X9_easedBy y2 q4.2).bind fun (q6 : Int32 × Sm) => if okI y2 5 then f_X9_passes_57 (f_X9_passes_29 n) 5000 (y1) (y2) (q4.1) ((0 : Int32)) (upm q6.2 (31) (y2).toNatClampNeg q6.1) else none
def f_X9_passes_4 : Nat → Int32 → Int32 → Sm → Option (Int32 × Sm)
  | 0, _, _, _ => none
  | n + 1, y1, y2, τ => if (6 : Int32) ≤ y2 then f_X9_passes_29 5000 (y1) ((0 : Int32)) τ else if okI (((3 : Int32) * y2) + (2 : Int32)) 18 then (f_X9_passes_4 n) (y1) ((y2 + (1 : Int32))) (upm τ (11) ((((3 : Int32) * y2) + (2 : Int32))).toNatClampNeg (0 : Int32)) else none
def f_X9_passes (σ : Sm) : Option (Int32 × Sm) := f_X9_passes_4 5000 ((0 : Int32)) ((0 : Int32)) σ
set_option maxHeartbeats 40000000 in
set_option maxRecDepth 100000 in
theorem c_X9_passes (l : Launch) (Γ : Geo) (hG : okM Γ) (σ : Sm) (r : Int32) (σ' : Sm) (hf : f_X9_passes σ = some (r, σ')) (sz : Nat) : Met l yX9_passes (wz yX9_passes cX9_passes 6 (some .int)) { frames := 75, cells := 0, slots := 0, locals := 2863 } (va_Pc [.ref (Γ.2.2.1 (0))] (wPre Γ.1 vwCl (tysC Γ) (XM Γ) (alM Γ) Γ.2.2.2 σ sz)) (wQi Γ.1 vwCl (tysC Γ) (XM Γ) (alM Γ) r σ' sz) 0 0 (wA (alM Γ) sz) := by
  refine w_enter (cc := cX9_passes) (maxL := 6) (ret := (some .int)) (by decide) rfl (Nat.le_of_ble_eq_true rfl) ?_
  intro p e s m below meth c ls hx hb hr hlocks hml hown hts hsz hP hK hkc hN hl
  subst hsz
  generalize hav : ([.ref (Γ.2.2.1 (0))] : List Value) = av at hl hts ⊢
  have hl : lv_has ls 6 [(0, .ref (Γ.2.2.1 (0)))] := by rw [← hav] at hl; exact hl
  have j160 : ∀ (n160 : Nat), ∀ (y1 : Int32) (y2 : Int32) (τ : Sm) (H : Heap) (locs : List Loc) (ls : Array Slot) (hf : f_X9_passes_160 n160 y1 y2 τ = some (r, σ')) (hP : va_P Γ.1 vwCl (XM Γ τ) H) (hS : va_S (wA (alM Γ) s.heap.size) s.heap H locs) (hl : lv_has ls 6 [(0, .ref (Γ.2.2.1 (0))), (1, .int y1), (2, .int y2)]), W p l e { frames := 75, cells := 0, slots := 0, locals := 2863 } s m av.toArray below meth c H locs 0 0 (MQ below (wQi Γ.1 vwCl (tysC Γ) (XM Γ) (alM Γ) r σ' s.heap.size) av.toArray s 0 0 (wA (alM Γ) s.heap.size)) (F0 m 160 ls []) := by
    intro n160
    induction n160 with
    | zero =>
      intro y1 y2 τ H locs ls hf
      exact absurd hf (by intro h; cases h)
    | succ n160 ih160 =>
      intro y1 y2 τ H locs ls hf hP hS hl
      unfold f_X9_passes_160 at hf
      refine lv_iload_n hx hb dX9_passes_160 rfl (lv_at hl 2 rfl) ?_
      refine lv_aload_n hx hb dX9_passes_161 rfl (lv_at hl 0 rfl) ?_
      refine va_get (D := Γ.1) (ci := 8) (v := .int (τ.1 (12) 0)) (C := RX9) (T := TX9) (N := 44) hx hb hts iX9 hown hK hP (0) (gM_Model Γ τ) rfl 12 (by decide) (hts (.fieldLink RX9 77 "OtherHalfOfNightModel" "many" "I") (wzm K183)) (fun _ h9 => h9) rfl dX9_passes_162 ?_
      refine lv_icmp_ge (tgt := 207) hx hb dX9_passes_165 (by decide) (fun c9 => ?_) (fun c9 => ?_)
      · replace hf := (if_pos c9).symm.trans hf
        refine lv_aload_n hx hb dX9_passes_207 rfl (lv_at hl 0 rfl) ?_
        refine lv_dup hx hb dX9_passes_208 rfl ?_
        refine va_get (D := Γ.1) (ci := 8) (v := .int (τ.1 (7) 0)) (C := RX9) (T := TX9) (N := 44) hx hb hts iX9 hown hK hP (0) (gM_Model Γ τ) rfl 7 (by decide) (hts (.fieldLink RX9 111 "OtherHalfOfNightModel" "nightNow" "I") (wzm K192)) (fun _ h9 => h9) rfl dX9_passes_209 ?_
        refine lv_iconst (v := (1 : Int32)) hx hb dX9_passes_212 (by decide) ?_
        refine lv_iadd hx hb dX9_passes_213 ?_
        refine w_put (X := XM Γ) (σ' := (upm τ (7) 0 ((τ.1 (7) 0) + (1 : Int32)))) (ci := 8) (C := RX9) (T := TX9) (N := 44) (ty := .int) hx hb hts iX9 tyX9 tyX9_ok nmX9 hown hK hP (halM Γ) hG hS (0) (gM_Model Γ τ) rfl 7 (by decide) (hts (.fieldLink RX9 111 "OtherHalfOfNightModel" "nightNow" "I") (wzm K192)) (fun _ h9 => h9) rfl (by decide +kernel) rfl rfl (Nat.le_of_ble_eq_true rfl) dX9_passes_214 (sM_Model_nightNow Γ τ ((τ.1 (7) 0) + (1 : Int32))) (fun H locs hP hS => ?_)
        refine lv_iload_n hx hb dX9_passes_217 rfl (lv_at hl 1 rfl) ?_
        exact w_iret (X := XM Γ) hx hb hr hlocks hK hP hS rfl hf dX9_passes_218
      · replace hf := (if_neg c9).symm.trans hf
        refine lv_aload_n hx hb dX9_passes_168 rfl (lv_at hl 0 rfl) ?_
        refine va_get (D := Γ.1) (ci := 8) (v := .ref (Γ.2.2.1 (5))) (C := RX9) (T := TX9) (N := 44) hx hb hts iX9 hown hK hP (0) (gM_Model Γ τ) rfl 10 (by decide) (hts (.fieldLink RX9 26 "OtherHalfOfNightModel" "rows" "[I") (wzm K112)) (fun _ h9 => h9) rfl dX9_passes_169 ?_
        refine lv_iconst (v := (3 : Int32)) hx hb dX9_passes_172 (by decide) ?_
        refine lv_iload_n hx hb dX9_passes_173 rfl (lv_at hl 2 rfl) ?_
        refine lv_imul hx hb dX9_passes_174 ?_
        refine lv_iconst (v := (1 : Int32)) hx hb dX9_passes_175 (by decide) ?_
        refine lv_iadd hx hb dX9_passes_176 ?_
        refine lv_aload_n hx hb dX9_passes_177 rfl (lv_at hl 0 rfl) ?_
        refine va_get (D := Γ.1) (ci := 8) (v := .ref (Γ.2.2.1 (5))) (C := RX9) (T := TX9) (N := 44) hx hb hts iX9 hown hK hP (0) (gM_Model Γ τ) rfl 10 (by decide) (hts (.fieldLink RX9 26 "OtherHalfOfNightModel" "rows" "[I") (wzm K112)) (fun _ h9 => h9) rfl dX9_passes_178 ?_
        refine lv_iconst (v := (3 : Int32)) hx hb dX9_passes_181 (by decide) ?_
        refine lv_iload_n hx hb dX9_passes_182 rfl (lv_at hl 2 rfl) ?_
        refine lv_imul hx hb dX9_passes_183 ?_
        refine lv_iconst (v := (1 : Int32)) hx hb dX9_passes_184 (by decide) ?_
        refine lv_iadd hx hb dX9_passes_185 ?_
        obtain ⟨g10, hf⟩ := w_oi hf
        refine va_iald (D := Γ.1) (tys := (tysC Γ)) hx hb hK hP (5) 0 (gM_M_rows Γ τ) rfl g10 dX9_passes_186 ?_
        refine lv_aload_n hx hb dX9_passes_187 rfl (lv_at hl 0 rfl) ?_
        refine va_get (D := Γ.1) (ci := 8) (v := .ref (Γ.2.2.1 (10))) (C := RX9) (T := TX9) (N := 44) hx hb hts iX9 hown hK hP (0) (gM_Model Γ τ) rfl 31 (by decide) (hts (.fieldLink RX9 42 "OtherHalfOfNightModel" "eases" "[I") (wzm K118)) (fun _ h9 => h9) rfl dX9_passes_188 ?_
        refine lv_iload_n hx hb dX9_passes_191 rfl (lv_at hl 2 rfl) ?_
        obtain ⟨g11, hf⟩ := w_oi hf
        refine va_iald (D := Γ.1) (tys := (tysC Γ)) hx hb hK hP (10) 0 (gM_M_eases Γ τ) rfl g11 dX9_passes_192 ?_
        refine lv_isub hx hb dX9_passes_193 ?_
        refine lv_iconst (v := (0 : Int32)) hx hb dX9_passes_194 (by decide) ?_
        refine lv_bipush (v := (99 : Int32)) hx hb dX9_passes_195 (by decide) ?_
        obtain ⟨q12, h13, hf⟩ := w_ob hf
        refine w_ci (va_runS (As := [.int ((τ.1 (10) ((((3 : Int32) * y2) + (1 : Int32))).toNatClampNeg) - (τ.1 (31) (y2).toNatClampNeg)), .int (0 : Int32), .int (99 : Int32)]) (rest := [.int (((3 : Int32) * y2) + (1 : Int32)), .ref (Γ.2.2.1 (5))]) ⟨hx, hb, hml, hown, hts⟩ (c_X9_within l Γ hG ((τ.1 (10) ((((3 : Int32) * y2) + (1 : Int32))).toNatClampNeg) - (τ.1 (31) (y2).toNatClampNeg)) (0 : Int32) (99 : Int32) τ q12.1 q12.2 h13 H.size) (cwS 3 hts (wzS K301 K299 K300 K5) rfl rfl rfl (by decide +kernel) ⟨(Nat.le_of_ble_eq_true rfl), (Nat.le_of_ble_eq_true rfl)⟩) (w_pre hK hP hkc hN hS) rfl rfl hl.1 rfl (lv_room (Nat.le_of_ble_eq_true rfl)) dX9_passes_197 ⟨Nat.le_refl _, Nat.le_refl _⟩) hS (fun H locs hP hS => ?_)
        obtain ⟨g14, hf⟩ := w_oi hf
        refine w_iast (D := Γ.1) (tys := (tysC Γ)) (X := XM Γ) (σ' := (upm q12.2 (10) ((((3 : Int32) * y2) + (1 : Int32))).toNatClampNeg q12.1)) hx hb hK hP (halM Γ) hG hS (5) 0 (gM_M_rows Γ q12.2) rfl g14 dX9_passes_200 (sM_M_rows Γ q12.2 ((((3 : Int32) * y2) + (1 : Int32))).toNatClampNeg q12.1) (fun H locs hP hS => ?_)
        refine lv_iinc (v := (y2 + (1 : Int32))) (lv' := [(2, .int (y2 + (1 : Int32))), (0, .ref (Γ.2.2.1 (0))), (1, .int y1)]) hx hb dX9_passes_201 hl (k := 2) rfl rfl (by decide) rfl (fun ls hl => ?_)
        refine lv_goto (tgt := 160) hx hb dX9_passes_204 (by decide) ?_
        exact ih160 (y1) ((y2 + (1 : Int32))) (upm q12.2 (10) ((((3 : Int32) * y2) + (1 : Int32))).toNatClampNeg q12.1) H locs ls hf hP hS (lv_sub hl [1, 2, 0] rfl)
  have j29 : ∀ (n29 : Nat), ∀ (y1 : Int32) (y2 : Int32) (τ : Sm) (H : Heap) (locs : List Loc) (ls : Array Slot) (hf : f_X9_passes_29 n29 y1 y2 τ = some (r, σ')) (hP : va_P Γ.1 vwCl (XM Γ τ) H) (hS : va_S (wA (alM Γ) s.heap.size) s.heap H locs) (hl : lv_has ls 6 [(0, .ref (Γ.2.2.1 (0))), (1, .int y1), (2, .int y2)]), W p l e { frames := 75, cells := 0, slots := 0, locals := 2863 } s m av.toArray below meth c H locs 0 0 (MQ below (wQi Γ.1 vwCl (tysC Γ) (XM Γ) (alM Γ) r σ' s.heap.size) av.toArray s 0 0 (wA (alM Γ) s.heap.size)) (F0 m 29 ls []) := by
    intro n29
    induction n29 with
    | zero =>
      intro y1 y2 τ H locs ls hf
      exact absurd hf (by intro h; cases h)
    | succ n29 ih29 =>
      have j57 : ∀ (n57 : Nat), ∀ (y1 : Int32) (y2 : Int32) (y3 : Int32) (y4 : Int32) (τ : Sm) (H : Heap) (locs : List Loc) (ls : Array Slot) (hf : f_X9_passes_57 (f_X9_passes_29 n29) n57 y1 y2 y3 y4 τ = some (r, σ')) (hP : va_P Γ.1 vwCl (XM Γ τ) H) (hS : va_S (wA (alM Γ) s.heap.size) s.heap H locs) (hl : lv_has ls 6 [(0, .ref (Γ.2.2.1 (0))), (1, .int y1), (2, .int y2), (3, .int y3), (4, .int y4)]), W p l e { frames := 75, cells := 0, slots := 0, locals := 2863 } s m av.toArray below meth c H locs 0 0 (MQ below (wQi Γ.1 vwCl (tysC Γ) (XM Γ) (alM Γ) r σ' s.heap.size) av.toArray s 0 0 (wA (alM Γ) s.heap.size)) (F0 m 57 ls []) := by
        intro n57
        induction n57 with
        | zero =>
          intro y1 y2 y3 y4 τ H locs ls hf
          exact absurd hf (by intro h; cases h)
        | succ n57 ih57 =>
          have j104 : ∀ (y1 : Int32) (y2 : Int32) (y3 : Int32) (y4 : Int32) (z0 : Int32) (τ : Sm) (H : Heap) (locs : List Loc) (ls : Array Slot) (hf : f_X9_passes_104 (f_X9_passes_29 n29) (f_X9_passes_57 (f_X9_passes_29 n29) n57) y1 y2 y3 y4 z0 τ = some (r, σ')) (hP : va_P Γ.1 vwCl (XM Γ τ) H) (hS : va_S (wA (alM Γ) s.heap.size) s.heap H locs) (hl : lv_has ls 6 [(0, .ref (Γ.2.2.1 (0))), (1, .int y1), (2, .int y2), (3, .int y3), (4, .int y4)]), W p l e { frames := 75, cells := 0, slots := 0, locals := 2863 } s m av.toArray below meth c H locs 0 0 (MQ below (wQi Γ.1 vwCl (tysC Γ) (XM Γ) (alM Γ) r σ' s.heap.size) av.toArray s 0 0 (wA (alM Γ) s.heap.size)) (F0 m 104 ls [.int z0]) := by
            intro y1 y2 y3 y4 z0 τ H locs ls hf hP hS hl
            unfold f_X9_passes_104 at hf
            refine lv_istore (lv' := [(5, .int z0), (0, .ref (Γ.2.2.1 (0))), (1, .int y1), (2, .int y2), (3, .int y3), (4, .int y4)]) hx hb dX9_passes_104 hl (by decide) rfl (fun ls hl => ?_)
            refine lv_aload_n hx hb dX9_passes_106 rfl (lv_at hl 1 rfl) ?_
            refine va_get (D := Γ.1) (ci := 8) (v := .ref (Γ.2.2.1 (9))) (C := RX9) (T := TX9) (N := 44) hx hb hts iX9 hown hK hP (0) (gM_Model Γ τ) rfl 30 (by decide) (hts (.fieldLink RX9 39 "OtherHalfOfNightModel" "drops" "[I") (wzm K117)) (fun _ h9 => h9) rfl dX9_passes_107 ?_
            refine lv_bipush (v := (6 : Int32)) hx hb dX9_passes_110 (by decide) ?_
            refine lv_iload_n hx hb dX9_passes_112 rfl (lv_at hl 3 rfl) ?_
            refine lv_imul hx hb dX9_passes_113 ?_
            refine lv_iload hx hb dX9_passes_114 (lv_at hl 5 rfl) ?_
            refine lv_iadd hx hb dX9_passes_116 ?_
            refine lv_iload hx hb dX9_passes_117 (lv_at hl 0 rfl) ?_
            obtain ⟨g23, hf⟩ := w_oi hf
            refine w_iast (D := Γ.1) (tys := (tysC Γ)) (X := XM Γ) (σ' := (upm τ (30) ((((6 : Int32) * y2) + y4)).toNatClampNeg z0)) hx hb hK hP (halM Γ) hG hS (9) 0 (gM_M_drops Γ τ) rfl g23 dX9_passes_119 (sM_M_drops Γ τ ((((6 : Int32) * y2) + y4)).toNatClampNeg z0) (fun H locs hP hS => ?_)
            refine lv_aload_n hx hb dX9_passes_120 rfl (lv_at hl 1 rfl) ?_
            refine va_get (D := Γ.1) (ci := 8) (v := .ref (Γ.2.2.1 (6))) (C := RX9) (T := TX9) (N := 44) hx hb hts iX9 hown hK hP (0) (gM_Model Γ (upm τ (30) ((((6 : Int32) * y2) + y4)).toNatClampNeg z0)) rfl 11 (by decide) (hts (.fieldLink RX9 29 "OtherHalfOfNightModel" "cups" "[I") (wzm K113)) (fun _ h9 => h9) rfl dX9_passes_121 ?_
            refine lv_iconst (v := (3 : Int32)) hx hb dX9_passes_124 (by decide) ?_
            refine lv_iload hx hb dX9_passes_125 (lv_at hl 5 rfl) ?_
            refine lv_imul hx hb dX9_passes_127 ?_
            refine lv_iconst (v := (2 : Int32)) hx hb dX9_passes_128 (by decide) ?_
            refine lv_iadd hx hb dX9_passes_129 ?_
            refine lv_dup2_11 hx hb dX9_passes_130 rfl rfl ?_
            obtain ⟨g24, hf⟩ := w_oi hf
            refine va_iald (D := Γ.1) (tys := (tysC Γ)) hx hb hK hP (6) 0 (gM_M_cups Γ (upm τ (30) ((((6 : Int32) * y2) + y4)).toNatClampNeg z0)) rfl g24 dX9_passes_131 ?_
            refine lv_iload hx hb dX9_passes_132 (lv_at hl 0 rfl) ?_
            refine lv_iadd hx hb dX9_passes_134 ?_
            obtain ⟨g25, hf⟩ := w_oi hf
            refine w_iast (D := Γ.1) (tys := (tysC Γ)) (X := XM Γ) (σ' := (upm (upm τ (30) ((((6 : Int32) * y2) + y4)).toNatClampNeg z0) (11) ((((3 : Int32) * y4) + (2 : Int32))).toNatClampNeg (((upm τ (30) ((((6 : Int32) * y2) + y4)).toNatClampNeg z0).1 (11) ((((3 : Int32) * y4) + (2 : Int32))).toNatClampNeg) + z0))) hx hb hK hP (halM Γ) hG hS (6) 0 (gM_M_cups Γ (upm τ (30) ((((6 : Int32) * y2) + y4)).toNatClampNeg z0)) rfl g25 dX9_passes_135 (sM_M_cups Γ (upm τ (30) ((((6 : Int32) * y2) + y4)).toNatClampNeg z0) ((((3 : Int32) * y4) + (2 : Int32))).toNatClampNeg (((upm τ (30) ((((6 : Int32) * y2) + y4)).toNatClampNeg z0).1 (11) ((((3 : Int32) * y4) + (2 : Int32))).toNatClampNeg) + z0)) (fun H locs hP hS => ?_)
            obtain ⟨τ26, e27, hf⟩ := w_ob hf
            replace e27 := Option.some.inj e27
            rw [e27] at hP
            refine lv_iload_n hx hb dX9_passes_136 rfl (lv_at hl 4 rfl) ?_
            refine lv_iload hx hb dX9_passes_137 (lv_at hl 0 rfl) ?_
            refine lv_isub hx hb dX9_passes_139 ?_
            refine lv_istore_n (lv' := [(3, .int (y3 - z0)), (5, .int z0), (0, .ref (Γ.2.2.1 (0))), (1, .int y1), (2, .int y2), (4, .int y4)]) hx hb dX9_passes_140 rfl hl (by decide) rfl (fun ls hl => ?_)
            refine lv_iload_n hx hb dX9_passes_141 rfl (lv_at hl 3 rfl) ?_
            refine lv_iload hx hb dX9_passes_142 (lv_at hl 1 rfl) ?_
            refine lv_iadd hx hb dX9_passes_144 ?_
            refine lv_istore_n (lv' := [(1, .int (y1 + z0)), (3, .int (y3 - z0)), (5, .int z0), (0, .ref (Γ.2.2.1 (0))), (2, .int y2), (4, .int y4)]) hx hb dX9_passes_145 rfl hl (by decide) rfl (fun ls hl => ?_)
            refine lv_iinc (v := (y4 + (1 : Int32))) (lv' := [(4, .int (y4 + (1 : Int32))), (1, .int (y1 + z0)), (3, .int (y3 - z0)), (5, .int z0), (0, .ref (Γ.2.2.1 (0))), (2, .int y2)]) hx hb dX9_passes_146 hl (k := 5) rfl rfl (by decide) rfl (fun ls hl => ?_)
            refine lv_goto (tgt := 57) hx hb dX9_passes_149 (by decide) ?_
            exact ih57 ((y1 + z0)) (y2) ((y3 - z0)) ((y4 + (1 : Int32))) τ26 H locs ls hf hP hS (lv_sub hl [4, 1, 5, 2, 0] rfl)
          intro y1 y2 y3 y4 τ H locs ls hf hP hS hl
          unfold f_X9_passes_57 at hf
          refine lv_iload hx hb dX9_passes_57 (lv_at hl 4 rfl) ?_
          refine lv_bipush (v := (6 : Int32)) hx hb dX9_passes_59 (by decide) ?_
          refine lv_icmp_ge (tgt := 152) hx hb dX9_passes_61 (by decide) (fun c15 => ?_) (fun c15 => ?_)
          · replace hf := (if_pos c15).symm.trans hf
            refine lv_iinc (v := (y2 + (1 : Int32))) (lv' := [(2, .int (y2 + (1 : Int32))), (0, .ref (Γ.2.2.1 (0))), (1, .int y1), (3, .int y3), (4, .int y4)]) hx hb dX9_passes_152 hl (k := 2) rfl rfl (by decide) rfl (fun ls hl => ?_)
            refine lv_goto (tgt := 29) hx hb dX9_passes_155 (by decide) ?_
            exact ih29 (y1) ((y2 + (1 : Int32))) τ H locs ls hf hP hS (lv_sub hl [1, 2, 0] rfl)
          · replace hf := (if_neg c15).symm.trans hf
            refine lv_aload_n hx hb dX9_passes_64 rfl (lv_at hl 0 rfl) ?_
            refine lv_iload_n hx hb dX9_passes_65 rfl (lv_at hl 2 rfl) ?_
            refine lv_iload hx hb dX9_passes_66 (lv_at hl 4 rfl) ?_
            obtain ⟨q16, h17, hf⟩ := w_ob hf
            refine w_ci (va_runV (As := [.int y2, .int y4]) (rest := []) ⟨hx, hb, hml, hown, hts⟩ (c_X9_suits l Γ hG y2 y4 τ q16.1 q16.2 h17 H.size) (cwV 2 hts (wzV K309 K306 K307 K308 K5) rfl rfl rfl (by decide +kernel) ⟨(Nat.le_of_ble_eq_true rfl), (Nat.le_of_ble_eq_true rfl)⟩) (w_preV hK hP hkc hN hS (gM_Model Γ τ) rfl) rfl rfl hl.1 rfl (lv_room (Nat.le_of_ble_eq_true rfl)) dX9_passes_68 ⟨Nat.le_refl _, Nat.le_refl _⟩) hS (fun H locs hP hS => ?_)
            refine lv_if_eq (tgt := 103) hx hb dX9_passes_71 (by decide) (fun c18 => ?_) (fun c18 => ?_)
            · replace hf := (if_pos c18).symm.trans hf
              refine lv_iconst (v := (0 : Int32)) hx hb dX9_passes_103 (by decide) ?_
              exact j104 (y1) (y2) (y3) (y4) ((0 : Int32)) q16.2 H locs ls hf hP hS (lv_sub hl [0, 1, 2, 3, 4] rfl)
            · replace hf := (if_neg c18).symm.trans hf
              refine lv_aload_n hx hb dX9_passes_74 rfl (lv_at hl 0 rfl) ?_
              refine va_get (D := Γ.1) (ci := 8) (v := .ref (Γ.2.2.1 (6))) (C := RX9) (T := TX9) (N := 44) hx hb hts iX9 hown hK hP (0) (gM_Model Γ q16.2) rfl 11 (by decide) (hts (.fieldLink RX9 29 "OtherHalfOfNightModel" "cups" "[I") (wzm K113)) (fun _ h9 => h9) rfl dX9_passes_75 ?_
              refine lv_iconst (v := (3 : Int32)) hx hb dX9_passes_78 (by decide) ?_
              refine lv_iload hx hb dX9_passes_79 (lv_at hl 4 rfl) ?_
              refine lv_imul hx hb dX9_passes_81 ?_
              obtain ⟨g19, hf⟩ := w_oi hf
              refine va_iald (D := Γ.1) (tys := (tysC Γ)) hx hb hK hP (6) 0 (gM_M_cups Γ q16.2) rfl g19 dX9_passes_82 ?_
              refine lv_aload_n hx hb dX9_passes_83 rfl (lv_at hl 0 rfl) ?_
              refine va_get (D := Γ.1) (ci := 8) (v := .ref (Γ.2.2.1 (6))) (C := RX9) (T := TX9) (N := 44) hx hb hts iX9 hown hK hP (0) (gM_Model Γ q16.2) rfl 11 (by decide) (hts (.fieldLink RX9 29 "OtherHalfOfNightModel" "cups" "[I") (wzm K113)) (fun _ h9 => h9) rfl dX9_passes_84 ?_
              refine lv_iconst (v := (3 : Int32)) hx hb dX9_passes_87 (by decide) ?_
              refine lv_iload hx hb dX9_passes_88 (lv_at hl 4 rfl) ?_
              refine lv_imul hx hb dX9_passes_90 ?_
              refine lv_iconst (v := (2 : Int32)) hx hb dX9_passes_91 (by decide) ?_
              refine lv_iadd hx hb dX9_passes_92 ?_
              obtain ⟨g20, hf⟩ := w_oi hf
              refine va_iald (D := Γ.1) (tys := (tysC Γ)) hx hb hK hP (6) 0 (gM_M_cups Γ q16.2) rfl g20 dX9_passes_93 ?_
              refine lv_isub hx hb dX9_passes_94 ?_
              refine lv_iconst (v := (0 : Int32)) hx hb dX9_passes_95 (by decide) ?_
              refine lv_iload_n hx hb dX9_passes_96 rfl (lv_at hl 3 rfl) ?_
              obtain ⟨q21, h22, hf⟩ := w_ob hf
              refine w_ci (va_runS (As := [.int ((q16.2.1 (11) (((3 : Int32) * y4)).toNatClampNeg) - (q16.2.1 (11) ((((3 : Int32) * y4) + (2 : Int32))).toNatClampNeg)), .int (0 : Int32), .int y3]) (rest := []) ⟨hx, hb, hml, hown, hts⟩ (c_X9_within l Γ hG ((q16.2.1 (11) (((3 : Int32) * y4)).toNatClampNeg) - (q16.2.1 (11) ((((3 : Int32) * y4) + (2 : Int32))).toNatClampNeg)) (0 : Int32) y3 q16.2 q21.1 q21.2 h22 H.size) (cwS 3 hts (wzS K301 K299 K300 K5) rfl rfl rfl (by decide +kernel) ⟨(Nat.le_of_ble_eq_true rfl), (Nat.le_of_ble_eq_true rfl)⟩) (w_pre hK hP hkc hN hS) rfl rfl hl.1 rfl (lv_room (Nat.le_of_ble_eq_true rfl)) dX9_passes_97 ⟨Nat.le_refl _, Nat.le_refl _⟩) hS (fun H locs hP hS => ?_)
              refine lv_goto (tgt := 104) hx hb dX9_passes_100 (by decide) ?_
              exact j104 (y1) (y2) (y3) (y4) (q21.1) q21.2 H locs ls hf hP hS (lv_sub hl [0, 1, 2, 3, 4] rfl)
      intro y1 y2 τ H locs ls hf hP hS hl
      unfold f_X9_passes_29 at hf
      refine lv_iload_n hx hb dX9_passes_29 rfl (lv_at hl 2 rfl) ?_
      refine lv_aload_n hx hb dX9_passes_30 rfl (lv_at hl 0 rfl) ?_
      refine va_get (D := Γ.1) (ci := 8) (v := .int (τ.1 (12) 0)) (C := RX9) (T := TX9) (N := 44) hx hb hts iX9 hown hK hP (0) (gM_Model Γ τ) rfl 12 (by decide) (hts (.fieldLink RX9 77 "OtherHalfOfNightModel" "many" "I") (wzm K183)) (fun _ h9 => h9) rfl dX9_passes_31 ?_
      refine lv_icmp_ge (tgt := 158) hx hb dX9_passes_34 (by decide) (fun c3 => ?_) (fun c3 => ?_)
      · replace hf := (if_pos c3).symm.trans hf
        refine lv_iconst (v := (0 : Int32)) hx hb dX9_passes_158 (by decide) ?_
        refine lv_istore_n (lv' := [(2, .int (0 : Int32)), (0, .ref (Γ.2.2.1 (0))), (1, .int y1)]) hx hb dX9_passes_159 rfl hl (by decide) rfl (fun ls hl => ?_)
        exact j160 5000 (y1) ((0 : Int32)) τ H locs ls hf hP hS (lv_sub hl [1, 2, 0] rfl)
      · replace hf := (if_neg c3).symm.trans hf
        refine lv_aload_n hx hb dX9_passes_37 rfl (lv_at hl 0 rfl) ?_
        refine lv_iload_n hx hb dX9_passes_38 rfl (lv_at hl 2 rfl) ?_
        obtain ⟨q4, h5, hf⟩ := w_ob hf
        refine w_ci (va_runV (As := [.int y2]) (rest := []) ⟨hx, hb, hml, hown, hts⟩ (c_X9_yieldsOf l Γ hG y2 τ q4.1 q4.2 h5 H.size) (cwV 1 hts (wzV K197 K194 K195 K196 K5) rfl rfl rfl (by decide +kernel) ⟨(Nat.le_of_ble_eq_true rfl), (Nat.le_of_ble_eq_true rfl)⟩) (w_preV hK hP hkc hN hS (gM_Model Γ τ) rfl) rfl rfl hl.1 rfl (lv_room (Nat.le_of_ble_eq_true rfl)) dX9_passes_39 ⟨Nat.le_refl _, Nat.le_refl _⟩) hS (fun H locs hP hS => ?_)
        refine lv_istore_n (lv' := [(3, .int q4.1), (0, .ref (Γ.2.2.1 (0))), (1, .int y1), (2, .int y2)]) hx hb dX9_passes_42 rfl hl (by decide) rfl (fun ls hl => ?_)
        refine lv_aload_n hx hb dX9_passes_43 rfl (lv_at hl 1 rfl) ?_
        refine va_get (D := Γ.1) (ci := 8) (v := .ref (Γ.2.2.1 (10))) (C := RX9) (T := TX9) (N := 44) hx hb hts iX9 hown hK hP (0) (gM_Model Γ q4.2) rfl 31 (by decide) (hts (.fieldLink RX9 42 "OtherHalfOfNightModel" "eases" "[I") (wzm K118)) (fun _ h9 => h9) rfl dX9_passes_44 ?_
        refine lv_iload_n hx hb dX9_passes_47 rfl (lv_at hl 3 rfl) ?_
        refine lv_aload_n hx hb dX9_passes_48 rfl (lv_at hl 1 rfl) ?_
        refine lv_iload_n hx hb dX9_passes_49 rfl (lv_at hl 3 rfl) ?_
        obtain ⟨q6, h7, hf⟩ := w_ob hf
        refine w_ci (va_runV (As := [.int y2]) (rest := [.int y2, .ref (Γ.2.2.1 (10))]) ⟨hx, hb, hml, hown, hts⟩ (c_X9_easedBy l Γ hG y2 q4.2 q6.1 q6.2 h7 H.size) (cwV 1 hts (wzV K415 K412 K413 K414 K5) rfl rfl rfl (by decide +kernel) ⟨(Nat.le_of_ble_eq_true rfl), (Nat.le_of_ble_eq_true rfl)⟩) (w_preV hK hP hkc hN hS (gM_Model Γ q4.2) rfl) rfl rfl hl.1 rfl (lv_room (Nat.le_of_ble_eq_true rfl)) dX9_passes_50 ⟨Nat.le_refl _, Nat.le_refl _⟩) hS (fun H locs hP hS => ?_)
        obtain ⟨g8, hf⟩ := w_oi hf
        refine w_iast (D := Γ.1) (tys := (tysC Γ)) (X := XM Γ) (σ' := (upm q6.2 (31) (y2).toNatClampNeg q6.1)) hx hb hK hP (halM Γ) hG hS (10) 0 (gM_M_eases Γ q6.2) rfl g8 dX9_passes_53 (sM_M_eases Γ q6.2 (y2).toNatClampNeg q6.1) (fun H locs hP hS => ?_)
        refine lv_iconst (v := (0 : Int32)) hx hb dX9_passes_54 (by decide) ?_
        refine lv_istore (lv' := [(4, .int (0 : Int32)), (3, .int q4.1), (0, .ref (Γ.2.2.1 (0))), (1, .int y1), (2, .int y2)]) hx hb dX9_passes_55 hl (by decide) rfl (fun ls hl => ?_)
        exact j57 5000 (y1) (y2) (q4.1) ((0 : Int32)) (upm q6.2 (31) (y2).toNatClampNeg q6.1) H locs ls hf hP hS (lv_sub hl [2, 3, 4, 1, 0] rfl)
  have j4 : ∀ (n4 : Nat), ∀ (y1 : Int32) (y2 : Int32) (τ : Sm) (H : Heap) (locs : List Loc) (ls : Array Slot) (hf : f_X9_passes_4 n4 y1 y2 τ = some (r, σ')) (hP : va_P Γ.1 vwCl (XM Γ τ) H) (hS : va_S (wA (alM Γ) s.heap.size) s.heap H locs) (hl : lv_has ls 6 [(0, .ref (Γ.2.2.1 (0))), (1, .int y1), (2, .int y2)]), W p l e { frames := 75, cells := 0, slots := 0, locals := 2863 } s m av.toArray below meth c H locs 0 0 (MQ below (wQi Γ.1 vwCl (tysC Γ) (XM Γ) (alM Γ) r σ' s.heap.size) av.toArray s 0 0 (wA (alM Γ) s.heap.size)) (F0 m 4 ls []) := by
    intro n4
    induction n4 with
    | zero =>
      intro y1 y2 τ H locs ls hf
      exact absurd hf (by intro h; cases h)
    | succ n4 ih4 =>
      intro y1 y2 τ H locs ls hf hP hS hl
      unfold f_X9_passes_4 at hf
      refine lv_iload_n hx hb dX9_passes_4 rfl (lv_at hl 2 rfl) ?_
      refine lv_bipush (v := (6 : Int32)) hx hb dX9_passes_5 (by decide) ?_
      refine lv_icmp_ge (tgt := 27) hx hb dX9_passes_7 (by decide) (fun c1 => ?_) (fun c1 => ?_)
      · replace hf := (if_pos c1).symm.trans hf
        refine lv_iconst (v := (0 : Int32)) hx hb dX9_passes_27 (by decide) ?_
        refine lv_istore_n (lv' := [(2, .int (0 : Int32)), (0, .ref (Γ.2.2.1 (0))), (1, .int y1)]) hx hb dX9_passes_28 rfl hl (by decide) rfl (fun ls hl => ?_)
        exact j29 5000 (y1) ((0 : Int32)) τ H locs ls hf hP hS (lv_sub hl [1, 2, 0] rfl)
      · replace hf := (if_neg c1).symm.trans hf
        refine lv_aload_n hx hb dX9_passes_10 rfl (lv_at hl 0 rfl) ?_
        refine va_get (D := Γ.1) (ci := 8) (v := .ref (Γ.2.2.1 (6))) (C := RX9) (T := TX9) (N := 44) hx hb hts iX9 hown hK hP (0) (gM_Model Γ τ) rfl 11 (by decide) (hts (.fieldLink RX9 29 "OtherHalfOfNightModel" "cups" "[I") (wzm K113)) (fun _ h9 => h9) rfl dX9_passes_11 ?_
        refine lv_iconst (v := (3 : Int32)) hx hb dX9_passes_14 (by decide) ?_
        refine lv_iload_n hx hb dX9_passes_15 rfl (lv_at hl 2 rfl) ?_
        refine lv_imul hx hb dX9_passes_16 ?_
        refine lv_iconst (v := (2 : Int32)) hx hb dX9_passes_17 (by decide) ?_
        refine lv_iadd hx hb dX9_passes_18 ?_
        refine lv_iconst (v := (0 : Int32)) hx hb dX9_passes_19 (by decide) ?_
        obtain ⟨g2, hf⟩ := w_oi hf
        refine w_iast (D := Γ.1) (tys := (tysC Γ)) (X := XM Γ) (σ' := (upm τ (11) ((((3 : Int32) * y2) + (2 : Int32))).toNatClampNeg (0 : Int32))) hx hb hK hP (halM Γ) hG hS (6) 0 (gM_M_cups Γ τ) rfl g2 dX9_passes_20 (sM_M_cups Γ τ ((((3 : Int32) * y2) + (2 : Int32))).toNatClampNeg (0 : Int32)) (fun H locs hP hS => ?_)
        refine lv_iinc (v := (y2 + (1 : Int32))) (lv' := [(2, .int (y2 + (1 : Int32))), (0, .ref (Γ.2.2.1 (0))), (1, .int y1)]) hx hb dX9_passes_21 hl (k := 2) rfl rfl (by decide) rfl (fun ls hl => ?_)
        refine lv_goto (tgt := 4) hx hb dX9_passes_24 (by decide) ?_
        exact ih4 (y1) ((y2 + (1 : Int32))) (upm τ (11) ((((3 : Int32) * y2) + (2 : Int32))).toNatClampNeg (0 : Int32)) H locs ls hf hP hS (lv_sub hl [1, 2, 0] rfl)
  suffices hw : ∀ (H : Heap) (locs : List Loc), va_P Γ.1 vwCl (XM Γ σ) H → va_S (wA (alM Γ) s.heap.size) s.heap H locs → W p l e { frames := 75, cells := 0, slots := 0, locals := 2863 } s m av.toArray below meth c H locs 0 0 (MQ below (wQi Γ.1 vwCl (tysC Γ) (XM Γ) (alM Γ) r σ' s.heap.size) av.toArray s 0 0 (wA (alM Γ) s.heap.size)) (F0 m 0 ls []) from hw _ [] hP va_S.rf
  clear hP
  intro H locs hP hS
  unfold f_X9_passes at hf
  refine lv_iconst (v := (0 : Int32)) hx hb dX9_passes_0 (by decide) ?_
  refine lv_istore_n (lv' := [(1, .int (0 : Int32)), (0, .ref (Γ.2.2.1 (0)))]) hx hb dX9_passes_1 rfl hl (by decide) rfl (fun ls hl => ?_)
  refine lv_iconst (v := (0 : Int32)) hx hb dX9_passes_2 (by decide) ?_
  refine lv_istore_n (lv' := [(2, .int (0 : Int32)), (1, .int (0 : Int32)), (0, .ref (Γ.2.2.1 (0)))]) hx hb dX9_passes_3 rfl hl (by decide) rfl (fun ls hl => ?_)
  exact j4 5000 ((0 : Int32)) ((0 : Int32)) σ H locs ls hf hP hS (lv_sub hl [2, 1, 0] rfl)
def f_X9_night (σ : Sm) : Option (Int32 × Sm) := if (σ.1 (7) 0) = (999 : Int32) then some ((-3 : Int32), σ) else (f_X9_passes σ).bind fun (q2 : Int32 × Sm) => some (q2.1, q2.2)
set_option maxHeartbeats 40000000 in
set_option maxRecDepth 100000 in
theorem c_X9_night (l : Launch) (Γ : Geo) (hG : okM Γ) (σ : Sm) (r : Int32) (σ' : Sm) (hf : f_X9_night σ = some (r, σ')) (sz : Nat) : Met l yX9_night (wz yX9_night cX9_night 1 (some .int)) { frames := 76, cells := 0, slots := 0, locals := 2888 } (va_Pc [.ref (Γ.2.2.1 (0))] (wPre Γ.1 vwCl (tysC Γ) (XM Γ) (alM Γ) Γ.2.2.2 σ sz)) (wQi Γ.1 vwCl (tysC Γ) (XM Γ) (alM Γ) r σ' sz) 0 0 (wA (alM Γ) sz) := by
  refine w_enter (cc := cX9_night) (maxL := 1) (ret := (some .int)) (by decide) rfl (Nat.le_of_ble_eq_true rfl) ?_
  intro p e s m below meth c ls hx hb hr hlocks hml hown hts hsz hP hK hkc hN hl
  subst hsz
  generalize hav : ([.ref (Γ.2.2.1 (0))] : List Value) = av at hl hts ⊢
  have hl : lv_has ls 1 [(0, .ref (Γ.2.2.1 (0)))] := by rw [← hav] at hl; exact hl
  suffices hw : ∀ (H : Heap) (locs : List Loc), va_P Γ.1 vwCl (XM Γ σ) H → va_S (wA (alM Γ) s.heap.size) s.heap H locs → W p l e { frames := 76, cells := 0, slots := 0, locals := 2888 } s m av.toArray below meth c H locs 0 0 (MQ below (wQi Γ.1 vwCl (tysC Γ) (XM Γ) (alM Γ) r σ' s.heap.size) av.toArray s 0 0 (wA (alM Γ) s.heap.size)) (F0 m 0 ls []) from hw _ [] hP va_S.rf
  clear hP
  intro H locs hP hS
  unfold f_X9_night at hf
  refine lv_aload_n hx hb dX9_night_0 rfl (lv_at hl 0 rfl) ?_
  refine va_get (D := Γ.1) (ci := 8) (v := .int (σ.1 (7) 0)) (C := RX9) (T := TX9) (N := 44) hx hb hts iX9 hown hK hP (0) (gM_Model Γ σ) rfl 7 (by decide) (hts (.fieldLink RX9 111 "OtherHalfOfNightModel" "nightNow" "I") (wzm K192)) (fun _ h9 => h9) rfl dX9_night_1 ?_
  refine lv_sipush (v := (999 : Int32)) hx hb dX9_night_4 (by decide) ?_
  refine lv_icmp_ne (tgt := 15) hx hb dX9_night_7 (by decide) (fun c1 => ?_) (fun c1 => ?_)
  · replace hf := (if_neg c1).symm.trans hf
    refine lv_aload_n hx hb dX9_night_15 rfl (lv_at hl 0 rfl) ?_
    obtain ⟨q2, h3, hf⟩ := w_ob hf
    refine w_ci (va_runV (As := []) (rest := []) ⟨hx, hb, hml, hown, hts⟩ (c_X9_passes l Γ hG σ q2.1 q2.2 h3 H.size) (cwV 0 hts (wzV K676 K673 K674 K675 K5) rfl rfl rfl (by decide +kernel) ⟨(Nat.le_of_ble_eq_true rfl), (Nat.le_of_ble_eq_true rfl)⟩) (w_preV hK hP hkc hN hS (gM_Model Γ σ) rfl) rfl rfl hl.1 rfl (lv_room (Nat.le_of_ble_eq_true rfl)) dX9_night_16 ⟨Nat.le_refl _, Nat.le_refl _⟩) hS (fun H locs hP hS => ?_)
    exact w_iret (X := XM Γ) hx hb hr hlocks hK hP hS rfl hf dX9_night_19
  · replace hf := (if_pos c1).symm.trans hf
    refine lv_bipush (v := (-3 : Int32)) hx hb dX9_night_10 (by decide) ?_
    refine lv_goto (tgt := 19) hx hb dX9_night_12 (by decide) ?_
    exact w_iret (X := XM Γ) hx hb hr hlocks hK hP hS rfl hf dX9_night_19
def f_X9_tells1 (x1 : Int32) (σ : Sm) : Option (Int32 × Sm) := if okI (((3 : Int32) * x1) + (1 : Int32)) 15 then if okI (((3 : Int32) * x1) + (2 : Int32)) 15 then (f_X9_within ((σ.1 (10) ((((3 : Int32) * x1) + (2 : Int32))).toNatClampNeg) + (1 : Int32)) (0 : Int32) (99 : Int32) σ).bind fun (q3 : Int32 × Sm) => if okI (((3 : Int32) * x1) + (2 : Int32)) 15 then if okI (((3 : Int32) * x1) + (1 : Int32)) 15 then (some (upm (upm q3.2 (10) ((((3 : Int32) * x1) + (2 : Int32))).toNatClampNeg q3.1) (10) ((((3 : Int32) * x1) + (1 : Int32))).toNatClampNeg (0 : Int32))).bind fun (τ7 : Sm) => some ((σ.1 (10) ((((3 : Int32) * x1) + (1 : Int32))).toNatClampNeg), τ7) else none else none else none else none
set_option maxHeartbeats 40000000 in
set_option maxRecDepth 100000 in
theorem c_X9_tells1 (l : Launch) (Γ : Geo) (hG : okM Γ) (x1 : Int32) (σ : Sm) (r : Int32) (σ' : Sm) (hf : f_X9_tells1 x1 σ = some (r, σ')) (sz : Nat) : Met l yX9_tells1 (wz yX9_tells1 cX9_tells1 3 (some .int)) { frames := 1, cells := 0, slots := 0, locals := 22 } (va_Pc [.ref (Γ.2.2.1 (0)), .int x1] (wPre Γ.1 vwCl (tysC Γ) (XM Γ) (alM Γ) Γ.2.2.2 σ sz)) (wQi Γ.1 vwCl (tysC Γ) (XM Γ) (alM Γ) r σ' sz) 0 0 (wA (alM Γ) sz) := by
  refine w_enter (cc := cX9_tells1) (maxL := 3) (ret := (some .int)) (by decide) rfl (Nat.le_of_ble_eq_true rfl) ?_
  intro p e s m below meth c ls hx hb hr hlocks hml hown hts hsz hP hK hkc hN hl
  subst hsz
  generalize hav : ([.ref (Γ.2.2.1 (0)), .int x1] : List Value) = av at hl hts ⊢
  have hl : lv_has ls 3 [(0, .ref (Γ.2.2.1 (0))), (1, .int x1)] := by rw [← hav] at hl; exact hl
  suffices hw : ∀ (H : Heap) (locs : List Loc), va_P Γ.1 vwCl (XM Γ σ) H → va_S (wA (alM Γ) s.heap.size) s.heap H locs → W p l e { frames := 1, cells := 0, slots := 0, locals := 22 } s m av.toArray below meth c H locs 0 0 (MQ below (wQi Γ.1 vwCl (tysC Γ) (XM Γ) (alM Γ) r σ' s.heap.size) av.toArray s 0 0 (wA (alM Γ) s.heap.size)) (F0 m 0 ls []) from hw _ [] hP va_S.rf
  clear hP
  intro H locs hP hS
  unfold f_X9_tells1 at hf
  refine lv_aload_n hx hb dX9_tells1_0 rfl (lv_at hl 0 rfl) ?_
  refine va_get (D := Γ.1) (ci := 8) (v := .ref (Γ.2.2.1 (5))) (C := RX9) (T := TX9) (N := 44) hx hb hts iX9 hown hK hP (0) (gM_Model Γ σ) rfl 10 (by decide) (hts (.fieldLink RX9 26 "OtherHalfOfNightModel" "rows" "[I") (wzm K112)) (fun _ h9 => h9) rfl dX9_tells1_1 ?_
  refine lv_iconst (v := (3 : Int32)) hx hb dX9_tells1_4 (by decide) ?_
  refine lv_iload_n hx hb dX9_tells1_5 rfl (lv_at hl 1 rfl) ?_
  refine lv_imul hx hb dX9_tells1_6 ?_
  refine lv_iconst (v := (1 : Int32)) hx hb dX9_tells1_7 (by decide) ?_
  refine lv_iadd hx hb dX9_tells1_8 ?_
  obtain ⟨g1, hf⟩ := w_oi hf
  refine va_iald (D := Γ.1) (tys := (tysC Γ)) hx hb hK hP (5) 0 (gM_M_rows Γ σ) rfl g1 dX9_tells1_9 ?_
  refine lv_istore_n (lv' := [(2, .int (σ.1 (10) ((((3 : Int32) * x1) + (1 : Int32))).toNatClampNeg)), (0, .ref (Γ.2.2.1 (0))), (1, .int x1)]) hx hb dX9_tells1_10 rfl hl (by decide) rfl (fun ls hl => ?_)
  refine lv_aload_n hx hb dX9_tells1_11 rfl (lv_at hl 1 rfl) ?_
  refine va_get (D := Γ.1) (ci := 8) (v := .ref (Γ.2.2.1 (5))) (C := RX9) (T := TX9) (N := 44) hx hb hts iX9 hown hK hP (0) (gM_Model Γ σ) rfl 10 (by decide) (hts (.fieldLink RX9 26 "OtherHalfOfNightModel" "rows" "[I") (wzm K112)) (fun _ h9 => h9) rfl dX9_tells1_12 ?_
  refine lv_iconst (v := (3 : Int32)) hx hb dX9_tells1_15 (by decide) ?_
  refine lv_iload_n hx hb dX9_tells1_16 rfl (lv_at hl 2 rfl) ?_
  refine lv_imul hx hb dX9_tells1_17 ?_
  refine lv_iconst (v := (2 : Int32)) hx hb dX9_tells1_18 (by decide) ?_
  refine lv_iadd hx hb dX9_tells1_19 ?_
  refine lv_aload_n hx hb dX9_tells1_20 rfl (lv_at hl 1 rfl) ?_
  refine va_get (D := Γ.1) (ci := 8) (v := .ref (Γ.2.2.1 (5))) (C := RX9) (T := TX9) (N := 44) hx hb hts iX9 hown hK hP (0) (gM_Model Γ σ) rfl 10 (by decide) (hts (.fieldLink RX9 26 "OtherHalfOfNightModel" "rows" "[I") (wzm K112)) (fun _ h9 => h9) rfl dX9_tells1_21 ?_
  refine lv_iconst (v := (3 : Int32)) hx hb dX9_tells1_24 (by decide) ?_
  refine lv_iload_n hx hb dX9_tells1_25 rfl (lv_at hl 2 rfl) ?_
  refine lv_imul hx hb dX9_tells1_26 ?_
  refine lv_iconst (v := (2 : Int32)) hx hb dX9_tells1_27 (by decide) ?_
  refine lv_iadd hx hb dX9_tells1_28 ?_
  obtain ⟨g2, hf⟩ := w_oi hf
  refine va_iald (D := Γ.1) (tys := (tysC Γ)) hx hb hK hP (5) 0 (gM_M_rows Γ σ) rfl g2 dX9_tells1_29 ?_
  refine lv_iconst (v := (1 : Int32)) hx hb dX9_tells1_30 (by decide) ?_
  refine lv_iadd hx hb dX9_tells1_31 ?_
  refine lv_iconst (v := (0 : Int32)) hx hb dX9_tells1_32 (by decide) ?_
  refine lv_bipush (v := (99 : Int32)) hx hb dX9_tells1_33 (by decide) ?_
  obtain ⟨q3, h4, hf⟩ := w_ob hf
  refine w_ci (va_runS (As := [.int ((σ.1 (10) ((((3 : Int32) * x1) + (2 : Int32))).toNatClampNeg) + (1 : Int32)), .int (0 : Int32), .int (99 : Int32)]) (rest := [.int (((3 : Int32) * x1) + (2 : Int32)), .ref (Γ.2.2.1 (5))]) ⟨hx, hb, hml, hown, hts⟩ (c_X9_within l Γ hG ((σ.1 (10) ((((3 : Int32) * x1) + (2 : Int32))).toNatClampNeg) + (1 : Int32)) (0 : Int32) (99 : Int32) σ q3.1 q3.2 h4 H.size) (cwS 3 hts (wzS K301 K299 K300 K5) rfl rfl rfl (by decide +kernel) ⟨(Nat.le_of_ble_eq_true rfl), (Nat.le_of_ble_eq_true rfl)⟩) (w_pre hK hP hkc hN hS) rfl rfl hl.1 rfl (lv_room (Nat.le_of_ble_eq_true rfl)) dX9_tells1_35 ⟨Nat.le_refl _, Nat.le_refl _⟩) hS (fun H locs hP hS => ?_)
  obtain ⟨g5, hf⟩ := w_oi hf
  refine w_iast (D := Γ.1) (tys := (tysC Γ)) (X := XM Γ) (σ' := (upm q3.2 (10) ((((3 : Int32) * x1) + (2 : Int32))).toNatClampNeg q3.1)) hx hb hK hP (halM Γ) hG hS (5) 0 (gM_M_rows Γ q3.2) rfl g5 dX9_tells1_38 (sM_M_rows Γ q3.2 ((((3 : Int32) * x1) + (2 : Int32))).toNatClampNeg q3.1) (fun H locs hP hS => ?_)
  refine lv_aload_n hx hb dX9_tells1_39 rfl (lv_at hl 1 rfl) ?_
  refine va_get (D := Γ.1) (ci := 8) (v := .ref (Γ.2.2.1 (5))) (C := RX9) (T := TX9) (N := 44) hx hb hts iX9 hown hK hP (0) (gM_Model Γ (upm q3.2 (10) ((((3 : Int32) * x1) + (2 : Int32))).toNatClampNeg q3.1)) rfl 10 (by decide) (hts (.fieldLink RX9 26 "OtherHalfOfNightModel" "rows" "[I") (wzm K112)) (fun _ h9 => h9) rfl dX9_tells1_40 ?_
  refine lv_iconst (v := (3 : Int32)) hx hb dX9_tells1_43 (by decide) ?_
  refine lv_iload_n hx hb dX9_tells1_44 rfl (lv_at hl 2 rfl) ?_
  refine lv_imul hx hb dX9_tells1_45 ?_
  refine lv_iconst (v := (1 : Int32)) hx hb dX9_tells1_46 (by decide) ?_
  refine lv_iadd hx hb dX9_tells1_47 ?_
  refine lv_iconst (v := (0 : Int32)) hx hb dX9_tells1_48 (by decide) ?_
  obtain ⟨g6, hf⟩ := w_oi hf
  refine w_iast (D := Γ.1) (tys := (tysC Γ)) (X := XM Γ) (σ' := (upm (upm q3.2 (10) ((((3 : Int32) * x1) + (2 : Int32))).toNatClampNeg q3.1) (10) ((((3 : Int32) * x1) + (1 : Int32))).toNatClampNeg (0 : Int32))) hx hb hK hP (halM Γ) hG hS (5) 0 (gM_M_rows Γ (upm q3.2 (10) ((((3 : Int32) * x1) + (2 : Int32))).toNatClampNeg q3.1)) rfl g6 dX9_tells1_49 (sM_M_rows Γ (upm q3.2 (10) ((((3 : Int32) * x1) + (2 : Int32))).toNatClampNeg q3.1) ((((3 : Int32) * x1) + (1 : Int32))).toNatClampNeg (0 : Int32)) (fun H locs hP hS => ?_)
  obtain ⟨τ7, e8, hf⟩ := w_ob hf
  replace e8 := Option.some.inj e8
  rw [e8] at hP
  refine lv_iload_n hx hb dX9_tells1_50 rfl (lv_at hl 0 rfl) ?_
  exact w_iret (X := XM Γ) hx hb hr hlocks hK hP hS rfl hf dX9_tells1_51
def f_X9_news (x1 : Int32) (σ : Sm) : Option (Int32 × Sm) := (f_X9_isOne x1 σ).bind fun (q1 : Int32 × Sm) => if q1.1 = 0 then some ((-2 : Int32), q1.2) else (f_X9_tells1 x1 q1.2).bind fun (q4 : Int32 × Sm) => some (q4.1, q4.2)
set_option maxHeartbeats 40000000 in
set_option maxRecDepth 100000 in
theorem c_X9_news (l : Launch) (Γ : Geo) (hG : okM Γ) (x1 : Int32) (σ : Sm) (r : Int32) (σ' : Sm) (hf : f_X9_news x1 σ = some (r, σ')) (sz : Nat) : Met l yX9_news (wz yX9_news cX9_news 2 (some .int)) { frames := 2, cells := 0, slots := 0, locals := 46 } (va_Pc [.ref (Γ.2.2.1 (0)), .int x1] (wPre Γ.1 vwCl (tysC Γ) (XM Γ) (alM Γ) Γ.2.2.2 σ sz)) (wQi Γ.1 vwCl (tysC Γ) (XM Γ) (alM Γ) r σ' sz) 0 0 (wA (alM Γ) sz) := by
  refine w_enter (cc := cX9_news) (maxL := 2) (ret := (some .int)) (by decide) rfl (Nat.le_of_ble_eq_true rfl) ?_
  intro p e s m below meth c ls hx hb hr hlocks hml hown hts hsz hP hK hkc hN hl
  subst hsz
  generalize hav : ([.ref (Γ.2.2.1 (0)), .int x1] : List Value) = av at hl hts ⊢
  have hl : lv_has ls 2 [(0, .ref (Γ.2.2.1 (0))), (1, .int x1)] := by rw [← hav] at hl; exact hl
  suffices hw : ∀ (H : Heap) (locs : List Loc), va_P Γ.1 vwCl (XM Γ σ) H → va_S (wA (alM Γ) s.heap.size) s.heap H locs → W p l e { frames := 2, cells := 0, slots := 0, locals := 46 } s m av.toArray below meth c H locs 0 0 (MQ below (wQi Γ.1 vwCl (tysC Γ) (XM Γ) (alM Γ) r σ' s.heap.size) av.toArray s 0 0 (wA (alM Γ) s.heap.size)) (F0 m 0 ls []) from hw _ [] hP va_S.rf
  clear hP
  intro H locs hP hS
  unfold f_X9_news at hf
  refine lv_aload_n hx hb dX9_news_0 rfl (lv_at hl 0 rfl) ?_
  refine lv_iload_n hx hb dX9_news_1 rfl (lv_at hl 1 rfl) ?_
  obtain ⟨q1, h2, hf⟩ := w_ob hf
  refine w_ci (va_runV (As := [.int x1]) (rest := []) ⟨hx, hb, hml, hown, hts⟩ (c_X9_isOne l Γ hG x1 σ q1.1 q1.2 h2 H.size) (cwV 1 hts (wzV K182 K179 K180 K181 K5) rfl rfl rfl (by decide +kernel) ⟨(Nat.le_of_ble_eq_true rfl), (Nat.le_of_ble_eq_true rfl)⟩) (w_preV hK hP hkc hN hS (gM_Model Γ σ) rfl) rfl rfl hl.1 rfl (lv_room (Nat.le_of_ble_eq_true rfl)) dX9_news_2 ⟨Nat.le_refl _, Nat.le_refl _⟩) hS (fun H locs hP hS => ?_)
  refine lv_if_eq (tgt := 16) hx hb dX9_news_5 (by decide) (fun c3 => ?_) (fun c3 => ?_)
  · replace hf := (if_pos c3).symm.trans hf
    refine lv_bipush (v := (-2 : Int32)) hx hb dX9_news_16 (by decide) ?_
    exact w_iret (X := XM Γ) hx hb hr hlocks hK hP hS rfl hf dX9_news_18
  · replace hf := (if_neg c3).symm.trans hf
    refine lv_aload_n hx hb dX9_news_8 rfl (lv_at hl 0 rfl) ?_
    refine lv_iload_n hx hb dX9_news_9 rfl (lv_at hl 1 rfl) ?_
    obtain ⟨q4, h5, hf⟩ := w_ob hf
    refine w_ci (va_runV (As := [.int x1]) (rest := []) ⟨hx, hb, hml, hown, hts⟩ (c_X9_tells1 l Γ hG x1 q1.2 q4.1 q4.2 h5 H.size) (cwV 1 hts (wzV K693 K690 K691 K692 K5) rfl rfl rfl (by decide +kernel) ⟨(Nat.le_of_ble_eq_true rfl), (Nat.le_of_ble_eq_true rfl)⟩) (w_preV hK hP hkc hN hS (gM_Model Γ q1.2) rfl) rfl rfl hl.1 rfl (lv_room (Nat.le_of_ble_eq_true rfl)) dX9_news_10 ⟨Nat.le_refl _, Nat.le_refl _⟩) hS (fun H locs hP hS => ?_)
    refine lv_goto (tgt := 18) hx hb dX9_news_13 (by decide) ?_
    exact w_iret (X := XM Γ) hx hb hr hlocks hK hP hS rfl hf dX9_news_18
