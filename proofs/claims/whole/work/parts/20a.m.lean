def f_X9_in (x0 : Int64) (x2 : Int64) (x4 : Int64) (σ : Sm) : Option (Int32 × Sm) := if (lg_cmp x0 x2) < 0 then some ((0 : Int32), σ) else if 0 < (lg_cmp x0 x4) then some ((0 : Int32), σ) else some ((1 : Int32), σ)
set_option maxHeartbeats 40000000 in
set_option maxRecDepth 100000 in
theorem c_X9_in (l : Launch) (Γ : Geo) (hG : okM Γ) (x0 : Int64) (x2 : Int64) (x4 : Int64) (σ : Sm) (r : Int32) (σ' : Sm) (hf : f_X9_in x0 x2 x4 σ = some (r, σ')) (sz : Nat) : Met l yX9_in (wz yX9_in cX9_in 6 (some .boolean)) { frames := 0, cells := 0, slots := 0, locals := 0 } (va_Pc [.long x0, .long x2, .long x4] (wPre Γ.1 vwCl (tysC Γ) (XM Γ) (alM Γ) Γ.2.2.2 σ sz)) (wQi Γ.1 vwCl (tysC Γ) (XM Γ) (alM Γ) r σ' sz) 0 0 (wA (alM Γ) sz) := by
  refine w_enter (cc := cX9_in) (maxL := 6) (ret := (some .boolean)) (by decide) rfl (Nat.le_of_ble_eq_true rfl) ?_
  intro p e s m below meth c ls hx hb hr hlocks hml hown hts hsz hP hK hkc hN hl
  subst hsz
  generalize hav : ([.long x0, .long x2, .long x4] : List Value) = av at hl hts ⊢
  have hl : lv_has ls 6 [(0, .long x0), (2, .long x2), (4, .long x4)] := by rw [← hav] at hl; exact hl
  suffices hw : ∀ (H : Heap) (locs : List Loc), va_P Γ.1 vwCl (XM Γ σ) H → va_S (wA (alM Γ) s.heap.size) s.heap H locs → W p l e { frames := 0, cells := 0, slots := 0, locals := 0 } s m av.toArray below meth c H locs 0 0 (MQ below (wQi Γ.1 vwCl (tysC Γ) (XM Γ) (alM Γ) r σ' s.heap.size) av.toArray s 0 0 (wA (alM Γ) s.heap.size)) (F0 m 0 ls []) from hw _ [] hP va_S.rf
  clear hP
  intro H locs hP hS
  unfold f_X9_in at hf
  refine lv_lload_n hx hb dX9_in_0 rfl (lv_at hl 0 rfl) ?_
  refine lv_lload_n hx hb dX9_in_1 rfl (lv_at hl 1 rfl) ?_
  refine W.lcmp hx hb dX9_in_2 ?_
  refine lv_if_lt (tgt := 17) hx hb dX9_in_3 (by decide) (fun c1 => ?_) (fun c1 => ?_)
  · replace hf := (if_pos c1).symm.trans hf
    refine lv_iconst (v := (0 : Int32)) hx hb dX9_in_17 (by decide) ?_
    exact w_iret (X := XM Γ) hx hb hr hlocks hK hP hS (by decide) hf dX9_in_18
  · replace hf := (if_neg c1).symm.trans hf
    refine lv_lload_n hx hb dX9_in_6 rfl (lv_at hl 0 rfl) ?_
    refine lv_lload hx hb dX9_in_7 (lv_at hl 2 rfl) ?_
    refine W.lcmp hx hb dX9_in_9 ?_
    refine lv_if_gt (tgt := 17) hx hb dX9_in_10 (by decide) (fun c2 => ?_) (fun c2 => ?_)
    · replace hf := (if_pos c2).symm.trans hf
      refine lv_iconst (v := (0 : Int32)) hx hb dX9_in_17 (by decide) ?_
      exact w_iret (X := XM Γ) hx hb hr hlocks hK hP hS (by decide) hf dX9_in_18
    · replace hf := (if_neg c2).symm.trans hf
      refine lv_iconst (v := (1 : Int32)) hx hb dX9_in_13 (by decide) ?_
      refine lv_goto (tgt := 18) hx hb dX9_in_14 (by decide) ?_
      exact w_iret (X := XM Γ) hx hb hr hlocks hK hP hS (by decide) hf dX9_in_18
def f_X9_within (x0 : Int32) (x1 : Int32) (x2 : Int32) (σ : Sm) : Option (Int32 × Sm) := if x1 ≤ x0 then if x0 ≤ x2 then some (x0, σ) else some (x2, σ) else some (x1, σ)
set_option maxHeartbeats 40000000 in
set_option maxRecDepth 100000 in
theorem c_X9_within (l : Launch) (Γ : Geo) (hG : okM Γ) (x0 : Int32) (x1 : Int32) (x2 : Int32) (σ : Sm) (r : Int32) (σ' : Sm) (hf : f_X9_within x0 x1 x2 σ = some (r, σ')) (sz : Nat) : Met l yX9_within (wz yX9_within cX9_within 3 (some .int)) { frames := 0, cells := 0, slots := 0, locals := 0 } (va_Pc [.int x0, .int x1, .int x2] (wPre Γ.1 vwCl (tysC Γ) (XM Γ) (alM Γ) Γ.2.2.2 σ sz)) (wQi Γ.1 vwCl (tysC Γ) (XM Γ) (alM Γ) r σ' sz) 0 0 (wA (alM Γ) sz) := by
  refine w_enter (cc := cX9_within) (maxL := 3) (ret := (some .int)) (by decide) rfl (Nat.le_of_ble_eq_true rfl) ?_
  intro p e s m below meth c ls hx hb hr hlocks hml hown hts hsz hP hK hkc hN hl
  subst hsz
  generalize hav : ([.int x0, .int x1, .int x2] : List Value) = av at hl hts ⊢
  have hl : lv_has ls 3 [(0, .int x0), (1, .int x1), (2, .int x2)] := by rw [← hav] at hl; exact hl
  suffices hw : ∀ (H : Heap) (locs : List Loc), va_P Γ.1 vwCl (XM Γ σ) H → va_S (wA (alM Γ) s.heap.size) s.heap H locs → W p l e { frames := 0, cells := 0, slots := 0, locals := 0 } s m av.toArray below meth c H locs 0 0 (MQ below (wQi Γ.1 vwCl (tysC Γ) (XM Γ) (alM Γ) r σ' s.heap.size) av.toArray s 0 0 (wA (alM Γ) s.heap.size)) (F0 m 0 ls []) from hw _ [] hP va_S.rf
  clear hP
  intro H locs hP hS
  unfold f_X9_within at hf
  refine lv_iload_n hx hb dX9_within_0 rfl (lv_at hl 0 rfl) ?_
  refine lv_iload_n hx hb dX9_within_1 rfl (lv_at hl 1 rfl) ?_
  refine lv_icmp_ge (tgt := 9) hx hb dX9_within_2 (by decide) (fun c1 => ?_) (fun c1 => ?_)
  · replace hf := (if_pos c1).symm.trans hf
    refine lv_iload_n hx hb dX9_within_9 rfl (lv_at hl 0 rfl) ?_
    refine lv_iload_n hx hb dX9_within_10 rfl (lv_at hl 2 rfl) ?_
    refine lv_icmp_le (tgt := 18) hx hb dX9_within_11 (by decide) (fun c2 => ?_) (fun c2 => ?_)
    · replace hf := (if_pos c2).symm.trans hf
      refine lv_iload_n hx hb dX9_within_18 rfl (lv_at hl 0 rfl) ?_
      exact w_iret (X := XM Γ) hx hb hr hlocks hK hP hS rfl hf dX9_within_19
    · replace hf := (if_neg c2).symm.trans hf
      refine lv_iload_n hx hb dX9_within_14 rfl (lv_at hl 2 rfl) ?_
      refine lv_goto (tgt := 19) hx hb dX9_within_15 (by decide) ?_
      exact w_iret (X := XM Γ) hx hb hr hlocks hK hP hS rfl hf dX9_within_19
  · replace hf := (if_neg c1).symm.trans hf
    refine lv_iload_n hx hb dX9_within_5 rfl (lv_at hl 1 rfl) ?_
    refine lv_goto (tgt := 19) hx hb dX9_within_6 (by decide) ?_
    exact w_iret (X := XM Γ) hx hb hr hlocks hK hP hS rfl hf dX9_within_19
def f_X9_isOne (x1 : Int32) (σ : Sm) : Option (Int32 × Sm) := (f_X9_in ((x1).toInt64) (0 : Int64) ((((σ.1 (12) 0) - (1 : Int32))).toInt64) σ).bind fun (q1 : Int32 × Sm) => if (q1.1 = 0 ∨ q1.1 = 1) then some (q1.1, q1.2) else none
set_option maxHeartbeats 40000000 in
set_option maxRecDepth 100000 in
theorem c_X9_isOne (l : Launch) (Γ : Geo) (hG : okM Γ) (x1 : Int32) (σ : Sm) (r : Int32) (σ' : Sm) (hf : f_X9_isOne x1 σ = some (r, σ')) (sz : Nat) : Met l yX9_isOne (wz yX9_isOne cX9_isOne 2 (some .boolean)) { frames := 1, cells := 0, slots := 0, locals := 25 } (va_Pc [.ref (Γ.2.2.1 (0)), .int x1] (wPre Γ.1 vwCl (tysC Γ) (XM Γ) (alM Γ) Γ.2.2.2 σ sz)) (wQi Γ.1 vwCl (tysC Γ) (XM Γ) (alM Γ) r σ' sz) 0 0 (wA (alM Γ) sz) := by
  refine w_enter (cc := cX9_isOne) (maxL := 2) (ret := (some .boolean)) (by decide) rfl (Nat.le_of_ble_eq_true rfl) ?_
  intro p e s m below meth c ls hx hb hr hlocks hml hown hts hsz hP hK hkc hN hl
  subst hsz
  generalize hav : ([.ref (Γ.2.2.1 (0)), .int x1] : List Value) = av at hl hts ⊢
  have hl : lv_has ls 2 [(0, .ref (Γ.2.2.1 (0))), (1, .int x1)] := by rw [← hav] at hl; exact hl
  suffices hw : ∀ (H : Heap) (locs : List Loc), va_P Γ.1 vwCl (XM Γ σ) H → va_S (wA (alM Γ) s.heap.size) s.heap H locs → W p l e { frames := 1, cells := 0, slots := 0, locals := 25 } s m av.toArray below meth c H locs 0 0 (MQ below (wQi Γ.1 vwCl (tysC Γ) (XM Γ) (alM Γ) r σ' s.heap.size) av.toArray s 0 0 (wA (alM Γ) s.heap.size)) (F0 m 0 ls []) from hw _ [] hP va_S.rf
  clear hP
  intro H locs hP hS
  unfold f_X9_isOne at hf
  refine lv_iload_n hx hb dX9_isOne_0 rfl (lv_at hl 1 rfl) ?_
  refine lv_i2l (v := ((x1).toInt64)) hx hb dX9_isOne_1 rfl ?_
  refine lv_lconst (v := (0 : Int64)) hx hb dX9_isOne_2 (by decide) ?_
  refine lv_aload_n hx hb dX9_isOne_3 rfl (lv_at hl 0 rfl) ?_
  refine va_get (D := Γ.1) (ci := 8) (v := .int (σ.1 (12) 0)) (C := RX9) (T := TX9) (N := 44) hx hb hts iX9 hown hK hP (0) (gM_Model Γ σ) rfl 12 (by decide) (hts (.fieldLink RX9 77 "OtherHalfOfNightModel" "many" "I") (wzm K183)) (fun _ h9 => h9) rfl dX9_isOne_4 ?_
  refine lv_iconst (v := (1 : Int32)) hx hb dX9_isOne_7 (by decide) ?_
  refine lv_isub hx hb dX9_isOne_8 ?_
  refine lv_i2l (v := ((((σ.1 (12) 0) - (1 : Int32))).toInt64)) hx hb dX9_isOne_9 rfl ?_
  obtain ⟨q1, h2, hf⟩ := w_ob hf
  refine w_ci (va_runS (As := [.long ((x1).toInt64), .long (0 : Int64), .long ((((σ.1 (12) 0) - (1 : Int32))).toInt64)]) (rest := []) ⟨hx, hb, hml, hown, hts⟩ (c_X9_in l Γ hG ((x1).toInt64) (0 : Int64) ((((σ.1 (12) 0) - (1 : Int32))).toInt64) σ q1.1 q1.2 h2 H.size) (cwS 3 hts (wzS K170 K168 K169 K5) rfl rfl rfl (by decide +kernel) ⟨(Nat.le_of_ble_eq_true rfl), (Nat.le_of_ble_eq_true rfl)⟩) (w_pre hK hP hkc hN hS) rfl rfl hl.1 rfl (lv_room (Nat.le_of_ble_eq_true rfl)) dX9_isOne_10 ⟨Nat.le_refl _, Nat.le_refl _⟩) hS (fun H locs hP hS => ?_)
  obtain ⟨g3, hf⟩ := w_oi hf
  exact w_iret (X := XM Γ) hx hb hr hlocks hK hP hS (w_nb g3) hf dX9_isOne_13
def f_X9_isCup (x0 : Int32) (σ : Sm) : Option (Int32 × Sm) := (f_X9_in ((x0).toInt64) (0 : Int64) (5 : Int64) σ).bind fun (q1 : Int32 × Sm) => if (q1.1 = 0 ∨ q1.1 = 1) then some (q1.1, q1.2) else none
set_option maxHeartbeats 40000000 in
set_option maxRecDepth 100000 in
theorem c_X9_isCup (l : Launch) (Γ : Geo) (hG : okM Γ) (x0 : Int32) (σ : Sm) (r : Int32) (σ' : Sm) (hf : f_X9_isCup x0 σ = some (r, σ')) (sz : Nat) : Met l yX9_isCup (wz yX9_isCup cX9_isCup 1 (some .boolean)) { frames := 1, cells := 0, slots := 0, locals := 25 } (va_Pc [.int x0] (wPre Γ.1 vwCl (tysC Γ) (XM Γ) (alM Γ) Γ.2.2.2 σ sz)) (wQi Γ.1 vwCl (tysC Γ) (XM Γ) (alM Γ) r σ' sz) 0 0 (wA (alM Γ) sz) := by
  refine w_enter (cc := cX9_isCup) (maxL := 1) (ret := (some .boolean)) (by decide) rfl (Nat.le_of_ble_eq_true rfl) ?_
  intro p e s m below meth c ls hx hb hr hlocks hml hown hts hsz hP hK hkc hN hl
  subst hsz
  generalize hav : ([.int x0] : List Value) = av at hl hts ⊢
  have hl : lv_has ls 1 [(0, .int x0)] := by rw [← hav] at hl; exact hl
  suffices hw : ∀ (H : Heap) (locs : List Loc), va_P Γ.1 vwCl (XM Γ σ) H → va_S (wA (alM Γ) s.heap.size) s.heap H locs → W p l e { frames := 1, cells := 0, slots := 0, locals := 25 } s m av.toArray below meth c H locs 0 0 (MQ below (wQi Γ.1 vwCl (tysC Γ) (XM Γ) (alM Γ) r σ' s.heap.size) av.toArray s 0 0 (wA (alM Γ) s.heap.size)) (F0 m 0 ls []) from hw _ [] hP va_S.rf
  clear hP
  intro H locs hP hS
  unfold f_X9_isCup at hf
  refine lv_iload_n hx hb dX9_isCup_0 rfl (lv_at hl 0 rfl) ?_
  refine lv_i2l (v := ((x0).toInt64)) hx hb dX9_isCup_1 rfl ?_
  refine lv_lconst (v := (0 : Int64)) hx hb dX9_isCup_2 (by decide) ?_
  refine lv_ldc2 (v := (5 : Int64)) hx hb hown (hts (.constantLong RX9 84 (5)) (wzm K178)) dX9_isCup_3 ?_
  obtain ⟨q1, h2, hf⟩ := w_ob hf
  refine w_ci (va_runS (As := [.long ((x0).toInt64), .long (0 : Int64), .long (5 : Int64)]) (rest := []) ⟨hx, hb, hml, hown, hts⟩ (c_X9_in l Γ hG ((x0).toInt64) (0 : Int64) (5 : Int64) σ q1.1 q1.2 h2 H.size) (cwS 3 hts (wzS K170 K168 K169 K5) rfl rfl rfl (by decide +kernel) ⟨(Nat.le_of_ble_eq_true rfl), (Nat.le_of_ble_eq_true rfl)⟩) (w_pre hK hP hkc hN hS) rfl rfl hl.1 rfl (lv_room (Nat.le_of_ble_eq_true rfl)) dX9_isCup_6 ⟨Nat.le_refl _, Nat.le_refl _⟩) hS (fun H locs hP hS => ?_)
  obtain ⟨g3, hf⟩ := w_oi hf
  exact w_iret (X := XM Γ) hx hb hr hlocks hK hP hS (w_nb g3) hf dX9_isCup_9
def f_X9_isOf_22 (x1 : Int32) (x2 : Int32) (τ : Sm) : Option (Int32 × Sm) := (f_X9_isCup x2 τ).bind fun (q8 : Int32 × Sm) => if q8.1 = 0 then some ((0 : Int32), q8.2) else some ((1 : Int32), q8.2)
def f_X9_isOf (x1 : Int32) (x2 : Int32) (σ : Sm) : Option (Int32 × Sm) := if x1 < (2 : Int32) then some ((1 : Int32), σ) else if x1 = (5 : Int32) then f_X9_isOf_22 x1 x2 σ else if x1 = (6 : Int32) then f_X9_isOf_22 x1 x2 σ else if x1 = (10 : Int32) then f_X9_isOf_22 x1 x2 σ else (f_X9_isOne x2 σ).bind fun (q5 : Int32 × Sm) => if q5.1 = 0 then some ((0 : Int32), q5.2) else some ((1 : Int32), q5.2)
set_option maxHeartbeats 40000000 in
set_option maxRecDepth 100000 in
theorem c_X9_isOf (l : Launch) (Γ : Geo) (hG : okM Γ) (x1 : Int32) (x2 : Int32) (σ : Sm) (r : Int32) (σ' : Sm) (hf : f_X9_isOf x1 x2 σ = some (r, σ')) (sz : Nat) : Met l yX9_isOf (wz yX9_isOf cX9_isOf 3 (some .boolean)) { frames := 2, cells := 0, slots := 0, locals := 46 } (va_Pc [.ref (Γ.2.2.1 (0)), .int x1, .int x2] (wPre Γ.1 vwCl (tysC Γ) (XM Γ) (alM Γ) Γ.2.2.2 σ sz)) (wQi Γ.1 vwCl (tysC Γ) (XM Γ) (alM Γ) r σ' sz) 0 0 (wA (alM Γ) sz) := by
  refine w_enter (cc := cX9_isOf) (maxL := 3) (ret := (some .boolean)) (by decide) rfl (Nat.le_of_ble_eq_true rfl) ?_
  intro p e s m below meth c ls hx hb hr hlocks hml hown hts hsz hP hK hkc hN hl
  subst hsz
  generalize hav : ([.ref (Γ.2.2.1 (0)), .int x1, .int x2] : List Value) = av at hl hts ⊢
  have hl : lv_has ls 3 [(0, .ref (Γ.2.2.1 (0))), (1, .int x1), (2, .int x2)] := by rw [← hav] at hl; exact hl
  have j22 : ∀ (τ : Sm) (H : Heap) (locs : List Loc) (ls : Array Slot) (hf : f_X9_isOf_22 x1 x2 τ = some (r, σ')) (hP : va_P Γ.1 vwCl (XM Γ τ) H) (hS : va_S (wA (alM Γ) s.heap.size) s.heap H locs) (hl : lv_has ls 3 [(2, .int x2)]), W p l e { frames := 2, cells := 0, slots := 0, locals := 46 } s m av.toArray below meth c H locs 0 0 (MQ below (wQi Γ.1 vwCl (tysC Γ) (XM Γ) (alM Γ) r σ' s.heap.size) av.toArray s 0 0 (wA (alM Γ) s.heap.size)) (F0 m 22 ls []) := by
    intro τ H locs ls hf hP hS hl
    unfold f_X9_isOf_22 at hf
    refine lv_iload_n hx hb dX9_isOf_22 rfl (lv_at hl 0 rfl) ?_
    obtain ⟨q8, h9, hf⟩ := w_ob hf
    refine w_ci (va_runS (As := [.int x2]) (rest := []) ⟨hx, hb, hml, hown, hts⟩ (c_X9_isCup l Γ hG x2 τ q8.1 q8.2 h9 H.size) (cwS 1 hts (wzS K177 K175 K176 K5) rfl rfl rfl (by decide +kernel) ⟨(Nat.le_of_ble_eq_true rfl), (Nat.le_of_ble_eq_true rfl)⟩) (w_pre hK hP hkc hN hS) rfl rfl hl.1 rfl (lv_room (Nat.le_of_ble_eq_true rfl)) dX9_isOf_23 ⟨Nat.le_refl _, Nat.le_refl _⟩) hS (fun H locs hP hS => ?_)
    refine lv_if_eq (tgt := 44) hx hb dX9_isOf_26 (by decide) (fun c10 => ?_) (fun c10 => ?_)
    · replace hf := (if_pos c10).symm.trans hf
      refine lv_iconst (v := (0 : Int32)) hx hb dX9_isOf_44 (by decide) ?_
      exact w_iret (X := XM Γ) hx hb hr hlocks hK hP hS (by decide) hf dX9_isOf_45
    · replace hf := (if_neg c10).symm.trans hf
      refine lv_goto (tgt := 40) hx hb dX9_isOf_29 (by decide) ?_
      refine lv_iconst (v := (1 : Int32)) hx hb dX9_isOf_40 (by decide) ?_
      refine lv_goto (tgt := 45) hx hb dX9_isOf_41 (by decide) ?_
      exact w_iret (X := XM Γ) hx hb hr hlocks hK hP hS (by decide) hf dX9_isOf_45
  suffices hw : ∀ (H : Heap) (locs : List Loc), va_P Γ.1 vwCl (XM Γ σ) H → va_S (wA (alM Γ) s.heap.size) s.heap H locs → W p l e { frames := 2, cells := 0, slots := 0, locals := 46 } s m av.toArray below meth c H locs 0 0 (MQ below (wQi Γ.1 vwCl (tysC Γ) (XM Γ) (alM Γ) r σ' s.heap.size) av.toArray s 0 0 (wA (alM Γ) s.heap.size)) (F0 m 0 ls []) from hw _ [] hP va_S.rf
  clear hP
  intro H locs hP hS
  unfold f_X9_isOf at hf
  refine lv_iload_n hx hb dX9_isOf_0 rfl (lv_at hl 1 rfl) ?_
  refine lv_iconst (v := (2 : Int32)) hx hb dX9_isOf_1 (by decide) ?_
  refine lv_icmp_lt (tgt := 40) hx hb dX9_isOf_2 (by decide) (fun c1 => ?_) (fun c1 => ?_)
  · replace hf := (if_pos c1).symm.trans hf
    refine lv_iconst (v := (1 : Int32)) hx hb dX9_isOf_40 (by decide) ?_
    refine lv_goto (tgt := 45) hx hb dX9_isOf_41 (by decide) ?_
    exact w_iret (X := XM Γ) hx hb hr hlocks hK hP hS (by decide) hf dX9_isOf_45
  · replace hf := (if_neg c1).symm.trans hf
    refine lv_iload_n hx hb dX9_isOf_5 rfl (lv_at hl 1 rfl) ?_
    refine lv_iconst (v := (5 : Int32)) hx hb dX9_isOf_6 (by decide) ?_
    refine lv_icmp_eq (tgt := 22) hx hb dX9_isOf_7 (by decide) (fun c2 => ?_) (fun c2 => ?_)
    · replace hf := (if_pos c2).symm.trans hf
      exact j22 σ H locs ls hf hP hS (lv_sub hl [2] rfl)
    · replace hf := (if_neg c2).symm.trans hf
      refine lv_iload_n hx hb dX9_isOf_10 rfl (lv_at hl 1 rfl) ?_
      refine lv_bipush (v := (6 : Int32)) hx hb dX9_isOf_11 (by decide) ?_
      refine lv_icmp_eq (tgt := 22) hx hb dX9_isOf_13 (by decide) (fun c3 => ?_) (fun c3 => ?_)
      · replace hf := (if_pos c3).symm.trans hf
        exact j22 σ H locs ls hf hP hS (lv_sub hl [2] rfl)
      · replace hf := (if_neg c3).symm.trans hf
        refine lv_iload_n hx hb dX9_isOf_16 rfl (lv_at hl 1 rfl) ?_
        refine lv_bipush (v := (10 : Int32)) hx hb dX9_isOf_17 (by decide) ?_
        refine lv_icmp_ne (tgt := 32) hx hb dX9_isOf_19 (by decide) (fun c4 => ?_) (fun c4 => ?_)
        · replace hf := (if_neg c4).symm.trans hf
          refine lv_aload_n hx hb dX9_isOf_32 rfl (lv_at hl 0 rfl) ?_
          refine lv_iload_n hx hb dX9_isOf_33 rfl (lv_at hl 2 rfl) ?_
          obtain ⟨q5, h6, hf⟩ := w_ob hf
          refine w_ci (va_runV (As := [.int x2]) (rest := []) ⟨hx, hb, hml, hown, hts⟩ (c_X9_isOne l Γ hG x2 σ q5.1 q5.2 h6 H.size) (cwV 1 hts (wzV K182 K179 K180 K181 K5) rfl rfl rfl (by decide +kernel) ⟨(Nat.le_of_ble_eq_true rfl), (Nat.le_of_ble_eq_true rfl)⟩) (w_preV hK hP hkc hN hS (gM_Model Γ σ) rfl) rfl rfl hl.1 rfl (lv_room (Nat.le_of_ble_eq_true rfl)) dX9_isOf_34 ⟨Nat.le_refl _, Nat.le_refl _⟩) hS (fun H locs hP hS => ?_)
          refine lv_if_eq (tgt := 44) hx hb dX9_isOf_37 (by decide) (fun c7 => ?_) (fun c7 => ?_)
          · replace hf := (if_pos c7).symm.trans hf
            refine lv_iconst (v := (0 : Int32)) hx hb dX9_isOf_44 (by decide) ?_
            exact w_iret (X := XM Γ) hx hb hr hlocks hK hP hS (by decide) hf dX9_isOf_45
          · replace hf := (if_neg c7).symm.trans hf
            refine lv_iconst (v := (1 : Int32)) hx hb dX9_isOf_40 (by decide) ?_
            refine lv_goto (tgt := 45) hx hb dX9_isOf_41 (by decide) ?_
            exact w_iret (X := XM Γ) hx hb hr hlocks hK hP hS (by decide) hf dX9_isOf_45
        · replace hf := (if_pos c4).symm.trans hf
          exact j22 σ H locs ls hf hP hS (lv_sub hl [2] rfl)
def f_X9_mostOf (x0 : Int32) (σ : Sm) : Option (Int32 × Sm) := if x0 = 0 then some ((999 : Int32), σ) else if x0 = (1 : Int32) then some ((23 : Int32), σ) else if x0 = (2 : Int32) then some ((9 : Int32), σ) else if x0 = (6 : Int32) then some ((9 : Int32), σ) else some ((99 : Int32), σ)
set_option maxHeartbeats 40000000 in
set_option maxRecDepth 100000 in
theorem c_X9_mostOf (l : Launch) (Γ : Geo) (hG : okM Γ) (x0 : Int32) (σ : Sm) (r : Int32) (σ' : Sm) (hf : f_X9_mostOf x0 σ = some (r, σ')) (sz : Nat) : Met l yX9_mostOf (wz yX9_mostOf cX9_mostOf 1 (some .int)) { frames := 0, cells := 0, slots := 0, locals := 0 } (va_Pc [.int x0] (wPre Γ.1 vwCl (tysC Γ) (XM Γ) (alM Γ) Γ.2.2.2 σ sz)) (wQi Γ.1 vwCl (tysC Γ) (XM Γ) (alM Γ) r σ' sz) 0 0 (wA (alM Γ) sz) := by
  refine w_enter (cc := cX9_mostOf) (maxL := 1) (ret := (some .int)) (by decide) rfl (Nat.le_of_ble_eq_true rfl) ?_
  intro p e s m below meth c ls hx hb hr hlocks hml hown hts hsz hP hK hkc hN hl
  subst hsz
  generalize hav : ([.int x0] : List Value) = av at hl hts ⊢
  have hl : lv_has ls 1 [(0, .int x0)] := by rw [← hav] at hl; exact hl
  suffices hw : ∀ (H : Heap) (locs : List Loc), va_P Γ.1 vwCl (XM Γ σ) H → va_S (wA (alM Γ) s.heap.size) s.heap H locs → W p l e { frames := 0, cells := 0, slots := 0, locals := 0 } s m av.toArray below meth c H locs 0 0 (MQ below (wQi Γ.1 vwCl (tysC Γ) (XM Γ) (alM Γ) r σ' s.heap.size) av.toArray s 0 0 (wA (alM Γ) s.heap.size)) (F0 m 0 ls []) from hw _ [] hP va_S.rf
  clear hP
  intro H locs hP hS
  unfold f_X9_mostOf at hf
  refine lv_iload_n hx hb dX9_mostOf_0 rfl (lv_at hl 0 rfl) ?_
  refine lv_if_ne (tgt := 10) hx hb dX9_mostOf_1 (by decide) (fun c1 => ?_) (fun c1 => ?_)
  · replace hf := (if_neg c1).symm.trans hf
    refine lv_iload_n hx hb dX9_mostOf_10 rfl (lv_at hl 0 rfl) ?_
    refine lv_iconst (v := (1 : Int32)) hx hb dX9_mostOf_11 (by decide) ?_
    refine lv_icmp_ne (tgt := 20) hx hb dX9_mostOf_12 (by decide) (fun c2 => ?_) (fun c2 => ?_)
    · replace hf := (if_neg c2).symm.trans hf
      refine lv_iload_n hx hb dX9_mostOf_20 rfl (lv_at hl 0 rfl) ?_
      refine lv_iconst (v := (2 : Int32)) hx hb dX9_mostOf_21 (by decide) ?_
      refine lv_icmp_eq (tgt := 31) hx hb dX9_mostOf_22 (by decide) (fun c3 => ?_) (fun c3 => ?_)
      · replace hf := (if_pos c3).symm.trans hf
        refine lv_bipush (v := (9 : Int32)) hx hb dX9_mostOf_31 (by decide) ?_
        refine lv_goto (tgt := 38) hx hb dX9_mostOf_33 (by decide) ?_
        exact w_iret (X := XM Γ) hx hb hr hlocks hK hP hS rfl hf dX9_mostOf_38
      · replace hf := (if_neg c3).symm.trans hf
        refine lv_iload_n hx hb dX9_mostOf_25 rfl (lv_at hl 0 rfl) ?_
        refine lv_bipush (v := (6 : Int32)) hx hb dX9_mostOf_26 (by decide) ?_
        refine lv_icmp_ne (tgt := 36) hx hb dX9_mostOf_28 (by decide) (fun c4 => ?_) (fun c4 => ?_)
        · replace hf := (if_neg c4).symm.trans hf
          refine lv_bipush (v := (99 : Int32)) hx hb dX9_mostOf_36 (by decide) ?_
          exact w_iret (X := XM Γ) hx hb hr hlocks hK hP hS rfl hf dX9_mostOf_38
        · replace hf := (if_pos c4).symm.trans hf
          refine lv_bipush (v := (9 : Int32)) hx hb dX9_mostOf_31 (by decide) ?_
          refine lv_goto (tgt := 38) hx hb dX9_mostOf_33 (by decide) ?_
          exact w_iret (X := XM Γ) hx hb hr hlocks hK hP hS rfl hf dX9_mostOf_38
    · replace hf := (if_pos c2).symm.trans hf
      refine lv_bipush (v := (23 : Int32)) hx hb dX9_mostOf_15 (by decide) ?_
      refine lv_goto (tgt := 38) hx hb dX9_mostOf_17 (by decide) ?_
      exact w_iret (X := XM Γ) hx hb hr hlocks hK hP hS rfl hf dX9_mostOf_38
  · replace hf := (if_pos c1).symm.trans hf
    refine lv_sipush (v := (999 : Int32)) hx hb dX9_mostOf_4 (by decide) ?_
    refine lv_goto (tgt := 38) hx hb dX9_mostOf_7 (by decide) ?_
    exact w_iret (X := XM Γ) hx hb hr hlocks hK hP hS rfl hf dX9_mostOf_38
def f_X9_lays_18 (x1 : Int32) (x2 : Int32) (x3 : Int32) (z1 : Int32) (τ : Sm) : Option Sm := if x1 = (1 : Int32) then some (upm (upm τ (7) 0 z1) (8) 0 x3) else some (upm (upm τ (7) 0 z1) (8) 0 ((upm τ (7) 0 z1).1 (8) 0))
def f_X9_lays (x1 : Int32) (x2 : Int32) (x3 : Int32) (σ : Sm) : Option Sm := if (2 : Int32) ≤ x1 then if (5 : Int32) ≤ x1 then if (7 : Int32) ≤ x1 then if x1 = (7 : Int32) then if okI x2 5 then some (upm σ (9) (x2).toNatClampNeg x3) else none else some (upm σ (4) 0 x3) else if okI ((((3 : Int32) * x2) + x1) - (5 : Int32)) 18 then some (upm σ (11) (((((3 : Int32) * x2) + x1) - (5 : Int32))).toNatClampNeg x3) else none else if okI ((((3 : Int32) * x2) + x1) - (2 : Int32)) 15 then some (upm σ (10) (((((3 : Int32) * x2) + x1) - (2 : Int32))).toNatClampNeg x3) else none else if x1 = 0 then f_X9_lays_18 x1 x2 x3 (x3) σ else f_X9_lays_18 x1 x2 x3 ((σ.1 (7) 0)) σ
set_option maxHeartbeats 40000000 in
set_option maxRecDepth 100000 in
theorem c_X9_lays (l : Launch) (Γ : Geo) (hG : okM Γ) (x1 : Int32) (x2 : Int32) (x3 : Int32) (σ : Sm) (σ' : Sm) (hf : f_X9_lays x1 x2 x3 σ = some σ') (sz : Nat) : Met l yX9_lays (wz yX9_lays cX9_lays 4 none) { frames := 0, cells := 0, slots := 0, locals := 0 } (va_Pc [.ref (Γ.2.2.1 (0)), .int x1, .int x2, .int x3] (wPre Γ.1 vwCl (tysC Γ) (XM Γ) (alM Γ) Γ.2.2.2 σ sz)) (wQv Γ.1 vwCl (tysC Γ) (XM Γ) (alM Γ) σ' sz) 0 0 (wA (alM Γ) sz) := by
  refine w_enter (cc := cX9_lays) (maxL := 4) (ret := none) (by decide) rfl (Nat.le_of_ble_eq_true rfl) ?_
  intro p e s m below meth c ls hx hb hr hlocks hml hown hts hsz hP hK hkc hN hl
  subst hsz
  generalize hav : ([.ref (Γ.2.2.1 (0)), .int x1, .int x2, .int x3] : List Value) = av at hl hts ⊢
  have hl : lv_has ls 4 [(0, .ref (Γ.2.2.1 (0))), (1, .int x1), (2, .int x2), (3, .int x3)] := by rw [← hav] at hl; exact hl
  have j18 : ∀ (z1 : Int32) (τ : Sm) (H : Heap) (locs : List Loc) (ls : Array Slot) (hf : f_X9_lays_18 x1 x2 x3 z1 τ = some σ') (hP : va_P Γ.1 vwCl (XM Γ τ) H) (hS : va_S (wA (alM Γ) s.heap.size) s.heap H locs) (hl : lv_has ls 4 [(0, .ref (Γ.2.2.1 (0))), (1, .int x1), (3, .int x3)]), W p l e { frames := 0, cells := 0, slots := 0, locals := 0 } s m av.toArray below meth c H locs 0 0 (MQ below (wQv Γ.1 vwCl (tysC Γ) (XM Γ) (alM Γ) σ' s.heap.size) av.toArray s 0 0 (wA (alM Γ) s.heap.size)) (F0 m 18 ls [.int z1, .ref (Γ.2.2.1 (0))]) := by
    intro z1 τ H locs ls hf hP hS hl
    unfold f_X9_lays_18 at hf
    refine w_put (X := XM Γ) (σ' := (upm τ (7) 0 z1)) (ci := 8) (C := RX9) (T := TX9) (N := 44) (ty := .int) hx hb hts iX9 tyX9 tyX9_ok nmX9 hown hK hP (halM Γ) hG hS (0) (gM_Model Γ τ) rfl 7 (by decide) (hts (.fieldLink RX9 111 "OtherHalfOfNightModel" "nightNow" "I") (wzm K192)) (fun _ h9 => h9) rfl (by decide +kernel) rfl rfl (Nat.le_of_ble_eq_true rfl) dX9_lays_18 (sM_Model_nightNow Γ τ z1) (fun H locs hP hS => ?_)
    refine lv_aload_n hx hb dX9_lays_21 rfl (lv_at hl 0 rfl) ?_
    refine lv_iload_n hx hb dX9_lays_22 rfl (lv_at hl 1 rfl) ?_
    refine lv_iconst (v := (1 : Int32)) hx hb dX9_lays_23 (by decide) ?_
    refine lv_icmp_ne (tgt := 31) hx hb dX9_lays_24 (by decide) (fun c9 => ?_) (fun c9 => ?_)
    · replace hf := (if_neg c9).symm.trans hf
      refine lv_aload_n hx hb dX9_lays_31 rfl (lv_at hl 0 rfl) ?_
      refine va_get (D := Γ.1) (ci := 8) (v := .int ((upm τ (7) 0 z1).1 (8) 0)) (C := RX9) (T := TX9) (N := 44) hx hb hts iX9 hown hK hP (0) (gM_Model Γ (upm τ (7) 0 z1)) rfl 8 (by decide) (hts (.fieldLink RX9 114 "OtherHalfOfNightModel" "hourNow" "I") (wzm K193)) (fun _ h9 => h9) rfl dX9_lays_32 ?_
      refine w_put (X := XM Γ) (σ' := (upm (upm τ (7) 0 z1) (8) 0 ((upm τ (7) 0 z1).1 (8) 0))) (ci := 8) (C := RX9) (T := TX9) (N := 44) (ty := .int) hx hb hts iX9 tyX9 tyX9_ok nmX9 hown hK hP (halM Γ) hG hS (0) (gM_Model Γ (upm τ (7) 0 z1)) rfl 8 (by decide) (hts (.fieldLink RX9 114 "OtherHalfOfNightModel" "hourNow" "I") (wzm K193)) (fun _ h9 => h9) rfl (by decide +kernel) rfl rfl (Nat.le_of_ble_eq_true rfl) dX9_lays_35 (sM_Model_hourNow Γ (upm τ (7) 0 z1) ((upm τ (7) 0 z1).1 (8) 0)) (fun H locs hP hS => ?_)
      refine lv_goto (tgt := 105) hx hb dX9_lays_38 (by decide) ?_
      exact w_vret (X := XM Γ) hx hb hr hlocks hK hP hS hf dX9_lays_105
    · replace hf := (if_pos c9).symm.trans hf
      refine lv_iload_n hx hb dX9_lays_27 rfl (lv_at hl 2 rfl) ?_
      refine lv_goto (tgt := 35) hx hb dX9_lays_28 (by decide) ?_
      refine w_put (X := XM Γ) (σ' := (upm (upm τ (7) 0 z1) (8) 0 x3)) (ci := 8) (C := RX9) (T := TX9) (N := 44) (ty := .int) hx hb hts iX9 tyX9 tyX9_ok nmX9 hown hK hP (halM Γ) hG hS (0) (gM_Model Γ (upm τ (7) 0 z1)) rfl 8 (by decide) (hts (.fieldLink RX9 114 "OtherHalfOfNightModel" "hourNow" "I") (wzm K193)) (fun _ h9 => h9) rfl (by decide +kernel) rfl rfl (Nat.le_of_ble_eq_true rfl) dX9_lays_35 (sM_Model_hourNow Γ (upm τ (7) 0 z1) x3) (fun H locs hP hS => ?_)
      refine lv_goto (tgt := 105) hx hb dX9_lays_38 (by decide) ?_
      exact w_vret (X := XM Γ) hx hb hr hlocks hK hP hS hf dX9_lays_105
  suffices hw : ∀ (H : Heap) (locs : List Loc), va_P Γ.1 vwCl (XM Γ σ) H → va_S (wA (alM Γ) s.heap.size) s.heap H locs → W p l e { frames := 0, cells := 0, slots := 0, locals := 0 } s m av.toArray below meth c H locs 0 0 (MQ below (wQv Γ.1 vwCl (tysC Γ) (XM Γ) (alM Γ) σ' s.heap.size) av.toArray s 0 0 (wA (alM Γ) s.heap.size)) (F0 m 0 ls []) from hw _ [] hP va_S.rf
  clear hP
  intro H locs hP hS
  unfold f_X9_lays at hf
  refine lv_iload_n hx hb dX9_lays_0 rfl (lv_at hl 1 rfl) ?_
  refine lv_iconst (v := (2 : Int32)) hx hb dX9_lays_1 (by decide) ?_
  refine lv_icmp_ge (tgt := 41) hx hb dX9_lays_2 (by decide) (fun c1 => ?_) (fun c1 => ?_)
  · replace hf := (if_pos c1).symm.trans hf
    refine lv_iload_n hx hb dX9_lays_41 rfl (lv_at hl 1 rfl) ?_
    refine lv_iconst (v := (5 : Int32)) hx hb dX9_lays_42 (by decide) ?_
    refine lv_icmp_ge (tgt := 62) hx hb dX9_lays_43 (by decide) (fun c2 => ?_) (fun c2 => ?_)
    · replace hf := (if_pos c2).symm.trans hf
      refine lv_iload_n hx hb dX9_lays_62 rfl (lv_at hl 1 rfl) ?_
      refine lv_bipush (v := (7 : Int32)) hx hb dX9_lays_63 (by decide) ?_
      refine lv_icmp_ge (tgt := 84) hx hb dX9_lays_65 (by decide) (fun c3 => ?_) (fun c3 => ?_)
      · replace hf := (if_pos c3).symm.trans hf
        refine lv_iload_n hx hb dX9_lays_84 rfl (lv_at hl 1 rfl) ?_
        refine lv_bipush (v := (7 : Int32)) hx hb dX9_lays_85 (by decide) ?_
        refine lv_icmp_ne (tgt := 100) hx hb dX9_lays_87 (by decide) (fun c4 => ?_) (fun c4 => ?_)
        · replace hf := (if_neg c4).symm.trans hf
          refine lv_aload_n hx hb dX9_lays_100 rfl (lv_at hl 0 rfl) ?_
          refine lv_iload_n hx hb dX9_lays_101 rfl (lv_at hl 3 rfl) ?_
          refine w_put (X := XM Γ) (σ' := (upm σ (4) 0 x3)) (ci := 8) (C := RX9) (T := TX9) (N := 44) (ty := .int) hx hb hts iX9 tyX9 tyX9_ok nmX9 hown hK hP (halM Γ) hG hS (0) (gM_Model Γ σ) rfl 4 (by decide) (hts (.fieldLink RX9 117 "OtherHalfOfNightModel" "rule" "I") (wzm K212)) (fun _ h9 => h9) rfl (by decide +kernel) rfl rfl (Nat.le_of_ble_eq_true rfl) dX9_lays_102 (sM_Model_rule Γ σ x3) (fun H locs hP hS => ?_)
          exact w_vret (X := XM Γ) hx hb hr hlocks hK hP hS hf dX9_lays_105
        · replace hf := (if_pos c4).symm.trans hf
          refine lv_aload_n hx hb dX9_lays_90 rfl (lv_at hl 0 rfl) ?_
          refine va_get (D := Γ.1) (ci := 8) (v := .ref (Γ.2.2.1 (4))) (C := RX9) (T := TX9) (N := 44) hx hb hts iX9 hown hK hP (0) (gM_Model Γ σ) rfl 9 (by decide) (hts (.fieldLink RX9 23 "OtherHalfOfNightModel" "kinds" "[I") (wzm K111)) (fun _ h9 => h9) rfl dX9_lays_91 ?_
          refine lv_iload_n hx hb dX9_lays_94 rfl (lv_at hl 2 rfl) ?_
          refine lv_iload_n hx hb dX9_lays_95 rfl (lv_at hl 3 rfl) ?_
          obtain ⟨g5, hf⟩ := w_oi hf
          refine w_iast (D := Γ.1) (tys := (tysC Γ)) (X := XM Γ) (σ' := (upm σ (9) (x2).toNatClampNeg x3)) hx hb hK hP (halM Γ) hG hS (4) 0 (gM_M_kinds Γ σ) rfl g5 dX9_lays_96 (sM_M_kinds Γ σ (x2).toNatClampNeg x3) (fun H locs hP hS => ?_)
          refine lv_goto (tgt := 105) hx hb dX9_lays_97 (by decide) ?_
          exact w_vret (X := XM Γ) hx hb hr hlocks hK hP hS hf dX9_lays_105
      · replace hf := (if_neg c3).symm.trans hf
        refine lv_aload_n hx hb dX9_lays_68 rfl (lv_at hl 0 rfl) ?_
        refine va_get (D := Γ.1) (ci := 8) (v := .ref (Γ.2.2.1 (6))) (C := RX9) (T := TX9) (N := 44) hx hb hts iX9 hown hK hP (0) (gM_Model Γ σ) rfl 11 (by decide) (hts (.fieldLink RX9 29 "OtherHalfOfNightModel" "cups" "[I") (wzm K113)) (fun _ h9 => h9) rfl dX9_lays_69 ?_
        refine lv_iconst (v := (3 : Int32)) hx hb dX9_lays_72 (by decide) ?_
        refine lv_iload_n hx hb dX9_lays_73 rfl (lv_at hl 2 rfl) ?_
        refine lv_imul hx hb dX9_lays_74 ?_
        refine lv_iload_n hx hb dX9_lays_75 rfl (lv_at hl 1 rfl) ?_
        refine lv_iadd hx hb dX9_lays_76 ?_
        refine lv_iconst (v := (5 : Int32)) hx hb dX9_lays_77 (by decide) ?_
        refine lv_isub hx hb dX9_lays_78 ?_
        refine lv_iload_n hx hb dX9_lays_79 rfl (lv_at hl 3 rfl) ?_
        obtain ⟨g6, hf⟩ := w_oi hf
        refine w_iast (D := Γ.1) (tys := (tysC Γ)) (X := XM Γ) (σ' := (upm σ (11) (((((3 : Int32) * x2) + x1) - (5 : Int32))).toNatClampNeg x3)) hx hb hK hP (halM Γ) hG hS (6) 0 (gM_M_cups Γ σ) rfl g6 dX9_lays_80 (sM_M_cups Γ σ (((((3 : Int32) * x2) + x1) - (5 : Int32))).toNatClampNeg x3) (fun H locs hP hS => ?_)
        refine lv_goto (tgt := 105) hx hb dX9_lays_81 (by decide) ?_
        exact w_vret (X := XM Γ) hx hb hr hlocks hK hP hS hf dX9_lays_105
    · replace hf := (if_neg c2).symm.trans hf
      refine lv_aload_n hx hb dX9_lays_46 rfl (lv_at hl 0 rfl) ?_
      refine va_get (D := Γ.1) (ci := 8) (v := .ref (Γ.2.2.1 (5))) (C := RX9) (T := TX9) (N := 44) hx hb hts iX9 hown hK hP (0) (gM_Model Γ σ) rfl 10 (by decide) (hts (.fieldLink RX9 26 "OtherHalfOfNightModel" "rows" "[I") (wzm K112)) (fun _ h9 => h9) rfl dX9_lays_47 ?_
      refine lv_iconst (v := (3 : Int32)) hx hb dX9_lays_50 (by decide) ?_
      refine lv_iload_n hx hb dX9_lays_51 rfl (lv_at hl 2 rfl) ?_
      refine lv_imul hx hb dX9_lays_52 ?_
      refine lv_iload_n hx hb dX9_lays_53 rfl (lv_at hl 1 rfl) ?_
      refine lv_iadd hx hb dX9_lays_54 ?_
      refine lv_iconst (v := (2 : Int32)) hx hb dX9_lays_55 (by decide) ?_
      refine lv_isub hx hb dX9_lays_56 ?_
      refine lv_iload_n hx hb dX9_lays_57 rfl (lv_at hl 3 rfl) ?_
      obtain ⟨g7, hf⟩ := w_oi hf
      refine w_iast (D := Γ.1) (tys := (tysC Γ)) (X := XM Γ) (σ' := (upm σ (10) (((((3 : Int32) * x2) + x1) - (2 : Int32))).toNatClampNeg x3)) hx hb hK hP (halM Γ) hG hS (5) 0 (gM_M_rows Γ σ) rfl g7 dX9_lays_58 (sM_M_rows Γ σ (((((3 : Int32) * x2) + x1) - (2 : Int32))).toNatClampNeg x3) (fun H locs hP hS => ?_)
      refine lv_goto (tgt := 105) hx hb dX9_lays_59 (by decide) ?_
      exact w_vret (X := XM Γ) hx hb hr hlocks hK hP hS hf dX9_lays_105
  · replace hf := (if_neg c1).symm.trans hf
    refine lv_aload_n hx hb dX9_lays_5 rfl (lv_at hl 0 rfl) ?_
    refine lv_iload_n hx hb dX9_lays_6 rfl (lv_at hl 1 rfl) ?_
    refine lv_if_ne (tgt := 14) hx hb dX9_lays_7 (by decide) (fun c8 => ?_) (fun c8 => ?_)
    · replace hf := (if_neg c8).symm.trans hf
      refine lv_aload_n hx hb dX9_lays_14 rfl (lv_at hl 0 rfl) ?_
      refine va_get (D := Γ.1) (ci := 8) (v := .int (σ.1 (7) 0)) (C := RX9) (T := TX9) (N := 44) hx hb hts iX9 hown hK hP (0) (gM_Model Γ σ) rfl 7 (by decide) (hts (.fieldLink RX9 111 "OtherHalfOfNightModel" "nightNow" "I") (wzm K192)) (fun _ h9 => h9) rfl dX9_lays_15 ?_
      exact j18 ((σ.1 (7) 0)) σ H locs ls hf hP hS (lv_sub hl [0, 1, 3] rfl)
    · replace hf := (if_pos c8).symm.trans hf
      refine lv_iload_n hx hb dX9_lays_10 rfl (lv_at hl 3 rfl) ?_
      refine lv_goto (tgt := 18) hx hb dX9_lays_11 (by decide) ?_
      exact j18 (x3) σ H locs ls hf hP hS (lv_sub hl [0, 1, 3] rfl)
def f_X9_byteAt (x1 : Int32) (σ : Sm) : Option (Int32 × Sm) := if (σ.1 (20) 0) ≤ x1 then some ((-1 : Int32), σ) else if okI ((σ.1 (19) 0) + x1) 960 then some ((σ.1 (1) (((σ.1 (19) 0) + x1)).toNatClampNeg), σ) else none
set_option maxHeartbeats 40000000 in
set_option maxRecDepth 100000 in
theorem c_X9_byteAt (l : Launch) (Γ : Geo) (hG : okM Γ) (x1 : Int32) (σ : Sm) (r : Int32) (σ' : Sm) (hf : f_X9_byteAt x1 σ = some (r, σ')) (sz : Nat) : Met l yX9_byteAt (wz yX9_byteAt cX9_byteAt 2 (some .int)) { frames := 0, cells := 0, slots := 0, locals := 0 } (va_Pc [.ref (Γ.2.2.1 (0)), .int x1] (wPre Γ.1 vwCl (tysC Γ) (XM Γ) (alM Γ) Γ.2.2.2 σ sz)) (wQi Γ.1 vwCl (tysC Γ) (XM Γ) (alM Γ) r σ' sz) 0 0 (wA (alM Γ) sz) := by
  refine w_enter (cc := cX9_byteAt) (maxL := 2) (ret := (some .int)) (by decide) rfl (Nat.le_of_ble_eq_true rfl) ?_
  intro p e s m below meth c ls hx hb hr hlocks hml hown hts hsz hP hK hkc hN hl
  subst hsz
  generalize hav : ([.ref (Γ.2.2.1 (0)), .int x1] : List Value) = av at hl hts ⊢
  have hl : lv_has ls 2 [(0, .ref (Γ.2.2.1 (0))), (1, .int x1)] := by rw [← hav] at hl; exact hl
  suffices hw : ∀ (H : Heap) (locs : List Loc), va_P Γ.1 vwCl (XM Γ σ) H → va_S (wA (alM Γ) s.heap.size) s.heap H locs → W p l e { frames := 0, cells := 0, slots := 0, locals := 0 } s m av.toArray below meth c H locs 0 0 (MQ below (wQi Γ.1 vwCl (tysC Γ) (XM Γ) (alM Γ) r σ' s.heap.size) av.toArray s 0 0 (wA (alM Γ) s.heap.size)) (F0 m 0 ls []) from hw _ [] hP va_S.rf
  clear hP
  intro H locs hP hS
  unfold f_X9_byteAt at hf
  refine lv_iload_n hx hb dX9_byteAt_0 rfl (lv_at hl 1 rfl) ?_
  refine lv_aload_n hx hb dX9_byteAt_1 rfl (lv_at hl 0 rfl) ?_
  refine va_get (D := Γ.1) (ci := 8) (v := .int (σ.1 (20) 0)) (C := RX9) (T := TX9) (N := 44) hx hb hts iX9 hown hK hP (0) (gM_Model Γ σ) rfl 20 (by decide) (hts (.fieldLink RX9 137 "OtherHalfOfNightModel" "size" "I") (wzm K225)) (fun _ h9 => h9) rfl dX9_byteAt_2 ?_
  refine lv_icmp_ge (tgt := 22) hx hb dX9_byteAt_5 (by decide) (fun c1 => ?_) (fun c1 => ?_)
  · replace hf := (if_pos c1).symm.trans hf
    refine lv_iconst (v := (-1 : Int32)) hx hb dX9_byteAt_22 (by decide) ?_
    exact w_iret (X := XM Γ) hx hb hr hlocks hK hP hS rfl hf dX9_byteAt_23
  · replace hf := (if_neg c1).symm.trans hf
    refine lv_aload_n hx hb dX9_byteAt_8 rfl (lv_at hl 0 rfl) ?_
    refine va_get (D := Γ.1) (ci := 8) (v := .ref (Γ.2.2.1 (1))) (C := RX9) (T := TX9) (N := 44) hx hb hts iX9 hown hK hP (0) (gM_Model Γ σ) rfl 1 (by decide) (hts (.fieldLink RX9 13 "OtherHalfOfNightModel" "texts" "[I") (wzm K108)) (fun _ h9 => h9) rfl dX9_byteAt_9 ?_
    refine lv_aload_n hx hb dX9_byteAt_12 rfl (lv_at hl 0 rfl) ?_
    refine va_get (D := Γ.1) (ci := 8) (v := .int (σ.1 (19) 0)) (C := RX9) (T := TX9) (N := 44) hx hb hts iX9 hown hK hP (0) (gM_Model Γ σ) rfl 19 (by decide) (hts (.fieldLink RX9 140 "OtherHalfOfNightModel" "from" "I") (wzm K224)) (fun _ h9 => h9) rfl dX9_byteAt_13 ?_
    refine lv_iload_n hx hb dX9_byteAt_16 rfl (lv_at hl 1 rfl) ?_
    refine lv_iadd hx hb dX9_byteAt_17 ?_
    obtain ⟨g2, hf⟩ := w_oi hf
    refine va_iald (D := Γ.1) (tys := (tysC Γ)) hx hb hK hP (1) 0 (gM_M_texts Γ σ) rfl g2 dX9_byteAt_18 ?_
    refine lv_goto (tgt := 23) hx hb dX9_byteAt_19 (by decide) ?_
    exact w_iret (X := XM Γ) hx hb hr hlocks hK hP hS rfl hf dX9_byteAt_23
def f_X9_next_300 (y1 : Int32) (τ : Sm) : Option Sm := (some (upm (upj (upm τ (22) 0 (3 : Int32)) (24) 0 ((y1).toInt64)) (21) 0 (((upj (upm τ (22) 0 (3 : Int32)) (24) 0 ((y1).toInt64)).1 (21) 0) + (1 : Int32)))).bind fun (τ24 : Sm) => some τ24
def f_X9_next_216 (k160 : Int32 → Sm → Option Sm) (y2 : Int32) (z1 : Int64) (τ : Sm) : Option Sm := k160 ((y2 + (1 : Int32))) (upm (upj τ (24) 0 z1) (21) 0 (((upj τ (24) 0 z1).1 (21) 0) + (1 : Int32)))
def f_X9_next_160 : Nat → Int32 → Sm → Option Sm
  | 0, _, _ => none
  | n + 1, y2, τ => (f_X9_byteAt (τ.1 (21) 0) τ).bind fun (q26 : Int32 × Sm) => (f_X9_in ((q26.1).toInt64) (48 : Int64) (57 : Int64) q26.2).bind fun (q28 : Int32 × Sm) => if q28.1 = 0 then if y2 ≤ (4 : Int32) then some (upm q28.2 (22) 0 (2 : Int32)) else some (upm q28.2 (22) 0 (4 : Int32)) else if (4 : Int32) ≤ y2 then f_X9_next_216 (f_X9_next_160 n) (y2) ((q28.2.2 (24) 0)) q28.2 else (f_X9_byteAt (q28.2.1 (21) 0) q28.2).bind fun (q33 : Int32 × Sm) => f_X9_next_216 (f_X9_next_160 n) (y2) (((((10 : Int64) * (q28.2.2 (24) 0)) + ((q33.1).toInt64)) - (48 : Int64))) q33.2
def f_X9_next_100 : Nat → Sm → Option Sm
  | 0, _ => none
  | n + 1, τ => (f_X9_byteAt (τ.1 (21) 0) τ).bind fun (q35 : Int32 × Sm) => (f_X9_in ((q35.1).toInt64) (97 : Int64) (122 : Int64) q35.2).bind fun (q37 : Int32 × Sm) => if q37.1 = 0 then some q37.2 else (f_X9_next_100 n) (upm q37.2 (21) 0 ((q37.2.1 (21) 0) + (1 : Int32)))
def f_X9_next_26 (k0 : Sm → Option Sm) (τ : Sm) : Option Sm := k0 (upm τ (21) 0 ((τ.1 (21) 0) + (1 : Int32)))
def f_X9_next_0 : Nat → Sm → Option Sm
  | 0, _ => none
  | n + 1, τ => (f_X9_byteAt (τ.1 (21) 0) τ).bind fun (q1 : Int32 × Sm) => if q1.1 = (32 : Int32) then f_X9_next_26 (f_X9_next_0 n) q1.2 else (f_X9_byteAt (q1.2.1 (21) 0) q1.2).bind fun (q4 : Int32 × Sm) => if q4.1 = (10 : Int32) then f_X9_next_26 (f_X9_next_0 n) q4.2 else (f_X9_byteAt ((upm q4.2 (23) 0 (q4.2.1 (21) 0)).1 (21) 0) (upm q4.2 (23) 0 (q4.2.1 (21) 0))).bind fun (q7 : Int32 × Sm) => if 0 ≤ q7.1 then (f_X9_in ((q7.1).toInt64) (97 : Int64) (122 : Int64) (upm q7.2 (22) 0 (4 : Int32))).bind fun (q10 : Int32 × Sm) => if q10.1 = 0 then (f_X9_in ((q7.1).toInt64) (48 : Int64) (57 : Int64) q10.2).bind fun (q13 : Int32 × Sm) => if q13.1 = 0 then if q7.1 = (40 : Int32) then f_X9_next_300 (q7.1) q13.2 else if q7.1 = (41 : Int32) then f_X9_next_300 (q7.1) q13.2 else if q7.1 = (59 : Int32) then f_X9_next_300 (q7.1) q13.2 else if q7.1 = (43 : Int32) then f_X9_next_300 (q7.1) q13.2 else if q7.1 = (45 : Int32) then f_X9_next_300 (q7.1) q13.2 else if q7.1 = (42 : Int32) then f_X9_next_300 (q7.1) q13.2 else if q7.1 = (60 : Int32) then f_X9_next_300 (q7.1) q13.2 else if q7.1 = (61 : Int32) then f_X9_next_300 (q7.1) q13.2 else some q13.2 else f_X9_next_160 5000 ((0 : Int32)) (upj (upm q13.2 (22) 0 (2 : Int32)) (24) 0 (0 : Int64)) else f_X9_next_100 5000 (upm q10.2 (22) 0 (1 : Int32)) else some (upm (upm (upm q7.2 (22) 0 (4 : Int32)) (22) 0 (0 : Int32)) (23) 0 ((upm (upm q7.2 (22) 0 (4 : Int32)) (22) 0 (0 : Int32)).1 (20) 0))
def f_X9_next (σ : Sm) : Option Sm := f_X9_next_0 5000 σ
set_option maxHeartbeats 40000000 in
set_option maxRecDepth 100000 in
theorem c_X9_next (l : Launch) (Γ : Geo) (hG : okM Γ) (σ : Sm) (σ' : Sm) (hf : f_X9_next σ = some σ') (sz : Nat) : Met l yX9_next (wz yX9_next cX9_next 3 none) { frames := 1, cells := 0, slots := 0, locals := 25 } (va_Pc [.ref (Γ.2.2.1 (0))] (wPre Γ.1 vwCl (tysC Γ) (XM Γ) (alM Γ) Γ.2.2.2 σ sz)) (wQv Γ.1 vwCl (tysC Γ) (XM Γ) (alM Γ) σ' sz) 0 0 (wA (alM Γ) sz) := by
  refine w_enter (cc := cX9_next) (maxL := 3) (ret := none) (by decide) rfl (Nat.le_of_ble_eq_true rfl) ?_
  intro p e s m below meth c ls hx hb hr hlocks hml hown hts hsz hP hK hkc hN hl
  subst hsz
  generalize hav : ([.ref (Γ.2.2.1 (0))] : List Value) = av at hl hts ⊢
  have hl : lv_has ls 3 [(0, .ref (Γ.2.2.1 (0)))] := by rw [← hav] at hl; exact hl
  have j300 : ∀ (y1 : Int32) (τ : Sm) (H : Heap) (locs : List Loc) (ls : Array Slot) (hf : f_X9_next_300 y1 τ = some σ') (hP : va_P Γ.1 vwCl (XM Γ τ) H) (hS : va_S (wA (alM Γ) s.heap.size) s.heap H locs) (hl : lv_has ls 3 [(0, .ref (Γ.2.2.1 (0))), (1, .int y1)]), W p l e { frames := 1, cells := 0, slots := 0, locals := 25 } s m av.toArray below meth c H locs 0 0 (MQ below (wQv Γ.1 vwCl (tysC Γ) (XM Γ) (alM Γ) σ' s.heap.size) av.toArray s 0 0 (wA (alM Γ) s.heap.size)) (F0 m 300 ls []) := by
    intro y1 τ H locs ls hf hP hS hl
    unfold f_X9_next_300 at hf
    refine lv_aload_n hx hb dX9_next_300 rfl (lv_at hl 0 rfl) ?_
    refine lv_iconst (v := (3 : Int32)) hx hb dX9_next_301 (by decide) ?_
    refine w_put (X := XM Γ) (σ' := (upm τ (22) 0 (3 : Int32))) (ci := 8) (C := RX9) (T := TX9) (N := 44) (ty := .int) hx hb hts iX9 tyX9 tyX9_ok nmX9 hown hK hP (halM Γ) hG hS (0) (gM_Model Γ τ) rfl 22 (by decide) (hts (.fieldLink RX9 152 "OtherHalfOfNightModel" "token" "I") (wzm K229)) (fun _ h9 => h9) rfl (by decide +kernel) rfl rfl (Nat.le_of_ble_eq_true rfl) dX9_next_302 (sM_Model_token Γ τ (3 : Int32)) (fun H locs hP hS => ?_)
    refine lv_aload_n hx hb dX9_next_305 rfl (lv_at hl 0 rfl) ?_
    refine lv_iload_n hx hb dX9_next_306 rfl (lv_at hl 1 rfl) ?_
    refine lv_i2l (v := ((y1).toInt64)) hx hb dX9_next_307 rfl ?_
    refine w_put (X := XM Γ) (σ' := (upj (upm τ (22) 0 (3 : Int32)) (24) 0 ((y1).toInt64))) (ci := 8) (C := RX9) (T := TX9) (N := 44) (ty := .long) hx hb hts iX9 tyX9 tyX9_ok nmX9 hown hK hP (halM Γ) hG hS (0) (gM_Model Γ (upm τ (22) 0 (3 : Int32))) rfl 24 (by decide) (hts (.fieldLink RX9 163 "OtherHalfOfNightModel" "tokenWorth" "J") (wzm K239)) (fun _ h9 => h9) rfl (by decide +kernel) rfl rfl (Nat.le_of_ble_eq_true rfl) dX9_next_308 (sM_Model_tokenWorth Γ (upm τ (22) 0 (3 : Int32)) ((y1).toInt64)) (fun H locs hP hS => ?_)
    refine lv_aload_n hx hb dX9_next_311 rfl (lv_at hl 0 rfl) ?_
    refine lv_dup hx hb dX9_next_312 rfl ?_
    refine va_get (D := Γ.1) (ci := 8) (v := .int ((upj (upm τ (22) 0 (3 : Int32)) (24) 0 ((y1).toInt64)).1 (21) 0)) (C := RX9) (T := TX9) (N := 44) hx hb hts iX9 hown hK hP (0) (gM_Model Γ (upj (upm τ (22) 0 (3 : Int32)) (24) 0 ((y1).toInt64))) rfl 21 (by decide) (hts (.fieldLink RX9 143 "OtherHalfOfNightModel" "here" "I") (wzm K226)) (fun _ h9 => h9) rfl dX9_next_313 ?_
    refine lv_iconst (v := (1 : Int32)) hx hb dX9_next_316 (by decide) ?_
    refine lv_iadd hx hb dX9_next_317 ?_
    refine w_put (X := XM Γ) (σ' := (upm (upj (upm τ (22) 0 (3 : Int32)) (24) 0 ((y1).toInt64)) (21) 0 (((upj (upm τ (22) 0 (3 : Int32)) (24) 0 ((y1).toInt64)).1 (21) 0) + (1 : Int32)))) (ci := 8) (C := RX9) (T := TX9) (N := 44) (ty := .int) hx hb hts iX9 tyX9 tyX9_ok nmX9 hown hK hP (halM Γ) hG hS (0) (gM_Model Γ (upj (upm τ (22) 0 (3 : Int32)) (24) 0 ((y1).toInt64))) rfl 21 (by decide) (hts (.fieldLink RX9 143 "OtherHalfOfNightModel" "here" "I") (wzm K226)) (fun _ h9 => h9) rfl (by decide +kernel) rfl rfl (Nat.le_of_ble_eq_true rfl) dX9_next_318 (sM_Model_here Γ (upj (upm τ (22) 0 (3 : Int32)) (24) 0 ((y1).toInt64)) (((upj (upm τ (22) 0 (3 : Int32)) (24) 0 ((y1).toInt64)).1 (21) 0) + (1 : Int32))) (fun H locs hP hS => ?_)
    obtain ⟨τ24, e25, hf⟩ := w_ob hf
    replace e25 := Option.some.inj e25
    rw [e25] at hP
    exact w_vret (X := XM Γ) hx hb hr hlocks hK hP hS hf dX9_next_321
  have j160 : ∀ (n160 : Nat), ∀ (y2 : Int32) (τ : Sm) (H : Heap) (locs : List Loc) (ls : Array Slot) (hf : f_X9_next_160 n160 y2 τ = some σ') (hP : va_P Γ.1 vwCl (XM Γ τ) H) (hS : va_S (wA (alM Γ) s.heap.size) s.heap H locs) (hl : lv_has ls 3 [(0, .ref (Γ.2.2.1 (0))), (2, .int y2)]), W p l e { frames := 1, cells := 0, slots := 0, locals := 25 } s m av.toArray below meth c H locs 0 0 (MQ below (wQv Γ.1 vwCl (tysC Γ) (XM Γ) (alM Γ) σ' s.heap.size) av.toArray s 0 0 (wA (alM Γ) s.heap.size)) (F0 m 160 ls []) := by
    intro n160
    induction n160 with
    | zero =>
      intro y2 τ H locs ls hf
      exact absurd hf (by intro h; cases h)
    | succ n160 ih160 =>
      have j216 : ∀ (y2 : Int32) (z1 : Int64) (τ : Sm) (H : Heap) (locs : List Loc) (ls : Array Slot) (hf : f_X9_next_216 (f_X9_next_160 n160) y2 z1 τ = some σ') (hP : va_P Γ.1 vwCl (XM Γ τ) H) (hS : va_S (wA (alM Γ) s.heap.size) s.heap H locs) (hl : lv_has ls 3 [(0, .ref (Γ.2.2.1 (0))), (2, .int y2)]), W p l e { frames := 1, cells := 0, slots := 0, locals := 25 } s m av.toArray below meth c H locs 0 0 (MQ below (wQv Γ.1 vwCl (tysC Γ) (XM Γ) (alM Γ) σ' s.heap.size) av.toArray s 0 0 (wA (alM Γ) s.heap.size)) (F0 m 216 ls [.long z1, .ref (Γ.2.2.1 (0))]) := by
        intro y2 z1 τ H locs ls hf hP hS hl
        unfold f_X9_next_216 at hf
        refine w_put (X := XM Γ) (σ' := (upj τ (24) 0 z1)) (ci := 8) (C := RX9) (T := TX9) (N := 44) (ty := .long) hx hb hts iX9 tyX9 tyX9_ok nmX9 hown hK hP (halM Γ) hG hS (0) (gM_Model Γ τ) rfl 24 (by decide) (hts (.fieldLink RX9 163 "OtherHalfOfNightModel" "tokenWorth" "J") (wzm K239)) (fun _ h9 => h9) rfl (by decide +kernel) rfl rfl (Nat.le_of_ble_eq_true rfl) dX9_next_216 (sM_Model_tokenWorth Γ τ z1) (fun H locs hP hS => ?_)
        refine lv_iinc (v := (y2 + (1 : Int32))) (lv' := [(2, .int (y2 + (1 : Int32))), (0, .ref (Γ.2.2.1 (0)))]) hx hb dX9_next_219 hl (k := 1) rfl rfl (by decide) rfl (fun ls hl => ?_)
        refine lv_aload_n hx hb dX9_next_222 rfl (lv_at hl 1 rfl) ?_
        refine lv_dup hx hb dX9_next_223 rfl ?_
        refine va_get (D := Γ.1) (ci := 8) (v := .int ((upj τ (24) 0 z1).1 (21) 0)) (C := RX9) (T := TX9) (N := 44) hx hb hts iX9 hown hK hP (0) (gM_Model Γ (upj τ (24) 0 z1)) rfl 21 (by decide) (hts (.fieldLink RX9 143 "OtherHalfOfNightModel" "here" "I") (wzm K226)) (fun _ h9 => h9) rfl dX9_next_224 ?_
        refine lv_iconst (v := (1 : Int32)) hx hb dX9_next_227 (by decide) ?_
        refine lv_iadd hx hb dX9_next_228 ?_
        refine w_put (X := XM Γ) (σ' := (upm (upj τ (24) 0 z1) (21) 0 (((upj τ (24) 0 z1).1 (21) 0) + (1 : Int32)))) (ci := 8) (C := RX9) (T := TX9) (N := 44) (ty := .int) hx hb hts iX9 tyX9 tyX9_ok nmX9 hown hK hP (halM Γ) hG hS (0) (gM_Model Γ (upj τ (24) 0 z1)) rfl 21 (by decide) (hts (.fieldLink RX9 143 "OtherHalfOfNightModel" "here" "I") (wzm K226)) (fun _ h9 => h9) rfl (by decide +kernel) rfl rfl (Nat.le_of_ble_eq_true rfl) dX9_next_229 (sM_Model_here Γ (upj τ (24) 0 z1) (((upj τ (24) 0 z1).1 (21) 0) + (1 : Int32))) (fun H locs hP hS => ?_)
        refine lv_goto (tgt := 160) hx hb dX9_next_232 (by decide) ?_
        exact ih160 ((y2 + (1 : Int32))) (upm (upj τ (24) 0 z1) (21) 0 (((upj τ (24) 0 z1).1 (21) 0) + (1 : Int32))) H locs ls hf hP hS (lv_sub hl [1, 0] rfl)
      intro y2 τ H locs ls hf hP hS hl
      unfold f_X9_next_160 at hf
      refine lv_aload_n hx hb dX9_next_160 rfl (lv_at hl 0 rfl) ?_
      refine lv_aload_n hx hb dX9_next_161 rfl (lv_at hl 0 rfl) ?_
      refine va_get (D := Γ.1) (ci := 8) (v := .int (τ.1 (21) 0)) (C := RX9) (T := TX9) (N := 44) hx hb hts iX9 hown hK hP (0) (gM_Model Γ τ) rfl 21 (by decide) (hts (.fieldLink RX9 143 "OtherHalfOfNightModel" "here" "I") (wzm K226)) (fun _ h9 => h9) rfl dX9_next_162 ?_
      obtain ⟨q26, h27, hf⟩ := w_ob hf
      refine w_ci (va_runV (As := [.int (τ.1 (21) 0)]) (rest := []) ⟨hx, hb, hml, hown, hts⟩ (c_X9_byteAt l Γ hG (τ.1 (21) 0) τ q26.1 q26.2 h27 H.size) (cwV 1 hts (wzV K243 K240 K241 K242 K5) rfl rfl rfl (by decide +kernel) ⟨(Nat.le_of_ble_eq_true rfl), (Nat.le_of_ble_eq_true rfl)⟩) (w_preV hK hP hkc hN hS (gM_Model Γ τ) rfl) rfl rfl hl.1 rfl (lv_room (Nat.le_of_ble_eq_true rfl)) dX9_next_165 ⟨Nat.le_refl _, Nat.le_refl _⟩) hS (fun H locs hP hS => ?_)
      refine lv_i2l (v := ((q26.1).toInt64)) hx hb dX9_next_168 rfl ?_
      refine lv_ldc2 (v := (48 : Int64)) hx hb hown (hts (.constantLong RX9 159 (48)) (wzm K237)) dX9_next_169 ?_
      refine lv_ldc2 (v := (57 : Int64)) hx hb hown (hts (.constantLong RX9 161 (57)) (wzm K238)) dX9_next_172 ?_
      obtain ⟨q28, h29, hf⟩ := w_ob hf
      refine w_ci (va_runS (As := [.long ((q26.1).toInt64), .long (48 : Int64), .long (57 : Int64)]) (rest := []) ⟨hx, hb, hml, hown, hts⟩ (c_X9_in l Γ hG ((q26.1).toInt64) (48 : Int64) (57 : Int64) q26.2 q28.1 q28.2 h29 H.size) (cwS 3 hts (wzS K170 K168 K169 K5) rfl rfl rfl (by decide +kernel) ⟨(Nat.le_of_ble_eq_true rfl), (Nat.le_of_ble_eq_true rfl)⟩) (w_pre hK hP hkc hN hS) rfl rfl hl.1 rfl (lv_room (Nat.le_of_ble_eq_true rfl)) dX9_next_175 ⟨Nat.le_refl _, Nat.le_refl _⟩) hS (fun H locs hP hS => ?_)
      refine lv_if_eq (tgt := 235) hx hb dX9_next_178 (by decide) (fun c30 => ?_) (fun c30 => ?_)
      · replace hf := (if_pos c30).symm.trans hf
        refine lv_aload_n hx hb dX9_next_235 rfl (lv_at hl 0 rfl) ?_
        refine lv_iload_n hx hb dX9_next_236 rfl (lv_at hl 1 rfl) ?_
        refine lv_iconst (v := (4 : Int32)) hx hb dX9_next_237 (by decide) ?_
        refine lv_icmp_le (tgt := 245) hx hb dX9_next_238 (by decide) (fun c31 => ?_) (fun c31 => ?_)
        · replace hf := (if_pos c31).symm.trans hf
          refine lv_iconst (v := (2 : Int32)) hx hb dX9_next_245 (by decide) ?_
          refine w_put (X := XM Γ) (σ' := (upm q28.2 (22) 0 (2 : Int32))) (ci := 8) (C := RX9) (T := TX9) (N := 44) (ty := .int) hx hb hts iX9 tyX9 tyX9_ok nmX9 hown hK hP (halM Γ) hG hS (0) (gM_Model Γ q28.2) rfl 22 (by decide) (hts (.fieldLink RX9 152 "OtherHalfOfNightModel" "token" "I") (wzm K229)) (fun _ h9 => h9) rfl (by decide +kernel) rfl rfl (Nat.le_of_ble_eq_true rfl) dX9_next_246 (sM_Model_token Γ q28.2 (2 : Int32)) (fun H locs hP hS => ?_)
          refine lv_goto (tgt := 321) hx hb dX9_next_249 (by decide) ?_
          exact w_vret (X := XM Γ) hx hb hr hlocks hK hP hS hf dX9_next_321
        · replace hf := (if_neg c31).symm.trans hf
          refine lv_iconst (v := (4 : Int32)) hx hb dX9_next_241 (by decide) ?_
          refine lv_goto (tgt := 246) hx hb dX9_next_242 (by decide) ?_
          refine w_put (X := XM Γ) (σ' := (upm q28.2 (22) 0 (4 : Int32))) (ci := 8) (C := RX9) (T := TX9) (N := 44) (ty := .int) hx hb hts iX9 tyX9 tyX9_ok nmX9 hown hK hP (halM Γ) hG hS (0) (gM_Model Γ q28.2) rfl 22 (by decide) (hts (.fieldLink RX9 152 "OtherHalfOfNightModel" "token" "I") (wzm K229)) (fun _ h9 => h9) rfl (by decide +kernel) rfl rfl (Nat.le_of_ble_eq_true rfl) dX9_next_246 (sM_Model_token Γ q28.2 (4 : Int32)) (fun H locs hP hS => ?_)
          refine lv_goto (tgt := 321) hx hb dX9_next_249 (by decide) ?_
          exact w_vret (X := XM Γ) hx hb hr hlocks hK hP hS hf dX9_next_321
      · replace hf := (if_neg c30).symm.trans hf
        refine lv_aload_n hx hb dX9_next_181 rfl (lv_at hl 0 rfl) ?_
        refine lv_iload_n hx hb dX9_next_182 rfl (lv_at hl 1 rfl) ?_
        refine lv_iconst (v := (4 : Int32)) hx hb dX9_next_183 (by decide) ?_
        refine lv_icmp_ge (tgt := 212) hx hb dX9_next_184 (by decide) (fun c32 => ?_) (fun c32 => ?_)
        · replace hf := (if_pos c32).symm.trans hf
          refine lv_aload_n hx hb dX9_next_212 rfl (lv_at hl 0 rfl) ?_
          refine va_get (D := Γ.1) (ci := 8) (v := .long (q28.2.2 (24) 0)) (C := RX9) (T := TX9) (N := 44) hx hb hts iX9 hown hK hP (0) (gM_Model Γ q28.2) rfl 24 (by decide) (hts (.fieldLink RX9 163 "OtherHalfOfNightModel" "tokenWorth" "J") (wzm K239)) (fun _ h9 => h9) rfl dX9_next_213 ?_
          exact j216 (y2) ((q28.2.2 (24) 0)) q28.2 H locs ls hf hP hS (lv_sub hl [0, 1] rfl)
        · replace hf := (if_neg c32).symm.trans hf
          refine lv_ldc2 (v := (10 : Int64)) hx hb hown (hts (.constantLong RX9 124 (10)) (wzm K191)) dX9_next_187 ?_
          refine lv_aload_n hx hb dX9_next_190 rfl (lv_at hl 0 rfl) ?_
          refine va_get (D := Γ.1) (ci := 8) (v := .long (q28.2.2 (24) 0)) (C := RX9) (T := TX9) (N := 44) hx hb hts iX9 hown hK hP (0) (gM_Model Γ q28.2) rfl 24 (by decide) (hts (.fieldLink RX9 163 "OtherHalfOfNightModel" "tokenWorth" "J") (wzm K239)) (fun _ h9 => h9) rfl dX9_next_191 ?_
          refine lv_lmul hx hb dX9_next_194 ?_
          refine lv_aload_n hx hb dX9_next_195 rfl (lv_at hl 0 rfl) ?_
          refine lv_aload_n hx hb dX9_next_196 rfl (lv_at hl 0 rfl) ?_
          refine va_get (D := Γ.1) (ci := 8) (v := .int (q28.2.1 (21) 0)) (C := RX9) (T := TX9) (N := 44) hx hb hts iX9 hown hK hP (0) (gM_Model Γ q28.2) rfl 21 (by decide) (hts (.fieldLink RX9 143 "OtherHalfOfNightModel" "here" "I") (wzm K226)) (fun _ h9 => h9) rfl dX9_next_197 ?_
          obtain ⟨q33, h34, hf⟩ := w_ob hf
          refine w_ci (va_runV (As := [.int (q28.2.1 (21) 0)]) (rest := [.long ((10 : Int64) * (q28.2.2 (24) 0)), .ref (Γ.2.2.1 (0))]) ⟨hx, hb, hml, hown, hts⟩ (c_X9_byteAt l Γ hG (q28.2.1 (21) 0) q28.2 q33.1 q33.2 h34 H.size) (cwV 1 hts (wzV K243 K240 K241 K242 K5) rfl rfl rfl (by decide +kernel) ⟨(Nat.le_of_ble_eq_true rfl), (Nat.le_of_ble_eq_true rfl)⟩) (w_preV hK hP hkc hN hS (gM_Model Γ q28.2) rfl) rfl rfl hl.1 rfl (lv_room (Nat.le_of_ble_eq_true rfl)) dX9_next_200 ⟨Nat.le_refl _, Nat.le_refl _⟩) hS (fun H locs hP hS => ?_)
          refine lv_i2l (v := ((q33.1).toInt64)) hx hb dX9_next_203 rfl ?_
          refine lv_ladd hx hb dX9_next_204 ?_
          refine lv_ldc2 (v := (48 : Int64)) hx hb hown (hts (.constantLong RX9 159 (48)) (wzm K237)) dX9_next_205 ?_
          refine lv_lsub hx hb dX9_next_208 ?_
          refine lv_goto (tgt := 216) hx hb dX9_next_209 (by decide) ?_
          exact j216 (y2) (((((10 : Int64) * (q28.2.2 (24) 0)) + ((q33.1).toInt64)) - (48 : Int64))) q33.2 H locs ls hf hP hS (lv_sub hl [0, 1] rfl)
  have j100 : ∀ (n100 : Nat), ∀ (τ : Sm) (H : Heap) (locs : List Loc) (ls : Array Slot) (hf : f_X9_next_100 n100 τ = some σ') (hP : va_P Γ.1 vwCl (XM Γ τ) H) (hS : va_S (wA (alM Γ) s.heap.size) s.heap H locs) (hl : lv_has ls 3 [(0, .ref (Γ.2.2.1 (0)))]), W p l e { frames := 1, cells := 0, slots := 0, locals := 25 } s m av.toArray below meth c H locs 0 0 (MQ below (wQv Γ.1 vwCl (tysC Γ) (XM Γ) (alM Γ) σ' s.heap.size) av.toArray s 0 0 (wA (alM Γ) s.heap.size)) (F0 m 100 ls []) := by
    intro n100
    induction n100 with
    | zero =>
      intro τ H locs ls hf
      exact absurd hf (by intro h; cases h)
    | succ n100 ih100 =>
      intro τ H locs ls hf hP hS hl
      unfold f_X9_next_100 at hf
      refine lv_aload_n hx hb dX9_next_100 rfl (lv_at hl 0 rfl) ?_
      refine lv_aload_n hx hb dX9_next_101 rfl (lv_at hl 0 rfl) ?_
      refine va_get (D := Γ.1) (ci := 8) (v := .int (τ.1 (21) 0)) (C := RX9) (T := TX9) (N := 44) hx hb hts iX9 hown hK hP (0) (gM_Model Γ τ) rfl 21 (by decide) (hts (.fieldLink RX9 143 "OtherHalfOfNightModel" "here" "I") (wzm K226)) (fun _ h9 => h9) rfl dX9_next_102 ?_
      obtain ⟨q35, h36, hf⟩ := w_ob hf
      refine w_ci (va_runV (As := [.int (τ.1 (21) 0)]) (rest := []) ⟨hx, hb, hml, hown, hts⟩ (c_X9_byteAt l Γ hG (τ.1 (21) 0) τ q35.1 q35.2 h36 H.size) (cwV 1 hts (wzV K243 K240 K241 K242 K5) rfl rfl rfl (by decide +kernel) ⟨(Nat.le_of_ble_eq_true rfl), (Nat.le_of_ble_eq_true rfl)⟩) (w_preV hK hP hkc hN hS (gM_Model Γ τ) rfl) rfl rfl hl.1 rfl (lv_room (Nat.le_of_ble_eq_true rfl)) dX9_next_105 ⟨Nat.le_refl _, Nat.le_refl _⟩) hS (fun H locs hP hS => ?_)
      refine lv_i2l (v := ((q35.1).toInt64)) hx hb dX9_next_108 rfl ?_
      refine lv_ldc2 (v := (97 : Int64)) hx hb hown (hts (.constantLong RX9 155 (97)) (wzm K235)) dX9_next_109 ?_
      refine lv_ldc2 (v := (122 : Int64)) hx hb hown (hts (.constantLong RX9 157 (122)) (wzm K236)) dX9_next_112 ?_
      obtain ⟨q37, h38, hf⟩ := w_ob hf
      refine w_ci (va_runS (As := [.long ((q35.1).toInt64), .long (97 : Int64), .long (122 : Int64)]) (rest := []) ⟨hx, hb, hml, hown, hts⟩ (c_X9_in l Γ hG ((q35.1).toInt64) (97 : Int64) (122 : Int64) q35.2 q37.1 q37.2 h38 H.size) (cwS 3 hts (wzS K170 K168 K169 K5) rfl rfl rfl (by decide +kernel) ⟨(Nat.le_of_ble_eq_true rfl), (Nat.le_of_ble_eq_true rfl)⟩) (w_pre hK hP hkc hN hS) rfl rfl hl.1 rfl (lv_room (Nat.le_of_ble_eq_true rfl)) dX9_next_115 ⟨Nat.le_refl _, Nat.le_refl _⟩) hS (fun H locs hP hS => ?_)
      refine lv_if_eq (tgt := 321) hx hb dX9_next_118 (by decide) (fun c39 => ?_) (fun c39 => ?_)
      · replace hf := (if_pos c39).symm.trans hf
        exact w_vret (X := XM Γ) hx hb hr hlocks hK hP hS hf dX9_next_321
      · replace hf := (if_neg c39).symm.trans hf
        refine lv_aload_n hx hb dX9_next_121 rfl (lv_at hl 0 rfl) ?_
        refine lv_dup hx hb dX9_next_122 rfl ?_
        refine va_get (D := Γ.1) (ci := 8) (v := .int (q37.2.1 (21) 0)) (C := RX9) (T := TX9) (N := 44) hx hb hts iX9 hown hK hP (0) (gM_Model Γ q37.2) rfl 21 (by decide) (hts (.fieldLink RX9 143 "OtherHalfOfNightModel" "here" "I") (wzm K226)) (fun _ h9 => h9) rfl dX9_next_123 ?_
        refine lv_iconst (v := (1 : Int32)) hx hb dX9_next_126 (by decide) ?_
        refine lv_iadd hx hb dX9_next_127 ?_
        refine w_put (X := XM Γ) (σ' := (upm q37.2 (21) 0 ((q37.2.1 (21) 0) + (1 : Int32)))) (ci := 8) (C := RX9) (T := TX9) (N := 44) (ty := .int) hx hb hts iX9 tyX9 tyX9_ok nmX9 hown hK hP (halM Γ) hG hS (0) (gM_Model Γ q37.2) rfl 21 (by decide) (hts (.fieldLink RX9 143 "OtherHalfOfNightModel" "here" "I") (wzm K226)) (fun _ h9 => h9) rfl (by decide +kernel) rfl rfl (Nat.le_of_ble_eq_true rfl) dX9_next_128 (sM_Model_here Γ q37.2 ((q37.2.1 (21) 0) + (1 : Int32))) (fun H locs hP hS => ?_)
        refine lv_goto (tgt := 100) hx hb dX9_next_131 (by decide) ?_
        exact ih100 (upm q37.2 (21) 0 ((q37.2.1 (21) 0) + (1 : Int32))) H locs ls hf hP hS (lv_sub hl [0] rfl)
  have j0 : ∀ (n0 : Nat), ∀ (τ : Sm) (H : Heap) (locs : List Loc) (ls : Array Slot) (hf : f_X9_next_0 n0 τ = some σ') (hP : va_P Γ.1 vwCl (XM Γ τ) H) (hS : va_S (wA (alM Γ) s.heap.size) s.heap H locs) (hl : lv_has ls 3 [(0, .ref (Γ.2.2.1 (0)))]), W p l e { frames := 1, cells := 0, slots := 0, locals := 25 } s m av.toArray below meth c H locs 0 0 (MQ below (wQv Γ.1 vwCl (tysC Γ) (XM Γ) (alM Γ) σ' s.heap.size) av.toArray s 0 0 (wA (alM Γ) s.heap.size)) (F0 m 0 ls []) := by
    intro n0
    induction n0 with
    | zero =>
      intro τ H locs ls hf
      exact absurd hf (by intro h; cases h)
    | succ n0 ih0 =>
      have j26 : ∀ (τ : Sm) (H : Heap) (locs : List Loc) (ls : Array Slot) (hf : f_X9_next_26 (f_X9_next_0 n0) τ = some σ') (hP : va_P Γ.1 vwCl (XM Γ τ) H) (hS : va_S (wA (alM Γ) s.heap.size) s.heap H locs) (hl : lv_has ls 3 [(0, .ref (Γ.2.2.1 (0)))]), W p l e { frames := 1, cells := 0, slots := 0, locals := 25 } s m av.toArray below meth c H locs 0 0 (MQ below (wQv Γ.1 vwCl (tysC Γ) (XM Γ) (alM Γ) σ' s.heap.size) av.toArray s 0 0 (wA (alM Γ) s.heap.size)) (F0 m 26 ls []) := by
        intro τ H locs ls hf hP hS hl
        unfold f_X9_next_26 at hf
        refine lv_aload_n hx hb dX9_next_26 rfl (lv_at hl 0 rfl) ?_
        refine lv_dup hx hb dX9_next_27 rfl ?_
        refine va_get (D := Γ.1) (ci := 8) (v := .int (τ.1 (21) 0)) (C := RX9) (T := TX9) (N := 44) hx hb hts iX9 hown hK hP (0) (gM_Model Γ τ) rfl 21 (by decide) (hts (.fieldLink RX9 143 "OtherHalfOfNightModel" "here" "I") (wzm K226)) (fun _ h9 => h9) rfl dX9_next_28 ?_
        refine lv_iconst (v := (1 : Int32)) hx hb dX9_next_31 (by decide) ?_
        refine lv_iadd hx hb dX9_next_32 ?_
        refine w_put (X := XM Γ) (σ' := (upm τ (21) 0 ((τ.1 (21) 0) + (1 : Int32)))) (ci := 8) (C := RX9) (T := TX9) (N := 44) (ty := .int) hx hb hts iX9 tyX9 tyX9_ok nmX9 hown hK hP (halM Γ) hG hS (0) (gM_Model Γ τ) rfl 21 (by decide) (hts (.fieldLink RX9 143 "OtherHalfOfNightModel" "here" "I") (wzm K226)) (fun _ h9 => h9) rfl (by decide +kernel) rfl rfl (Nat.le_of_ble_eq_true rfl) dX9_next_33 (sM_Model_here Γ τ ((τ.1 (21) 0) + (1 : Int32))) (fun H locs hP hS => ?_)
        refine lv_goto (tgt := 0) hx hb dX9_next_36 (by decide) ?_
        exact ih0 (upm τ (21) 0 ((τ.1 (21) 0) + (1 : Int32))) H locs ls hf hP hS (lv_sub hl [0] rfl)
      intro τ H locs ls hf hP hS hl
      unfold f_X9_next_0 at hf
      refine lv_aload_n hx hb dX9_next_0 rfl (lv_at hl 0 rfl) ?_
      refine lv_aload_n hx hb dX9_next_1 rfl (lv_at hl 0 rfl) ?_
      refine va_get (D := Γ.1) (ci := 8) (v := .int (τ.1 (21) 0)) (C := RX9) (T := TX9) (N := 44) hx hb hts iX9 hown hK hP (0) (gM_Model Γ τ) rfl 21 (by decide) (hts (.fieldLink RX9 143 "OtherHalfOfNightModel" "here" "I") (wzm K226)) (fun _ h9 => h9) rfl dX9_next_2 ?_
      obtain ⟨q1, h2, hf⟩ := w_ob hf
      refine w_ci (va_runV (As := [.int (τ.1 (21) 0)]) (rest := []) ⟨hx, hb, hml, hown, hts⟩ (c_X9_byteAt l Γ hG (τ.1 (21) 0) τ q1.1 q1.2 h2 H.size) (cwV 1 hts (wzV K243 K240 K241 K242 K5) rfl rfl rfl (by decide +kernel) ⟨(Nat.le_of_ble_eq_true rfl), (Nat.le_of_ble_eq_true rfl)⟩) (w_preV hK hP hkc hN hS (gM_Model Γ τ) rfl) rfl rfl hl.1 rfl (lv_room (Nat.le_of_ble_eq_true rfl)) dX9_next_5 ⟨Nat.le_refl _, Nat.le_refl _⟩) hS (fun H locs hP hS => ?_)
      refine lv_bipush (v := (32 : Int32)) hx hb dX9_next_8 (by decide) ?_
      refine lv_icmp_eq (tgt := 26) hx hb dX9_next_10 (by decide) (fun c3 => ?_) (fun c3 => ?_)
      · replace hf := (if_pos c3).symm.trans hf
        exact j26 q1.2 H locs ls hf hP hS (lv_sub hl [0] rfl)
      · replace hf := (if_neg c3).symm.trans hf
        refine lv_aload_n hx hb dX9_next_13 rfl (lv_at hl 0 rfl) ?_
        refine lv_aload_n hx hb dX9_next_14 rfl (lv_at hl 0 rfl) ?_
        refine va_get (D := Γ.1) (ci := 8) (v := .int (q1.2.1 (21) 0)) (C := RX9) (T := TX9) (N := 44) hx hb hts iX9 hown hK hP (0) (gM_Model Γ q1.2) rfl 21 (by decide) (hts (.fieldLink RX9 143 "OtherHalfOfNightModel" "here" "I") (wzm K226)) (fun _ h9 => h9) rfl dX9_next_15 ?_
        obtain ⟨q4, h5, hf⟩ := w_ob hf
        refine w_ci (va_runV (As := [.int (q1.2.1 (21) 0)]) (rest := []) ⟨hx, hb, hml, hown, hts⟩ (c_X9_byteAt l Γ hG (q1.2.1 (21) 0) q1.2 q4.1 q4.2 h5 H.size) (cwV 1 hts (wzV K243 K240 K241 K242 K5) rfl rfl rfl (by decide +kernel) ⟨(Nat.le_of_ble_eq_true rfl), (Nat.le_of_ble_eq_true rfl)⟩) (w_preV hK hP hkc hN hS (gM_Model Γ q1.2) rfl) rfl rfl hl.1 rfl (lv_room (Nat.le_of_ble_eq_true rfl)) dX9_next_18 ⟨Nat.le_refl _, Nat.le_refl _⟩) hS (fun H locs hP hS => ?_)
        refine lv_bipush (v := (10 : Int32)) hx hb dX9_next_21 (by decide) ?_
        refine lv_icmp_ne (tgt := 39) hx hb dX9_next_23 (by decide) (fun c6 => ?_) (fun c6 => ?_)
        · replace hf := (if_neg c6).symm.trans hf
          refine lv_aload_n hx hb dX9_next_39 rfl (lv_at hl 0 rfl) ?_
          refine lv_aload_n hx hb dX9_next_40 rfl (lv_at hl 0 rfl) ?_
          refine va_get (D := Γ.1) (ci := 8) (v := .int (q4.2.1 (21) 0)) (C := RX9) (T := TX9) (N := 44) hx hb hts iX9 hown hK hP (0) (gM_Model Γ q4.2) rfl 21 (by decide) (hts (.fieldLink RX9 143 "OtherHalfOfNightModel" "here" "I") (wzm K226)) (fun _ h9 => h9) rfl dX9_next_41 ?_
          refine w_put (X := XM Γ) (σ' := (upm q4.2 (23) 0 (q4.2.1 (21) 0))) (ci := 8) (C := RX9) (T := TX9) (N := 44) (ty := .int) hx hb hts iX9 tyX9 tyX9_ok nmX9 hown hK hP (halM Γ) hG hS (0) (gM_Model Γ q4.2) rfl 23 (by decide) (hts (.fieldLink RX9 149 "OtherHalfOfNightModel" "tokenAt" "I") (wzm K234)) (fun _ h9 => h9) rfl (by decide +kernel) rfl rfl (Nat.le_of_ble_eq_true rfl) dX9_next_44 (sM_Model_tokenAt Γ q4.2 (q4.2.1 (21) 0)) (fun H locs hP hS => ?_)
          refine lv_aload_n hx hb dX9_next_47 rfl (lv_at hl 0 rfl) ?_
          refine lv_aload_n hx hb dX9_next_48 rfl (lv_at hl 0 rfl) ?_
          refine va_get (D := Γ.1) (ci := 8) (v := .int ((upm q4.2 (23) 0 (q4.2.1 (21) 0)).1 (21) 0)) (C := RX9) (T := TX9) (N := 44) hx hb hts iX9 hown hK hP (0) (gM_Model Γ (upm q4.2 (23) 0 (q4.2.1 (21) 0))) rfl 21 (by decide) (hts (.fieldLink RX9 143 "OtherHalfOfNightModel" "here" "I") (wzm K226)) (fun _ h9 => h9) rfl dX9_next_49 ?_
          obtain ⟨q7, h8, hf⟩ := w_ob hf
          refine w_ci (va_runV (As := [.int ((upm q4.2 (23) 0 (q4.2.1 (21) 0)).1 (21) 0)]) (rest := []) ⟨hx, hb, hml, hown, hts⟩ (c_X9_byteAt l Γ hG ((upm q4.2 (23) 0 (q4.2.1 (21) 0)).1 (21) 0) (upm q4.2 (23) 0 (q4.2.1 (21) 0)) q7.1 q7.2 h8 H.size) (cwV 1 hts (wzV K243 K240 K241 K242 K5) rfl rfl rfl (by decide +kernel) ⟨(Nat.le_of_ble_eq_true rfl), (Nat.le_of_ble_eq_true rfl)⟩) (w_preV hK hP hkc hN hS (gM_Model Γ (upm q4.2 (23) 0 (q4.2.1 (21) 0))) rfl) rfl rfl hl.1 rfl (lv_room (Nat.le_of_ble_eq_true rfl)) dX9_next_52 ⟨Nat.le_refl _, Nat.le_refl _⟩) hS (fun H locs hP hS => ?_)
          refine lv_istore_n (lv' := [(1, .int q7.1), (0, .ref (Γ.2.2.1 (0)))]) hx hb dX9_next_55 rfl hl (by decide) rfl (fun ls hl => ?_)
          refine lv_aload_n hx hb dX9_next_56 rfl (lv_at hl 1 rfl) ?_
          refine lv_iconst (v := (4 : Int32)) hx hb dX9_next_57 (by decide) ?_
          refine w_put (X := XM Γ) (σ' := (upm q7.2 (22) 0 (4 : Int32))) (ci := 8) (C := RX9) (T := TX9) (N := 44) (ty := .int) hx hb hts iX9 tyX9 tyX9_ok nmX9 hown hK hP (halM Γ) hG hS (0) (gM_Model Γ q7.2) rfl 22 (by decide) (hts (.fieldLink RX9 152 "OtherHalfOfNightModel" "token" "I") (wzm K229)) (fun _ h9 => h9) rfl (by decide +kernel) rfl rfl (Nat.le_of_ble_eq_true rfl) dX9_next_58 (sM_Model_token Γ q7.2 (4 : Int32)) (fun H locs hP hS => ?_)
          refine lv_iload_n hx hb dX9_next_61 rfl (lv_at hl 0 rfl) ?_
          refine lv_if_ge (tgt := 81) hx hb dX9_next_62 (by decide) (fun c9 => ?_) (fun c9 => ?_)
          · replace hf := (if_pos c9).symm.trans hf
            refine lv_iload_n hx hb dX9_next_81 rfl (lv_at hl 0 rfl) ?_
            refine lv_i2l (v := ((q7.1).toInt64)) hx hb dX9_next_82 rfl ?_
            refine lv_ldc2 (v := (97 : Int64)) hx hb hown (hts (.constantLong RX9 155 (97)) (wzm K235)) dX9_next_83 ?_
            refine lv_ldc2 (v := (122 : Int64)) hx hb hown (hts (.constantLong RX9 157 (122)) (wzm K236)) dX9_next_86 ?_
            obtain ⟨q10, h11, hf⟩ := w_ob hf
            refine w_ci (va_runS (As := [.long ((q7.1).toInt64), .long (97 : Int64), .long (122 : Int64)]) (rest := []) ⟨hx, hb, hml, hown, hts⟩ (c_X9_in l Γ hG ((q7.1).toInt64) (97 : Int64) (122 : Int64) (upm q7.2 (22) 0 (4 : Int32)) q10.1 q10.2 h11 H.size) (cwS 3 hts (wzS K170 K168 K169 K5) rfl rfl rfl (by decide +kernel) ⟨(Nat.le_of_ble_eq_true rfl), (Nat.le_of_ble_eq_true rfl)⟩) (w_pre hK hP hkc hN hS) rfl rfl hl.1 rfl (lv_room (Nat.le_of_ble_eq_true rfl)) dX9_next_89 ⟨Nat.le_refl _, Nat.le_refl _⟩) hS (fun H locs hP hS => ?_)
            refine lv_if_eq (tgt := 134) hx hb dX9_next_92 (by decide) (fun c12 => ?_) (fun c12 => ?_)
            · replace hf := (if_pos c12).symm.trans hf
              refine lv_iload_n hx hb dX9_next_134 rfl (lv_at hl 0 rfl) ?_
              refine lv_i2l (v := ((q7.1).toInt64)) hx hb dX9_next_135 rfl ?_
              refine lv_ldc2 (v := (48 : Int64)) hx hb hown (hts (.constantLong RX9 159 (48)) (wzm K237)) dX9_next_136 ?_
              refine lv_ldc2 (v := (57 : Int64)) hx hb hown (hts (.constantLong RX9 161 (57)) (wzm K238)) dX9_next_139 ?_
              obtain ⟨q13, h14, hf⟩ := w_ob hf
              refine w_ci (va_runS (As := [.long ((q7.1).toInt64), .long (48 : Int64), .long (57 : Int64)]) (rest := []) ⟨hx, hb, hml, hown, hts⟩ (c_X9_in l Γ hG ((q7.1).toInt64) (48 : Int64) (57 : Int64) q10.2 q13.1 q13.2 h14 H.size) (cwS 3 hts (wzS K170 K168 K169 K5) rfl rfl rfl (by decide +kernel) ⟨(Nat.le_of_ble_eq_true rfl), (Nat.le_of_ble_eq_true rfl)⟩) (w_pre hK hP hkc hN hS) rfl rfl hl.1 rfl (lv_room (Nat.le_of_ble_eq_true rfl)) dX9_next_142 ⟨Nat.le_refl _, Nat.le_refl _⟩) hS (fun H locs hP hS => ?_)
              refine lv_if_eq (tgt := 252) hx hb dX9_next_145 (by decide) (fun c15 => ?_) (fun c15 => ?_)
              · replace hf := (if_pos c15).symm.trans hf
                refine lv_iload_n hx hb dX9_next_252 rfl (lv_at hl 0 rfl) ?_
                refine lv_bipush (v := (40 : Int32)) hx hb dX9_next_253 (by decide) ?_
                refine lv_icmp_eq (tgt := 300) hx hb dX9_next_255 (by decide) (fun c16 => ?_) (fun c16 => ?_)
                · replace hf := (if_pos c16).symm.trans hf
                  exact j300 (q7.1) q13.2 H locs ls hf hP hS (lv_sub hl [1, 0] rfl)
                · replace hf := (if_neg c16).symm.trans hf
                  refine lv_iload_n hx hb dX9_next_258 rfl (lv_at hl 0 rfl) ?_
                  refine lv_bipush (v := (41 : Int32)) hx hb dX9_next_259 (by decide) ?_
                  refine lv_icmp_eq (tgt := 300) hx hb dX9_next_261 (by decide) (fun c17 => ?_) (fun c17 => ?_)
                  · replace hf := (if_pos c17).symm.trans hf
                    exact j300 (q7.1) q13.2 H locs ls hf hP hS (lv_sub hl [1, 0] rfl)
                  · replace hf := (if_neg c17).symm.trans hf
                    refine lv_iload_n hx hb dX9_next_264 rfl (lv_at hl 0 rfl) ?_
                    refine lv_bipush (v := (59 : Int32)) hx hb dX9_next_265 (by decide) ?_
                    refine lv_icmp_eq (tgt := 300) hx hb dX9_next_267 (by decide) (fun c18 => ?_) (fun c18 => ?_)
                    · replace hf := (if_pos c18).symm.trans hf
                      exact j300 (q7.1) q13.2 H locs ls hf hP hS (lv_sub hl [1, 0] rfl)
                    · replace hf := (if_neg c18).symm.trans hf
                      refine lv_iload_n hx hb dX9_next_270 rfl (lv_at hl 0 rfl) ?_
                      refine lv_bipush (v := (43 : Int32)) hx hb dX9_next_271 (by decide) ?_
                      refine lv_icmp_eq (tgt := 300) hx hb dX9_next_273 (by decide) (fun c19 => ?_) (fun c19 => ?_)
                      · replace hf := (if_pos c19).symm.trans hf
                        exact j300 (q7.1) q13.2 H locs ls hf hP hS (lv_sub hl [1, 0] rfl)
                      · replace hf := (if_neg c19).symm.trans hf
                        refine lv_iload_n hx hb dX9_next_276 rfl (lv_at hl 0 rfl) ?_
                        refine lv_bipush (v := (45 : Int32)) hx hb dX9_next_277 (by decide) ?_
                        refine lv_icmp_eq (tgt := 300) hx hb dX9_next_279 (by decide) (fun c20 => ?_) (fun c20 => ?_)
                        · replace hf := (if_pos c20).symm.trans hf
                          exact j300 (q7.1) q13.2 H locs ls hf hP hS (lv_sub hl [1, 0] rfl)
                        · replace hf := (if_neg c20).symm.trans hf
                          refine lv_iload_n hx hb dX9_next_282 rfl (lv_at hl 0 rfl) ?_
                          refine lv_bipush (v := (42 : Int32)) hx hb dX9_next_283 (by decide) ?_
                          refine lv_icmp_eq (tgt := 300) hx hb dX9_next_285 (by decide) (fun c21 => ?_) (fun c21 => ?_)
                          · replace hf := (if_pos c21).symm.trans hf
                            exact j300 (q7.1) q13.2 H locs ls hf hP hS (lv_sub hl [1, 0] rfl)
                          · replace hf := (if_neg c21).symm.trans hf
                            refine lv_iload_n hx hb dX9_next_288 rfl (lv_at hl 0 rfl) ?_
                            refine lv_bipush (v := (60 : Int32)) hx hb dX9_next_289 (by decide) ?_
                            refine lv_icmp_eq (tgt := 300) hx hb dX9_next_291 (by decide) (fun c22 => ?_) (fun c22 => ?_)
                            · replace hf := (if_pos c22).symm.trans hf
                              exact j300 (q7.1) q13.2 H locs ls hf hP hS (lv_sub hl [1, 0] rfl)
                            · replace hf := (if_neg c22).symm.trans hf
                              refine lv_iload_n hx hb dX9_next_294 rfl (lv_at hl 0 rfl) ?_
                              refine lv_bipush (v := (61 : Int32)) hx hb dX9_next_295 (by decide) ?_
                              refine lv_icmp_ne (tgt := 321) hx hb dX9_next_297 (by decide) (fun c23 => ?_) (fun c23 => ?_)
                              · replace hf := (if_neg c23).symm.trans hf
                                exact w_vret (X := XM Γ) hx hb hr hlocks hK hP hS hf dX9_next_321
                              · replace hf := (if_pos c23).symm.trans hf
                                exact j300 (q7.1) q13.2 H locs ls hf hP hS (lv_sub hl [1, 0] rfl)
              · replace hf := (if_neg c15).symm.trans hf
                refine lv_aload_n hx hb dX9_next_148 rfl (lv_at hl 1 rfl) ?_
                refine lv_iconst (v := (2 : Int32)) hx hb dX9_next_149 (by decide) ?_
                refine w_put (X := XM Γ) (σ' := (upm q13.2 (22) 0 (2 : Int32))) (ci := 8) (C := RX9) (T := TX9) (N := 44) (ty := .int) hx hb hts iX9 tyX9 tyX9_ok nmX9 hown hK hP (halM Γ) hG hS (0) (gM_Model Γ q13.2) rfl 22 (by decide) (hts (.fieldLink RX9 152 "OtherHalfOfNightModel" "token" "I") (wzm K229)) (fun _ h9 => h9) rfl (by decide +kernel) rfl rfl (Nat.le_of_ble_eq_true rfl) dX9_next_150 (sM_Model_token Γ q13.2 (2 : Int32)) (fun H locs hP hS => ?_)
                refine lv_aload_n hx hb dX9_next_153 rfl (lv_at hl 1 rfl) ?_
                refine lv_lconst (v := (0 : Int64)) hx hb dX9_next_154 (by decide) ?_
                refine w_put (X := XM Γ) (σ' := (upj (upm q13.2 (22) 0 (2 : Int32)) (24) 0 (0 : Int64))) (ci := 8) (C := RX9) (T := TX9) (N := 44) (ty := .long) hx hb hts iX9 tyX9 tyX9_ok nmX9 hown hK hP (halM Γ) hG hS (0) (gM_Model Γ (upm q13.2 (22) 0 (2 : Int32))) rfl 24 (by decide) (hts (.fieldLink RX9 163 "OtherHalfOfNightModel" "tokenWorth" "J") (wzm K239)) (fun _ h9 => h9) rfl (by decide +kernel) rfl rfl (Nat.le_of_ble_eq_true rfl) dX9_next_155 (sM_Model_tokenWorth Γ (upm q13.2 (22) 0 (2 : Int32)) (0 : Int64)) (fun H locs hP hS => ?_)
                refine lv_iconst (v := (0 : Int32)) hx hb dX9_next_158 (by decide) ?_
                refine lv_istore_n (lv' := [(2, .int (0 : Int32)), (1, .int q7.1), (0, .ref (Γ.2.2.1 (0)))]) hx hb dX9_next_159 rfl hl (by decide) rfl (fun ls hl => ?_)
                exact j160 5000 ((0 : Int32)) (upj (upm q13.2 (22) 0 (2 : Int32)) (24) 0 (0 : Int64)) H locs ls hf hP hS (lv_sub hl [2, 0] rfl)
            · replace hf := (if_neg c12).symm.trans hf
              refine lv_aload_n hx hb dX9_next_95 rfl (lv_at hl 1 rfl) ?_
              refine lv_iconst (v := (1 : Int32)) hx hb dX9_next_96 (by decide) ?_
              refine w_put (X := XM Γ) (σ' := (upm q10.2 (22) 0 (1 : Int32))) (ci := 8) (C := RX9) (T := TX9) (N := 44) (ty := .int) hx hb hts iX9 tyX9 tyX9_ok nmX9 hown hK hP (halM Γ) hG hS (0) (gM_Model Γ q10.2) rfl 22 (by decide) (hts (.fieldLink RX9 152 "OtherHalfOfNightModel" "token" "I") (wzm K229)) (fun _ h9 => h9) rfl (by decide +kernel) rfl rfl (Nat.le_of_ble_eq_true rfl) dX9_next_97 (sM_Model_token Γ q10.2 (1 : Int32)) (fun H locs hP hS => ?_)
              exact j100 5000 (upm q10.2 (22) 0 (1 : Int32)) H locs ls hf hP hS (lv_sub hl [1] rfl)
          · replace hf := (if_neg c9).symm.trans hf
            refine lv_aload_n hx hb dX9_next_65 rfl (lv_at hl 1 rfl) ?_
            refine lv_iconst (v := (0 : Int32)) hx hb dX9_next_66 (by decide) ?_
            refine w_put (X := XM Γ) (σ' := (upm (upm q7.2 (22) 0 (4 : Int32)) (22) 0 (0 : Int32))) (ci := 8) (C := RX9) (T := TX9) (N := 44) (ty := .int) hx hb hts iX9 tyX9 tyX9_ok nmX9 hown hK hP (halM Γ) hG hS (0) (gM_Model Γ (upm q7.2 (22) 0 (4 : Int32))) rfl 22 (by decide) (hts (.fieldLink RX9 152 "OtherHalfOfNightModel" "token" "I") (wzm K229)) (fun _ h9 => h9) rfl (by decide +kernel) rfl rfl (Nat.le_of_ble_eq_true rfl) dX9_next_67 (sM_Model_token Γ (upm q7.2 (22) 0 (4 : Int32)) (0 : Int32)) (fun H locs hP hS => ?_)
            refine lv_aload_n hx hb dX9_next_70 rfl (lv_at hl 1 rfl) ?_
            refine lv_aload_n hx hb dX9_next_71 rfl (lv_at hl 1 rfl) ?_
            refine va_get (D := Γ.1) (ci := 8) (v := .int ((upm (upm q7.2 (22) 0 (4 : Int32)) (22) 0 (0 : Int32)).1 (20) 0)) (C := RX9) (T := TX9) (N := 44) hx hb hts iX9 hown hK hP (0) (gM_Model Γ (upm (upm q7.2 (22) 0 (4 : Int32)) (22) 0 (0 : Int32))) rfl 20 (by decide) (hts (.fieldLink RX9 137 "OtherHalfOfNightModel" "size" "I") (wzm K225)) (fun _ h9 => h9) rfl dX9_next_72 ?_
            refine w_put (X := XM Γ) (σ' := (upm (upm (upm q7.2 (22) 0 (4 : Int32)) (22) 0 (0 : Int32)) (23) 0 ((upm (upm q7.2 (22) 0 (4 : Int32)) (22) 0 (0 : Int32)).1 (20) 0))) (ci := 8) (C := RX9) (T := TX9) (N := 44) (ty := .int) hx hb hts iX9 tyX9 tyX9_ok nmX9 hown hK hP (halM Γ) hG hS (0) (gM_Model Γ (upm (upm q7.2 (22) 0 (4 : Int32)) (22) 0 (0 : Int32))) rfl 23 (by decide) (hts (.fieldLink RX9 149 "OtherHalfOfNightModel" "tokenAt" "I") (wzm K234)) (fun _ h9 => h9) rfl (by decide +kernel) rfl rfl (Nat.le_of_ble_eq_true rfl) dX9_next_75 (sM_Model_tokenAt Γ (upm (upm q7.2 (22) 0 (4 : Int32)) (22) 0 (0 : Int32)) ((upm (upm q7.2 (22) 0 (4 : Int32)) (22) 0 (0 : Int32)).1 (20) 0)) (fun H locs hP hS => ?_)
            refine lv_goto (tgt := 321) hx hb dX9_next_78 (by decide) ?_
            exact w_vret (X := XM Γ) hx hb hr hlocks hK hP hS hf dX9_next_321
        · replace hf := (if_pos c6).symm.trans hf
          exact j26 q4.2 H locs ls hf hP hS (lv_sub hl [0] rfl)
  suffices hw : ∀ (H : Heap) (locs : List Loc), va_P Γ.1 vwCl (XM Γ σ) H → va_S (wA (alM Γ) s.heap.size) s.heap H locs → W p l e { frames := 1, cells := 0, slots := 0, locals := 25 } s m av.toArray below meth c H locs 0 0 (MQ below (wQv Γ.1 vwCl (tysC Γ) (XM Γ) (alM Γ) σ' s.heap.size) av.toArray s 0 0 (wA (alM Γ) s.heap.size)) (F0 m 0 ls []) from hw _ [] hP va_S.rf
  clear hP
  intro H locs hP hS
  unfold f_X9_next at hf
  exact j0 5000 σ H locs ls hf hP hS (lv_sub hl [0] rfl)
def f_X9_fail (σ : Sm) : Option Sm := if (σ.1 (26) 0) = 0 then some (upm (upm σ (26) 0 (1 : Int32)) (27) 0 ((upm σ (26) 0 (1 : Int32)).1 (23) 0)) else some σ
set_option maxHeartbeats 40000000 in
set_option maxRecDepth 100000 in
theorem c_X9_fail (l : Launch) (Γ : Geo) (hG : okM Γ) (σ : Sm) (σ' : Sm) (hf : f_X9_fail σ = some σ') (sz : Nat) : Met l yX9_fail (wz yX9_fail cX9_fail 1 none) { frames := 0, cells := 0, slots := 0, locals := 0 } (va_Pc [.ref (Γ.2.2.1 (0))] (wPre Γ.1 vwCl (tysC Γ) (XM Γ) (alM Γ) Γ.2.2.2 σ sz)) (wQv Γ.1 vwCl (tysC Γ) (XM Γ) (alM Γ) σ' sz) 0 0 (wA (alM Γ) sz) := by
  refine w_enter (cc := cX9_fail) (maxL := 1) (ret := none) (by decide) rfl (Nat.le_of_ble_eq_true rfl) ?_
  intro p e s m below meth c ls hx hb hr hlocks hml hown hts hsz hP hK hkc hN hl
  subst hsz
  generalize hav : ([.ref (Γ.2.2.1 (0))] : List Value) = av at hl hts ⊢
  have hl : lv_has ls 1 [(0, .ref (Γ.2.2.1 (0)))] := by rw [← hav] at hl; exact hl
  suffices hw : ∀ (H : Heap) (locs : List Loc), va_P Γ.1 vwCl (XM Γ σ) H → va_S (wA (alM Γ) s.heap.size) s.heap H locs → W p l e { frames := 0, cells := 0, slots := 0, locals := 0 } s m av.toArray below meth c H locs 0 0 (MQ below (wQv Γ.1 vwCl (tysC Γ) (XM Γ) (alM Γ) σ' s.heap.size) av.toArray s 0 0 (wA (alM Γ) s.heap.size)) (F0 m 0 ls []) from hw _ [] hP va_S.rf
  clear hP
  intro H locs hP hS
  unfold f_X9_fail at hf
  refine lv_aload_n hx hb dX9_fail_0 rfl (lv_at hl 0 rfl) ?_
  refine va_get (D := Γ.1) (ci := 8) (v := .int (σ.1 (26) 0)) (C := RX9) (T := TX9) (N := 44) hx hb hts iX9 hown hK hP (0) (gM_Model Γ σ) rfl 26 (by decide) (hts (.fieldLink RX9 167 "OtherHalfOfNightModel" "bad" "Z") (wzm K228)) (fun _ h9 => h9) rfl dX9_fail_1 ?_
  refine lv_if_ne (tgt := 20) hx hb dX9_fail_4 (by decide) (fun c1 => ?_) (fun c1 => ?_)
  · replace hf := (if_neg c1).symm.trans hf
    exact w_vret (X := XM Γ) hx hb hr hlocks hK hP hS hf dX9_fail_20
  · replace hf := (if_pos c1).symm.trans hf
    refine lv_aload_n hx hb dX9_fail_7 rfl (lv_at hl 0 rfl) ?_
    refine lv_iconst (v := (1 : Int32)) hx hb dX9_fail_8 (by decide) ?_
    refine w_put (X := XM Γ) (σ' := (upm σ (26) 0 (1 : Int32))) (ci := 8) (C := RX9) (T := TX9) (N := 44) (ty := .boolean) hx hb hts iX9 tyX9 tyX9_ok nmX9 hown hK hP (halM Γ) hG hS (0) (gM_Model Γ σ) rfl 26 (by decide) (hts (.fieldLink RX9 167 "OtherHalfOfNightModel" "bad" "Z") (wzm K228)) (fun _ h9 => h9) rfl (by decide +kernel) (by decide) rfl (Nat.le_of_ble_eq_true rfl) dX9_fail_9 (sM_Model_bad Γ σ (1 : Int32)) (fun H locs hP hS => ?_)
    refine lv_aload_n hx hb dX9_fail_12 rfl (lv_at hl 0 rfl) ?_
    refine lv_aload_n hx hb dX9_fail_13 rfl (lv_at hl 0 rfl) ?_
    refine va_get (D := Γ.1) (ci := 8) (v := .int ((upm σ (26) 0 (1 : Int32)).1 (23) 0)) (C := RX9) (T := TX9) (N := 44) hx hb hts iX9 hown hK hP (0) (gM_Model Γ (upm σ (26) 0 (1 : Int32))) rfl 23 (by decide) (hts (.fieldLink RX9 149 "OtherHalfOfNightModel" "tokenAt" "I") (wzm K234)) (fun _ h9 => h9) rfl dX9_fail_14 ?_
    refine w_put (X := XM Γ) (σ' := (upm (upm σ (26) 0 (1 : Int32)) (27) 0 ((upm σ (26) 0 (1 : Int32)).1 (23) 0))) (ci := 8) (C := RX9) (T := TX9) (N := 44) (ty := .int) hx hb hts iX9 tyX9 tyX9_ok nmX9 hown hK hP (halM Γ) hG hS (0) (gM_Model Γ (upm σ (26) 0 (1 : Int32))) rfl 27 (by decide) (hts (.fieldLink RX9 171 "OtherHalfOfNightModel" "fault" "I") (wzm K260)) (fun _ h9 => h9) rfl (by decide +kernel) rfl rfl (Nat.le_of_ble_eq_true rfl) dX9_fail_17 (sM_Model_fault Γ (upm σ (26) 0 (1 : Int32)) ((upm σ (26) 0 (1 : Int32)).1 (23) 0)) (fun H locs hP hS => ?_)
    exact w_vret (X := XM Γ) hx hb hr hlocks hK hP hS hf dX9_fail_20
def f_X9_isLetter (x1 : Int32) (x2 : Int32) (σ : Sm) : Option (Int32 × Sm) := if (σ.1 (21) 0) ≤ ((σ.1 (23) 0) + x1) then if x2 = 0 then some ((1 : Int32), σ) else some ((0 : Int32), σ) else (f_X9_byteAt ((σ.1 (23) 0) + x1) σ).bind fun (q3 : Int32 × Sm) => if q3.1 = x2 then some ((1 : Int32), q3.2) else some ((0 : Int32), q3.2)
set_option maxHeartbeats 40000000 in
set_option maxRecDepth 100000 in
theorem c_X9_isLetter (l : Launch) (Γ : Geo) (hG : okM Γ) (x1 : Int32) (x2 : Int32) (σ : Sm) (r : Int32) (σ' : Sm) (hf : f_X9_isLetter x1 x2 σ = some (r, σ')) (sz : Nat) : Met l yX9_isLetter (wz yX9_isLetter cX9_isLetter 3 (some .boolean)) { frames := 1, cells := 0, slots := 0, locals := 21 } (va_Pc [.ref (Γ.2.2.1 (0)), .int x1, .int x2] (wPre Γ.1 vwCl (tysC Γ) (XM Γ) (alM Γ) Γ.2.2.2 σ sz)) (wQi Γ.1 vwCl (tysC Γ) (XM Γ) (alM Γ) r σ' sz) 0 0 (wA (alM Γ) sz) := by
  refine w_enter (cc := cX9_isLetter) (maxL := 3) (ret := (some .boolean)) (by decide) rfl (Nat.le_of_ble_eq_true rfl) ?_
  intro p e s m below meth c ls hx hb hr hlocks hml hown hts hsz hP hK hkc hN hl
  subst hsz
  generalize hav : ([.ref (Γ.2.2.1 (0)), .int x1, .int x2] : List Value) = av at hl hts ⊢
  have hl : lv_has ls 3 [(0, .ref (Γ.2.2.1 (0))), (1, .int x1), (2, .int x2)] := by rw [← hav] at hl; exact hl
  suffices hw : ∀ (H : Heap) (locs : List Loc), va_P Γ.1 vwCl (XM Γ σ) H → va_S (wA (alM Γ) s.heap.size) s.heap H locs → W p l e { frames := 1, cells := 0, slots := 0, locals := 21 } s m av.toArray below meth c H locs 0 0 (MQ below (wQi Γ.1 vwCl (tysC Γ) (XM Γ) (alM Γ) r σ' s.heap.size) av.toArray s 0 0 (wA (alM Γ) s.heap.size)) (F0 m 0 ls []) from hw _ [] hP va_S.rf
  clear hP
  intro H locs hP hS
  unfold f_X9_isLetter at hf
  refine lv_aload_n hx hb dX9_isLetter_0 rfl (lv_at hl 0 rfl) ?_
  refine va_get (D := Γ.1) (ci := 8) (v := .int (σ.1 (23) 0)) (C := RX9) (T := TX9) (N := 44) hx hb hts iX9 hown hK hP (0) (gM_Model Γ σ) rfl 23 (by decide) (hts (.fieldLink RX9 149 "OtherHalfOfNightModel" "tokenAt" "I") (wzm K234)) (fun _ h9 => h9) rfl dX9_isLetter_1 ?_
  refine lv_iload_n hx hb dX9_isLetter_4 rfl (lv_at hl 1 rfl) ?_
  refine lv_iadd hx hb dX9_isLetter_5 ?_
  refine lv_aload_n hx hb dX9_isLetter_6 rfl (lv_at hl 0 rfl) ?_
  refine va_get (D := Γ.1) (ci := 8) (v := .int (σ.1 (21) 0)) (C := RX9) (T := TX9) (N := 44) hx hb hts iX9 hown hK hP (0) (gM_Model Γ σ) rfl 21 (by decide) (hts (.fieldLink RX9 143 "OtherHalfOfNightModel" "here" "I") (wzm K226)) (fun _ h9 => h9) rfl dX9_isLetter_7 ?_
  refine lv_icmp_ge (tgt := 35) hx hb dX9_isLetter_10 (by decide) (fun c1 => ?_) (fun c1 => ?_)
  · replace hf := (if_pos c1).symm.trans hf
    refine lv_iload_n hx hb dX9_isLetter_35 rfl (lv_at hl 2 rfl) ?_
    refine lv_if_ne (tgt := 43) hx hb dX9_isLetter_36 (by decide) (fun c2 => ?_) (fun c2 => ?_)
    · replace hf := (if_neg c2).symm.trans hf
      refine lv_iconst (v := (0 : Int32)) hx hb dX9_isLetter_43 (by decide) ?_
      exact w_iret (X := XM Γ) hx hb hr hlocks hK hP hS (by decide) hf dX9_isLetter_44
    · replace hf := (if_pos c2).symm.trans hf
      refine lv_iconst (v := (1 : Int32)) hx hb dX9_isLetter_39 (by decide) ?_
      refine lv_goto (tgt := 44) hx hb dX9_isLetter_40 (by decide) ?_
      exact w_iret (X := XM Γ) hx hb hr hlocks hK hP hS (by decide) hf dX9_isLetter_44
  · replace hf := (if_neg c1).symm.trans hf
    refine lv_aload_n hx hb dX9_isLetter_13 rfl (lv_at hl 0 rfl) ?_
    refine lv_aload_n hx hb dX9_isLetter_14 rfl (lv_at hl 0 rfl) ?_
    refine va_get (D := Γ.1) (ci := 8) (v := .int (σ.1 (23) 0)) (C := RX9) (T := TX9) (N := 44) hx hb hts iX9 hown hK hP (0) (gM_Model Γ σ) rfl 23 (by decide) (hts (.fieldLink RX9 149 "OtherHalfOfNightModel" "tokenAt" "I") (wzm K234)) (fun _ h9 => h9) rfl dX9_isLetter_15 ?_
    refine lv_iload_n hx hb dX9_isLetter_18 rfl (lv_at hl 1 rfl) ?_
    refine lv_iadd hx hb dX9_isLetter_19 ?_
    obtain ⟨q3, h4, hf⟩ := w_ob hf
    refine w_ci (va_runV (As := [.int ((σ.1 (23) 0) + x1)]) (rest := []) ⟨hx, hb, hml, hown, hts⟩ (c_X9_byteAt l Γ hG ((σ.1 (23) 0) + x1) σ q3.1 q3.2 h4 H.size) (cwV 1 hts (wzV K243 K240 K241 K242 K5) rfl rfl rfl (by decide +kernel) ⟨(Nat.le_of_ble_eq_true rfl), (Nat.le_of_ble_eq_true rfl)⟩) (w_preV hK hP hkc hN hS (gM_Model Γ σ) rfl) rfl rfl hl.1 rfl (lv_room (Nat.le_of_ble_eq_true rfl)) dX9_isLetter_20 ⟨Nat.le_refl _, Nat.le_refl _⟩) hS (fun H locs hP hS => ?_)
    refine lv_iload_n hx hb dX9_isLetter_23 rfl (lv_at hl 2 rfl) ?_
    refine lv_icmp_ne (tgt := 31) hx hb dX9_isLetter_24 (by decide) (fun c5 => ?_) (fun c5 => ?_)
    · replace hf := (if_neg c5).symm.trans hf
      refine lv_iconst (v := (0 : Int32)) hx hb dX9_isLetter_31 (by decide) ?_
      refine lv_goto (tgt := 44) hx hb dX9_isLetter_32 (by decide) ?_
      exact w_iret (X := XM Γ) hx hb hr hlocks hK hP hS (by decide) hf dX9_isLetter_44
    · replace hf := (if_pos c5).symm.trans hf
      refine lv_iconst (v := (1 : Int32)) hx hb dX9_isLetter_27 (by decide) ?_
      refine lv_goto (tgt := 44) hx hb dX9_isLetter_28 (by decide) ?_
      exact w_iret (X := XM Γ) hx hb hr hlocks hK hP hS (by decide) hf dX9_isLetter_44
def f_X9_isWord (x1 : Int32) (x2 : Int32) (x3 : Int32) (x4 : Int32) (x5 : Int32) (x6 : Int32) (x7 : Int32) (x8 : Int32) (σ : Sm) : Option (Int32 × Sm) := if (σ.1 (26) 0) = 0 then if (σ.1 (22) 0) = (1 : Int32) then if ((σ.1 (23) 0) + (8 : Int32)) < (σ.1 (21) 0) then some ((0 : Int32), σ) else (f_X9_isLetter (0 : Int32) x1 σ).bind fun (q4 : Int32 × Sm) => if q4.1 = 0 then some ((0 : Int32), q4.2) else (f_X9_isLetter (1 : Int32) x2 q4.2).bind fun (q7 : Int32 × Sm) => if q7.1 = 0 then some ((0 : Int32), q7.2) else (f_X9_isLetter (2 : Int32) x3 q7.2).bind fun (q10 : Int32 × Sm) => if q10.1 = 0 then some ((0 : Int32), q10.2) else (f_X9_isLetter (3 : Int32) x4 q10.2).bind fun (q13 : Int32 × Sm) => if q13.1 = 0 then some ((0 : Int32), q13.2) else (f_X9_isLetter (4 : Int32) x5 q13.2).bind fun (q16 : Int32 × Sm) => if q16.1 = 0 then some ((0 : Int32), q16.2) else (f_X9_isLetter (5 : Int32) x6 q16.2).bind fun (q19 : Int32 × Sm) => if q19.1 = 0 then some ((0 : Int32), q19.2) else (f_X9_isLetter (6 : Int32) x7 q19.2).bind fun (q22 : Int32 × Sm) => if q22.1 = 0 then some ((0 : Int32), q22.2) else (f_X9_isLetter (7 : Int32) x8 q22.2).bind fun (q25 : Int32 × Sm) => if q25.1 = 0 then some ((0 : Int32), q25.2) else some ((1 : Int32), q25.2) else some ((0 : Int32), σ) else some ((0 : Int32), σ)
set_option maxHeartbeats 40000000 in
set_option maxRecDepth 100000 in
theorem c_X9_isWord (l : Launch) (Γ : Geo) (hG : okM Γ) (x1 : Int32) (x2 : Int32) (x3 : Int32) (x4 : Int32) (x5 : Int32) (x6 : Int32) (x7 : Int32) (x8 : Int32) (σ : Sm) (r : Int32) (σ' : Sm) (hf : f_X9_isWord x1 x2 x3 x4 x5 x6 x7 x8 σ = some (r, σ')) (sz : Nat) : Met l yX9_isWord (wz yX9_isWord cX9_isWord 9 (some .boolean)) { frames := 2, cells := 0, slots := 0, locals := 43 } (va_Pc [.ref (Γ.2.2.1 (0)), .int x1, .int x2, .int x3, .int x4, .int x5, .int x6, .int x7, .int x8] (wPre Γ.1 vwCl (tysC Γ) (XM Γ) (alM Γ) Γ.2.2.2 σ sz)) (wQi Γ.1 vwCl (tysC Γ) (XM Γ) (alM Γ) r σ' sz) 0 0 (wA (alM Γ) sz) := by
  refine w_enter (cc := cX9_isWord) (maxL := 9) (ret := (some .boolean)) (by decide) rfl (Nat.le_of_ble_eq_true rfl) ?_
  intro p e s m below meth c ls hx hb hr hlocks hml hown hts hsz hP hK hkc hN hl
  subst hsz
  generalize hav : ([.ref (Γ.2.2.1 (0)), .int x1, .int x2, .int x3, .int x4, .int x5, .int x6, .int x7, .int x8] : List Value) = av at hl hts ⊢
  have hl : lv_has ls 9 [(0, .ref (Γ.2.2.1 (0))), (1, .int x1), (2, .int x2), (3, .int x3), (4, .int x4), (5, .int x5), (6, .int x6), (7, .int x7), (8, .int x8)] := by rw [← hav] at hl; exact hl
  suffices hw : ∀ (H : Heap) (locs : List Loc), va_P Γ.1 vwCl (XM Γ σ) H → va_S (wA (alM Γ) s.heap.size) s.heap H locs → W p l e { frames := 2, cells := 0, slots := 0, locals := 43 } s m av.toArray below meth c H locs 0 0 (MQ below (wQi Γ.1 vwCl (tysC Γ) (XM Γ) (alM Γ) r σ' s.heap.size) av.toArray s 0 0 (wA (alM Γ) s.heap.size)) (F0 m 0 ls []) from hw _ [] hP va_S.rf
  clear hP
  intro H locs hP hS
  unfold f_X9_isWord at hf
  refine lv_aload_n hx hb dX9_isWord_0 rfl (lv_at hl 0 rfl) ?_
  refine va_get (D := Γ.1) (ci := 8) (v := .int (σ.1 (26) 0)) (C := RX9) (T := TX9) (N := 44) hx hb hts iX9 hown hK hP (0) (gM_Model Γ σ) rfl 26 (by decide) (hts (.fieldLink RX9 167 "OtherHalfOfNightModel" "bad" "Z") (wzm K228)) (fun _ h9 => h9) rfl dX9_isWord_1 ?_
  refine lv_if_ne (tgt := 112) hx hb dX9_isWord_4 (by decide) (fun c1 => ?_) (fun c1 => ?_)
  · replace hf := (if_neg c1).symm.trans hf
    refine lv_iconst (v := (0 : Int32)) hx hb dX9_isWord_112 (by decide) ?_
    exact w_iret (X := XM Γ) hx hb hr hlocks hK hP hS (by decide) hf dX9_isWord_113
  · replace hf := (if_pos c1).symm.trans hf
    refine lv_aload_n hx hb dX9_isWord_7 rfl (lv_at hl 0 rfl) ?_
    refine va_get (D := Γ.1) (ci := 8) (v := .int (σ.1 (22) 0)) (C := RX9) (T := TX9) (N := 44) hx hb hts iX9 hown hK hP (0) (gM_Model Γ σ) rfl 22 (by decide) (hts (.fieldLink RX9 152 "OtherHalfOfNightModel" "token" "I") (wzm K229)) (fun _ h9 => h9) rfl dX9_isWord_8 ?_
    refine lv_iconst (v := (1 : Int32)) hx hb dX9_isWord_11 (by decide) ?_
    refine lv_icmp_ne (tgt := 112) hx hb dX9_isWord_12 (by decide) (fun c2 => ?_) (fun c2 => ?_)
    · replace hf := (if_neg c2).symm.trans hf
      refine lv_iconst (v := (0 : Int32)) hx hb dX9_isWord_112 (by decide) ?_
      exact w_iret (X := XM Γ) hx hb hr hlocks hK hP hS (by decide) hf dX9_isWord_113
    · replace hf := (if_pos c2).symm.trans hf
      refine lv_aload_n hx hb dX9_isWord_15 rfl (lv_at hl 0 rfl) ?_
      refine va_get (D := Γ.1) (ci := 8) (v := .int (σ.1 (21) 0)) (C := RX9) (T := TX9) (N := 44) hx hb hts iX9 hown hK hP (0) (gM_Model Γ σ) rfl 21 (by decide) (hts (.fieldLink RX9 143 "OtherHalfOfNightModel" "here" "I") (wzm K226)) (fun _ h9 => h9) rfl dX9_isWord_16 ?_
      refine lv_aload_n hx hb dX9_isWord_19 rfl (lv_at hl 0 rfl) ?_
      refine va_get (D := Γ.1) (ci := 8) (v := .int (σ.1 (23) 0)) (C := RX9) (T := TX9) (N := 44) hx hb hts iX9 hown hK hP (0) (gM_Model Γ σ) rfl 23 (by decide) (hts (.fieldLink RX9 149 "OtherHalfOfNightModel" "tokenAt" "I") (wzm K234)) (fun _ h9 => h9) rfl dX9_isWord_20 ?_
      refine lv_bipush (v := (8 : Int32)) hx hb dX9_isWord_23 (by decide) ?_
      refine lv_iadd hx hb dX9_isWord_25 ?_
      refine lv_icmp_gt (tgt := 112) hx hb dX9_isWord_26 (by decide) (fun c3 => ?_) (fun c3 => ?_)
      · replace hf := (if_pos c3).symm.trans hf
        refine lv_iconst (v := (0 : Int32)) hx hb dX9_isWord_112 (by decide) ?_
        exact w_iret (X := XM Γ) hx hb hr hlocks hK hP hS (by decide) hf dX9_isWord_113
      · replace hf := (if_neg c3).symm.trans hf
        refine lv_aload_n hx hb dX9_isWord_29 rfl (lv_at hl 0 rfl) ?_
        refine lv_iconst (v := (0 : Int32)) hx hb dX9_isWord_30 (by decide) ?_
        refine lv_iload_n hx hb dX9_isWord_31 rfl (lv_at hl 1 rfl) ?_
        obtain ⟨q4, h5, hf⟩ := w_ob hf
        refine w_ci (va_runV (As := [.int (0 : Int32), .int x1]) (rest := []) ⟨hx, hb, hml, hown, hts⟩ (c_X9_isLetter l Γ hG (0 : Int32) x1 σ q4.1 q4.2 h5 H.size) (cwV 2 hts (wzV K251 K248 K249 K250 K5) rfl rfl rfl (by decide +kernel) ⟨(Nat.le_of_ble_eq_true rfl), (Nat.le_of_ble_eq_true rfl)⟩) (w_preV hK hP hkc hN hS (gM_Model Γ σ) rfl) rfl rfl hl.1 rfl (lv_room (Nat.le_of_ble_eq_true rfl)) dX9_isWord_32 ⟨Nat.le_refl _, Nat.le_refl _⟩) hS (fun H locs hP hS => ?_)
        refine lv_if_eq (tgt := 112) hx hb dX9_isWord_35 (by decide) (fun c6 => ?_) (fun c6 => ?_)
        · replace hf := (if_pos c6).symm.trans hf
          refine lv_iconst (v := (0 : Int32)) hx hb dX9_isWord_112 (by decide) ?_
          exact w_iret (X := XM Γ) hx hb hr hlocks hK hP hS (by decide) hf dX9_isWord_113
        · replace hf := (if_neg c6).symm.trans hf
          refine lv_aload_n hx hb dX9_isWord_38 rfl (lv_at hl 0 rfl) ?_
          refine lv_iconst (v := (1 : Int32)) hx hb dX9_isWord_39 (by decide) ?_
          refine lv_iload_n hx hb dX9_isWord_40 rfl (lv_at hl 2 rfl) ?_
          obtain ⟨q7, h8, hf⟩ := w_ob hf
          refine w_ci (va_runV (As := [.int (1 : Int32), .int x2]) (rest := []) ⟨hx, hb, hml, hown, hts⟩ (c_X9_isLetter l Γ hG (1 : Int32) x2 q4.2 q7.1 q7.2 h8 H.size) (cwV 2 hts (wzV K251 K248 K249 K250 K5) rfl rfl rfl (by decide +kernel) ⟨(Nat.le_of_ble_eq_true rfl), (Nat.le_of_ble_eq_true rfl)⟩) (w_preV hK hP hkc hN hS (gM_Model Γ q4.2) rfl) rfl rfl hl.1 rfl (lv_room (Nat.le_of_ble_eq_true rfl)) dX9_isWord_41 ⟨Nat.le_refl _, Nat.le_refl _⟩) hS (fun H locs hP hS => ?_)
          refine lv_if_eq (tgt := 112) hx hb dX9_isWord_44 (by decide) (fun c9 => ?_) (fun c9 => ?_)
          · replace hf := (if_pos c9).symm.trans hf
            refine lv_iconst (v := (0 : Int32)) hx hb dX9_isWord_112 (by decide) ?_
            exact w_iret (X := XM Γ) hx hb hr hlocks hK hP hS (by decide) hf dX9_isWord_113
          · replace hf := (if_neg c9).symm.trans hf
            refine lv_aload_n hx hb dX9_isWord_47 rfl (lv_at hl 0 rfl) ?_
            refine lv_iconst (v := (2 : Int32)) hx hb dX9_isWord_48 (by decide) ?_
            refine lv_iload_n hx hb dX9_isWord_49 rfl (lv_at hl 3 rfl) ?_
            obtain ⟨q10, h11, hf⟩ := w_ob hf
            refine w_ci (va_runV (As := [.int (2 : Int32), .int x3]) (rest := []) ⟨hx, hb, hml, hown, hts⟩ (c_X9_isLetter l Γ hG (2 : Int32) x3 q7.2 q10.1 q10.2 h11 H.size) (cwV 2 hts (wzV K251 K248 K249 K250 K5) rfl rfl rfl (by decide +kernel) ⟨(Nat.le_of_ble_eq_true rfl), (Nat.le_of_ble_eq_true rfl)⟩) (w_preV hK hP hkc hN hS (gM_Model Γ q7.2) rfl) rfl rfl hl.1 rfl (lv_room (Nat.le_of_ble_eq_true rfl)) dX9_isWord_50 ⟨Nat.le_refl _, Nat.le_refl _⟩) hS (fun H locs hP hS => ?_)
            refine lv_if_eq (tgt := 112) hx hb dX9_isWord_53 (by decide) (fun c12 => ?_) (fun c12 => ?_)
            · replace hf := (if_pos c12).symm.trans hf
              refine lv_iconst (v := (0 : Int32)) hx hb dX9_isWord_112 (by decide) ?_
              exact w_iret (X := XM Γ) hx hb hr hlocks hK hP hS (by decide) hf dX9_isWord_113
            · replace hf := (if_neg c12).symm.trans hf
              refine lv_aload_n hx hb dX9_isWord_56 rfl (lv_at hl 0 rfl) ?_
              refine lv_iconst (v := (3 : Int32)) hx hb dX9_isWord_57 (by decide) ?_
              refine lv_iload hx hb dX9_isWord_58 (lv_at hl 4 rfl) ?_
              obtain ⟨q13, h14, hf⟩ := w_ob hf
              refine w_ci (va_runV (As := [.int (3 : Int32), .int x4]) (rest := []) ⟨hx, hb, hml, hown, hts⟩ (c_X9_isLetter l Γ hG (3 : Int32) x4 q10.2 q13.1 q13.2 h14 H.size) (cwV 2 hts (wzV K251 K248 K249 K250 K5) rfl rfl rfl (by decide +kernel) ⟨(Nat.le_of_ble_eq_true rfl), (Nat.le_of_ble_eq_true rfl)⟩) (w_preV hK hP hkc hN hS (gM_Model Γ q10.2) rfl) rfl rfl hl.1 rfl (lv_room (Nat.le_of_ble_eq_true rfl)) dX9_isWord_60 ⟨Nat.le_refl _, Nat.le_refl _⟩) hS (fun H locs hP hS => ?_)
              refine lv_if_eq (tgt := 112) hx hb dX9_isWord_63 (by decide) (fun c15 => ?_) (fun c15 => ?_)
              · replace hf := (if_pos c15).symm.trans hf
                refine lv_iconst (v := (0 : Int32)) hx hb dX9_isWord_112 (by decide) ?_
                exact w_iret (X := XM Γ) hx hb hr hlocks hK hP hS (by decide) hf dX9_isWord_113
              · replace hf := (if_neg c15).symm.trans hf
                refine lv_aload_n hx hb dX9_isWord_66 rfl (lv_at hl 0 rfl) ?_
                refine lv_iconst (v := (4 : Int32)) hx hb dX9_isWord_67 (by decide) ?_
                refine lv_iload hx hb dX9_isWord_68 (lv_at hl 5 rfl) ?_
                obtain ⟨q16, h17, hf⟩ := w_ob hf
                refine w_ci (va_runV (As := [.int (4 : Int32), .int x5]) (rest := []) ⟨hx, hb, hml, hown, hts⟩ (c_X9_isLetter l Γ hG (4 : Int32) x5 q13.2 q16.1 q16.2 h17 H.size) (cwV 2 hts (wzV K251 K248 K249 K250 K5) rfl rfl rfl (by decide +kernel) ⟨(Nat.le_of_ble_eq_true rfl), (Nat.le_of_ble_eq_true rfl)⟩) (w_preV hK hP hkc hN hS (gM_Model Γ q13.2) rfl) rfl rfl hl.1 rfl (lv_room (Nat.le_of_ble_eq_true rfl)) dX9_isWord_70 ⟨Nat.le_refl _, Nat.le_refl _⟩) hS (fun H locs hP hS => ?_)
                refine lv_if_eq (tgt := 112) hx hb dX9_isWord_73 (by decide) (fun c18 => ?_) (fun c18 => ?_)
                · replace hf := (if_pos c18).symm.trans hf
                  refine lv_iconst (v := (0 : Int32)) hx hb dX9_isWord_112 (by decide) ?_
                  exact w_iret (X := XM Γ) hx hb hr hlocks hK hP hS (by decide) hf dX9_isWord_113
                · replace hf := (if_neg c18).symm.trans hf
                  refine lv_aload_n hx hb dX9_isWord_76 rfl (lv_at hl 0 rfl) ?_
                  refine lv_iconst (v := (5 : Int32)) hx hb dX9_isWord_77 (by decide) ?_
                  refine lv_iload hx hb dX9_isWord_78 (lv_at hl 6 rfl) ?_
                  obtain ⟨q19, h20, hf⟩ := w_ob hf
                  refine w_ci (va_runV (As := [.int (5 : Int32), .int x6]) (rest := []) ⟨hx, hb, hml, hown, hts⟩ (c_X9_isLetter l Γ hG (5 : Int32) x6 q16.2 q19.1 q19.2 h20 H.size) (cwV 2 hts (wzV K251 K248 K249 K250 K5) rfl rfl rfl (by decide +kernel) ⟨(Nat.le_of_ble_eq_true rfl), (Nat.le_of_ble_eq_true rfl)⟩) (w_preV hK hP hkc hN hS (gM_Model Γ q16.2) rfl) rfl rfl hl.1 rfl (lv_room (Nat.le_of_ble_eq_true rfl)) dX9_isWord_80 ⟨Nat.le_refl _, Nat.le_refl _⟩) hS (fun H locs hP hS => ?_)
                  refine lv_if_eq (tgt := 112) hx hb dX9_isWord_83 (by decide) (fun c21 => ?_) (fun c21 => ?_)
                  · replace hf := (if_pos c21).symm.trans hf
                    refine lv_iconst (v := (0 : Int32)) hx hb dX9_isWord_112 (by decide) ?_
                    exact w_iret (X := XM Γ) hx hb hr hlocks hK hP hS (by decide) hf dX9_isWord_113
                  · replace hf := (if_neg c21).symm.trans hf
                    refine lv_aload_n hx hb dX9_isWord_86 rfl (lv_at hl 0 rfl) ?_
                    refine lv_bipush (v := (6 : Int32)) hx hb dX9_isWord_87 (by decide) ?_
                    refine lv_iload hx hb dX9_isWord_89 (lv_at hl 7 rfl) ?_
                    obtain ⟨q22, h23, hf⟩ := w_ob hf
                    refine w_ci (va_runV (As := [.int (6 : Int32), .int x7]) (rest := []) ⟨hx, hb, hml, hown, hts⟩ (c_X9_isLetter l Γ hG (6 : Int32) x7 q19.2 q22.1 q22.2 h23 H.size) (cwV 2 hts (wzV K251 K248 K249 K250 K5) rfl rfl rfl (by decide +kernel) ⟨(Nat.le_of_ble_eq_true rfl), (Nat.le_of_ble_eq_true rfl)⟩) (w_preV hK hP hkc hN hS (gM_Model Γ q19.2) rfl) rfl rfl hl.1 rfl (lv_room (Nat.le_of_ble_eq_true rfl)) dX9_isWord_91 ⟨Nat.le_refl _, Nat.le_refl _⟩) hS (fun H locs hP hS => ?_)
                    refine lv_if_eq (tgt := 112) hx hb dX9_isWord_94 (by decide) (fun c24 => ?_) (fun c24 => ?_)
                    · replace hf := (if_pos c24).symm.trans hf
                      refine lv_iconst (v := (0 : Int32)) hx hb dX9_isWord_112 (by decide) ?_
                      exact w_iret (X := XM Γ) hx hb hr hlocks hK hP hS (by decide) hf dX9_isWord_113
                    · replace hf := (if_neg c24).symm.trans hf
                      refine lv_aload_n hx hb dX9_isWord_97 rfl (lv_at hl 0 rfl) ?_
                      refine lv_bipush (v := (7 : Int32)) hx hb dX9_isWord_98 (by decide) ?_
                      refine lv_iload hx hb dX9_isWord_100 (lv_at hl 8 rfl) ?_
                      obtain ⟨q25, h26, hf⟩ := w_ob hf
                      refine w_ci (va_runV (As := [.int (7 : Int32), .int x8]) (rest := []) ⟨hx, hb, hml, hown, hts⟩ (c_X9_isLetter l Γ hG (7 : Int32) x8 q22.2 q25.1 q25.2 h26 H.size) (cwV 2 hts (wzV K251 K248 K249 K250 K5) rfl rfl rfl (by decide +kernel) ⟨(Nat.le_of_ble_eq_true rfl), (Nat.le_of_ble_eq_true rfl)⟩) (w_preV hK hP hkc hN hS (gM_Model Γ q22.2) rfl) rfl rfl hl.1 rfl (lv_room (Nat.le_of_ble_eq_true rfl)) dX9_isWord_102 ⟨Nat.le_refl _, Nat.le_refl _⟩) hS (fun H locs hP hS => ?_)
                      refine lv_if_eq (tgt := 112) hx hb dX9_isWord_105 (by decide) (fun c27 => ?_) (fun c27 => ?_)
                      · replace hf := (if_pos c27).symm.trans hf
                        refine lv_iconst (v := (0 : Int32)) hx hb dX9_isWord_112 (by decide) ?_
                        exact w_iret (X := XM Γ) hx hb hr hlocks hK hP hS (by decide) hf dX9_isWord_113
                      · replace hf := (if_neg c27).symm.trans hf
                        refine lv_iconst (v := (1 : Int32)) hx hb dX9_isWord_108 (by decide) ?_
                        refine lv_goto (tgt := 113) hx hb dX9_isWord_109 (by decide) ?_
                        exact w_iret (X := XM Γ) hx hb hr hlocks hK hP hS (by decide) hf dX9_isWord_113
def f_X9_isSign (x1 : Int32) (σ : Sm) : Option (Int32 × Sm) := if (σ.1 (26) 0) = 0 then if (σ.1 (22) 0) = (3 : Int32) then if (lg_cmp (σ.2 (24) 0) ((x1).toInt64)) = 0 then some ((1 : Int32), σ) else some ((0 : Int32), σ) else some ((0 : Int32), σ) else some ((0 : Int32), σ)
set_option maxHeartbeats 40000000 in
set_option maxRecDepth 100000 in
theorem c_X9_isSign (l : Launch) (Γ : Geo) (hG : okM Γ) (x1 : Int32) (σ : Sm) (r : Int32) (σ' : Sm) (hf : f_X9_isSign x1 σ = some (r, σ')) (sz : Nat) : Met l yX9_isSign (wz yX9_isSign cX9_isSign 2 (some .boolean)) { frames := 0, cells := 0, slots := 0, locals := 0 } (va_Pc [.ref (Γ.2.2.1 (0)), .int x1] (wPre Γ.1 vwCl (tysC Γ) (XM Γ) (alM Γ) Γ.2.2.2 σ sz)) (wQi Γ.1 vwCl (tysC Γ) (XM Γ) (alM Γ) r σ' sz) 0 0 (wA (alM Γ) sz) := by
  refine w_enter (cc := cX9_isSign) (maxL := 2) (ret := (some .boolean)) (by decide) rfl (Nat.le_of_ble_eq_true rfl) ?_
  intro p e s m below meth c ls hx hb hr hlocks hml hown hts hsz hP hK hkc hN hl
  subst hsz
  generalize hav : ([.ref (Γ.2.2.1 (0)), .int x1] : List Value) = av at hl hts ⊢
  have hl : lv_has ls 2 [(0, .ref (Γ.2.2.1 (0))), (1, .int x1)] := by rw [← hav] at hl; exact hl
  suffices hw : ∀ (H : Heap) (locs : List Loc), va_P Γ.1 vwCl (XM Γ σ) H → va_S (wA (alM Γ) s.heap.size) s.heap H locs → W p l e { frames := 0, cells := 0, slots := 0, locals := 0 } s m av.toArray below meth c H locs 0 0 (MQ below (wQi Γ.1 vwCl (tysC Γ) (XM Γ) (alM Γ) r σ' s.heap.size) av.toArray s 0 0 (wA (alM Γ) s.heap.size)) (F0 m 0 ls []) from hw _ [] hP va_S.rf
  clear hP
  intro H locs hP hS
  unfold f_X9_isSign at hf
  refine lv_aload_n hx hb dX9_isSign_0 rfl (lv_at hl 0 rfl) ?_
  refine va_get (D := Γ.1) (ci := 8) (v := .int (σ.1 (26) 0)) (C := RX9) (T := TX9) (N := 44) hx hb hts iX9 hown hK hP (0) (gM_Model Γ σ) rfl 26 (by decide) (hts (.fieldLink RX9 167 "OtherHalfOfNightModel" "bad" "Z") (wzm K228)) (fun _ h9 => h9) rfl dX9_isSign_1 ?_
  refine lv_if_ne (tgt := 29) hx hb dX9_isSign_4 (by decide) (fun c1 => ?_) (fun c1 => ?_)
  · replace hf := (if_neg c1).symm.trans hf
    refine lv_iconst (v := (0 : Int32)) hx hb dX9_isSign_29 (by decide) ?_
    exact w_iret (X := XM Γ) hx hb hr hlocks hK hP hS (by decide) hf dX9_isSign_30
  · replace hf := (if_pos c1).symm.trans hf
    refine lv_aload_n hx hb dX9_isSign_7 rfl (lv_at hl 0 rfl) ?_
    refine va_get (D := Γ.1) (ci := 8) (v := .int (σ.1 (22) 0)) (C := RX9) (T := TX9) (N := 44) hx hb hts iX9 hown hK hP (0) (gM_Model Γ σ) rfl 22 (by decide) (hts (.fieldLink RX9 152 "OtherHalfOfNightModel" "token" "I") (wzm K229)) (fun _ h9 => h9) rfl dX9_isSign_8 ?_
    refine lv_iconst (v := (3 : Int32)) hx hb dX9_isSign_11 (by decide) ?_
    refine lv_icmp_ne (tgt := 29) hx hb dX9_isSign_12 (by decide) (fun c2 => ?_) (fun c2 => ?_)
    · replace hf := (if_neg c2).symm.trans hf
      refine lv_iconst (v := (0 : Int32)) hx hb dX9_isSign_29 (by decide) ?_
      exact w_iret (X := XM Γ) hx hb hr hlocks hK hP hS (by decide) hf dX9_isSign_30
    · replace hf := (if_pos c2).symm.trans hf
      refine lv_aload_n hx hb dX9_isSign_15 rfl (lv_at hl 0 rfl) ?_
      refine va_get (D := Γ.1) (ci := 8) (v := .long (σ.2 (24) 0)) (C := RX9) (T := TX9) (N := 44) hx hb hts iX9 hown hK hP (0) (gM_Model Γ σ) rfl 24 (by decide) (hts (.fieldLink RX9 163 "OtherHalfOfNightModel" "tokenWorth" "J") (wzm K239)) (fun _ h9 => h9) rfl dX9_isSign_16 ?_
      refine lv_iload_n hx hb dX9_isSign_19 rfl (lv_at hl 1 rfl) ?_
      refine lv_i2l (v := ((x1).toInt64)) hx hb dX9_isSign_20 rfl ?_
      refine W.lcmp hx hb dX9_isSign_21 ?_
      refine lv_if_ne (tgt := 29) hx hb dX9_isSign_22 (by decide) (fun c3 => ?_) (fun c3 => ?_)
      · replace hf := (if_neg c3).symm.trans hf
        refine lv_iconst (v := (0 : Int32)) hx hb dX9_isSign_29 (by decide) ?_
        exact w_iret (X := XM Γ) hx hb hr hlocks hK hP hS (by decide) hf dX9_isSign_30
      · replace hf := (if_pos c3).symm.trans hf
        refine lv_iconst (v := (1 : Int32)) hx hb dX9_isSign_25 (by decide) ?_
        refine lv_goto (tgt := 30) hx hb dX9_isSign_26 (by decide) ?_
        exact w_iret (X := XM Γ) hx hb hr hlocks hK hP hS (by decide) hf dX9_isSign_30
def f_X9_opens (σ : Sm) : Option (Int32 × Sm) := if (σ.1 (25) 0) = (5 : Int32) then (f_X9_fail σ).bind fun (q4 : Sm) => some ((0 : Int32), q4) else (f_X9_next (upm σ (25) 0 ((σ.1 (25) 0) + (1 : Int32)))).bind fun (q2 : Sm) => some ((1 : Int32), q2)
set_option maxHeartbeats 40000000 in
set_option maxRecDepth 100000 in
theorem c_X9_opens (l : Launch) (Γ : Geo) (hG : okM Γ) (σ : Sm) (r : Int32) (σ' : Sm) (hf : f_X9_opens σ = some (r, σ')) (sz : Nat) : Met l yX9_opens (wz yX9_opens cX9_opens 1 (some .boolean)) { frames := 2, cells := 0, slots := 0, locals := 47 } (va_Pc [.ref (Γ.2.2.1 (0))] (wPre Γ.1 vwCl (tysC Γ) (XM Γ) (alM Γ) Γ.2.2.2 σ sz)) (wQi Γ.1 vwCl (tysC Γ) (XM Γ) (alM Γ) r σ' sz) 0 0 (wA (alM Γ) sz) := by
  refine w_enter (cc := cX9_opens) (maxL := 1) (ret := (some .boolean)) (by decide) rfl (Nat.le_of_ble_eq_true rfl) ?_
  intro p e s m below meth c ls hx hb hr hlocks hml hown hts hsz hP hK hkc hN hl
  subst hsz
  generalize hav : ([.ref (Γ.2.2.1 (0))] : List Value) = av at hl hts ⊢
  have hl : lv_has ls 1 [(0, .ref (Γ.2.2.1 (0)))] := by rw [← hav] at hl; exact hl
  suffices hw : ∀ (H : Heap) (locs : List Loc), va_P Γ.1 vwCl (XM Γ σ) H → va_S (wA (alM Γ) s.heap.size) s.heap H locs → W p l e { frames := 2, cells := 0, slots := 0, locals := 47 } s m av.toArray below meth c H locs 0 0 (MQ below (wQi Γ.1 vwCl (tysC Γ) (XM Γ) (alM Γ) r σ' s.heap.size) av.toArray s 0 0 (wA (alM Γ) s.heap.size)) (F0 m 0 ls []) from hw _ [] hP va_S.rf
  clear hP
  intro H locs hP hS
  unfold f_X9_opens at hf
  refine lv_aload_n hx hb dX9_opens_0 rfl (lv_at hl 0 rfl) ?_
  refine va_get (D := Γ.1) (ci := 8) (v := .int (σ.1 (25) 0)) (C := RX9) (T := TX9) (N := 44) hx hb hts iX9 hown hK hP (0) (gM_Model Γ σ) rfl 25 (by decide) (hts (.fieldLink RX9 177 "OtherHalfOfNightModel" "open" "I") (wzm K227)) (fun _ h9 => h9) rfl dX9_opens_1 ?_
  refine lv_iconst (v := (5 : Int32)) hx hb dX9_opens_4 (by decide) ?_
  refine lv_icmp_ne (tgt := 14) hx hb dX9_opens_5 (by decide) (fun c1 => ?_) (fun c1 => ?_)
  · replace hf := (if_neg c1).symm.trans hf
    refine lv_aload_n hx hb dX9_opens_14 rfl (lv_at hl 0 rfl) ?_
    refine lv_dup hx hb dX9_opens_15 rfl ?_
    refine va_get (D := Γ.1) (ci := 8) (v := .int (σ.1 (25) 0)) (C := RX9) (T := TX9) (N := 44) hx hb hts iX9 hown hK hP (0) (gM_Model Γ σ) rfl 25 (by decide) (hts (.fieldLink RX9 177 "OtherHalfOfNightModel" "open" "I") (wzm K227)) (fun _ h9 => h9) rfl dX9_opens_16 ?_
    refine lv_iconst (v := (1 : Int32)) hx hb dX9_opens_19 (by decide) ?_
    refine lv_iadd hx hb dX9_opens_20 ?_
    refine w_put (X := XM Γ) (σ' := (upm σ (25) 0 ((σ.1 (25) 0) + (1 : Int32)))) (ci := 8) (C := RX9) (T := TX9) (N := 44) (ty := .int) hx hb hts iX9 tyX9 tyX9_ok nmX9 hown hK hP (halM Γ) hG hS (0) (gM_Model Γ σ) rfl 25 (by decide) (hts (.fieldLink RX9 177 "OtherHalfOfNightModel" "open" "I") (wzm K227)) (fun _ h9 => h9) rfl (by decide +kernel) rfl rfl (Nat.le_of_ble_eq_true rfl) dX9_opens_21 (sM_Model_open Γ σ ((σ.1 (25) 0) + (1 : Int32))) (fun H locs hP hS => ?_)
    refine lv_aload_n hx hb dX9_opens_24 rfl (lv_at hl 0 rfl) ?_
    obtain ⟨q2, h3, hf⟩ := w_ob hf
    refine w_cv (va_runV (As := []) (rest := []) ⟨hx, hb, hml, hown, hts⟩ (c_X9_next l Γ hG (upm σ (25) 0 ((σ.1 (25) 0) + (1 : Int32))) q2 h3 H.size) (cwV 0 hts (wzV K233 K230 K231 K232 K5) rfl rfl rfl (by decide +kernel) ⟨(Nat.le_of_ble_eq_true rfl), (Nat.le_of_ble_eq_true rfl)⟩) (w_preV hK hP hkc hN hS (gM_Model Γ (upm σ (25) 0 ((σ.1 (25) 0) + (1 : Int32)))) rfl) rfl rfl hl.1 rfl (lv_room (Nat.le_of_ble_eq_true rfl)) dX9_opens_25 ⟨Nat.le_refl _, Nat.le_refl _⟩) hS (fun H locs hP hS => ?_)
    refine lv_iconst (v := (1 : Int32)) hx hb dX9_opens_28 (by decide) ?_
    exact w_iret (X := XM Γ) hx hb hr hlocks hK hP hS (by decide) hf dX9_opens_29
  · replace hf := (if_pos c1).symm.trans hf
    refine lv_aload_n hx hb dX9_opens_8 rfl (lv_at hl 0 rfl) ?_
    obtain ⟨q4, h5, hf⟩ := w_ob hf
    refine w_cv (va_runV (As := []) (rest := []) ⟨hx, hb, hml, hown, hts⟩ (c_X9_fail l Γ hG σ q4 h5 H.size) (cwV 0 hts (wzV K259 K256 K257 K258 K5) rfl rfl rfl (by decide +kernel) ⟨(Nat.le_of_ble_eq_true rfl), (Nat.le_of_ble_eq_true rfl)⟩) (w_preV hK hP hkc hN hS (gM_Model Γ σ) rfl) rfl rfl hl.1 rfl (lv_room (Nat.le_of_ble_eq_true rfl)) dX9_opens_9 ⟨Nat.le_refl _, Nat.le_refl _⟩) hS (fun H locs hP hS => ?_)
    refine lv_iconst (v := (0 : Int32)) hx hb dX9_opens_12 (by decide) ?_
    exact w_iret (X := XM Γ) hx hb hr hlocks hK hP hS (by decide) hf dX9_opens_13
def f_X9_name (σ : Sm) : Option (Int32 × Sm) := (f_X9_isWord (116 : Int32) (114 : Int32) (111 : Int32) (117 : Int32) (98 : Int32) (108 : Int32) (101 : Int32) (0 : Int32) σ).bind fun (q1 : Int32 × Sm) => if q1.1 = 0 then (f_X9_isWord (110 : Int32) (117 : Int32) (109 : Int32) (98 : Int32) (101 : Int32) (114 : Int32) (0 : Int32) (0 : Int32) q1.2).bind fun (q4 : Int32 × Sm) => if q4.1 = 0 then (f_X9_isWord (110 : Int32) (105 : Int32) (103 : Int32) (104 : Int32) (116 : Int32) (0 : Int32) (0 : Int32) (0 : Int32) q4.2).bind fun (q7 : Int32 × Sm) => if q7.1 = 0 then (f_X9_isWord (110 : Int32) (101 : Int32) (119 : Int32) (115 : Int32) (0 : Int32) (0 : Int32) (0 : Int32) (0 : Int32) q7.2).bind fun (q10 : Int32 × Sm) => if q10.1 = 0 then (f_X9_isWord (116 : Int32) (97 : Int32) (115 : Int32) (116 : Int32) (101 : Int32) (0 : Int32) (0 : Int32) (0 : Int32) q10.2).bind fun (q13 : Int32 × Sm) => if q13.1 = 0 then (f_X9_isWord (104 : Int32) (111 : Int32) (117 : Int32) (114 : Int32) (0 : Int32) (0 : Int32) (0 : Int32) (0 : Int32) q13.2).bind fun (q16 : Int32 × Sm) => if q16.1 = 0 then (f_X9_fail q16.2).bind fun (q19 : Sm) => some ((0 : Int32), q19) else some ((q16.2.1 (18) 0), q16.2) else some ((q13.2.1 (17) 0), q13.2) else some ((q10.2.1 (16) 0), q10.2) else some ((q7.2.1 (15) 0), q7.2) else some ((q4.2.1 (14) 0), q4.2) else some ((q1.2.1 (13) 0), q1.2)
set_option maxHeartbeats 40000000 in
set_option maxRecDepth 100000 in
theorem c_X9_name (l : Launch) (Γ : Geo) (hG : okM Γ) (σ : Sm) (r : Int32) (σ' : Sm) (hf : f_X9_name σ = some (r, σ')) (sz : Nat) : Met l yX9_name (wz yX9_name cX9_name 1 (some .int)) { frames := 3, cells := 0, slots := 0, locals := 71 } (va_Pc [.ref (Γ.2.2.1 (0))] (wPre Γ.1 vwCl (tysC Γ) (XM Γ) (alM Γ) Γ.2.2.2 σ sz)) (wQi Γ.1 vwCl (tysC Γ) (XM Γ) (alM Γ) r σ' sz) 0 0 (wA (alM Γ) sz) := by
  refine w_enter (cc := cX9_name) (maxL := 1) (ret := (some .int)) (by decide) rfl (Nat.le_of_ble_eq_true rfl) ?_
  intro p e s m below meth c ls hx hb hr hlocks hml hown hts hsz hP hK hkc hN hl
  subst hsz
  generalize hav : ([.ref (Γ.2.2.1 (0))] : List Value) = av at hl hts ⊢
  have hl : lv_has ls 1 [(0, .ref (Γ.2.2.1 (0)))] := by rw [← hav] at hl; exact hl
  suffices hw : ∀ (H : Heap) (locs : List Loc), va_P Γ.1 vwCl (XM Γ σ) H → va_S (wA (alM Γ) s.heap.size) s.heap H locs → W p l e { frames := 3, cells := 0, slots := 0, locals := 71 } s m av.toArray below meth c H locs 0 0 (MQ below (wQi Γ.1 vwCl (tysC Γ) (XM Γ) (alM Γ) r σ' s.heap.size) av.toArray s 0 0 (wA (alM Γ) s.heap.size)) (F0 m 0 ls []) from hw _ [] hP va_S.rf
  clear hP
  intro H locs hP hS
  unfold f_X9_name at hf
  refine lv_aload_n hx hb dX9_name_0 rfl (lv_at hl 0 rfl) ?_
  refine lv_bipush (v := (116 : Int32)) hx hb dX9_name_1 (by decide) ?_
  refine lv_bipush (v := (114 : Int32)) hx hb dX9_name_3 (by decide) ?_
  refine lv_bipush (v := (111 : Int32)) hx hb dX9_name_5 (by decide) ?_
  refine lv_bipush (v := (117 : Int32)) hx hb dX9_name_7 (by decide) ?_
  refine lv_bipush (v := (98 : Int32)) hx hb dX9_name_9 (by decide) ?_
  refine lv_bipush (v := (108 : Int32)) hx hb dX9_name_11 (by decide) ?_
  refine lv_bipush (v := (101 : Int32)) hx hb dX9_name_13 (by decide) ?_
  refine lv_iconst (v := (0 : Int32)) hx hb dX9_name_15 (by decide) ?_
  obtain ⟨q1, h2, hf⟩ := w_ob hf
  refine w_ci (va_runV (As := [.int (116 : Int32), .int (114 : Int32), .int (111 : Int32), .int (117 : Int32), .int (98 : Int32), .int (108 : Int32), .int (101 : Int32), .int (0 : Int32)]) (rest := []) ⟨hx, hb, hml, hown, hts⟩ (c_X9_isWord l Γ hG (116 : Int32) (114 : Int32) (111 : Int32) (117 : Int32) (98 : Int32) (108 : Int32) (101 : Int32) (0 : Int32) σ q1.1 q1.2 h2 H.size) (cwV 8 hts (wzV K247 K244 K245 K246 K5) rfl rfl rfl (by decide +kernel) ⟨(Nat.le_of_ble_eq_true rfl), (Nat.le_of_ble_eq_true rfl)⟩) (w_preV hK hP hkc hN hS (gM_Model Γ σ) rfl) rfl rfl hl.1 rfl (lv_room (Nat.le_of_ble_eq_true rfl)) dX9_name_16 ⟨Nat.le_refl _, Nat.le_refl _⟩) hS (fun H locs hP hS => ?_)
  refine lv_if_eq (tgt := 27) hx hb dX9_name_19 (by decide) (fun c3 => ?_) (fun c3 => ?_)
  · replace hf := (if_pos c3).symm.trans hf
    refine lv_aload_n hx hb dX9_name_27 rfl (lv_at hl 0 rfl) ?_
    refine lv_bipush (v := (110 : Int32)) hx hb dX9_name_28 (by decide) ?_
    refine lv_bipush (v := (117 : Int32)) hx hb dX9_name_30 (by decide) ?_
    refine lv_bipush (v := (109 : Int32)) hx hb dX9_name_32 (by decide) ?_
    refine lv_bipush (v := (98 : Int32)) hx hb dX9_name_34 (by decide) ?_
    refine lv_bipush (v := (101 : Int32)) hx hb dX9_name_36 (by decide) ?_
    refine lv_bipush (v := (114 : Int32)) hx hb dX9_name_38 (by decide) ?_
    refine lv_iconst (v := (0 : Int32)) hx hb dX9_name_40 (by decide) ?_
    refine lv_iconst (v := (0 : Int32)) hx hb dX9_name_41 (by decide) ?_
    obtain ⟨q4, h5, hf⟩ := w_ob hf
    refine w_ci (va_runV (As := [.int (110 : Int32), .int (117 : Int32), .int (109 : Int32), .int (98 : Int32), .int (101 : Int32), .int (114 : Int32), .int (0 : Int32), .int (0 : Int32)]) (rest := []) ⟨hx, hb, hml, hown, hts⟩ (c_X9_isWord l Γ hG (110 : Int32) (117 : Int32) (109 : Int32) (98 : Int32) (101 : Int32) (114 : Int32) (0 : Int32) (0 : Int32) q1.2 q4.1 q4.2 h5 H.size) (cwV 8 hts (wzV K247 K244 K245 K246 K5) rfl rfl rfl (by decide +kernel) ⟨(Nat.le_of_ble_eq_true rfl), (Nat.le_of_ble_eq_true rfl)⟩) (w_preV hK hP hkc hN hS (gM_Model Γ q1.2) rfl) rfl rfl hl.1 rfl (lv_room (Nat.le_of_ble_eq_true rfl)) dX9_name_42 ⟨Nat.le_refl _, Nat.le_refl _⟩) hS (fun H locs hP hS => ?_)
    refine lv_if_eq (tgt := 53) hx hb dX9_name_45 (by decide) (fun c6 => ?_) (fun c6 => ?_)
    · replace hf := (if_pos c6).symm.trans hf
      refine lv_aload_n hx hb dX9_name_53 rfl (lv_at hl 0 rfl) ?_
      refine lv_bipush (v := (110 : Int32)) hx hb dX9_name_54 (by decide) ?_
      refine lv_bipush (v := (105 : Int32)) hx hb dX9_name_56 (by decide) ?_
      refine lv_bipush (v := (103 : Int32)) hx hb dX9_name_58 (by decide) ?_
      refine lv_bipush (v := (104 : Int32)) hx hb dX9_name_60 (by decide) ?_
      refine lv_bipush (v := (116 : Int32)) hx hb dX9_name_62 (by decide) ?_
      refine lv_iconst (v := (0 : Int32)) hx hb dX9_name_64 (by decide) ?_
      refine lv_iconst (v := (0 : Int32)) hx hb dX9_name_65 (by decide) ?_
      refine lv_iconst (v := (0 : Int32)) hx hb dX9_name_66 (by decide) ?_
      obtain ⟨q7, h8, hf⟩ := w_ob hf
      refine w_ci (va_runV (As := [.int (110 : Int32), .int (105 : Int32), .int (103 : Int32), .int (104 : Int32), .int (116 : Int32), .int (0 : Int32), .int (0 : Int32), .int (0 : Int32)]) (rest := []) ⟨hx, hb, hml, hown, hts⟩ (c_X9_isWord l Γ hG (110 : Int32) (105 : Int32) (103 : Int32) (104 : Int32) (116 : Int32) (0 : Int32) (0 : Int32) (0 : Int32) q4.2 q7.1 q7.2 h8 H.size) (cwV 8 hts (wzV K247 K244 K245 K246 K5) rfl rfl rfl (by decide +kernel) ⟨(Nat.le_of_ble_eq_true rfl), (Nat.le_of_ble_eq_true rfl)⟩) (w_preV hK hP hkc hN hS (gM_Model Γ q4.2) rfl) rfl rfl hl.1 rfl (lv_room (Nat.le_of_ble_eq_true rfl)) dX9_name_67 ⟨Nat.le_refl _, Nat.le_refl _⟩) hS (fun H locs hP hS => ?_)
      refine lv_if_eq (tgt := 78) hx hb dX9_name_70 (by decide) (fun c9 => ?_) (fun c9 => ?_)
      · replace hf := (if_pos c9).symm.trans hf
        refine lv_aload_n hx hb dX9_name_78 rfl (lv_at hl 0 rfl) ?_
        refine lv_bipush (v := (110 : Int32)) hx hb dX9_name_79 (by decide) ?_
        refine lv_bipush (v := (101 : Int32)) hx hb dX9_name_81 (by decide) ?_
        refine lv_bipush (v := (119 : Int32)) hx hb dX9_name_83 (by decide) ?_
        refine lv_bipush (v := (115 : Int32)) hx hb dX9_name_85 (by decide) ?_
        refine lv_iconst (v := (0 : Int32)) hx hb dX9_name_87 (by decide) ?_
        refine lv_iconst (v := (0 : Int32)) hx hb dX9_name_88 (by decide) ?_
        refine lv_iconst (v := (0 : Int32)) hx hb dX9_name_89 (by decide) ?_
        refine lv_iconst (v := (0 : Int32)) hx hb dX9_name_90 (by decide) ?_
        obtain ⟨q10, h11, hf⟩ := w_ob hf
        refine w_ci (va_runV (As := [.int (110 : Int32), .int (101 : Int32), .int (119 : Int32), .int (115 : Int32), .int (0 : Int32), .int (0 : Int32), .int (0 : Int32), .int (0 : Int32)]) (rest := []) ⟨hx, hb, hml, hown, hts⟩ (c_X9_isWord l Γ hG (110 : Int32) (101 : Int32) (119 : Int32) (115 : Int32) (0 : Int32) (0 : Int32) (0 : Int32) (0 : Int32) q7.2 q10.1 q10.2 h11 H.size) (cwV 8 hts (wzV K247 K244 K245 K246 K5) rfl rfl rfl (by decide +kernel) ⟨(Nat.le_of_ble_eq_true rfl), (Nat.le_of_ble_eq_true rfl)⟩) (w_preV hK hP hkc hN hS (gM_Model Γ q7.2) rfl) rfl rfl hl.1 rfl (lv_room (Nat.le_of_ble_eq_true rfl)) dX9_name_91 ⟨Nat.le_refl _, Nat.le_refl _⟩) hS (fun H locs hP hS => ?_)
        refine lv_if_eq (tgt := 102) hx hb dX9_name_94 (by decide) (fun c12 => ?_) (fun c12 => ?_)
        · replace hf := (if_pos c12).symm.trans hf
          refine lv_aload_n hx hb dX9_name_102 rfl (lv_at hl 0 rfl) ?_
          refine lv_bipush (v := (116 : Int32)) hx hb dX9_name_103 (by decide) ?_
          refine lv_bipush (v := (97 : Int32)) hx hb dX9_name_105 (by decide) ?_
          refine lv_bipush (v := (115 : Int32)) hx hb dX9_name_107 (by decide) ?_
          refine lv_bipush (v := (116 : Int32)) hx hb dX9_name_109 (by decide) ?_
          refine lv_bipush (v := (101 : Int32)) hx hb dX9_name_111 (by decide) ?_
          refine lv_iconst (v := (0 : Int32)) hx hb dX9_name_113 (by decide) ?_
          refine lv_iconst (v := (0 : Int32)) hx hb dX9_name_114 (by decide) ?_
          refine lv_iconst (v := (0 : Int32)) hx hb dX9_name_115 (by decide) ?_
          obtain ⟨q13, h14, hf⟩ := w_ob hf
          refine w_ci (va_runV (As := [.int (116 : Int32), .int (97 : Int32), .int (115 : Int32), .int (116 : Int32), .int (101 : Int32), .int (0 : Int32), .int (0 : Int32), .int (0 : Int32)]) (rest := []) ⟨hx, hb, hml, hown, hts⟩ (c_X9_isWord l Γ hG (116 : Int32) (97 : Int32) (115 : Int32) (116 : Int32) (101 : Int32) (0 : Int32) (0 : Int32) (0 : Int32) q10.2 q13.1 q13.2 h14 H.size) (cwV 8 hts (wzV K247 K244 K245 K246 K5) rfl rfl rfl (by decide +kernel) ⟨(Nat.le_of_ble_eq_true rfl), (Nat.le_of_ble_eq_true rfl)⟩) (w_preV hK hP hkc hN hS (gM_Model Γ q10.2) rfl) rfl rfl hl.1 rfl (lv_room (Nat.le_of_ble_eq_true rfl)) dX9_name_116 ⟨Nat.le_refl _, Nat.le_refl _⟩) hS (fun H locs hP hS => ?_)
          refine lv_if_eq (tgt := 127) hx hb dX9_name_119 (by decide) (fun c15 => ?_) (fun c15 => ?_)
          · replace hf := (if_pos c15).symm.trans hf
            refine lv_aload_n hx hb dX9_name_127 rfl (lv_at hl 0 rfl) ?_
            refine lv_bipush (v := (104 : Int32)) hx hb dX9_name_128 (by decide) ?_
            refine lv_bipush (v := (111 : Int32)) hx hb dX9_name_130 (by decide) ?_
            refine lv_bipush (v := (117 : Int32)) hx hb dX9_name_132 (by decide) ?_
            refine lv_bipush (v := (114 : Int32)) hx hb dX9_name_134 (by decide) ?_
            refine lv_iconst (v := (0 : Int32)) hx hb dX9_name_136 (by decide) ?_
            refine lv_iconst (v := (0 : Int32)) hx hb dX9_name_137 (by decide) ?_
            refine lv_iconst (v := (0 : Int32)) hx hb dX9_name_138 (by decide) ?_
            refine lv_iconst (v := (0 : Int32)) hx hb dX9_name_139 (by decide) ?_
            obtain ⟨q16, h17, hf⟩ := w_ob hf
            refine w_ci (va_runV (As := [.int (104 : Int32), .int (111 : Int32), .int (117 : Int32), .int (114 : Int32), .int (0 : Int32), .int (0 : Int32), .int (0 : Int32), .int (0 : Int32)]) (rest := []) ⟨hx, hb, hml, hown, hts⟩ (c_X9_isWord l Γ hG (104 : Int32) (111 : Int32) (117 : Int32) (114 : Int32) (0 : Int32) (0 : Int32) (0 : Int32) (0 : Int32) q13.2 q16.1 q16.2 h17 H.size) (cwV 8 hts (wzV K247 K244 K245 K246 K5) rfl rfl rfl (by decide +kernel) ⟨(Nat.le_of_ble_eq_true rfl), (Nat.le_of_ble_eq_true rfl)⟩) (w_preV hK hP hkc hN hS (gM_Model Γ q13.2) rfl) rfl rfl hl.1 rfl (lv_room (Nat.le_of_ble_eq_true rfl)) dX9_name_140 ⟨Nat.le_refl _, Nat.le_refl _⟩) hS (fun H locs hP hS => ?_)
            refine lv_if_eq (tgt := 151) hx hb dX9_name_143 (by decide) (fun c18 => ?_) (fun c18 => ?_)
            · replace hf := (if_pos c18).symm.trans hf
              refine lv_aload_n hx hb dX9_name_151 rfl (lv_at hl 0 rfl) ?_
              obtain ⟨q19, h20, hf⟩ := w_ob hf
              refine w_cv (va_runV (As := []) (rest := []) ⟨hx, hb, hml, hown, hts⟩ (c_X9_fail l Γ hG q16.2 q19 h20 H.size) (cwV 0 hts (wzV K259 K256 K257 K258 K5) rfl rfl rfl (by decide +kernel) ⟨(Nat.le_of_ble_eq_true rfl), (Nat.le_of_ble_eq_true rfl)⟩) (w_preV hK hP hkc hN hS (gM_Model Γ q16.2) rfl) rfl rfl hl.1 rfl (lv_room (Nat.le_of_ble_eq_true rfl)) dX9_name_152 ⟨Nat.le_refl _, Nat.le_refl _⟩) hS (fun H locs hP hS => ?_)
              refine lv_iconst (v := (0 : Int32)) hx hb dX9_name_155 (by decide) ?_
              exact w_iret (X := XM Γ) hx hb hr hlocks hK hP hS rfl hf dX9_name_156
            · replace hf := (if_neg c18).symm.trans hf
              refine lv_aload_n hx hb dX9_name_146 rfl (lv_at hl 0 rfl) ?_
              refine va_get (D := Γ.1) (ci := 8) (v := .int (q16.2.1 (18) 0)) (C := RX9) (T := TX9) (N := 44) hx hb hts iX9 hown hK hP (0) (gM_Model Γ q16.2) rfl 18 (by decide) (hts (.fieldLink RX9 205 "OtherHalfOfNightModel" "ofHour" "I") (wzm K207)) (fun _ h9 => h9) rfl dX9_name_147 ?_
              exact w_iret (X := XM Γ) hx hb hr hlocks hK hP hS rfl hf dX9_name_150
          · replace hf := (if_neg c15).symm.trans hf
            refine lv_aload_n hx hb dX9_name_122 rfl (lv_at hl 0 rfl) ?_
            refine va_get (D := Γ.1) (ci := 8) (v := .int (q13.2.1 (17) 0)) (C := RX9) (T := TX9) (N := 44) hx hb hts iX9 hown hK hP (0) (gM_Model Γ q13.2) rfl 17 (by decide) (hts (.fieldLink RX9 202 "OtherHalfOfNightModel" "ofTaste" "I") (wzm K206)) (fun _ h9 => h9) rfl dX9_name_123 ?_
            exact w_iret (X := XM Γ) hx hb hr hlocks hK hP hS rfl hf dX9_name_126
        · replace hf := (if_neg c12).symm.trans hf
          refine lv_aload_n hx hb dX9_name_97 rfl (lv_at hl 0 rfl) ?_
          refine va_get (D := Γ.1) (ci := 8) (v := .int (q10.2.1 (16) 0)) (C := RX9) (T := TX9) (N := 44) hx hb hts iX9 hown hK hP (0) (gM_Model Γ q10.2) rfl 16 (by decide) (hts (.fieldLink RX9 199 "OtherHalfOfNightModel" "ofNews" "I") (wzm K205)) (fun _ h9 => h9) rfl dX9_name_98 ?_
          exact w_iret (X := XM Γ) hx hb hr hlocks hK hP hS rfl hf dX9_name_101
      · replace hf := (if_neg c9).symm.trans hf
        refine lv_aload_n hx hb dX9_name_73 rfl (lv_at hl 0 rfl) ?_
        refine va_get (D := Γ.1) (ci := 8) (v := .int (q7.2.1 (15) 0)) (C := RX9) (T := TX9) (N := 44) hx hb hts iX9 hown hK hP (0) (gM_Model Γ q7.2) rfl 15 (by decide) (hts (.fieldLink RX9 196 "OtherHalfOfNightModel" "ofNight" "I") (wzm K204)) (fun _ h9 => h9) rfl dX9_name_74 ?_
        exact w_iret (X := XM Γ) hx hb hr hlocks hK hP hS rfl hf dX9_name_77
    · replace hf := (if_neg c6).symm.trans hf
      refine lv_aload_n hx hb dX9_name_48 rfl (lv_at hl 0 rfl) ?_
      refine va_get (D := Γ.1) (ci := 8) (v := .int (q4.2.1 (14) 0)) (C := RX9) (T := TX9) (N := 44) hx hb hts iX9 hown hK hP (0) (gM_Model Γ q4.2) rfl 14 (by decide) (hts (.fieldLink RX9 193 "OtherHalfOfNightModel" "ofNumber" "I") (wzm K203)) (fun _ h9 => h9) rfl dX9_name_49 ?_
      exact w_iret (X := XM Γ) hx hb hr hlocks hK hP hS rfl hf dX9_name_52
  · replace hf := (if_neg c3).symm.trans hf
    refine lv_aload_n hx hb dX9_name_22 rfl (lv_at hl 0 rfl) ?_
    refine va_get (D := Γ.1) (ci := 8) (v := .int (q1.2.1 (13) 0)) (C := RX9) (T := TX9) (N := 44) hx hb hts iX9 hown hK hP (0) (gM_Model Γ q1.2) rfl 13 (by decide) (hts (.fieldLink RX9 190 "OtherHalfOfNightModel" "ofTrouble" "I") (wzm K202)) (fun _ h9 => h9) rfl dX9_name_23 ?_
    exact w_iret (X := XM Γ) hx hb hr hlocks hK hP hS rfl hf dX9_name_26
