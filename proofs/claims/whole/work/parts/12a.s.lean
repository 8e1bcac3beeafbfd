def f_J3_checkIndex_8e157_9 (x0 : Int32) (x1 : Int32) (τ : Sg) : Option (Int32 × Sg) := none
def f_J3_checkIndex_8e157 (x0 : Int32) (x1 : Int32) (σ : Sg) : Option (Int32 × Sg) := if x0 < 0 then f_J3_checkIndex_8e157_9 x0 x1 σ else if x0 < x1 then some (x0, σ) else f_J3_checkIndex_8e157_9 x0 x1 σ
set_option maxHeartbeats 40000000 in
set_option maxRecDepth 100000 in
theorem c_J3_checkIndex_8e157 (l : Launch) (Γ : Geo) (hG : okC Γ) (tq : Nat) (x0 : Int32) (x1 : Int32) (σ : Sg) (r : Int32) (σ' : Sg) (hf : f_J3_checkIndex_8e157 x0 x1 σ = some (r, σ')) (sz : Nat) : Met l yJ3_checkIndex_8e157 (wz yJ3_checkIndex_8e157 cJ3_checkIndex_8e157 3 (some .int)) { frames := 0, cells := 0, slots := 0, locals := 0 } (va_Pc [.int x0, .int x1, .ref (tq)] (wPre Γ.1 vwCl (tysC Γ) (XC Γ) (alC Γ) Γ.2.2.2 σ sz)) (wQi Γ.1 vwCl (tysC Γ) (XC Γ) (alC Γ) r σ' sz) 0 0 (wA (alC Γ) sz) := by
  refine w_enter (cc := cJ3_checkIndex_8e157) (maxL := 3) (ret := (some .int)) (by decide) rfl (Nat.le_of_ble_eq_true rfl) ?_
  intro p e s m below meth c ls hx hb hr hlocks hml hown hts hsz hP hK hkc hN hl
  subst hsz
  generalize hav : ([.int x0, .int x1, .ref (tq)] : List Value) = av at hl hts ⊢
  have hl : lv_has ls 3 [(0, .int x0), (1, .int x1), (2, .ref (tq))] := by rw [← hav] at hl; exact hl
  have j9 : ∀ (τ : Sg) (H : Heap) (locs : List Loc) (ls : Array Slot) (hf : f_J3_checkIndex_8e157_9 x0 x1 τ = some (r, σ')) (hP : va_P Γ.1 vwCl (XC Γ τ) H) (hS : va_S (wA (alC Γ) s.heap.size) s.heap H locs) (hl : lv_has ls 3 [(0, .int x0), (1, .int x1), (2, .ref (tq))]), W p l e { frames := 0, cells := 0, slots := 0, locals := 0 } s m av.toArray below meth c H locs 0 0 (MQ below (wQi Γ.1 vwCl (tysC Γ) (XC Γ) (alC Γ) r σ' s.heap.size) av.toArray s 0 0 (wA (alC Γ) s.heap.size)) (F0 m 9 ls []) := by
    intro τ H locs ls hf hP hS hl
    unfold f_J3_checkIndex_8e157_9 at hf
    refine lv_aload_n hx hb dJ3_checkIndex_8e157_9 rfl (lv_at hl 2 rfl) ?_
    refine lv_iload_n hx hb dJ3_checkIndex_8e157_10 rfl (lv_at hl 0 rfl) ?_
    refine lv_iload_n hx hb dJ3_checkIndex_8e157_11 rfl (lv_at hl 1 rfl) ?_
    exact absurd hf (by intro h; cases h)
  suffices hw : ∀ (H : Heap) (locs : List Loc), va_P Γ.1 vwCl (XC Γ σ) H → va_S (wA (alC Γ) s.heap.size) s.heap H locs → W p l e { frames := 0, cells := 0, slots := 0, locals := 0 } s m av.toArray below meth c H locs 0 0 (MQ below (wQi Γ.1 vwCl (tysC Γ) (XC Γ) (alC Γ) r σ' s.heap.size) av.toArray s 0 0 (wA (alC Γ) s.heap.size)) (F0 m 0 ls []) from hw _ [] hP va_S.rf
  clear hP
  intro H locs hP hS
  unfold f_J3_checkIndex_8e157 at hf
  refine lv_iload_n hx hb dJ3_checkIndex_8e157_0 rfl (lv_at hl 0 rfl) ?_
  refine lv_if_lt (tgt := 9) hx hb dJ3_checkIndex_8e157_1 (by decide) (fun c1 => ?_) (fun c1 => ?_)
  · replace hf := (if_pos c1).symm.trans hf
    exact j9 σ H locs ls hf hP hS (lv_sub hl [0, 1, 2] rfl)
  · replace hf := (if_neg c1).symm.trans hf
    refine lv_iload_n hx hb dJ3_checkIndex_8e157_4 rfl (lv_at hl 0 rfl) ?_
    refine lv_iload_n hx hb dJ3_checkIndex_8e157_5 rfl (lv_at hl 1 rfl) ?_
    refine lv_icmp_lt (tgt := 16) hx hb dJ3_checkIndex_8e157_6 (by decide) (fun c2 => ?_) (fun c2 => ?_)
    · replace hf := (if_pos c2).symm.trans hf
      refine lv_iload_n hx hb dJ3_checkIndex_8e157_16 rfl (lv_at hl 0 rfl) ?_
      exact w_iret (X := XC Γ) hx hb hr hlocks hK hP hS rfl hf dJ3_checkIndex_8e157_17
    · replace hf := (if_neg c2).symm.trans hf
      exact j9 σ H locs ls hf hP hS (lv_sub hl [0, 1, 2] rfl)
set_option maxHeartbeats 40000000 in
set_option maxRecDepth 100000 in
theorem c_J3_checkIndex_8e157N (l : Launch) (Γ : Geo) (hG : okC Γ) (x0 : Int32) (x1 : Int32) (σ : Sg) (r : Int32) (σ' : Sg) (hf : f_J3_checkIndex_8e157 x0 x1 σ = some (r, σ')) (sz : Nat) : Met l yJ3_checkIndex_8e157 (wz yJ3_checkIndex_8e157 cJ3_checkIndex_8e157 3 (some .int)) { frames := 0, cells := 0, slots := 0, locals := 0 } (va_Pc [.int x0, .int x1, .null] (wPre Γ.1 vwCl (tysC Γ) (XC Γ) (alC Γ) Γ.2.2.2 σ sz)) (wQi Γ.1 vwCl (tysC Γ) (XC Γ) (alC Γ) r σ' sz) 0 0 (wA (alC Γ) sz) := by
  refine w_enter (cc := cJ3_checkIndex_8e157) (maxL := 3) (ret := (some .int)) (by decide) rfl (Nat.le_of_ble_eq_true rfl) ?_
  intro p e s m below meth c ls hx hb hr hlocks hml hown hts hsz hP hK hkc hN hl
  subst hsz
  generalize hav : ([.int x0, .int x1, .null] : List Value) = av at hl hts ⊢
  have hl : lv_has ls 3 [(0, .int x0), (1, .int x1), (2, .null)] := by rw [← hav] at hl; exact hl
  have j9 : ∀ (τ : Sg) (H : Heap) (locs : List Loc) (ls : Array Slot) (hf : f_J3_checkIndex_8e157_9 x0 x1 τ = some (r, σ')) (hP : va_P Γ.1 vwCl (XC Γ τ) H) (hS : va_S (wA (alC Γ) s.heap.size) s.heap H locs) (hl : lv_has ls 3 [(0, .int x0), (1, .int x1), (2, .null)]), W p l e { frames := 0, cells := 0, slots := 0, locals := 0 } s m av.toArray below meth c H locs 0 0 (MQ below (wQi Γ.1 vwCl (tysC Γ) (XC Γ) (alC Γ) r σ' s.heap.size) av.toArray s 0 0 (wA (alC Γ) s.heap.size)) (F0 m 9 ls []) := by
    intro τ H locs ls hf hP hS hl
    unfold f_J3_checkIndex_8e157_9 at hf
    exact absurd hf (by intro h; cases h)
  suffices hw : ∀ (H : Heap) (locs : List Loc), va_P Γ.1 vwCl (XC Γ σ) H → va_S (wA (alC Γ) s.heap.size) s.heap H locs → W p l e { frames := 0, cells := 0, slots := 0, locals := 0 } s m av.toArray below meth c H locs 0 0 (MQ below (wQi Γ.1 vwCl (tysC Γ) (XC Γ) (alC Γ) r σ' s.heap.size) av.toArray s 0 0 (wA (alC Γ) s.heap.size)) (F0 m 0 ls []) from hw _ [] hP va_S.rf
  clear hP
  intro H locs hP hS
  unfold f_J3_checkIndex_8e157 at hf
  refine lv_iload_n hx hb dJ3_checkIndex_8e157_0 rfl (lv_at hl 0 rfl) ?_
  refine lv_if_lt (tgt := 9) hx hb dJ3_checkIndex_8e157_1 (by decide) (fun c1 => ?_) (fun c1 => ?_)
  · replace hf := (if_pos c1).symm.trans hf
    exact j9 σ H locs ls hf hP hS (lv_sub hl [0, 1, 2] rfl)
  · replace hf := (if_neg c1).symm.trans hf
    refine lv_iload_n hx hb dJ3_checkIndex_8e157_4 rfl (lv_at hl 0 rfl) ?_
    refine lv_iload_n hx hb dJ3_checkIndex_8e157_5 rfl (lv_at hl 1 rfl) ?_
    refine lv_icmp_lt (tgt := 16) hx hb dJ3_checkIndex_8e157_6 (by decide) (fun c2 => ?_) (fun c2 => ?_)
    · replace hf := (if_pos c2).symm.trans hf
      refine lv_iload_n hx hb dJ3_checkIndex_8e157_16 rfl (lv_at hl 0 rfl) ?_
      exact w_iret (X := XC Γ) hx hb hr hlocks hK hP hS rfl hf dJ3_checkIndex_8e157_17
    · replace hf := (if_neg c2).symm.trans hf
      exact j9 σ H locs ls hf hP hS (lv_sub hl [0, 1, 2] rfl)
def f_J0_checkIndex_df160 (x0 : Int32) (x1 : Int32) (σ : Sg) : Option Sg := (f_J3_checkIndex_8e157 x0 x1 σ).bind fun (q1 : Int32 × Sg) => some q1.2
set_option maxHeartbeats 40000000 in
set_option maxRecDepth 100000 in
theorem c_J0_checkIndex_df160 (l : Launch) (Γ : Geo) (hG : okC Γ) (x0 : Int32) (x1 : Int32) (σ : Sg) (σ' : Sg) (hf : f_J0_checkIndex_df160 x0 x1 σ = some σ') (sz : Nat) : Met l yJ0_checkIndex_df160 (wz yJ0_checkIndex_df160 cJ0_checkIndex_df160 2 none) { frames := 1, cells := 0, slots := 0, locals := 22 } (va_Pc [.int x0, .int x1] (wPre Γ.1 vwCl (tysC Γ) (XC Γ) (alC Γ) Γ.2.2.2 σ sz)) (wQv Γ.1 vwCl (tysC Γ) (XC Γ) (alC Γ) σ' sz) 0 0 (wA (alC Γ) sz) := by
  refine w_enter (cc := cJ0_checkIndex_df160) (maxL := 2) (ret := none) (by decide) rfl (Nat.le_of_ble_eq_true rfl) ?_
  intro p e s m below meth c ls hx hb hr hlocks hml hown hts hsz hP hK hkc hN hl
  subst hsz
  generalize hav : ([.int x0, .int x1] : List Value) = av at hl hts ⊢
  have hl : lv_has ls 2 [(0, .int x0), (1, .int x1)] := by rw [← hav] at hl; exact hl
  suffices hw : ∀ (H : Heap) (locs : List Loc), va_P Γ.1 vwCl (XC Γ σ) H → va_S (wA (alC Γ) s.heap.size) s.heap H locs → W p l e { frames := 1, cells := 0, slots := 0, locals := 22 } s m av.toArray below meth c H locs 0 0 (MQ below (wQv Γ.1 vwCl (tysC Γ) (XC Γ) (alC Γ) σ' s.heap.size) av.toArray s 0 0 (wA (alC Γ) s.heap.size)) (F0 m 0 ls []) from hw _ [] hP va_S.rf
  clear hP
  intro H locs hP hS
  unfold f_J0_checkIndex_df160 at hf
  refine lv_iload_n hx hb dJ0_checkIndex_df160_0 rfl (lv_at hl 0 rfl) ?_
  refine lv_iload_n hx hb dJ0_checkIndex_df160_1 rfl (lv_at hl 1 rfl) ?_
  rcases hkc.2.2.2 with hz | ⟨tq, hz⟩
  · refine va_gets hx hb hz hS hown (hts (.fieldLink RJ0 1053 "jdk/internal/util/Preconditions" "SIOOBE_FORMATTER" "Ljava/util/function/BiFunction;") (wzm K497)) (fun _ h9 => h9) dJ0_checkIndex_df160_2 ?_
    obtain ⟨q1, h2, hf⟩ := w_ob hf
    refine w_ci (va_runS (As := [.int x0, .int x1, .null]) (rest := []) ⟨hx, hb, hml, hown, hts⟩ (c_J3_checkIndex_8e157N l Γ hG x0 x1 σ q1.1 q1.2 h2 H.size) (va_cwS 3 hts (wzS2 K501 K498 K499 K500) rfl rfl rfl (by decide +kernel) ⟨(Nat.le_of_ble_eq_true rfl), (Nat.le_of_ble_eq_true rfl)⟩) (w_pre hK hP hkc hN hS) rfl rfl hl.1 rfl (lv_room (Nat.le_of_ble_eq_true rfl)) dJ0_checkIndex_df160_5 ⟨Nat.le_refl _, Nat.le_refl _⟩) hS (fun H locs hP hS => ?_)
    refine lv_pop hx hb dJ0_checkIndex_df160_8 rfl ?_
    exact w_vret (X := XC Γ) hx hb hr hlocks hK hP hS hf dJ0_checkIndex_df160_9
  · refine va_gets hx hb hz hS hown (hts (.fieldLink RJ0 1053 "jdk/internal/util/Preconditions" "SIOOBE_FORMATTER" "Ljava/util/function/BiFunction;") (wzm K497)) (fun _ h9 => h9) dJ0_checkIndex_df160_2 ?_
    obtain ⟨q1, h2, hf⟩ := w_ob hf
    refine w_ci (va_runS (As := [.int x0, .int x1, .ref (tq)]) (rest := []) ⟨hx, hb, hml, hown, hts⟩ (c_J3_checkIndex_8e157 l Γ hG tq x0 x1 σ q1.1 q1.2 h2 H.size) (va_cwS 3 hts (wzS2 K501 K498 K499 K500) rfl rfl rfl (by decide +kernel) ⟨(Nat.le_of_ble_eq_true rfl), (Nat.le_of_ble_eq_true rfl)⟩) (w_pre hK hP hkc hN hS) rfl rfl hl.1 rfl (lv_room (Nat.le_of_ble_eq_true rfl)) dJ0_checkIndex_df160_5 ⟨Nat.le_refl _, Nat.le_refl _⟩) hS (fun H locs hP hS => ?_)
    refine lv_pop hx hb dJ0_checkIndex_df160_8 rfl ?_
    exact w_vret (X := XC Γ) hx hb hr hlocks hK hP hS hf dJ0_checkIndex_df160_9
def f_J1_charAt_3b067 (i0 : Nat) (x1 : Int32) (σ : Sg) : Option (Int32 × Sg) := if i0 < 14 then (f_J0_checkIndex_df160 x1 (Int32.ofNat (sLen.getD (i0) 0)) σ).bind fun (q2 : Sg) => if okI x1 (sLen.getD (i0) 0) then if (narrow .char (.int ((((((sByt.getD (i0) []).getD (x1).toNatClampNeg 0) &&& (255 : Int32))).toUInt32 % 65536).toInt32)) = .int ((((((sByt.getD (i0) []).getD (x1).toNatClampNeg 0) &&& (255 : Int32))).toUInt32 % 65536).toInt32)) then some (((((((sByt.getD (i0) []).getD (x1).toNatClampNeg 0) &&& (255 : Int32))).toUInt32 % 65536).toInt32), q2) else none else none else none
set_option maxHeartbeats 40000000 in
set_option maxRecDepth 100000 in
theorem c_J1_charAt_3b067 (l : Launch) (Γ : Geo) (hG : okC Γ) (i0 : Nat) (x1 : Int32) (σ : Sg) (r : Int32) (σ' : Sg) (hf : f_J1_charAt_3b067 i0 x1 σ = some (r, σ')) (sz : Nat) : Met l yJ1_charAt_3b067 (wz yJ1_charAt_3b067 cJ1_charAt_3b067 2 (some .char)) { frames := 2, cells := 0, slots := 0, locals := 43 } (va_Pc [.ref (Γ.2.2.2.2 (i0)), .int x1] (wPre Γ.1 vwCl (tysC Γ) (XC Γ) (alC Γ) Γ.2.2.2 σ sz)) (wQi Γ.1 vwCl (tysC Γ) (XC Γ) (alC Γ) r σ' sz) 0 0 (wA (alC Γ) sz) := by
  refine w_enter (cc := cJ1_charAt_3b067) (maxL := 2) (ret := (some .char)) (by decide) rfl (Nat.le_of_ble_eq_true rfl) ?_
  intro p e s m below meth c ls hx hb hr hlocks hml hown hts hsz hP hK hkc hN hl
  subst hsz
  generalize hav : ([.ref (Γ.2.2.2.2 (i0)), .int x1] : List Value) = av at hl hts ⊢
  have hl : lv_has ls 2 [(0, .ref (Γ.2.2.2.2 (i0))), (1, .int x1)] := by rw [← hav] at hl; exact hl
  suffices hw : ∀ (H : Heap) (locs : List Loc), va_P Γ.1 vwCl (XC Γ σ) H → va_S (wA (alC Γ) s.heap.size) s.heap H locs → W p l e { frames := 2, cells := 0, slots := 0, locals := 43 } s m av.toArray below meth c H locs 0 0 (MQ below (wQi Γ.1 vwCl (tysC Γ) (XC Γ) (alC Γ) r σ' s.heap.size) av.toArray s 0 0 (wA (alC Γ) s.heap.size)) (F0 m 0 ls []) from hw _ [] hP va_S.rf
  clear hP
  intro H locs hP hS
  unfold f_J1_charAt_3b067 at hf
  obtain ⟨g1, hf⟩ := w_oi hf
  refine lv_iload_n hx hb dJ1_charAt_3b067_0 rfl (lv_at hl 1 rfl) ?_
  refine lv_aload_n hx hb dJ1_charAt_3b067_1 rfl (lv_at hl 0 rfl) ?_
  refine va_tlen hx hb (hkc.1.1 (i0) g1).2.2.2 hS (v := (Int32.ofNat (sLen.getD (i0) 0))) rfl dJ1_charAt_3b067_2 ?_
  obtain ⟨q2, h3, hf⟩ := w_ob hf
  refine w_cv (va_runS (As := [.int x1, .int (Int32.ofNat (sLen.getD (i0) 0))]) (rest := []) ⟨hx, hb, hml, hown, hts⟩ (c_J0_checkIndex_df160 l Γ hG x1 (Int32.ofNat (sLen.getD (i0) 0)) σ q2 h3 H.size) (va_cwS 2 hts (wzS2 K496 K494 K495 K473) rfl rfl rfl (by decide +kernel) ⟨(Nat.le_of_ble_eq_true rfl), (Nat.le_of_ble_eq_true rfl)⟩) (w_pre hK hP hkc hN hS) rfl rfl hl.1 rfl (lv_room (Nat.le_of_ble_eq_true rfl)) dJ1_charAt_3b067_3 ⟨Nat.le_refl _, Nat.le_refl _⟩) hS (fun H locs hP hS => ?_)
  refine lv_aload_n hx hb dJ1_charAt_3b067_6 rfl (lv_at hl 0 rfl) ?_
  refine lv_iload_n hx hb dJ1_charAt_3b067_7 rfl (lv_at hl 1 rfl) ?_
  obtain ⟨g4, hf⟩ := w_oi hf
  refine va_tb (v := .int ((sByt.getD (i0) []).getD (x1).toNatClampNeg 0)) hx hb (hkc.1.1 (i0) g1).2.2.2 hS g4 rfl dJ1_charAt_3b067_8 ?_
  refine lv_sipush (v := (255 : Int32)) hx hb dJ1_charAt_3b067_9 (by decide) ?_
  refine lv_iand hx hb dJ1_charAt_3b067_12 ?_
  refine lv_i2c (v := ((((((sByt.getD (i0) []).getD (x1).toNatClampNeg 0) &&& (255 : Int32))).toUInt32 % 65536).toInt32)) hx hb dJ1_charAt_3b067_13 rfl ?_
  obtain ⟨g5, hf⟩ := w_oi hf
  exact w_iret (X := XC Γ) hx hb hr hlocks hK hP hS g5 hf dJ1_charAt_3b067_14
def f_J0_isLatin1_aae02 (i0 : Nat) (σ : Sg) : Option (Int32 × Sg) := if i0 < 14 then if (1 : Int32) = 0 then some ((0 : Int32), σ) else if (0 : Int32) = 0 then some ((1 : Int32), σ) else some ((0 : Int32), σ) else none
set_option maxHeartbeats 40000000 in
set_option maxRecDepth 100000 in
theorem c_J0_isLatin1_aae02 (l : Launch) (Γ : Geo) (hG : okC Γ) (i0 : Nat) (σ : Sg) (r : Int32) (σ' : Sg) (hf : f_J0_isLatin1_aae02 i0 σ = some (r, σ')) (sz : Nat) : Met l yJ0_isLatin1_aae02 (wz yJ0_isLatin1_aae02 cJ0_isLatin1_aae02 1 (some .boolean)) { frames := 0, cells := 0, slots := 0, locals := 0 } (va_Pc [.ref (Γ.2.2.2.1 (i0))] (wPre Γ.1 vwCl (tysC Γ) (XC Γ) (alC Γ) Γ.2.2.2 σ sz)) (wQi Γ.1 vwCl (tysC Γ) (XC Γ) (alC Γ) r σ' sz) 0 0 (wA (alC Γ) sz) := by
  refine w_enter (cc := cJ0_isLatin1_aae02) (maxL := 1) (ret := (some .boolean)) (by decide) rfl (Nat.le_of_ble_eq_true rfl) ?_
  intro p e s m below meth c ls hx hb hr hlocks hml hown hts hsz hP hK hkc hN hl
  subst hsz
  generalize hav : ([.ref (Γ.2.2.2.1 (i0))] : List Value) = av at hl hts ⊢
  have hl : lv_has ls 1 [(0, .ref (Γ.2.2.2.1 (i0)))] := by rw [← hav] at hl; exact hl
  suffices hw : ∀ (H : Heap) (locs : List Loc), va_P Γ.1 vwCl (XC Γ σ) H → va_S (wA (alC Γ) s.heap.size) s.heap H locs → W p l e { frames := 0, cells := 0, slots := 0, locals := 0 } s m av.toArray below meth c H locs 0 0 (MQ below (wQi Γ.1 vwCl (tysC Γ) (XC Γ) (alC Γ) r σ' s.heap.size) av.toArray s 0 0 (wA (alC Γ) s.heap.size)) (F0 m 0 ls []) from hw _ [] hP va_S.rf
  clear hP
  intro H locs hP hS
  unfold f_J0_isLatin1_aae02 at hf
  obtain ⟨g1, hf⟩ := w_oi hf
  refine va_gets hx hb hkc.2.2.1 hS hown (hts (.fieldLink RJ0 38 "java/lang/String" "COMPACT_STRINGS" "Z") (wzm K480)) (fun _ h9 => h9) dJ0_isLatin1_aae02_0 ?_
  refine lv_if_eq (tgt := 17) hx hb dJ0_isLatin1_aae02_3 (by decide) (fun c2 => ?_) (fun c2 => ?_)
  · replace hf := (if_pos c2).symm.trans hf
    refine lv_iconst (v := (0 : Int32)) hx hb dJ0_isLatin1_aae02_17 (by decide) ?_
    exact w_iret (X := XC Γ) hx hb hr hlocks hK hP hS (by decide) hf dJ0_isLatin1_aae02_18
  · replace hf := (if_neg c2).symm.trans hf
    refine lv_aload_n hx hb dJ0_isLatin1_aae02_6 rfl (lv_at hl 0 rfl) ?_
    refine vk_getf hx hb (hkc.1.1 (i0) g1).2.1 hS hown (hts (.fieldLink RJ0 15 "java/lang/String" "coder" "B") (wzm K481)) (fun _ h9 => h9) dJ0_isLatin1_aae02_7 ?_
    refine lv_if_ne (tgt := 17) hx hb dJ0_isLatin1_aae02_10 (by decide) (fun c3 => ?_) (fun c3 => ?_)
    · replace hf := (if_neg c3).symm.trans hf
      refine lv_iconst (v := (0 : Int32)) hx hb dJ0_isLatin1_aae02_17 (by decide) ?_
      exact w_iret (X := XC Γ) hx hb hr hlocks hK hP hS (by decide) hf dJ0_isLatin1_aae02_18
    · replace hf := (if_pos c3).symm.trans hf
      refine lv_iconst (v := (1 : Int32)) hx hb dJ0_isLatin1_aae02_13 (by decide) ?_
      refine lv_goto (tgt := 18) hx hb dJ0_isLatin1_aae02_14 (by decide) ?_
      exact w_iret (X := XC Γ) hx hb hr hlocks hK hP hS (by decide) hf dJ0_isLatin1_aae02_18
def f_J0_coder_7d493 (i0 : Nat) (σ : Sg) : Option (Int32 × Sg) := if i0 < 14 then if (1 : Int32) = 0 then some ((1 : Int32), σ) else some ((0 : Int32), σ) else none
set_option maxHeartbeats 40000000 in
set_option maxRecDepth 100000 in
theorem c_J0_coder_7d493 (l : Launch) (Γ : Geo) (hG : okC Γ) (i0 : Nat) (σ : Sg) (r : Int32) (σ' : Sg) (hf : f_J0_coder_7d493 i0 σ = some (r, σ')) (sz : Nat) : Met l yJ0_coder_7d493 (wz yJ0_coder_7d493 cJ0_coder_7d493 1 (some .byte)) { frames := 0, cells := 0, slots := 0, locals := 0 } (va_Pc [.ref (Γ.2.2.2.1 (i0))] (wPre Γ.1 vwCl (tysC Γ) (XC Γ) (alC Γ) Γ.2.2.2 σ sz)) (wQi Γ.1 vwCl (tysC Γ) (XC Γ) (alC Γ) r σ' sz) 0 0 (wA (alC Γ) sz) := by
  refine w_enter (cc := cJ0_coder_7d493) (maxL := 1) (ret := (some .byte)) (by decide) rfl (Nat.le_of_ble_eq_true rfl) ?_
  intro p e s m below meth c ls hx hb hr hlocks hml hown hts hsz hP hK hkc hN hl
  subst hsz
  generalize hav : ([.ref (Γ.2.2.2.1 (i0))] : List Value) = av at hl hts ⊢
  have hl : lv_has ls 1 [(0, .ref (Γ.2.2.2.1 (i0)))] := by rw [← hav] at hl; exact hl
  suffices hw : ∀ (H : Heap) (locs : List Loc), va_P Γ.1 vwCl (XC Γ σ) H → va_S (wA (alC Γ) s.heap.size) s.heap H locs → W p l e { frames := 0, cells := 0, slots := 0, locals := 0 } s m av.toArray below meth c H locs 0 0 (MQ below (wQi Γ.1 vwCl (tysC Γ) (XC Γ) (alC Γ) r σ' s.heap.size) av.toArray s 0 0 (wA (alC Γ) s.heap.size)) (F0 m 0 ls []) from hw _ [] hP va_S.rf
  clear hP
  intro H locs hP hS
  unfold f_J0_coder_7d493 at hf
  obtain ⟨g1, hf⟩ := w_oi hf
  refine va_gets hx hb hkc.2.2.1 hS hown (hts (.fieldLink RJ0 38 "java/lang/String" "COMPACT_STRINGS" "Z") (wzm K480)) (fun _ h9 => h9) dJ0_coder_7d493_0 ?_
  refine lv_if_eq (tgt := 13) hx hb dJ0_coder_7d493_3 (by decide) (fun c2 => ?_) (fun c2 => ?_)
  · replace hf := (if_pos c2).symm.trans hf
    refine lv_iconst (v := (1 : Int32)) hx hb dJ0_coder_7d493_13 (by decide) ?_
    exact w_iret (X := XC Γ) hx hb hr hlocks hK hP hS (by decide) hf dJ0_coder_7d493_14
  · replace hf := (if_neg c2).symm.trans hf
    refine lv_aload_n hx hb dJ0_coder_7d493_6 rfl (lv_at hl 0 rfl) ?_
    refine vk_getf hx hb (hkc.1.1 (i0) g1).2.1 hS hown (hts (.fieldLink RJ0 15 "java/lang/String" "coder" "B") (wzm K481)) (fun _ h9 => h9) dJ0_coder_7d493_7 ?_
    refine lv_goto (tgt := 14) hx hb dJ0_coder_7d493_10 (by decide) ?_
    exact w_iret (X := XC Γ) hx hb hr hlocks hK hP hS (by decide) hf dJ0_coder_7d493_14
def f_J0_charAt_5068e (i0 : Nat) (x1 : Int32) (σ : Sg) : Option (Int32 × Sg) := if i0 < 14 then (f_J0_isLatin1_aae02 (i0) σ).bind fun (q2 : Int32 × Sg) => if q2.1 = 0 then none else (f_J1_charAt_3b067 (i0) x1 q2.2).bind fun (q5 : Int32 × Sg) => if (narrow .char (.int q5.1) = .int q5.1) then some (q5.1, q5.2) else none else none
set_option maxHeartbeats 40000000 in
set_option maxRecDepth 100000 in
theorem c_J0_charAt_5068e (l : Launch) (Γ : Geo) (hG : okC Γ) (i0 : Nat) (x1 : Int32) (σ : Sg) (r : Int32) (σ' : Sg) (hf : f_J0_charAt_5068e i0 x1 σ = some (r, σ')) (sz : Nat) : Met l yJ0_charAt_5068e (wz yJ0_charAt_5068e cJ0_charAt_5068e 2 (some .char)) { frames := 3, cells := 0, slots := 0, locals := 64 } (va_Pc [.ref (Γ.2.2.2.1 (i0)), .int x1] (wPre Γ.1 vwCl (tysC Γ) (XC Γ) (alC Γ) Γ.2.2.2 σ sz)) (wQi Γ.1 vwCl (tysC Γ) (XC Γ) (alC Γ) r σ' sz) 0 0 (wA (alC Γ) sz) := by
  refine w_enter (cc := cJ0_charAt_5068e) (maxL := 2) (ret := (some .char)) (by decide) rfl (Nat.le_of_ble_eq_true rfl) ?_
  intro p e s m below meth c ls hx hb hr hlocks hml hown hts hsz hP hK hkc hN hl
  subst hsz
  generalize hav : ([.ref (Γ.2.2.2.1 (i0)), .int x1] : List Value) = av at hl hts ⊢
  have hl : lv_has ls 2 [(0, .ref (Γ.2.2.2.1 (i0))), (1, .int x1)] := by rw [← hav] at hl; exact hl
  suffices hw : ∀ (H : Heap) (locs : List Loc), va_P Γ.1 vwCl (XC Γ σ) H → va_S (wA (alC Γ) s.heap.size) s.heap H locs → W p l e { frames := 3, cells := 0, slots := 0, locals := 64 } s m av.toArray below meth c H locs 0 0 (MQ below (wQi Γ.1 vwCl (tysC Γ) (XC Γ) (alC Γ) r σ' s.heap.size) av.toArray s 0 0 (wA (alC Γ) s.heap.size)) (F0 m 0 ls []) from hw _ [] hP va_S.rf
  clear hP
  intro H locs hP hS
  unfold f_J0_charAt_5068e at hf
  obtain ⟨g1, hf⟩ := w_oi hf
  refine lv_aload_n hx hb dJ0_charAt_5068e_0 rfl (lv_at hl 0 rfl) ?_
  obtain ⟨q2, h3, hf⟩ := w_ob hf
  refine w_ci (va_runV (As := []) (rest := []) ⟨hx, hb, hml, hown, hts⟩ (c_J0_isLatin1_aae02 l Γ hG (i0) σ q2.1 q2.2 h3 H.size) (cwV 0 hts (wzV K489 K486 K487 K488 K473) rfl rfl rfl (by decide +kernel) ⟨(Nat.le_of_ble_eq_true rfl), (Nat.le_of_ble_eq_true rfl)⟩) (w_preS hK hP hkc hN hS g1) rfl rfl hl.1 rfl (lv_room (Nat.le_of_ble_eq_true rfl)) dJ0_charAt_5068e_1 ⟨Nat.le_refl _, Nat.le_refl _⟩) hS (fun H locs hP hS => ?_)
  refine lv_if_eq (tgt := 16) hx hb dJ0_charAt_5068e_4 (by decide) (fun c4 => ?_) (fun c4 => ?_)
  · replace hf := (if_pos c4).symm.trans hf
    refine lv_aload_n hx hb dJ0_charAt_5068e_16 rfl (lv_at hl 0 rfl) ?_
    refine vk_getf hx hb (hkc.1.1 (i0) g1).2.2.1 hS hown (hts (.fieldLink RJ0 9 "java/lang/String" "value" "[B") (wzm K475)) (fun _ h9 => h9) dJ0_charAt_5068e_17 ?_
    refine lv_iload_n hx hb dJ0_charAt_5068e_20 rfl (lv_at hl 1 rfl) ?_
    exact absurd hf (by intro h; cases h)
  · replace hf := (if_neg c4).symm.trans hf
    refine lv_aload_n hx hb dJ0_charAt_5068e_7 rfl (lv_at hl 0 rfl) ?_
    refine vk_getf hx hb (hkc.1.1 (i0) g1).2.2.1 hS hown (hts (.fieldLink RJ0 9 "java/lang/String" "value" "[B") (wzm K475)) (fun _ h9 => h9) dJ0_charAt_5068e_8 ?_
    refine lv_iload_n hx hb dJ0_charAt_5068e_11 rfl (lv_at hl 1 rfl) ?_
    obtain ⟨q5, h6, hf⟩ := w_ob hf
    refine w_ci (va_runS (As := [.ref (Γ.2.2.2.2 (i0)), .int x1]) (rest := []) ⟨hx, hb, hml, hown, hts⟩ (c_J1_charAt_3b067 l Γ hG (i0) x1 q2.2 q5.1 q5.2 h6 H.size) (va_cwS 2 hts (wzS2 K493 K490 K491 K492) rfl rfl rfl (by decide +kernel) ⟨(Nat.le_of_ble_eq_true rfl), (Nat.le_of_ble_eq_true rfl)⟩) (w_pre hK hP hkc hN hS) rfl rfl hl.1 rfl (lv_room (Nat.le_of_ble_eq_true rfl)) dJ0_charAt_5068e_12 ⟨Nat.le_refl _, Nat.le_refl _⟩) hS (fun H locs hP hS => ?_)
    obtain ⟨g7, hf⟩ := w_oi hf
    exact w_iret (X := XC Γ) hx hb hr hlocks hK hP hS g7 hf dJ0_charAt_5068e_15
def f_J0_length_8abf5 (i0 : Nat) (σ : Sg) : Option (Int32 × Sg) := if i0 < 14 then (f_J0_coder_7d493 (i0) σ).bind fun (q2 : Int32 × Sg) => some (((Int32.ofNat (sLen.getD (i0) 0)) >>> (q2.1 &&& 31)), q2.2) else none
set_option maxHeartbeats 40000000 in
set_option maxRecDepth 100000 in
theorem c_J0_length_8abf5 (l : Launch) (Γ : Geo) (hG : okC Γ) (i0 : Nat) (σ : Sg) (r : Int32) (σ' : Sg) (hf : f_J0_length_8abf5 i0 σ = some (r, σ')) (sz : Nat) : Met l yJ0_length_8abf5 (wz yJ0_length_8abf5 cJ0_length_8abf5 1 (some .int)) { frames := 1, cells := 0, slots := 0, locals := 20 } (va_Pc [.ref (Γ.2.2.2.1 (i0))] (wPre Γ.1 vwCl (tysC Γ) (XC Γ) (alC Γ) Γ.2.2.2 σ sz)) (wQi Γ.1 vwCl (tysC Γ) (XC Γ) (alC Γ) r σ' sz) 0 0 (wA (alC Γ) sz) := by
  refine w_enter (cc := cJ0_length_8abf5) (maxL := 1) (ret := (some .int)) (by decide) rfl (Nat.le_of_ble_eq_true rfl) ?_
  intro p e s m below meth c ls hx hb hr hlocks hml hown hts hsz hP hK hkc hN hl
  subst hsz
  generalize hav : ([.ref (Γ.2.2.2.1 (i0))] : List Value) = av at hl hts ⊢
  have hl : lv_has ls 1 [(0, .ref (Γ.2.2.2.1 (i0)))] := by rw [← hav] at hl; exact hl
  suffices hw : ∀ (H : Heap) (locs : List Loc), va_P Γ.1 vwCl (XC Γ σ) H → va_S (wA (alC Γ) s.heap.size) s.heap H locs → W p l e { frames := 1, cells := 0, slots := 0, locals := 20 } s m av.toArray below meth c H locs 0 0 (MQ below (wQi Γ.1 vwCl (tysC Γ) (XC Γ) (alC Γ) r σ' s.heap.size) av.toArray s 0 0 (wA (alC Γ) s.heap.size)) (F0 m 0 ls []) from hw _ [] hP va_S.rf
  clear hP
  intro H locs hP hS
  unfold f_J0_length_8abf5 at hf
  obtain ⟨g1, hf⟩ := w_oi hf
  refine lv_aload_n hx hb dJ0_length_8abf5_0 rfl (lv_at hl 0 rfl) ?_
  refine vk_getf hx hb (hkc.1.1 (i0) g1).2.2.1 hS hown (hts (.fieldLink RJ0 9 "java/lang/String" "value" "[B") (wzm K475)) (fun _ h9 => h9) dJ0_length_8abf5_1 ?_
  refine va_tlen hx hb (hkc.1.1 (i0) g1).2.2.2 hS (v := (Int32.ofNat (sLen.getD (i0) 0))) rfl dJ0_length_8abf5_4 ?_
  refine lv_aload_n hx hb dJ0_length_8abf5_5 rfl (lv_at hl 0 rfl) ?_
  obtain ⟨q2, h3, hf⟩ := w_ob hf
  refine w_ci (va_runV (As := []) (rest := [.int (Int32.ofNat (sLen.getD (i0) 0))]) ⟨hx, hb, hml, hown, hts⟩ (c_J0_coder_7d493 l Γ hG (i0) σ q2.1 q2.2 h3 H.size) (cwV 0 hts (wzV K479 K476 K477 K478 K473) rfl rfl rfl (by decide +kernel) ⟨(Nat.le_of_ble_eq_true rfl), (Nat.le_of_ble_eq_true rfl)⟩) (w_preS hK hP hkc hN hS g1) rfl rfl hl.1 rfl (lv_room (Nat.le_of_ble_eq_true rfl)) dJ0_length_8abf5_6 ⟨Nat.le_refl _, Nat.le_refl _⟩) hS (fun H locs hP hS => ?_)
  refine lv_ishr hx hb dJ0_length_8abf5_9 ?_
  exact w_iret (X := XC Γ) hx hb hr hlocks hK hP hS rfl hf dJ0_length_8abf5_10
def f_J1_canEncode_9a6ad (x0 : Int32) (σ : Sg) : Option (Int32 × Sg) := if x0 < 0 then some ((0 : Int32), σ) else if (255 : Int32) < x0 then some ((0 : Int32), σ) else some ((1 : Int32), σ)
set_option maxHeartbeats 40000000 in
set_option maxRecDepth 100000 in
theorem c_J1_canEncode_9a6ad (l : Launch) (Γ : Geo) (hG : okC Γ) (x0 : Int32) (σ : Sg) (r : Int32) (σ' : Sg) (hf : f_J1_canEncode_9a6ad x0 σ = some (r, σ')) (sz : Nat) : Met l yJ1_canEncode_9a6ad (wz yJ1_canEncode_9a6ad cJ1_canEncode_9a6ad 1 (some .boolean)) { frames := 0, cells := 0, slots := 0, locals := 0 } (va_Pc [.int x0] (wPre Γ.1 vwCl (tysC Γ) (XC Γ) (alC Γ) Γ.2.2.2 σ sz)) (wQi Γ.1 vwCl (tysC Γ) (XC Γ) (alC Γ) r σ' sz) 0 0 (wA (alC Γ) sz) := by
  refine w_enter (cc := cJ1_canEncode_9a6ad) (maxL := 1) (ret := (some .boolean)) (by decide) rfl (Nat.le_of_ble_eq_true rfl) ?_
  intro p e s m below meth c ls hx hb hr hlocks hml hown hts hsz hP hK hkc hN hl
  subst hsz
  generalize hav : ([.int x0] : List Value) = av at hl hts ⊢
  have hl : lv_has ls 1 [(0, .int x0)] := by rw [← hav] at hl; exact hl
  suffices hw : ∀ (H : Heap) (locs : List Loc), va_P Γ.1 vwCl (XC Γ σ) H → va_S (wA (alC Γ) s.heap.size) s.heap H locs → W p l e { frames := 0, cells := 0, slots := 0, locals := 0 } s m av.toArray below meth c H locs 0 0 (MQ below (wQi Γ.1 vwCl (tysC Γ) (XC Γ) (alC Γ) r σ' s.heap.size) av.toArray s 0 0 (wA (alC Γ) s.heap.size)) (F0 m 0 ls []) from hw _ [] hP va_S.rf
  clear hP
  intro H locs hP hS
  unfold f_J1_canEncode_9a6ad at hf
  refine lv_iload_n hx hb dJ1_canEncode_9a6ad_0 rfl (lv_at hl 0 rfl) ?_
  refine lv_if_lt (tgt := 15) hx hb dJ1_canEncode_9a6ad_1 (by decide) (fun c1 => ?_) (fun c1 => ?_)
  · replace hf := (if_pos c1).symm.trans hf
    refine lv_iconst (v := (0 : Int32)) hx hb dJ1_canEncode_9a6ad_15 (by decide) ?_
    exact w_iret (X := XC Γ) hx hb hr hlocks hK hP hS (by decide) hf dJ1_canEncode_9a6ad_16
  · replace hf := (if_neg c1).symm.trans hf
    refine lv_iload_n hx hb dJ1_canEncode_9a6ad_4 rfl (lv_at hl 0 rfl) ?_
    refine lv_sipush (v := (255 : Int32)) hx hb dJ1_canEncode_9a6ad_5 (by decide) ?_
    refine lv_icmp_gt (tgt := 15) hx hb dJ1_canEncode_9a6ad_8 (by decide) (fun c2 => ?_) (fun c2 => ?_)
    · replace hf := (if_pos c2).symm.trans hf
      refine lv_iconst (v := (0 : Int32)) hx hb dJ1_canEncode_9a6ad_15 (by decide) ?_
      exact w_iret (X := XC Γ) hx hb hr hlocks hK hP hS (by decide) hf dJ1_canEncode_9a6ad_16
    · replace hf := (if_neg c2).symm.trans hf
      refine lv_iconst (v := (1 : Int32)) hx hb dJ1_canEncode_9a6ad_11 (by decide) ?_
      refine lv_goto (tgt := 16) hx hb dJ1_canEncode_9a6ad_12 (by decide) ?_
      exact w_iret (X := XC Γ) hx hb hr hlocks hK hP hS (by decide) hf dJ1_canEncode_9a6ad_16
def f_J1_indexOfChar_4cfef_7 (i0 : Nat) (x1 : Int32) (x2 : Int32) (x3 : Int32) : Nat → Int32 → Int32 → Sg → Option (Int32 × Sg)
  | 0, _, _, _ => none
  | n + 1, y4, y5, τ => if i0 < 14 then if x3 ≤ y5 then some ((-1 : Int32), τ) else if okI y5 (sLen.getD (i0) 0) then if ((sByt.getD (i0) []).getD (y5).toNatClampNeg 0) = y4 then some (y5, τ) else (f_J1_indexOfChar_4cfef_7 i0 x1 x2 x3 n) (y4) ((y5 + (1 : Int32))) τ else none else none
def f_J1_indexOfChar_4cfef (i0 : Nat) (x1 : Int32) (x2 : Int32) (x3 : Int32) (σ : Sg) : Option (Int32 × Sg) := if i0 < 14 then f_J1_indexOfChar_4cfef_7 i0 x1 x2 x3 5000 (((x1).toInt8.toInt32)) (x2) σ else none
set_option maxHeartbeats 40000000 in
set_option maxRecDepth 100000 in
theorem c_J1_indexOfChar_4cfef (l : Launch) (Γ : Geo) (hG : okC Γ) (i0 : Nat) (x1 : Int32) (x2 : Int32) (x3 : Int32) (σ : Sg) (r : Int32) (σ' : Sg) (hf : f_J1_indexOfChar_4cfef i0 x1 x2 x3 σ = some (r, σ')) (sz : Nat) : Met l yJ1_indexOfChar_4cfef (wz yJ1_indexOfChar_4cfef cJ1_indexOfChar_4cfef 6 (some .int)) { frames := 0, cells := 0, slots := 0, locals := 0 } (va_Pc [.ref (Γ.2.2.2.2 (i0)), .int x1, .int x2, .int x3] (wPre Γ.1 vwCl (tysC Γ) (XC Γ) (alC Γ) Γ.2.2.2 σ sz)) (wQi Γ.1 vwCl (tysC Γ) (XC Γ) (alC Γ) r σ' sz) 0 0 (wA (alC Γ) sz) := by
  refine w_enter (cc := cJ1_indexOfChar_4cfef) (maxL := 6) (ret := (some .int)) (by decide) rfl (Nat.le_of_ble_eq_true rfl) ?_
  intro p e s m below meth c ls hx hb hr hlocks hml hown hts hsz hP hK hkc hN hl
  subst hsz
  generalize hav : ([.ref (Γ.2.2.2.2 (i0)), .int x1, .int x2, .int x3] : List Value) = av at hl hts ⊢
  have hl : lv_has ls 6 [(0, .ref (Γ.2.2.2.2 (i0))), (1, .int x1), (2, .int x2), (3, .int x3)] := by rw [← hav] at hl; exact hl
  have j7 : ∀ (n7 : Nat), ∀ (y4 : Int32) (y5 : Int32) (τ : Sg) (H : Heap) (locs : List Loc) (ls : Array Slot) (hf : f_J1_indexOfChar_4cfef_7 i0 x1 x2 x3 n7 y4 y5 τ = some (r, σ')) (hP : va_P Γ.1 vwCl (XC Γ τ) H) (hS : va_S (wA (alC Γ) s.heap.size) s.heap H locs) (hl : lv_has ls 6 [(0, .ref (Γ.2.2.2.2 (i0))), (3, .int x3), (4, .int y4), (5, .int y5)]), W p l e { frames := 0, cells := 0, slots := 0, locals := 0 } s m av.toArray below meth c H locs 0 0 (MQ below (wQi Γ.1 vwCl (tysC Γ) (XC Γ) (alC Γ) r σ' s.heap.size) av.toArray s 0 0 (wA (alC Γ) s.heap.size)) (F0 m 7 ls []) := by
    intro n7
    induction n7 with
    | zero =>
      intro y4 y5 τ H locs ls hf
      exact absurd hf (by intro h; cases h)
    | succ n7 ih7 =>
      intro y4 y5 τ H locs ls hf hP hS hl
      unfold f_J1_indexOfChar_4cfef_7 at hf
      obtain ⟨g2, hf⟩ := w_oi hf
      refine lv_iload hx hb dJ1_indexOfChar_4cfef_7 (lv_at hl 3 rfl) ?_
      refine lv_iload_n hx hb dJ1_indexOfChar_4cfef_9 rfl (lv_at hl 1 rfl) ?_
      refine lv_icmp_ge (tgt := 31) hx hb dJ1_indexOfChar_4cfef_10 (by decide) (fun c3 => ?_) (fun c3 => ?_)
      · replace hf := (if_pos c3).symm.trans hf
        refine lv_iconst (v := (-1 : Int32)) hx hb dJ1_indexOfChar_4cfef_31 (by decide) ?_
        exact w_iret (X := XC Γ) hx hb hr hlocks hK hP hS rfl hf dJ1_indexOfChar_4cfef_32
      · replace hf := (if_neg c3).symm.trans hf
        refine lv_aload_n hx hb dJ1_indexOfChar_4cfef_13 rfl (lv_at hl 0 rfl) ?_
        refine lv_iload hx hb dJ1_indexOfChar_4cfef_14 (lv_at hl 3 rfl) ?_
        obtain ⟨g4, hf⟩ := w_oi hf
        refine va_tb (v := .int ((sByt.getD (i0) []).getD (y5).toNatClampNeg 0)) hx hb (hkc.1.1 (i0) g2).2.2.2 hS g4 rfl dJ1_indexOfChar_4cfef_16 ?_
        refine lv_iload hx hb dJ1_indexOfChar_4cfef_17 (lv_at hl 2 rfl) ?_
        refine lv_icmp_ne (tgt := 25) hx hb dJ1_indexOfChar_4cfef_19 (by decide) (fun c5 => ?_) (fun c5 => ?_)
        · replace hf := (if_neg c5).symm.trans hf
          refine lv_iinc (v := (y5 + (1 : Int32))) (lv' := [(5, .int (y5 + (1 : Int32))), (0, .ref (Γ.2.2.2.2 (i0))), (3, .int x3), (4, .int y4)]) hx hb dJ1_indexOfChar_4cfef_25 hl (k := 3) rfl rfl (by decide) rfl (fun ls hl => ?_)
          refine lv_goto (tgt := 7) hx hb dJ1_indexOfChar_4cfef_28 (by decide) ?_
          exact ih7 (y4) ((y5 + (1 : Int32))) τ H locs ls hf hP hS (lv_sub hl [1, 2, 3, 0] rfl)
        · replace hf := (if_pos c5).symm.trans hf
          refine lv_iload hx hb dJ1_indexOfChar_4cfef_22 (lv_at hl 3 rfl) ?_
          exact w_iret (X := XC Γ) hx hb hr hlocks hK hP hS rfl hf dJ1_indexOfChar_4cfef_24
  suffices hw : ∀ (H : Heap) (locs : List Loc), va_P Γ.1 vwCl (XC Γ σ) H → va_S (wA (alC Γ) s.heap.size) s.heap H locs → W p l e { frames := 0, cells := 0, slots := 0, locals := 0 } s m av.toArray below meth c H locs 0 0 (MQ below (wQi Γ.1 vwCl (tysC Γ) (XC Γ) (alC Γ) r σ' s.heap.size) av.toArray s 0 0 (wA (alC Γ) s.heap.size)) (F0 m 0 ls []) from hw _ [] hP va_S.rf
  clear hP
  intro H locs hP hS
  unfold f_J1_indexOfChar_4cfef at hf
  obtain ⟨g1, hf⟩ := w_oi hf
  refine lv_iload_n hx hb dJ1_indexOfChar_4cfef_0 rfl (lv_at hl 1 rfl) ?_
  refine lv_i2b (v := ((x1).toInt8.toInt32)) hx hb dJ1_indexOfChar_4cfef_1 rfl ?_
  refine lv_istore (lv' := [(4, .int ((x1).toInt8.toInt32)), (0, .ref (Γ.2.2.2.2 (i0))), (1, .int x1), (2, .int x2), (3, .int x3)]) hx hb dJ1_indexOfChar_4cfef_2 hl (by decide) rfl (fun ls hl => ?_)
  refine lv_iload_n hx hb dJ1_indexOfChar_4cfef_4 rfl (lv_at hl 3 rfl) ?_
  refine lv_istore (lv' := [(5, .int x2), (4, .int ((x1).toInt8.toInt32)), (0, .ref (Γ.2.2.2.2 (i0))), (1, .int x1), (2, .int x2), (3, .int x3)]) hx hb dJ1_indexOfChar_4cfef_5 hl (by decide) rfl (fun ls hl => ?_)
  exact j7 5000 (((x1).toInt8.toInt32)) (x2) σ H locs ls hf hP hS (lv_sub hl [2, 5, 1, 0] rfl)
def f_J1_indexOf_4cfef (i0 : Nat) (x1 : Int32) (x2 : Int32) (x3 : Int32) (σ : Sg) : Option (Int32 × Sg) := if i0 < 14 then (f_J1_canEncode_9a6ad x1 σ).bind fun (q2 : Int32 × Sg) => if q2.1 = 0 then some ((-1 : Int32), q2.2) else (some (if (Int32.ofNat (sLen.getD (i0) 0)) < x3 then (Int32.ofNat (sLen.getD (i0) 0)) else x3)).bind fun (v5 : Int32) => if (if x2 < (0 : Int32) then (0 : Int32) else x2) < v5 then (f_J1_indexOfChar_4cfef (i0) x1 (if x2 < (0 : Int32) then (0 : Int32) else x2) v5 q2.2).bind fun (q8 : Int32 × Sg) => some (q8.1, q8.2) else some ((-1 : Int32), q2.2) else none
set_option maxHeartbeats 40000000 in
set_option maxRecDepth 100000 in
theorem c_J1_indexOf_4cfef (l : Launch) (Γ : Geo) (hG : okC Γ) (i0 : Nat) (x1 : Int32) (x2 : Int32) (x3 : Int32) (σ : Sg) (r : Int32) (σ' : Sg) (hf : f_J1_indexOf_4cfef i0 x1 x2 x3 σ = some (r, σ')) (sz : Nat) : Met l yJ1_indexOf_4cfef (wz yJ1_indexOf_4cfef cJ1_indexOf_4cfef 4 (some .int)) { frames := 1, cells := 0, slots := 0, locals := 25 } (va_Pc [.ref (Γ.2.2.2.2 (i0)), .int x1, .int x2, .int x3] (wPre Γ.1 vwCl (tysC Γ) (XC Γ) (alC Γ) Γ.2.2.2 σ sz)) (wQi Γ.1 vwCl (tysC Γ) (XC Γ) (alC Γ) r σ' sz) 0 0 (wA (alC Γ) sz) := by
  refine w_enter (cc := cJ1_indexOf_4cfef) (maxL := 4) (ret := (some .int)) (by decide) rfl (Nat.le_of_ble_eq_true rfl) ?_
  intro p e s m below meth c ls hx hb hr hlocks hml hown hts hsz hP hK hkc hN hl
  subst hsz
  generalize hav : ([.ref (Γ.2.2.2.2 (i0)), .int x1, .int x2, .int x3] : List Value) = av at hl hts ⊢
  have hl : lv_has ls 4 [(0, .ref (Γ.2.2.2.2 (i0))), (1, .int x1), (2, .int x2), (3, .int x3)] := by rw [← hav] at hl; exact hl
  suffices hw : ∀ (H : Heap) (locs : List Loc), va_P Γ.1 vwCl (XC Γ σ) H → va_S (wA (alC Γ) s.heap.size) s.heap H locs → W p l e { frames := 1, cells := 0, slots := 0, locals := 25 } s m av.toArray below meth c H locs 0 0 (MQ below (wQi Γ.1 vwCl (tysC Γ) (XC Γ) (alC Γ) r σ' s.heap.size) av.toArray s 0 0 (wA (alC Γ) s.heap.size)) (F0 m 0 ls []) from hw _ [] hP va_S.rf
  clear hP
  intro H locs hP hS
  unfold f_J1_indexOf_4cfef at hf
  obtain ⟨g1, hf⟩ := w_oi hf
  refine lv_iload_n hx hb dJ1_indexOf_4cfef_0 rfl (lv_at hl 1 rfl) ?_
  obtain ⟨q2, h3, hf⟩ := w_ob hf
  refine w_ci (va_runS (As := [.int x1]) (rest := []) ⟨hx, hb, hml, hown, hts⟩ (c_J1_canEncode_9a6ad l Γ hG x1 σ q2.1 q2.2 h3 H.size) (cwS 1 hts (wzS K543 K541 K542 K492) rfl rfl rfl (by decide +kernel) ⟨(Nat.le_of_ble_eq_true rfl), (Nat.le_of_ble_eq_true rfl)⟩) (w_pre hK hP hkc hN hS) rfl rfl hl.1 rfl (lv_room (Nat.le_of_ble_eq_true rfl)) dJ1_indexOf_4cfef_1 ⟨Nat.le_refl _, Nat.le_refl _⟩) hS (fun H locs hP hS => ?_)
  refine lv_if_ne (tgt := 9) hx hb dJ1_indexOf_4cfef_4 (by decide) (fun c4 => ?_) (fun c4 => ?_)
  · replace hf := (if_neg c4).symm.trans hf
    refine lv_iload_n hx hb dJ1_indexOf_4cfef_9 rfl (lv_at hl 2 rfl) ?_
    refine lv_iconst (v := (0 : Int32)) hx hb dJ1_indexOf_4cfef_10 (by decide) ?_
    refine va_mmax hx hb (hml.trans hl.1.symm) hown (hts (.methodLink RJ1 92 Lib.Math.max.name) (wzm K539)) (hts (.static Lib.Math.max.name) (wzm K378)) (hts (.initialized "java/lang/Math") (wzm K375)) (hts (.code Lib.Math.max.name Lib.Math.max.code 2 (some .int)) (wzm K379)) (Nat.le_of_ble_eq_true rfl) (Nat.le_of_ble_eq_true rfl) (Nat.le_refl _) (Nat.le_refl _) dJ1_indexOf_4cfef_11 ?_
    refine lv_istore_n (lv' := [(2, .int (if x2 < (0 : Int32) then (0 : Int32) else x2)), (0, .ref (Γ.2.2.2.2 (i0))), (1, .int x1), (3, .int x3)]) hx hb dJ1_indexOf_4cfef_14 rfl hl (by decide) rfl (fun ls hl => ?_)
    refine lv_iload_n hx hb dJ1_indexOf_4cfef_15 rfl (lv_at hl 3 rfl) ?_
    refine lv_aload_n hx hb dJ1_indexOf_4cfef_16 rfl (lv_at hl 1 rfl) ?_
    refine va_tlen hx hb (hkc.1.1 (i0) g1).2.2.2 hS (v := (Int32.ofNat (sLen.getD (i0) 0))) rfl dJ1_indexOf_4cfef_17 ?_
    refine va_mmin hx hb (hml.trans hl.1.symm) hown (hts (.methodLink RJ1 38 Lib.Math.min.name) (wzm K540)) (hts (.static Lib.Math.min.name) (wzm K374)) (hts (.initialized "java/lang/Math") (wzm K375)) (hts (.code Lib.Math.min.name Lib.Math.min.code 2 (some .int)) (wzm K376)) (Nat.le_of_ble_eq_true rfl) (Nat.le_of_ble_eq_true rfl) (Nat.le_refl _) (Nat.le_refl _) dJ1_indexOf_4cfef_18 ?_
    obtain ⟨v5, e6, hf⟩ := w_ob hf
    replace e6 := Option.some.inj e6
    rw [e6]
    refine lv_istore_n (lv' := [(3, .int v5), (2, .int (if x2 < (0 : Int32) then (0 : Int32) else x2)), (0, .ref (Γ.2.2.2.2 (i0))), (1, .int x1)]) hx hb dJ1_indexOf_4cfef_21 rfl hl (by decide) rfl (fun ls hl => ?_)
    refine lv_iload_n hx hb dJ1_indexOf_4cfef_22 rfl (lv_at hl 1 rfl) ?_
    refine lv_iload_n hx hb dJ1_indexOf_4cfef_23 rfl (lv_at hl 0 rfl) ?_
    refine lv_icmp_lt (tgt := 29) hx hb dJ1_indexOf_4cfef_24 (by decide) (fun c7 => ?_) (fun c7 => ?_)
    · replace hf := (if_pos c7).symm.trans hf
      refine lv_aload_n hx hb dJ1_indexOf_4cfef_29 rfl (lv_at hl 2 rfl) ?_
      refine lv_iload_n hx hb dJ1_indexOf_4cfef_30 rfl (lv_at hl 3 rfl) ?_
      refine lv_iload_n hx hb dJ1_indexOf_4cfef_31 rfl (lv_at hl 1 rfl) ?_
      refine lv_iload_n hx hb dJ1_indexOf_4cfef_32 rfl (lv_at hl 0 rfl) ?_
      obtain ⟨q8, h9, hf⟩ := w_ob hf
      refine w_ci (va_runS (As := [.ref (Γ.2.2.2.2 (i0)), .int x1, .int (if x2 < (0 : Int32) then (0 : Int32) else x2), .int v5]) (rest := []) ⟨hx, hb, hml, hown, hts⟩ (c_J1_indexOfChar_4cfef l Γ hG (i0) x1 (if x2 < (0 : Int32) then (0 : Int32) else x2) v5 q2.2 q8.1 q8.2 h9 H.size) (cwS 4 hts (wzS K546 K544 K545 K492) rfl rfl rfl (by decide +kernel) ⟨(Nat.le_of_ble_eq_true rfl), (Nat.le_of_ble_eq_true rfl)⟩) (w_pre hK hP hkc hN hS) rfl rfl hl.1 rfl (lv_room (Nat.le_of_ble_eq_true rfl)) dJ1_indexOf_4cfef_33 ⟨Nat.le_refl _, Nat.le_refl _⟩) hS (fun H locs hP hS => ?_)
      exact w_iret (X := XC Γ) hx hb hr hlocks hK hP hS rfl hf dJ1_indexOf_4cfef_36
    · replace hf := (if_neg c7).symm.trans hf
      refine lv_iconst (v := (-1 : Int32)) hx hb dJ1_indexOf_4cfef_27 (by decide) ?_
      exact w_iret (X := XC Γ) hx hb hr hlocks hK hP hS rfl hf dJ1_indexOf_4cfef_28
  · replace hf := (if_pos c4).symm.trans hf
    refine lv_iconst (v := (-1 : Int32)) hx hb dJ1_indexOf_4cfef_7 (by decide) ?_
    exact w_iret (X := XC Γ) hx hb hr hlocks hK hP hS rfl hf dJ1_indexOf_4cfef_8
def f_J0_indexOf_7cf53 (i0 : Nat) (x1 : Int32) (x2 : Int32) (σ : Sg) : Option (Int32 × Sg) := if i0 < 14 then (f_J0_isLatin1_aae02 (i0) σ).bind fun (q2 : Int32 × Sg) => if q2.1 = 0 then (f_J0_length_8abf5 (i0) q2.2).bind fun (q5 : Int32 × Sg) => none else (f_J0_length_8abf5 (i0) q2.2).bind fun (q7 : Int32 × Sg) => (f_J1_indexOf_4cfef (i0) x1 x2 q7.1 q7.2).bind fun (q9 : Int32 × Sg) => some (q9.1, q9.2) else none
set_option maxHeartbeats 40000000 in
set_option maxRecDepth 100000 in
theorem c_J0_indexOf_7cf53 (l : Launch) (Γ : Geo) (hG : okC Γ) (i0 : Nat) (x1 : Int32) (x2 : Int32) (σ : Sg) (r : Int32) (σ' : Sg) (hf : f_J0_indexOf_7cf53 i0 x1 x2 σ = some (r, σ')) (sz : Nat) : Met l yJ0_indexOf_7cf53 (wz yJ0_indexOf_7cf53 cJ0_indexOf_7cf53 3 (some .int)) { frames := 2, cells := 0, slots := 0, locals := 48 } (va_Pc [.ref (Γ.2.2.2.1 (i0)), .int x1, .int x2] (wPre Γ.1 vwCl (tysC Γ) (XC Γ) (alC Γ) Γ.2.2.2 σ sz)) (wQi Γ.1 vwCl (tysC Γ) (XC Γ) (alC Γ) r σ' sz) 0 0 (wA (alC Γ) sz) := by
  refine w_enter (cc := cJ0_indexOf_7cf53) (maxL := 3) (ret := (some .int)) (by decide) rfl (Nat.le_of_ble_eq_true rfl) ?_
  intro p e s m below meth c ls hx hb hr hlocks hml hown hts hsz hP hK hkc hN hl
  subst hsz
  generalize hav : ([.ref (Γ.2.2.2.1 (i0)), .int x1, .int x2] : List Value) = av at hl hts ⊢
  have hl : lv_has ls 3 [(0, .ref (Γ.2.2.2.1 (i0))), (1, .int x1), (2, .int x2)] := by rw [← hav] at hl; exact hl
  suffices hw : ∀ (H : Heap) (locs : List Loc), va_P Γ.1 vwCl (XC Γ σ) H → va_S (wA (alC Γ) s.heap.size) s.heap H locs → W p l e { frames := 2, cells := 0, slots := 0, locals := 48 } s m av.toArray below meth c H locs 0 0 (MQ below (wQi Γ.1 vwCl (tysC Γ) (XC Γ) (alC Γ) r σ' s.heap.size) av.toArray s 0 0 (wA (alC Γ) s.heap.size)) (F0 m 0 ls []) from hw _ [] hP va_S.rf
  clear hP
  intro H locs hP hS
  unfold f_J0_indexOf_7cf53 at hf
  obtain ⟨g1, hf⟩ := w_oi hf
  refine lv_aload_n hx hb dJ0_indexOf_7cf53_0 rfl (lv_at hl 0 rfl) ?_
  obtain ⟨q2, h3, hf⟩ := w_ob hf
  refine w_ci (va_runV (As := []) (rest := []) ⟨hx, hb, hml, hown, hts⟩ (c_J0_isLatin1_aae02 l Γ hG (i0) σ q2.1 q2.2 h3 H.size) (cwV 0 hts (wzV K489 K486 K487 K488 K473) rfl rfl rfl (by decide +kernel) ⟨(Nat.le_of_ble_eq_true rfl), (Nat.le_of_ble_eq_true rfl)⟩) (w_preS hK hP hkc hN hS g1) rfl rfl hl.1 rfl (lv_room (Nat.le_of_ble_eq_true rfl)) dJ0_indexOf_7cf53_1 ⟨Nat.le_refl _, Nat.le_refl _⟩) hS (fun H locs hP hS => ?_)
  refine lv_if_eq (tgt := 23) hx hb dJ0_indexOf_7cf53_4 (by decide) (fun c4 => ?_) (fun c4 => ?_)
  · replace hf := (if_pos c4).symm.trans hf
    refine lv_aload_n hx hb dJ0_indexOf_7cf53_23 rfl (lv_at hl 0 rfl) ?_
    refine vk_getf hx hb (hkc.1.1 (i0) g1).2.2.1 hS hown (hts (.fieldLink RJ0 9 "java/lang/String" "value" "[B") (wzm K475)) (fun _ h9 => h9) dJ0_indexOf_7cf53_24 ?_
    refine lv_iload_n hx hb dJ0_indexOf_7cf53_27 rfl (lv_at hl 1 rfl) ?_
    refine lv_iload_n hx hb dJ0_indexOf_7cf53_28 rfl (lv_at hl 2 rfl) ?_
    refine lv_aload_n hx hb dJ0_indexOf_7cf53_29 rfl (lv_at hl 0 rfl) ?_
    obtain ⟨q5, h6, hf⟩ := w_ob hf
    refine w_ci (va_runV (As := []) (rest := [.int x2, .int x1, .ref (Γ.2.2.2.2 (i0))]) ⟨hx, hb, hml, hown, hts⟩ (c_J0_length_8abf5 l Γ hG (i0) q2.2 q5.1 q5.2 h6 H.size) (cwV 0 hts (wzV K474 K535 K471 K472 K473) rfl rfl rfl (by decide +kernel) ⟨(Nat.le_of_ble_eq_true rfl), (Nat.le_of_ble_eq_true rfl)⟩) (w_preS hK hP hkc hN hS g1) rfl rfl hl.1 rfl (lv_room (Nat.le_of_ble_eq_true rfl)) dJ0_indexOf_7cf53_30 ⟨Nat.le_refl _, Nat.le_refl _⟩) hS (fun H locs hP hS => ?_)
    exact absurd hf (by intro h; cases h)
  · replace hf := (if_neg c4).symm.trans hf
    refine lv_aload_n hx hb dJ0_indexOf_7cf53_7 rfl (lv_at hl 0 rfl) ?_
    refine vk_getf hx hb (hkc.1.1 (i0) g1).2.2.1 hS hown (hts (.fieldLink RJ0 9 "java/lang/String" "value" "[B") (wzm K475)) (fun _ h9 => h9) dJ0_indexOf_7cf53_8 ?_
    refine lv_iload_n hx hb dJ0_indexOf_7cf53_11 rfl (lv_at hl 1 rfl) ?_
    refine lv_iload_n hx hb dJ0_indexOf_7cf53_12 rfl (lv_at hl 2 rfl) ?_
    refine lv_aload_n hx hb dJ0_indexOf_7cf53_13 rfl (lv_at hl 0 rfl) ?_
    obtain ⟨q7, h8, hf⟩ := w_ob hf
    refine w_ci (va_runV (As := []) (rest := [.int x2, .int x1, .ref (Γ.2.2.2.2 (i0))]) ⟨hx, hb, hml, hown, hts⟩ (c_J0_length_8abf5 l Γ hG (i0) q2.2 q7.1 q7.2 h8 H.size) (cwV 0 hts (wzV K474 K535 K471 K472 K473) rfl rfl rfl (by decide +kernel) ⟨(Nat.le_of_ble_eq_true rfl), (Nat.le_of_ble_eq_true rfl)⟩) (w_preS hK hP hkc hN hS g1) rfl rfl hl.1 rfl (lv_room (Nat.le_of_ble_eq_true rfl)) dJ0_indexOf_7cf53_14 ⟨Nat.le_refl _, Nat.le_refl _⟩) hS (fun H locs hP hS => ?_)
    obtain ⟨q9, h10, hf⟩ := w_ob hf
    refine w_ci (va_runS (As := [.ref (Γ.2.2.2.2 (i0)), .int x1, .int x2, .int q7.1]) (rest := []) ⟨hx, hb, hml, hown, hts⟩ (c_J1_indexOf_4cfef l Γ hG (i0) x1 x2 q7.1 q7.2 q9.1 q9.2 h10 H.size) (va_cwS 4 hts (wzS2 K538 K536 K537 K492) rfl rfl rfl (by decide +kernel) ⟨(Nat.le_of_ble_eq_true rfl), (Nat.le_of_ble_eq_true rfl)⟩) (w_pre hK hP hkc hN hS) rfl rfl hl.1 rfl (lv_room (Nat.le_of_ble_eq_true rfl)) dJ0_indexOf_7cf53_17 ⟨Nat.le_refl _, Nat.le_refl _⟩) hS (fun H locs hP hS => ?_)
    refine lv_goto (tgt := 36) hx hb dJ0_indexOf_7cf53_20 (by decide) ?_
    exact w_iret (X := XC Γ) hx hb hr hlocks hK hP hS rfl hf dJ0_indexOf_7cf53_36
def f_J0_indexOf_0f7a4 (i0 : Nat) (x1 : Int32) (σ : Sg) : Option (Int32 × Sg) := if i0 < 14 then (f_J0_indexOf_7cf53 (i0) x1 (0 : Int32) σ).bind fun (q2 : Int32 × Sg) => some (q2.1, q2.2) else none
set_option maxHeartbeats 40000000 in
set_option maxRecDepth 100000 in
theorem c_J0_indexOf_0f7a4 (l : Launch) (Γ : Geo) (hG : okC Γ) (i0 : Nat) (x1 : Int32) (σ : Sg) (r : Int32) (σ' : Sg) (hf : f_J0_indexOf_0f7a4 i0 x1 σ = some (r, σ')) (sz : Nat) : Met l yJ0_indexOf_0f7a4 (wz yJ0_indexOf_0f7a4 cJ0_indexOf_0f7a4 2 (some .int)) { frames := 3, cells := 0, slots := 0, locals := 70 } (va_Pc [.ref (Γ.2.2.2.1 (i0)), .int x1] (wPre Γ.1 vwCl (tysC Γ) (XC Γ) (alC Γ) Γ.2.2.2 σ sz)) (wQi Γ.1 vwCl (tysC Γ) (XC Γ) (alC Γ) r σ' sz) 0 0 (wA (alC Γ) sz) := by
  refine w_enter (cc := cJ0_indexOf_0f7a4) (maxL := 2) (ret := (some .int)) (by decide) rfl (Nat.le_of_ble_eq_true rfl) ?_
  intro p e s m below meth c ls hx hb hr hlocks hml hown hts hsz hP hK hkc hN hl
  subst hsz
  generalize hav : ([.ref (Γ.2.2.2.1 (i0)), .int x1] : List Value) = av at hl hts ⊢
  have hl : lv_has ls 2 [(0, .ref (Γ.2.2.2.1 (i0))), (1, .int x1)] := by rw [← hav] at hl; exact hl
  suffices hw : ∀ (H : Heap) (locs : List Loc), va_P Γ.1 vwCl (XC Γ σ) H → va_S (wA (alC Γ) s.heap.size) s.heap H locs → W p l e { frames := 3, cells := 0, slots := 0, locals := 70 } s m av.toArray below meth c H locs 0 0 (MQ below (wQi Γ.1 vwCl (tysC Γ) (XC Γ) (alC Γ) r σ' s.heap.size) av.toArray s 0 0 (wA (alC Γ) s.heap.size)) (F0 m 0 ls []) from hw _ [] hP va_S.rf
  clear hP
  intro H locs hP hS
  unfold f_J0_indexOf_0f7a4 at hf
  obtain ⟨g1, hf⟩ := w_oi hf
  refine lv_aload_n hx hb dJ0_indexOf_0f7a4_0 rfl (lv_at hl 0 rfl) ?_
  refine lv_iload_n hx hb dJ0_indexOf_0f7a4_1 rfl (lv_at hl 1 rfl) ?_
  refine lv_iconst (v := (0 : Int32)) hx hb dJ0_indexOf_0f7a4_2 (by decide) ?_
  obtain ⟨q2, h3, hf⟩ := w_ob hf
  refine w_ci (va_runV (As := [.int x1, .int (0 : Int32)]) (rest := []) ⟨hx, hb, hml, hown, hts⟩ (c_J0_indexOf_7cf53 l Γ hG (i0) x1 (0 : Int32) σ q2.1 q2.2 h3 H.size) (cwV 2 hts (wzV K534 K531 K532 K533 K473) rfl rfl rfl (by decide +kernel) ⟨(Nat.le_of_ble_eq_true rfl), (Nat.le_of_ble_eq_true rfl)⟩) (w_preS hK hP hkc hN hS g1) rfl rfl hl.1 rfl (lv_room (Nat.le_of_ble_eq_true rfl)) dJ0_indexOf_0f7a4_3 ⟨Nat.le_refl _, Nat.le_refl _⟩) hS (fun H locs hP hS => ?_)
  exact w_iret (X := XC Γ) hx hb hr hlocks hK hP hS rfl hf dJ0_indexOf_0f7a4_6
