def f_X7_isName (x0 : Int32) (σ : Sg) : Option (Int32 × Sg) := if x0 < (262 : Int32) then some ((0 : Int32), σ) else if (267 : Int32) < x0 then some ((0 : Int32), σ) else some ((1 : Int32), σ)
set_option maxHeartbeats 40000000 in
set_option maxRecDepth 100000 in
theorem c_X7_isName (l : Launch) (Γ : Geo) (hG : okC Γ) (x0 : Int32) (σ : Sg) (r : Int32) (σ' : Sg) (hf : f_X7_isName x0 σ = some (r, σ')) (sz : Nat) : Met l yX7_isName (wz yX7_isName cX7_isName 1 (some .boolean)) { frames := 0, cells := 0, slots := 0, locals := 0 } (va_Pc [.int x0] (wPre Γ.1 vwCl (tysC Γ) (XC Γ) (alC Γ) Γ.2.2.2 σ sz)) (wQi Γ.1 vwCl (tysC Γ) (XC Γ) (alC Γ) r σ' sz) 0 0 (wA (alC Γ) sz) := by
  refine w_enter (cc := cX7_isName) (maxL := 1) (ret := (some .boolean)) (by decide) rfl (Nat.le_of_ble_eq_true rfl) ?_
  intro p e s m below meth c ls hx hb hr hlocks hml hown hts hsz hP hK hkc hN hl
  subst hsz
  generalize hav : ([.int x0] : List Value) = av at hl hts ⊢
  have hl : lv_has ls 1 [(0, .int x0)] := by rw [← hav] at hl; exact hl
  suffices hw : ∀ (H : Heap) (locs : List Loc), va_P Γ.1 vwCl (XC Γ σ) H → va_S (wA (alC Γ) s.heap.size) s.heap H locs → W p l e { frames := 0, cells := 0, slots := 0, locals := 0 } s m av.toArray below meth c H locs 0 0 (MQ below (wQi Γ.1 vwCl (tysC Γ) (XC Γ) (alC Γ) r σ' s.heap.size) av.toArray s 0 0 (wA (alC Γ) s.heap.size)) (F0 m 0 ls []) from hw _ [] hP va_S.rf
  clear hP
  intro H locs hP hS
  unfold f_X7_isName at hf
  refine lv_iload_n hx hb dX7_isName_0 rfl (lv_at hl 0 rfl) ?_
  refine lv_sipush (v := (262 : Int32)) hx hb dX7_isName_1 (by decide) ?_
  refine lv_icmp_lt (tgt := 18) hx hb dX7_isName_4 (by decide) (fun c1 => ?_) (fun c1 => ?_)
  · replace hf := (if_pos c1).symm.trans hf
    refine lv_iconst (v := (0 : Int32)) hx hb dX7_isName_18 (by decide) ?_
    exact w_iret (X := XC Γ) hx hb hr hlocks hK hP hS (by decide) hf dX7_isName_19
  · replace hf := (if_neg c1).symm.trans hf
    refine lv_iload_n hx hb dX7_isName_7 rfl (lv_at hl 0 rfl) ?_
    refine lv_sipush (v := (267 : Int32)) hx hb dX7_isName_8 (by decide) ?_
    refine lv_icmp_gt (tgt := 18) hx hb dX7_isName_11 (by decide) (fun c2 => ?_) (fun c2 => ?_)
    · replace hf := (if_pos c2).symm.trans hf
      refine lv_iconst (v := (0 : Int32)) hx hb dX7_isName_18 (by decide) ?_
      exact w_iret (X := XC Γ) hx hb hr hlocks hK hP hS (by decide) hf dX7_isName_19
    · replace hf := (if_neg c2).symm.trans hf
      refine lv_iconst (v := (1 : Int32)) hx hb dX7_isName_14 (by decide) ?_
      refine lv_goto (tgt := 19) hx hb dX7_isName_15 (by decide) ?_
      exact w_iret (X := XC Γ) hx hb hr hlocks hK hP hS (by decide) hf dX7_isName_19
def f_X6_clear (i0 : Nat) (σ : Sg) : Option Sg := if i0 < 7 then some (up σ (43 + 3 * i0) 0 (0 : Int32)) else none
set_option maxHeartbeats 40000000 in
set_option maxRecDepth 100000 in
theorem c_X6_clear (l : Launch) (Γ : Geo) (hG : okC Γ) (i0 : Nat) (σ : Sg) (σ' : Sg) (hf : f_X6_clear i0 σ = some σ') (sz : Nat) : Met l yX6_clear (wz yX6_clear cX6_clear 1 none) { frames := 0, cells := 0, slots := 0, locals := 0 } (va_Pc [.ref (Γ.2.2.1 (30 + 3 * i0))] (wPre Γ.1 vwCl (tysC Γ) (XC Γ) (alC Γ) Γ.2.2.2 σ sz)) (wQv Γ.1 vwCl (tysC Γ) (XC Γ) (alC Γ) σ' sz) 0 0 (wA (alC Γ) sz) := by
  refine w_enter (cc := cX6_clear) (maxL := 1) (ret := none) (by decide) rfl (Nat.le_of_ble_eq_true rfl) ?_
  intro p e s m below meth c ls hx hb hr hlocks hml hown hts hsz hP hK hkc hN hl
  subst hsz
  generalize hav : ([.ref (Γ.2.2.1 (30 + 3 * i0))] : List Value) = av at hl hts ⊢
  have hl : lv_has ls 1 [(0, .ref (Γ.2.2.1 (30 + 3 * i0)))] := by rw [← hav] at hl; exact hl
  suffices hw : ∀ (H : Heap) (locs : List Loc), va_P Γ.1 vwCl (XC Γ σ) H → va_S (wA (alC Γ) s.heap.size) s.heap H locs → W p l e { frames := 0, cells := 0, slots := 0, locals := 0 } s m av.toArray below meth c H locs 0 0 (MQ below (wQv Γ.1 vwCl (tysC Γ) (XC Γ) (alC Γ) σ' s.heap.size) av.toArray s 0 0 (wA (alC Γ) s.heap.size)) (F0 m 0 ls []) from hw _ [] hP va_S.rf
  clear hP
  intro H locs hP hS
  unfold f_X6_clear at hf
  obtain ⟨g1, hf⟩ := w_oi hf
  refine lv_aload_n hx hb dX6_clear_0 rfl (lv_at hl 0 rfl) ?_
  refine lv_iconst (v := (0 : Int32)) hx hb dX6_clear_1 (by decide) ?_
  refine w_put (X := XC Γ) (σ' := (up σ (43 + 3 * i0) 0 (0 : Int32))) (ci := 6) (C := RX6) (T := TX6) (N := 3) (ty := .int) hx hb hts iX6 tyX6 tyX6_ok nmX6 hown hK hP (halC Γ) hG hS (30 + 3 * i0) (gC_Text Γ σ (i0) g1) rfl 2 (by decide) (hts (.fieldLink RX6 18 "OtherHalfOfNight$Text" "size" "I") (wzm K79)) (fun _ h9 => h9) rfl (by decide +kernel) rfl rfl (Nat.le_of_ble_eq_true rfl) dX6_clear_2 (sC_Text_size Γ σ (i0) g1 (0 : Int32)) (fun H locs hP hS => ?_)
  exact w_vret (X := XC Γ) hx hb hr hlocks hK hP hS hf dX6_clear_5
def f_X6_add (i0 : Nat) (x1 : Int32) (σ : Sg) : Option Sg := if i0 < 7 then if (160 : Int32) ≤ (σ (43 + 3 * i0) 0) then some σ else if okI (σ (43 + 3 * i0) 0) 160 then (some (up (up σ (44 + 3 * i0) ((σ (43 + 3 * i0) 0)).toNatClampNeg x1) (43 + 3 * i0) 0 (((up σ (44 + 3 * i0) ((σ (43 + 3 * i0) 0)).toNatClampNeg x1) (43 + 3 * i0) 0) + (1 : Int32)))).bind fun (τ4 : Sg) => some τ4 else none else none
set_option maxHeartbeats 40000000 in
set_option maxRecDepth 100000 in
theorem c_X6_add (l : Launch) (Γ : Geo) (hG : okC Γ) (i0 : Nat) (x1 : Int32) (σ : Sg) (σ' : Sg) (hf : f_X6_add i0 x1 σ = some σ') (sz : Nat) : Met l yX6_add (wz yX6_add cX6_add 2 none) { frames := 0, cells := 0, slots := 0, locals := 0 } (va_Pc [.ref (Γ.2.2.1 (30 + 3 * i0)), .int x1] (wPre Γ.1 vwCl (tysC Γ) (XC Γ) (alC Γ) Γ.2.2.2 σ sz)) (wQv Γ.1 vwCl (tysC Γ) (XC Γ) (alC Γ) σ' sz) 0 0 (wA (alC Γ) sz) := by
  refine w_enter (cc := cX6_add) (maxL := 2) (ret := none) (by decide) rfl (Nat.le_of_ble_eq_true rfl) ?_
  intro p e s m below meth c ls hx hb hr hlocks hml hown hts hsz hP hK hkc hN hl
  subst hsz
  generalize hav : ([.ref (Γ.2.2.1 (30 + 3 * i0)), .int x1] : List Value) = av at hl hts ⊢
  have hl : lv_has ls 2 [(0, .ref (Γ.2.2.1 (30 + 3 * i0))), (1, .int x1)] := by rw [← hav] at hl; exact hl
  suffices hw : ∀ (H : Heap) (locs : List Loc), va_P Γ.1 vwCl (XC Γ σ) H → va_S (wA (alC Γ) s.heap.size) s.heap H locs → W p l e { frames := 0, cells := 0, slots := 0, locals := 0 } s m av.toArray below meth c H locs 0 0 (MQ below (wQv Γ.1 vwCl (tysC Γ) (XC Γ) (alC Γ) σ' s.heap.size) av.toArray s 0 0 (wA (alC Γ) s.heap.size)) (F0 m 0 ls []) from hw _ [] hP va_S.rf
  clear hP
  intro H locs hP hS
  unfold f_X6_add at hf
  obtain ⟨g1, hf⟩ := w_oi hf
  refine lv_aload_n hx hb dX6_add_0 rfl (lv_at hl 0 rfl) ?_
  refine va_get (D := Γ.1) (ci := 6) (v := .int (σ (43 + 3 * i0) 0)) (C := RX6) (T := TX6) (N := 3) hx hb hts iX6 hown hK hP (30 + 3 * i0) (gC_Text Γ σ (i0) g1) rfl 2 (by decide) (hts (.fieldLink RX6 18 "OtherHalfOfNight$Text" "size" "I") (wzm K79)) (fun _ h9 => h9) rfl dX6_add_1 ?_
  refine lv_sipush (v := (160 : Int32)) hx hb dX6_add_4 (by decide) ?_
  refine lv_icmp_ge (tgt := 30) hx hb dX6_add_7 (by decide) (fun c2 => ?_) (fun c2 => ?_)
  · replace hf := (if_pos c2).symm.trans hf
    exact w_vret (X := XC Γ) hx hb hr hlocks hK hP hS hf dX6_add_30
  · replace hf := (if_neg c2).symm.trans hf
    refine lv_aload_n hx hb dX6_add_10 rfl (lv_at hl 0 rfl) ?_
    refine va_get (D := Γ.1) (ci := 6) (v := .ref (Γ.2.2.1 (31 + 3 * i0))) (C := RX6) (T := TX6) (N := 3) hx hb hts iX6 hown hK hP (30 + 3 * i0) (gC_Text Γ σ (i0) g1) rfl 0 (by decide) (hts (.fieldLink RX6 9 "OtherHalfOfNight$Text" "steps" "[I") (wzm K61)) (fun _ h9 => h9) rfl dX6_add_11 ?_
    refine lv_aload_n hx hb dX6_add_14 rfl (lv_at hl 0 rfl) ?_
    refine va_get (D := Γ.1) (ci := 6) (v := .int (σ (43 + 3 * i0) 0)) (C := RX6) (T := TX6) (N := 3) hx hb hts iX6 hown hK hP (30 + 3 * i0) (gC_Text Γ σ (i0) g1) rfl 2 (by decide) (hts (.fieldLink RX6 18 "OtherHalfOfNight$Text" "size" "I") (wzm K79)) (fun _ h9 => h9) rfl dX6_add_15 ?_
    refine lv_iload_n hx hb dX6_add_18 rfl (lv_at hl 1 rfl) ?_
    obtain ⟨g3, hf⟩ := w_oi hf
    refine w_iast (D := Γ.1) (tys := (tysC Γ)) (X := XC Γ) (σ' := (up σ (44 + 3 * i0) ((σ (43 + 3 * i0) 0)).toNatClampNeg x1)) hx hb hK hP (halC Γ) hG hS (31 + 3 * i0) 0 (gC_Text_steps Γ σ (i0) g1) rfl g3 dX6_add_19 (sC_Text_steps Γ σ (i0) g1 ((σ (43 + 3 * i0) 0)).toNatClampNeg x1) (fun H locs hP hS => ?_)
    refine lv_aload_n hx hb dX6_add_20 rfl (lv_at hl 0 rfl) ?_
    refine lv_dup hx hb dX6_add_21 rfl ?_
    refine va_get (D := Γ.1) (ci := 6) (v := .int ((up σ (44 + 3 * i0) ((σ (43 + 3 * i0) 0)).toNatClampNeg x1) (43 + 3 * i0) 0)) (C := RX6) (T := TX6) (N := 3) hx hb hts iX6 hown hK hP (30 + 3 * i0) (gC_Text Γ (up σ (44 + 3 * i0) ((σ (43 + 3 * i0) 0)).toNatClampNeg x1) (i0) g1) rfl 2 (by decide) (hts (.fieldLink RX6 18 "OtherHalfOfNight$Text" "size" "I") (wzm K79)) (fun _ h9 => h9) rfl dX6_add_22 ?_
    refine lv_iconst (v := (1 : Int32)) hx hb dX6_add_25 (by decide) ?_
    refine lv_iadd hx hb dX6_add_26 ?_
    refine w_put (X := XC Γ) (σ' := (up (up σ (44 + 3 * i0) ((σ (43 + 3 * i0) 0)).toNatClampNeg x1) (43 + 3 * i0) 0 (((up σ (44 + 3 * i0) ((σ (43 + 3 * i0) 0)).toNatClampNeg x1) (43 + 3 * i0) 0) + (1 : Int32)))) (ci := 6) (C := RX6) (T := TX6) (N := 3) (ty := .int) hx hb hts iX6 tyX6 tyX6_ok nmX6 hown hK hP (halC Γ) hG hS (30 + 3 * i0) (gC_Text Γ (up σ (44 + 3 * i0) ((σ (43 + 3 * i0) 0)).toNatClampNeg x1) (i0) g1) rfl 2 (by decide) (hts (.fieldLink RX6 18 "OtherHalfOfNight$Text" "size" "I") (wzm K79)) (fun _ h9 => h9) rfl (by decide +kernel) rfl rfl (Nat.le_of_ble_eq_true rfl) dX6_add_27 (sC_Text_size Γ (up σ (44 + 3 * i0) ((σ (43 + 3 * i0) 0)).toNatClampNeg x1) (i0) g1 (((up σ (44 + 3 * i0) ((σ (43 + 3 * i0) 0)).toNatClampNeg x1) (43 + 3 * i0) 0) + (1 : Int32))) (fun H locs hP hS => ?_)
    obtain ⟨τ4, e5, hf⟩ := w_ob hf
    replace e5 := Option.some.inj e5
    rw [e5] at hP
    exact w_vret (X := XC Γ) hx hb hr hlocks hK hP hS hf dX6_add_30
def f_X6_endPart (i0 : Nat) (x1 : Int32) (σ : Sg) : Option Sg := if i0 < 7 then if x1 < 0 then some σ else if (3 : Int32) ≤ x1 then some σ else if okI x1 3 then some (up σ (45 + 3 * i0) (x1).toNatClampNeg (σ (43 + 3 * i0) 0)) else none else none
set_option maxHeartbeats 40000000 in
set_option maxRecDepth 100000 in
theorem c_X6_endPart (l : Launch) (Γ : Geo) (hG : okC Γ) (i0 : Nat) (x1 : Int32) (σ : Sg) (σ' : Sg) (hf : f_X6_endPart i0 x1 σ = some σ') (sz : Nat) : Met l yX6_endPart (wz yX6_endPart cX6_endPart 2 none) { frames := 0, cells := 0, slots := 0, locals := 0 } (va_Pc [.ref (Γ.2.2.1 (30 + 3 * i0)), .int x1] (wPre Γ.1 vwCl (tysC Γ) (XC Γ) (alC Γ) Γ.2.2.2 σ sz)) (wQv Γ.1 vwCl (tysC Γ) (XC Γ) (alC Γ) σ' sz) 0 0 (wA (alC Γ) sz) := by
  refine w_enter (cc := cX6_endPart) (maxL := 2) (ret := none) (by decide) rfl (Nat.le_of_ble_eq_true rfl) ?_
  intro p e s m below meth c ls hx hb hr hlocks hml hown hts hsz hP hK hkc hN hl
  subst hsz
  generalize hav : ([.ref (Γ.2.2.1 (30 + 3 * i0)), .int x1] : List Value) = av at hl hts ⊢
  have hl : lv_has ls 2 [(0, .ref (Γ.2.2.1 (30 + 3 * i0))), (1, .int x1)] := by rw [← hav] at hl; exact hl
  suffices hw : ∀ (H : Heap) (locs : List Loc), va_P Γ.1 vwCl (XC Γ σ) H → va_S (wA (alC Γ) s.heap.size) s.heap H locs → W p l e { frames := 0, cells := 0, slots := 0, locals := 0 } s m av.toArray below meth c H locs 0 0 (MQ below (wQv Γ.1 vwCl (tysC Γ) (XC Γ) (alC Γ) σ' s.heap.size) av.toArray s 0 0 (wA (alC Γ) s.heap.size)) (F0 m 0 ls []) from hw _ [] hP va_S.rf
  clear hP
  intro H locs hP hS
  unfold f_X6_endPart at hf
  obtain ⟨g1, hf⟩ := w_oi hf
  refine lv_iload_n hx hb dX6_endPart_0 rfl (lv_at hl 1 rfl) ?_
  refine lv_if_lt (tgt := 19) hx hb dX6_endPart_1 (by decide) (fun c2 => ?_) (fun c2 => ?_)
  · replace hf := (if_pos c2).symm.trans hf
    exact w_vret (X := XC Γ) hx hb hr hlocks hK hP hS hf dX6_endPart_19
  · replace hf := (if_neg c2).symm.trans hf
    refine lv_iload_n hx hb dX6_endPart_4 rfl (lv_at hl 1 rfl) ?_
    refine lv_iconst (v := (3 : Int32)) hx hb dX6_endPart_5 (by decide) ?_
    refine lv_icmp_ge (tgt := 19) hx hb dX6_endPart_6 (by decide) (fun c3 => ?_) (fun c3 => ?_)
    · replace hf := (if_pos c3).symm.trans hf
      exact w_vret (X := XC Γ) hx hb hr hlocks hK hP hS hf dX6_endPart_19
    · replace hf := (if_neg c3).symm.trans hf
      refine lv_aload_n hx hb dX6_endPart_9 rfl (lv_at hl 0 rfl) ?_
      refine va_get (D := Γ.1) (ci := 6) (v := .ref (Γ.2.2.1 (32 + 3 * i0))) (C := RX6) (T := TX6) (N := 3) hx hb hts iX6 hown hK hP (30 + 3 * i0) (gC_Text Γ σ (i0) g1) rfl 1 (by decide) (hts (.fieldLink RX6 15 "OtherHalfOfNight$Text" "ends" "[I") (wzm K62)) (fun _ h9 => h9) rfl dX6_endPart_10 ?_
      refine lv_iload_n hx hb dX6_endPart_13 rfl (lv_at hl 1 rfl) ?_
      refine lv_aload_n hx hb dX6_endPart_14 rfl (lv_at hl 0 rfl) ?_
      refine va_get (D := Γ.1) (ci := 6) (v := .int (σ (43 + 3 * i0) 0)) (C := RX6) (T := TX6) (N := 3) hx hb hts iX6 hown hK hP (30 + 3 * i0) (gC_Text Γ σ (i0) g1) rfl 2 (by decide) (hts (.fieldLink RX6 18 "OtherHalfOfNight$Text" "size" "I") (wzm K79)) (fun _ h9 => h9) rfl dX6_endPart_15 ?_
      obtain ⟨g4, hf⟩ := w_oi hf
      refine w_iast (D := Γ.1) (tys := (tysC Γ)) (X := XC Γ) (σ' := (up σ (45 + 3 * i0) (x1).toNatClampNeg (σ (43 + 3 * i0) 0))) hx hb hK hP (halC Γ) hG hS (32 + 3 * i0) 0 (gC_Text_ends Γ σ (i0) g1) rfl g4 dX6_endPart_18 (sC_Text_ends Γ σ (i0) g1 (x1).toNatClampNeg (σ (43 + 3 * i0) 0)) (fun H locs hP hS => ?_)
      exact w_vret (X := XC Γ) hx hb hr hlocks hK hP hS hf dX6_endPart_19
def f_X6_named (x0 : Int32) (i1 : Nat) (x2 : Int32) (x3 : Int32) (σ : Sg) : Option (Int32 × Sg) := if i1 < 3 then if x0 = 262 then if okI x2 5 then some ((σ (11 * i1 + 6) (x2).toNatClampNeg), σ) else none else if x0 = 263 then if okI x2 5 then some ((σ (11 * i1 + 5) (x2).toNatClampNeg), σ) else none else if x0 = 264 then some ((σ (11 * i1) 0), σ) else if x0 = 265 then if okI x2 5 then some ((σ (11 * i1 + 7) (x2).toNatClampNeg), σ) else none else if x0 = 266 then some (x3, σ) else some ((σ (11 * i1 + 1) 0), σ) else none
set_option maxHeartbeats 40000000 in
set_option maxRecDepth 100000 in
theorem c_X6_named (l : Launch) (Γ : Geo) (hG : okC Γ) (x0 : Int32) (i1 : Nat) (x2 : Int32) (x3 : Int32) (σ : Sg) (r : Int32) (σ' : Sg) (hf : f_X6_named x0 i1 x2 x3 σ = some (r, σ')) (sz : Nat) : Met l yX6_named (wz yX6_named cX6_named 4 (some .int)) { frames := 0, cells := 0, slots := 0, locals := 0 } (va_Pc [.int x0, .ref (Γ.2.2.1 (1 + 8 * i1)), .int x2, .int x3] (wPre Γ.1 vwCl (tysC Γ) (XC Γ) (alC Γ) Γ.2.2.2 σ sz)) (wQi Γ.1 vwCl (tysC Γ) (XC Γ) (alC Γ) r σ' sz) 0 0 (wA (alC Γ) sz) := by
  refine w_enter (cc := cX6_named) (maxL := 4) (ret := (some .int)) (by decide) rfl (Nat.le_of_ble_eq_true rfl) ?_
  intro p e s m below meth c ls hx hb hr hlocks hml hown hts hsz hP hK hkc hN hl
  subst hsz
  generalize hav : ([.int x0, .ref (Γ.2.2.1 (1 + 8 * i1)), .int x2, .int x3] : List Value) = av at hl hts ⊢
  have hl : lv_has ls 4 [(0, .int x0), (1, .ref (Γ.2.2.1 (1 + 8 * i1))), (2, .int x2), (3, .int x3)] := by rw [← hav] at hl; exact hl
  suffices hw : ∀ (H : Heap) (locs : List Loc), va_P Γ.1 vwCl (XC Γ σ) H → va_S (wA (alC Γ) s.heap.size) s.heap H locs → W p l e { frames := 0, cells := 0, slots := 0, locals := 0 } s m av.toArray below meth c H locs 0 0 (MQ below (wQi Γ.1 vwCl (tysC Γ) (XC Γ) (alC Γ) r σ' s.heap.size) av.toArray s 0 0 (wA (alC Γ) s.heap.size)) (F0 m 0 ls []) from hw _ [] hP va_S.rf
  clear hP
  intro H locs hP hS
  unfold f_X6_named at hf
  obtain ⟨g1, hf⟩ := w_oi hf
  refine lv_iload_n hx hb dX6_named_0 rfl (lv_at hl 0 rfl) ?_
  by_cases c2 : x0 = 262
  · replace hf := (if_pos c2).symm.trans hf
    refine lv_tableIn (off := 35) (tgt := 36) hx hb dX6_named_1 (by rw [c2]; decide) (by rw [c2]; decide) (by rw [c2]; rfl) (by decide) ?_
    refine lv_aload_n hx hb dX6_named_36 rfl (lv_at hl 1 rfl) ?_
    refine va_get (D := Γ.1) (ci := 1) (v := .ref (Γ.2.2.1 (4 + 8 * i1))) (C := RX1) (T := TX1) (N := 11) hx hb hts iX1 hown hK hP (1 + 8 * i1) (gC_House Γ σ (i1) g1) rfl 6 (by decide) (hts (.fieldLink RX6 55 "OtherHalfOfNight$House" "trouble" "[I") (wzm K360)) (fun _ h9 => h9) rfl dX6_named_37 ?_
    refine lv_iload_n hx hb dX6_named_40 rfl (lv_at hl 2 rfl) ?_
    obtain ⟨g3, hf⟩ := w_oi hf
    refine va_iald (D := Γ.1) (tys := (tysC Γ)) hx hb hK hP (4 + 8 * i1) 0 (gC_House_trouble Γ σ (i1) g1) rfl g3 dX6_named_41 ?_
    exact w_iret (X := XC Γ) hx hb hr hlocks hK hP hS rfl hf dX6_named_42
  · replace hf := (if_neg c2).symm.trans hf
    by_cases c4 : x0 = 263
    · replace hf := (if_pos c4).symm.trans hf
      refine lv_tableIn (off := 42) (tgt := 43) hx hb dX6_named_1 (by rw [c4]; decide) (by rw [c4]; decide) (by rw [c4]; rfl) (by decide) ?_
      refine lv_aload_n hx hb dX6_named_43 rfl (lv_at hl 1 rfl) ?_
      refine va_get (D := Γ.1) (ci := 1) (v := .ref (Γ.2.2.1 (3 + 8 * i1))) (C := RX1) (T := TX1) (N := 11) hx hb hts iX1 hown hK hP (1 + 8 * i1) (gC_House Γ σ (i1) g1) rfl 5 (by decide) (hts (.fieldLink RX6 58 "OtherHalfOfNight$House" "number" "[I") (wzm K361)) (fun _ h9 => h9) rfl dX6_named_44 ?_
      refine lv_iload_n hx hb dX6_named_47 rfl (lv_at hl 2 rfl) ?_
      obtain ⟨g5, hf⟩ := w_oi hf
      refine va_iald (D := Γ.1) (tys := (tysC Γ)) hx hb hK hP (3 + 8 * i1) 0 (gC_House_number Γ σ (i1) g1) rfl g5 dX6_named_48 ?_
      exact w_iret (X := XC Γ) hx hb hr hlocks hK hP hS rfl hf dX6_named_49
    · replace hf := (if_neg c4).symm.trans hf
      by_cases c6 : x0 = 264
      · replace hf := (if_pos c6).symm.trans hf
        refine lv_tableIn (off := 49) (tgt := 50) hx hb dX6_named_1 (by rw [c6]; decide) (by rw [c6]; decide) (by rw [c6]; rfl) (by decide) ?_
        refine lv_aload_n hx hb dX6_named_50 rfl (lv_at hl 1 rfl) ?_
        refine va_get (D := Γ.1) (ci := 1) (v := .int (σ (11 * i1) 0)) (C := RX1) (T := TX1) (N := 11) hx hb hts iX1 hown hK hP (1 + 8 * i1) (gC_House Γ σ (i1) g1) rfl 0 (by decide) (hts (.fieldLink RX6 61 "OtherHalfOfNight$House" "night" "I") (wzm K362)) (fun _ h9 => h9) rfl dX6_named_51 ?_
        exact w_iret (X := XC Γ) hx hb hr hlocks hK hP hS rfl hf dX6_named_54
      · replace hf := (if_neg c6).symm.trans hf
        by_cases c7 : x0 = 265
        · replace hf := (if_pos c7).symm.trans hf
          refine lv_tableIn (off := 54) (tgt := 55) hx hb dX6_named_1 (by rw [c7]; decide) (by rw [c7]; decide) (by rw [c7]; rfl) (by decide) ?_
          refine lv_aload_n hx hb dX6_named_55 rfl (lv_at hl 1 rfl) ?_
          refine va_get (D := Γ.1) (ci := 1) (v := .ref (Γ.2.2.1 (5 + 8 * i1))) (C := RX1) (T := TX1) (N := 11) hx hb hts iX1 hown hK hP (1 + 8 * i1) (gC_House Γ σ (i1) g1) rfl 7 (by decide) (hts (.fieldLink RX6 64 "OtherHalfOfNight$House" "news" "[I") (wzm K363)) (fun _ h9 => h9) rfl dX6_named_56 ?_
          refine lv_iload_n hx hb dX6_named_59 rfl (lv_at hl 2 rfl) ?_
          obtain ⟨g8, hf⟩ := w_oi hf
          refine va_iald (D := Γ.1) (tys := (tysC Γ)) hx hb hK hP (5 + 8 * i1) 0 (gC_House_news Γ σ (i1) g1) rfl g8 dX6_named_60 ?_
          exact w_iret (X := XC Γ) hx hb hr hlocks hK hP hS rfl hf dX6_named_61
        · replace hf := (if_neg c7).symm.trans hf
          by_cases c9 : x0 = 266
          · replace hf := (if_pos c9).symm.trans hf
            refine lv_tableIn (off := 61) (tgt := 62) hx hb dX6_named_1 (by rw [c9]; decide) (by rw [c9]; decide) (by rw [c9]; rfl) (by decide) ?_
            refine lv_iload_n hx hb dX6_named_62 rfl (lv_at hl 3 rfl) ?_
            exact w_iret (X := XC Γ) hx hb hr hlocks hK hP hS rfl hf dX6_named_63
          · replace hf := (if_neg c9).symm.trans hf
            have nc2 : ¬ (x0).toInt = 262 := fun q => c2 (Int32.toInt_inj.mp q)
            have nc4 : ¬ (x0).toInt = 263 := fun q => c4 (Int32.toInt_inj.mp q)
            have nc6 : ¬ (x0).toInt = 264 := fun q => c6 (Int32.toInt_inj.mp q)
            have nc7 : ¬ (x0).toInt = 265 := fun q => c7 (Int32.toInt_inj.mp q)
            have nc9 : ¬ (x0).toInt = 266 := fun q => c9 (Int32.toInt_inj.mp q)
            refine lv_tableOut (tgt := 64) hx hb dX6_named_1 (by omega) (by decide) ?_
            refine lv_aload_n hx hb dX6_named_64 rfl (lv_at hl 1 rfl) ?_
            refine va_get (D := Γ.1) (ci := 1) (v := .int (σ (11 * i1 + 1) 0)) (C := RX1) (T := TX1) (N := 11) hx hb hts iX1 hown hK hP (1 + 8 * i1) (gC_House Γ σ (i1) g1) rfl 1 (by decide) (hts (.fieldLink RX6 67 "OtherHalfOfNight$House" "hour" "I") (wzm K364)) (fun _ h9 => h9) rfl dX6_named_65 ?_
            exact w_iret (X := XC Γ) hx hb hr hlocks hK hP hS rfl hf dX6_named_68
def f_X6_ofOne (x0 : Int32) (x1 : Int32) (σ : Sg) : Option (Int32 × Sg) := if x0 = (-271 : Int32) then some ((-x1), σ) else if x1 = 0 then some ((1 : Int32), σ) else some ((0 : Int32), σ)
set_option maxHeartbeats 40000000 in
set_option maxRecDepth 100000 in
theorem c_X6_ofOne (l : Launch) (Γ : Geo) (hG : okC Γ) (x0 : Int32) (x1 : Int32) (σ : Sg) (r : Int32) (σ' : Sg) (hf : f_X6_ofOne x0 x1 σ = some (r, σ')) (sz : Nat) : Met l yX6_ofOne (wz yX6_ofOne cX6_ofOne 2 (some .int)) { frames := 0, cells := 0, slots := 0, locals := 0 } (va_Pc [.int x0, .int x1] (wPre Γ.1 vwCl (tysC Γ) (XC Γ) (alC Γ) Γ.2.2.2 σ sz)) (wQi Γ.1 vwCl (tysC Γ) (XC Γ) (alC Γ) r σ' sz) 0 0 (wA (alC Γ) sz) := by
  refine w_enter (cc := cX6_ofOne) (maxL := 2) (ret := (some .int)) (by decide) rfl (Nat.le_of_ble_eq_true rfl) ?_
  intro p e s m below meth c ls hx hb hr hlocks hml hown hts hsz hP hK hkc hN hl
  subst hsz
  generalize hav : ([.int x0, .int x1] : List Value) = av at hl hts ⊢
  have hl : lv_has ls 2 [(0, .int x0), (1, .int x1)] := by rw [← hav] at hl; exact hl
  suffices hw : ∀ (H : Heap) (locs : List Loc), va_P Γ.1 vwCl (XC Γ σ) H → va_S (wA (alC Γ) s.heap.size) s.heap H locs → W p l e { frames := 0, cells := 0, slots := 0, locals := 0 } s m av.toArray below meth c H locs 0 0 (MQ below (wQi Γ.1 vwCl (tysC Γ) (XC Γ) (alC Γ) r σ' s.heap.size) av.toArray s 0 0 (wA (alC Γ) s.heap.size)) (F0 m 0 ls []) from hw _ [] hP va_S.rf
  clear hP
  intro H locs hP hS
  unfold f_X6_ofOne at hf
  refine lv_iload_n hx hb dX6_ofOne_0 rfl (lv_at hl 0 rfl) ?_
  refine lv_sipush (v := (-271 : Int32)) hx hb dX6_ofOne_1 (by decide) ?_
  refine lv_icmp_ne (tgt := 12) hx hb dX6_ofOne_4 (by decide) (fun c1 => ?_) (fun c1 => ?_)
  · replace hf := (if_neg c1).symm.trans hf
    refine lv_iload_n hx hb dX6_ofOne_12 rfl (lv_at hl 1 rfl) ?_
    refine lv_if_ne (tgt := 20) hx hb dX6_ofOne_13 (by decide) (fun c2 => ?_) (fun c2 => ?_)
    · replace hf := (if_neg c2).symm.trans hf
      refine lv_iconst (v := (0 : Int32)) hx hb dX6_ofOne_20 (by decide) ?_
      exact w_iret (X := XC Γ) hx hb hr hlocks hK hP hS rfl hf dX6_ofOne_21
    · replace hf := (if_pos c2).symm.trans hf
      refine lv_iconst (v := (1 : Int32)) hx hb dX6_ofOne_16 (by decide) ?_
      refine lv_goto (tgt := 21) hx hb dX6_ofOne_17 (by decide) ?_
      exact w_iret (X := XC Γ) hx hb hr hlocks hK hP hS rfl hf dX6_ofOne_21
  · replace hf := (if_pos c1).symm.trans hf
    refine lv_iload_n hx hb dX6_ofOne_7 rfl (lv_at hl 1 rfl) ?_
    refine lv_ineg hx hb dX6_ofOne_8 ?_
    refine lv_goto (tgt := 21) hx hb dX6_ofOne_9 (by decide) ?_
    exact w_iret (X := XC Γ) hx hb hr hlocks hK hP hS rfl hf dX6_ofOne_21
def f_X6_ofTwo (x0 : Int32) (x1 : Int32) (x2 : Int32) (σ : Sg) : Option (Int32 × Sg) := if x0 = 42 then some ((x1 * x2), σ) else if x0 = 43 then some ((x1 + x2), σ) else if x0 = 45 then some ((x1 - x2), σ) else if x0 = 60 then if x2 ≤ x1 then some ((0 : Int32), σ) else some ((1 : Int32), σ) else if x0 = 61 then if x1 = x2 then some ((1 : Int32), σ) else some ((0 : Int32), σ) else if x0 = 260 then if x1 = 0 then some ((0 : Int32), σ) else if x2 = 0 then some ((0 : Int32), σ) else some ((1 : Int32), σ) else if x1 = 0 then if x2 = 0 then some ((0 : Int32), σ) else some ((1 : Int32), σ) else some ((1 : Int32), σ)
set_option maxHeartbeats 40000000 in
set_option maxRecDepth 100000 in
theorem c_X6_ofTwo (l : Launch) (Γ : Geo) (hG : okC Γ) (x0 : Int32) (x1 : Int32) (x2 : Int32) (σ : Sg) (r : Int32) (σ' : Sg) (hf : f_X6_ofTwo x0 x1 x2 σ = some (r, σ')) (sz : Nat) : Met l yX6_ofTwo (wz yX6_ofTwo cX6_ofTwo 3 (some .int)) { frames := 0, cells := 0, slots := 0, locals := 0 } (va_Pc [.int x0, .int x1, .int x2] (wPre Γ.1 vwCl (tysC Γ) (XC Γ) (alC Γ) Γ.2.2.2 σ sz)) (wQi Γ.1 vwCl (tysC Γ) (XC Γ) (alC Γ) r σ' sz) 0 0 (wA (alC Γ) sz) := by
  refine w_enter (cc := cX6_ofTwo) (maxL := 3) (ret := (some .int)) (by decide) rfl (Nat.le_of_ble_eq_true rfl) ?_
  intro p e s m below meth c ls hx hb hr hlocks hml hown hts hsz hP hK hkc hN hl
  subst hsz
  generalize hav : ([.int x0, .int x1, .int x2] : List Value) = av at hl hts ⊢
  have hl : lv_has ls 3 [(0, .int x0), (1, .int x1), (2, .int x2)] := by rw [← hav] at hl; exact hl
  suffices hw : ∀ (H : Heap) (locs : List Loc), va_P Γ.1 vwCl (XC Γ σ) H → va_S (wA (alC Γ) s.heap.size) s.heap H locs → W p l e { frames := 0, cells := 0, slots := 0, locals := 0 } s m av.toArray below meth c H locs 0 0 (MQ below (wQi Γ.1 vwCl (tysC Γ) (XC Γ) (alC Γ) r σ' s.heap.size) av.toArray s 0 0 (wA (alC Γ) s.heap.size)) (F0 m 0 ls []) from hw _ [] hP va_S.rf
  clear hP
  intro H locs hP hS
  unfold f_X6_ofTwo at hf
  refine lv_iload_n hx hb dX6_ofTwo_0 rfl (lv_at hl 0 rfl) ?_
  by_cases c1 : x0 = 42
  · replace hf := (if_pos c1).symm.trans hf
    refine lv_lookup (off := 67) (tgt := 68) hx hb dX6_ofTwo_1 (by decide) (by rw [c1]; decide) (by decide) ?_
    refine lv_iload_n hx hb dX6_ofTwo_68 rfl (lv_at hl 1 rfl) ?_
    refine lv_iload_n hx hb dX6_ofTwo_69 rfl (lv_at hl 2 rfl) ?_
    refine lv_imul hx hb dX6_ofTwo_70 ?_
    exact w_iret (X := XC Γ) hx hb hr hlocks hK hP hS rfl hf dX6_ofTwo_71
  · replace hf := (if_neg c1).symm.trans hf
    by_cases c2 : x0 = 43
    · replace hf := (if_pos c2).symm.trans hf
      refine lv_lookup (off := 59) (tgt := 60) hx hb dX6_ofTwo_1 (by decide) (by rw [c2]; decide) (by decide) ?_
      refine lv_iload_n hx hb dX6_ofTwo_60 rfl (lv_at hl 1 rfl) ?_
      refine lv_iload_n hx hb dX6_ofTwo_61 rfl (lv_at hl 2 rfl) ?_
      refine lv_iadd hx hb dX6_ofTwo_62 ?_
      exact w_iret (X := XC Γ) hx hb hr hlocks hK hP hS rfl hf dX6_ofTwo_63
    · replace hf := (if_neg c2).symm.trans hf
      by_cases c3 : x0 = 45
      · replace hf := (if_pos c3).symm.trans hf
        refine lv_lookup (off := 63) (tgt := 64) hx hb dX6_ofTwo_1 (by decide) (by rw [c3]; decide) (by decide) ?_
        refine lv_iload_n hx hb dX6_ofTwo_64 rfl (lv_at hl 1 rfl) ?_
        refine lv_iload_n hx hb dX6_ofTwo_65 rfl (lv_at hl 2 rfl) ?_
        refine lv_isub hx hb dX6_ofTwo_66 ?_
        exact w_iret (X := XC Γ) hx hb hr hlocks hK hP hS rfl hf dX6_ofTwo_67
      · replace hf := (if_neg c3).symm.trans hf
        by_cases c4 : x0 = 60
        · replace hf := (if_pos c4).symm.trans hf
          refine lv_lookup (off := 71) (tgt := 72) hx hb dX6_ofTwo_1 (by decide) (by rw [c4]; decide) (by decide) ?_
          refine lv_iload_n hx hb dX6_ofTwo_72 rfl (lv_at hl 1 rfl) ?_
          refine lv_iload_n hx hb dX6_ofTwo_73 rfl (lv_at hl 2 rfl) ?_
          refine lv_icmp_ge (tgt := 81) hx hb dX6_ofTwo_74 (by decide) (fun c5 => ?_) (fun c5 => ?_)
          · replace hf := (if_pos c5).symm.trans hf
            refine lv_iconst (v := (0 : Int32)) hx hb dX6_ofTwo_81 (by decide) ?_
            exact w_iret (X := XC Γ) hx hb hr hlocks hK hP hS rfl hf dX6_ofTwo_82
          · replace hf := (if_neg c5).symm.trans hf
            refine lv_iconst (v := (1 : Int32)) hx hb dX6_ofTwo_77 (by decide) ?_
            refine lv_goto (tgt := 82) hx hb dX6_ofTwo_78 (by decide) ?_
            exact w_iret (X := XC Γ) hx hb hr hlocks hK hP hS rfl hf dX6_ofTwo_82
        · replace hf := (if_neg c4).symm.trans hf
          by_cases c6 : x0 = 61
          · replace hf := (if_pos c6).symm.trans hf
            refine lv_lookup (off := 82) (tgt := 83) hx hb dX6_ofTwo_1 (by decide) (by rw [c6]; decide) (by decide) ?_
            refine lv_iload_n hx hb dX6_ofTwo_83 rfl (lv_at hl 1 rfl) ?_
            refine lv_iload_n hx hb dX6_ofTwo_84 rfl (lv_at hl 2 rfl) ?_
            refine lv_icmp_ne (tgt := 92) hx hb dX6_ofTwo_85 (by decide) (fun c7 => ?_) (fun c7 => ?_)
            · replace hf := (if_neg c7).symm.trans hf
              refine lv_iconst (v := (0 : Int32)) hx hb dX6_ofTwo_92 (by decide) ?_
              exact w_iret (X := XC Γ) hx hb hr hlocks hK hP hS rfl hf dX6_ofTwo_93
            · replace hf := (if_pos c7).symm.trans hf
              refine lv_iconst (v := (1 : Int32)) hx hb dX6_ofTwo_88 (by decide) ?_
              refine lv_goto (tgt := 93) hx hb dX6_ofTwo_89 (by decide) ?_
              exact w_iret (X := XC Γ) hx hb hr hlocks hK hP hS rfl hf dX6_ofTwo_93
          · replace hf := (if_neg c6).symm.trans hf
            by_cases c8 : x0 = 260
            · replace hf := (if_pos c8).symm.trans hf
              refine lv_lookup (off := 93) (tgt := 94) hx hb dX6_ofTwo_1 (by decide) (by rw [c8]; decide) (by decide) ?_
              refine lv_iload_n hx hb dX6_ofTwo_94 rfl (lv_at hl 1 rfl) ?_
              refine lv_if_eq (tgt := 106) hx hb dX6_ofTwo_95 (by decide) (fun c9 => ?_) (fun c9 => ?_)
              · replace hf := (if_pos c9).symm.trans hf
                refine lv_iconst (v := (0 : Int32)) hx hb dX6_ofTwo_106 (by decide) ?_
                exact w_iret (X := XC Γ) hx hb hr hlocks hK hP hS rfl hf dX6_ofTwo_107
              · replace hf := (if_neg c9).symm.trans hf
                refine lv_iload_n hx hb dX6_ofTwo_98 rfl (lv_at hl 2 rfl) ?_
                refine lv_if_eq (tgt := 106) hx hb dX6_ofTwo_99 (by decide) (fun c10 => ?_) (fun c10 => ?_)
                · replace hf := (if_pos c10).symm.trans hf
                  refine lv_iconst (v := (0 : Int32)) hx hb dX6_ofTwo_106 (by decide) ?_
                  exact w_iret (X := XC Γ) hx hb hr hlocks hK hP hS rfl hf dX6_ofTwo_107
                · replace hf := (if_neg c10).symm.trans hf
                  refine lv_iconst (v := (1 : Int32)) hx hb dX6_ofTwo_102 (by decide) ?_
                  refine lv_goto (tgt := 107) hx hb dX6_ofTwo_103 (by decide) ?_
                  exact w_iret (X := XC Γ) hx hb hr hlocks hK hP hS rfl hf dX6_ofTwo_107
            · replace hf := (if_neg c8).symm.trans hf
              have nc1 : ¬ 42 = (x0).toInt := fun q => c1 (Int32.toInt_inj.mp q.symm)
              have nc2 : ¬ 43 = (x0).toInt := fun q => c2 (Int32.toInt_inj.mp q.symm)
              have nc3 : ¬ 45 = (x0).toInt := fun q => c3 (Int32.toInt_inj.mp q.symm)
              have nc4 : ¬ 60 = (x0).toInt := fun q => c4 (Int32.toInt_inj.mp q.symm)
              have nc6 : ¬ 61 = (x0).toInt := fun q => c6 (Int32.toInt_inj.mp q.symm)
              have nc8 : ¬ 260 = (x0).toInt := fun q => c8 (Int32.toInt_inj.mp q.symm)
              refine lv_lookup (off := 107) (tgt := 108) hx hb dX6_ofTwo_1 (by decide) (by simp [Op.lookupswitch.offset, nc1, nc2, nc3, nc4, nc6, nc8]) (by decide) ?_
              refine lv_iload_n hx hb dX6_ofTwo_108 rfl (lv_at hl 1 rfl) ?_
              refine lv_if_ne (tgt := 116) hx hb dX6_ofTwo_109 (by decide) (fun c11 => ?_) (fun c11 => ?_)
              · replace hf := (if_neg c11).symm.trans hf
                refine lv_iconst (v := (1 : Int32)) hx hb dX6_ofTwo_116 (by decide) ?_
                refine lv_goto (tgt := 121) hx hb dX6_ofTwo_117 (by decide) ?_
                exact w_iret (X := XC Γ) hx hb hr hlocks hK hP hS rfl hf dX6_ofTwo_121
              · replace hf := (if_pos c11).symm.trans hf
                refine lv_iload_n hx hb dX6_ofTwo_112 rfl (lv_at hl 2 rfl) ?_
                refine lv_if_eq (tgt := 120) hx hb dX6_ofTwo_113 (by decide) (fun c12 => ?_) (fun c12 => ?_)
                · replace hf := (if_pos c12).symm.trans hf
                  refine lv_iconst (v := (0 : Int32)) hx hb dX6_ofTwo_120 (by decide) ?_
                  exact w_iret (X := XC Γ) hx hb hr hlocks hK hP hS rfl hf dX6_ofTwo_121
                · replace hf := (if_neg c12).symm.trans hf
                  refine lv_iconst (v := (1 : Int32)) hx hb dX6_ofTwo_116 (by decide) ?_
                  refine lv_goto (tgt := 121) hx hb dX6_ofTwo_117 (by decide) ?_
                  exact w_iret (X := XC Γ) hx hb hr hlocks hK hP hS rfl hf dX6_ofTwo_121
def f_X6_value_136 (k48 : Int32 → Int32 → Sg → Option (Int32 × Sg)) (i0 : Nat) (x1 : Int32) (i2 : Nat) (x3 : Int32) (x4 : Int32) (y6 : Int32) (y7 : Int32) (y8 : Int32) (τ : Sg) : Option (Int32 × Sg) := if i0 < 7 then if i2 < 3 then if y6 < (1 : Int32) then k48 (y6) ((y7 + (1 : Int32))) τ else if okI (y6 - (1 : Int32)) 32 then (f_X6_ofOne y8 (τ (42) ((y6 - (1 : Int32))).toNatClampNeg) τ).bind fun (q41 : Int32 × Sg) => if okI (y6 - (1 : Int32)) 32 then k48 (y6) ((y7 + (1 : Int32))) (up q41.2 (42) ((y6 - (1 : Int32))).toNatClampNeg q41.1) else none else none else none else none
def f_X6_value_82 (k48 : Int32 → Int32 → Sg → Option (Int32 × Sg)) (i0 : Nat) (x1 : Int32) (i2 : Nat) (x3 : Int32) (x4 : Int32) (y6 : Int32) (y7 : Int32) (y8 : Int32) (τ : Sg) : Option (Int32 × Sg) := if i0 < 7 then if i2 < 3 then if (32 : Int32) ≤ y6 then k48 (y6) ((y7 + (1 : Int32))) τ else if y8 < 0 then (f_X6_named (-y8) (i2) x3 x4 τ).bind fun (q33 : Int32 × Sg) => if okI y6 32 then k48 ((y6 + (1 : Int32))) ((y7 + (1 : Int32))) (up q33.2 (42) (y6).toNatClampNeg q33.1) else none else if okI y6 32 then k48 ((y6 + (1 : Int32))) ((y7 + (1 : Int32))) (up τ (42) (y6).toNatClampNeg y8) else none else none else none
def f_X6_value_48 (i0 : Nat) (x1 : Int32) (i2 : Nat) (x3 : Int32) (x4 : Int32) : Nat → Int32 → Int32 → Sg → Option (Int32 × Sg)
  | 0, _, _, _ => none
  | n + 1, y6, y7, τ => if i0 < 7 then if i2 < 3 then if okI x1 3 then if (τ (45 + 3 * i0) (x1).toNatClampNeg) ≤ y7 then if y6 = (1 : Int32) then some ((τ (42) ((0 : Int32)).toNatClampNeg), τ) else some ((0 : Int32), τ) else if okI y7 160 then if 0 ≤ (τ (44 + 3 * i0) (y7).toNatClampNeg) then f_X6_value_82 (f_X6_value_48 i0 x1 i2 x3 x4 n) i0 x1 i2 x3 x4 (y6) (y7) ((τ (44 + 3 * i0) (y7).toNatClampNeg)) τ else (f_X7_isName (-(τ (44 + 3 * i0) (y7).toNatClampNeg)) τ).bind fun (q18 : Int32 × Sg) => if q18.1 = 0 then if (τ (44 + 3 * i0) (y7).toNatClampNeg) = (-261 : Int32) then f_X6_value_136 (f_X6_value_48 i0 x1 i2 x3 x4 n) i0 x1 i2 x3 x4 (y6) (y7) ((τ (44 + 3 * i0) (y7).toNatClampNeg)) q18.2 else if (τ (44 + 3 * i0) (y7).toNatClampNeg) = (-271 : Int32) then f_X6_value_136 (f_X6_value_48 i0 x1 i2 x3 x4 n) i0 x1 i2 x3 x4 (y6) (y7) ((τ (44 + 3 * i0) (y7).toNatClampNeg)) q18.2 else if y6 < (2 : Int32) then (f_X6_value_48 i0 x1 i2 x3 x4 n) (y6) ((y7 + (1 : Int32))) q18.2 else if okI ((y6 + (-1 : Int32)) - (1 : Int32)) 32 then if okI (y6 + (-1 : Int32)) 32 then (f_X6_ofTwo (-(τ (44 + 3 * i0) (y7).toNatClampNeg)) (q18.2 (42) (((y6 + (-1 : Int32)) - (1 : Int32))).toNatClampNeg) (q18.2 (42) ((y6 + (-1 : Int32))).toNatClampNeg) q18.2).bind fun (q26 : Int32 × Sg) => if okI ((y6 + (-1 : Int32)) - (1 : Int32)) 32 then (f_X6_value_48 i0 x1 i2 x3 x4 n) ((y6 + (-1 : Int32))) ((y7 + (1 : Int32))) (up q26.2 (42) (((y6 + (-1 : Int32)) - (1 : Int32))).toNatClampNeg q26.1) else none else none else none else f_X6_value_82 (f_X6_value_48 i0 x1 i2 x3 x4 n) i0 x1 i2 x3 x4 (y6) (y7) ((τ (44 + 3 * i0) (y7).toNatClampNeg)) q18.2 else none else none else none else none
def f_X6_value (i0 : Nat) (x1 : Int32) (i2 : Nat) (x3 : Int32) (x4 : Int32) (σ : Sg) : Option (Int32 × Sg) := if i0 < 7 then if i2 < 3 then if x1 < 0 then some ((0 : Int32), σ) else if (3 : Int32) ≤ x1 then some ((0 : Int32), σ) else if (32 : Int32) < (32 : Int32) then some ((0 : Int32), σ) else (f_X1_lodges (i2) x3 σ).bind fun (q6 : Int32 × Sg) => if q6.1 = 0 then some ((0 : Int32), q6.2) else if x1 = 0 then f_X6_value_48 i0 x1 i2 x3 x4 5000 ((0 : Int32)) ((0 : Int32)) q6.2 else if okI (x1 - (1 : Int32)) 3 then f_X6_value_48 i0 x1 i2 x3 x4 5000 ((0 : Int32)) ((q6.2 (45 + 3 * i0) ((x1 - (1 : Int32))).toNatClampNeg)) q6.2 else none else none else none
set_option maxHeartbeats 40000000 in
set_option maxRecDepth 100000 in
theorem c_X6_value (l : Launch) (Γ : Geo) (hG : okC Γ) (i0 : Nat) (x1 : Int32) (i2 : Nat) (x3 : Int32) (x4 : Int32) (σ : Sg) (r : Int32) (σ' : Sg) (hf : f_X6_value i0 x1 i2 x3 x4 σ = some (r, σ')) (sz : Nat) : Met l yX6_value (wz yX6_value cX6_value 9 (some .int)) { frames := 1, cells := 0, slots := 0, locals := 23 } (va_Pc [.ref (Γ.2.2.1 (30 + 3 * i0)), .int x1, .ref (Γ.2.2.1 (1 + 8 * i2)), .int x3, .int x4, .ref (Γ.2.2.1 (29))] (wPre Γ.1 vwCl (tysC Γ) (XC Γ) (alC Γ) Γ.2.2.2 σ sz)) (wQi Γ.1 vwCl (tysC Γ) (XC Γ) (alC Γ) r σ' sz) 0 0 (wA (alC Γ) sz) := by
  refine w_enter (cc := cX6_value) (maxL := 9) (ret := (some .int)) (by decide) rfl (Nat.le_of_ble_eq_true rfl) ?_
  intro p e s m below meth c ls hx hb hr hlocks hml hown hts hsz hP hK hkc hN hl
  subst hsz
  generalize hav : ([.ref (Γ.2.2.1 (30 + 3 * i0)), .int x1, .ref (Γ.2.2.1 (1 + 8 * i2)), .int x3, .int x4, .ref (Γ.2.2.1 (29))] : List Value) = av at hl hts ⊢
  have hl : lv_has ls 9 [(0, .ref (Γ.2.2.1 (30 + 3 * i0))), (1, .int x1), (2, .ref (Γ.2.2.1 (1 + 8 * i2))), (3, .int x3), (4, .int x4), (5, .ref (Γ.2.2.1 (29)))] := by rw [← hav] at hl; exact hl
  have j48 : ∀ (n48 : Nat), ∀ (y6 : Int32) (y7 : Int32) (τ : Sg) (H : Heap) (locs : List Loc) (ls : Array Slot) (hf : f_X6_value_48 i0 x1 i2 x3 x4 n48 y6 y7 τ = some (r, σ')) (hP : va_P Γ.1 vwCl (XC Γ τ) H) (hS : va_S (wA (alC Γ) s.heap.size) s.heap H locs) (hl : lv_has ls 9 [(0, .ref (Γ.2.2.1 (30 + 3 * i0))), (1, .int x1), (2, .ref (Γ.2.2.1 (1 + 8 * i2))), (3, .int x3), (4, .int x4), (5, .ref (Γ.2.2.1 (29))), (6, .int y6), (7, .int y7)]), W p l e { frames := 1, cells := 0, slots := 0, locals := 23 } s m av.toArray below meth c H locs 0 0 (MQ below (wQi Γ.1 vwCl (tysC Γ) (XC Γ) (alC Γ) r σ' s.heap.size) av.toArray s 0 0 (wA (alC Γ) s.heap.size)) (F0 m 48 ls []) := by
    intro n48
    induction n48 with
    | zero =>
      intro y6 y7 τ H locs ls hf
      exact absurd hf (by intro h; cases h)
    | succ n48 ih48 =>
      have j136 : ∀ (y6 : Int32) (y7 : Int32) (y8 : Int32) (τ : Sg) (H : Heap) (locs : List Loc) (ls : Array Slot) (hf : f_X6_value_136 (f_X6_value_48 i0 x1 i2 x3 x4 n48) i0 x1 i2 x3 x4 y6 y7 y8 τ = some (r, σ')) (hP : va_P Γ.1 vwCl (XC Γ τ) H) (hS : va_S (wA (alC Γ) s.heap.size) s.heap H locs) (hl : lv_has ls 9 [(0, .ref (Γ.2.2.1 (30 + 3 * i0))), (1, .int x1), (2, .ref (Γ.2.2.1 (1 + 8 * i2))), (3, .int x3), (4, .int x4), (5, .ref (Γ.2.2.1 (29))), (6, .int y6), (7, .int y7), (8, .int y8)]), W p l e { frames := 1, cells := 0, slots := 0, locals := 23 } s m av.toArray below meth c H locs 0 0 (MQ below (wQi Γ.1 vwCl (tysC Γ) (XC Γ) (alC Γ) r σ' s.heap.size) av.toArray s 0 0 (wA (alC Γ) s.heap.size)) (F0 m 136 ls []) := by
        intro y6 y7 y8 τ H locs ls hf hP hS hl
        unfold f_X6_value_136 at hf
        obtain ⟨g37, hf⟩ := w_oi hf
        obtain ⟨g38, hf⟩ := w_oi hf
        refine lv_iload hx hb dX6_value_136 (lv_at hl 6 rfl) ?_
        refine lv_iconst (v := (1 : Int32)) hx hb dX6_value_138 (by decide) ?_
        refine lv_icmp_lt (tgt := 198) hx hb dX6_value_139 (by decide) (fun c39 => ?_) (fun c39 => ?_)
        · replace hf := (if_pos c39).symm.trans hf
          refine lv_iinc (v := (y7 + (1 : Int32))) (lv' := [(7, .int (y7 + (1 : Int32))), (0, .ref (Γ.2.2.1 (30 + 3 * i0))), (1, .int x1), (2, .ref (Γ.2.2.1 (1 + 8 * i2))), (3, .int x3), (4, .int x4), (5, .ref (Γ.2.2.1 (29))), (6, .int y6), (8, .int y8)]) hx hb dX6_value_198 hl (k := 7) rfl rfl (by decide) rfl (fun ls hl => ?_)
          refine lv_goto (tgt := 48) hx hb dX6_value_201 (by decide) ?_
          exact ih48 (y6) ((y7 + (1 : Int32))) τ H locs ls hf hP hS (lv_sub hl [1, 2, 3, 4, 5, 6, 7, 0] rfl)
        · replace hf := (if_neg c39).symm.trans hf
          refine lv_aload hx hb dX6_value_142 (lv_at hl 5 rfl) ?_
          refine lv_iload hx hb dX6_value_144 (lv_at hl 6 rfl) ?_
          refine lv_iconst (v := (1 : Int32)) hx hb dX6_value_146 (by decide) ?_
          refine lv_isub hx hb dX6_value_147 ?_
          refine lv_iload hx hb dX6_value_148 (lv_at hl 8 rfl) ?_
          refine lv_aload hx hb dX6_value_150 (lv_at hl 5 rfl) ?_
          refine lv_iload hx hb dX6_value_152 (lv_at hl 6 rfl) ?_
          refine lv_iconst (v := (1 : Int32)) hx hb dX6_value_154 (by decide) ?_
          refine lv_isub hx hb dX6_value_155 ?_
          obtain ⟨g40, hf⟩ := w_oi hf
          refine va_iald (D := Γ.1) (tys := (tysC Γ)) hx hb hK hP (29) 0 (gC_Law_stack Γ τ) rfl g40 dX6_value_156 ?_
          obtain ⟨q41, h42, hf⟩ := w_ob hf
          refine w_ci (va_runS (As := [.int y8, .int (τ (42) ((y6 - (1 : Int32))).toNatClampNeg)]) (rest := [.int (y6 - (1 : Int32)), .ref (Γ.2.2.1 (29))]) ⟨hx, hb, hml, hown, hts⟩ (c_X6_ofOne l Γ hG y8 (τ (42) ((y6 - (1 : Int32))).toNatClampNeg) τ q41.1 q41.2 h42 H.size) (cwS 2 hts (wzS K367 K365 K366 K56) rfl rfl rfl (by decide +kernel) ⟨(Nat.le_of_ble_eq_true rfl), (Nat.le_of_ble_eq_true rfl)⟩) (w_pre hK hP hkc hN hS) rfl rfl hl.1 rfl (lv_room (Nat.le_of_ble_eq_true rfl)) dX6_value_157 ⟨Nat.le_refl _, Nat.le_refl _⟩) hS (fun H locs hP hS => ?_)
          obtain ⟨g43, hf⟩ := w_oi hf
          refine w_iast (D := Γ.1) (tys := (tysC Γ)) (X := XC Γ) (σ' := (up q41.2 (42) ((y6 - (1 : Int32))).toNatClampNeg q41.1)) hx hb hK hP (halC Γ) hG hS (29) 0 (gC_Law_stack Γ q41.2) rfl g43 dX6_value_160 (sC_Law_stack Γ q41.2 ((y6 - (1 : Int32))).toNatClampNeg q41.1) (fun H locs hP hS => ?_)
          refine lv_goto (tgt := 198) hx hb dX6_value_161 (by decide) ?_
          refine lv_iinc (v := (y7 + (1 : Int32))) (lv' := [(7, .int (y7 + (1 : Int32))), (0, .ref (Γ.2.2.1 (30 + 3 * i0))), (1, .int x1), (2, .ref (Γ.2.2.1 (1 + 8 * i2))), (3, .int x3), (4, .int x4), (5, .ref (Γ.2.2.1 (29))), (6, .int y6), (8, .int y8)]) hx hb dX6_value_198 hl (k := 7) rfl rfl (by decide) rfl (fun ls hl => ?_)
          refine lv_goto (tgt := 48) hx hb dX6_value_201 (by decide) ?_
          exact ih48 (y6) ((y7 + (1 : Int32))) (up q41.2 (42) ((y6 - (1 : Int32))).toNatClampNeg q41.1) H locs ls hf hP hS (lv_sub hl [1, 2, 3, 4, 5, 6, 7, 0] rfl)
      have j82 : ∀ (y6 : Int32) (y7 : Int32) (y8 : Int32) (τ : Sg) (H : Heap) (locs : List Loc) (ls : Array Slot) (hf : f_X6_value_82 (f_X6_value_48 i0 x1 i2 x3 x4 n48) i0 x1 i2 x3 x4 y6 y7 y8 τ = some (r, σ')) (hP : va_P Γ.1 vwCl (XC Γ τ) H) (hS : va_S (wA (alC Γ) s.heap.size) s.heap H locs) (hl : lv_has ls 9 [(0, .ref (Γ.2.2.1 (30 + 3 * i0))), (1, .int x1), (2, .ref (Γ.2.2.1 (1 + 8 * i2))), (3, .int x3), (4, .int x4), (5, .ref (Γ.2.2.1 (29))), (6, .int y6), (7, .int y7), (8, .int y8)]), W p l e { frames := 1, cells := 0, slots := 0, locals := 23 } s m av.toArray below meth c H locs 0 0 (MQ below (wQi Γ.1 vwCl (tysC Γ) (XC Γ) (alC Γ) r σ' s.heap.size) av.toArray s 0 0 (wA (alC Γ) s.heap.size)) (F0 m 82 ls []) := by
        intro y6 y7 y8 τ H locs ls hf hP hS hl
        unfold f_X6_value_82 at hf
        obtain ⟨g29, hf⟩ := w_oi hf
        obtain ⟨g30, hf⟩ := w_oi hf
        refine lv_iload hx hb dX6_value_82 (lv_at hl 6 rfl) ?_
        refine lv_bipush (v := (32 : Int32)) hx hb dX6_value_84 (by decide) ?_
        refine lv_icmp_ge (tgt := 198) hx hb dX6_value_86 (by decide) (fun c31 => ?_) (fun c31 => ?_)
        · replace hf := (if_pos c31).symm.trans hf
          refine lv_iinc (v := (y7 + (1 : Int32))) (lv' := [(7, .int (y7 + (1 : Int32))), (0, .ref (Γ.2.2.1 (30 + 3 * i0))), (1, .int x1), (2, .ref (Γ.2.2.1 (1 + 8 * i2))), (3, .int x3), (4, .int x4), (5, .ref (Γ.2.2.1 (29))), (6, .int y6), (8, .int y8)]) hx hb dX6_value_198 hl (k := 7) rfl rfl (by decide) rfl (fun ls hl => ?_)
          refine lv_goto (tgt := 48) hx hb dX6_value_201 (by decide) ?_
          exact ih48 (y6) ((y7 + (1 : Int32))) τ H locs ls hf hP hS (lv_sub hl [1, 2, 3, 4, 5, 6, 7, 0] rfl)
        · replace hf := (if_neg c31).symm.trans hf
          refine lv_aload hx hb dX6_value_89 (lv_at hl 5 rfl) ?_
          refine lv_iload hx hb dX6_value_91 (lv_at hl 6 rfl) ?_
          refine lv_iload hx hb dX6_value_93 (lv_at hl 8 rfl) ?_
          refine lv_if_lt (tgt := 103) hx hb dX6_value_95 (by decide) (fun c32 => ?_) (fun c32 => ?_)
          · replace hf := (if_pos c32).symm.trans hf
            refine lv_iload hx hb dX6_value_103 (lv_at hl 8 rfl) ?_
            refine lv_ineg hx hb dX6_value_105 ?_
            refine lv_aload_n hx hb dX6_value_106 rfl (lv_at hl 2 rfl) ?_
            refine lv_iload_n hx hb dX6_value_107 rfl (lv_at hl 3 rfl) ?_
            refine lv_iload hx hb dX6_value_108 (lv_at hl 4 rfl) ?_
            obtain ⟨q33, h34, hf⟩ := w_ob hf
            refine w_ci (va_runS (As := [.int (-y8), .ref (Γ.2.2.1 (1 + 8 * i2)), .int x3, .int x4]) (rest := [.int y6, .ref (Γ.2.2.1 (29))]) ⟨hx, hb, hml, hown, hts⟩ (c_X6_named l Γ hG (-y8) (i2) x3 x4 τ q33.1 q33.2 h34 H.size) (cwS 4 hts (wzS K359 K357 K358 K56) rfl rfl rfl (by decide +kernel) ⟨(Nat.le_of_ble_eq_true rfl), (Nat.le_of_ble_eq_true rfl)⟩) (w_pre hK hP hkc hN hS) rfl rfl hl.1 rfl (lv_room (Nat.le_of_ble_eq_true rfl)) dX6_value_110 ⟨Nat.le_refl _, Nat.le_refl _⟩) hS (fun H locs hP hS => ?_)
            obtain ⟨g35, hf⟩ := w_oi hf
            refine w_iast (D := Γ.1) (tys := (tysC Γ)) (X := XC Γ) (σ' := (up q33.2 (42) (y6).toNatClampNeg q33.1)) hx hb hK hP (halC Γ) hG hS (29) 0 (gC_Law_stack Γ q33.2) rfl g35 dX6_value_113 (sC_Law_stack Γ q33.2 (y6).toNatClampNeg q33.1) (fun H locs hP hS => ?_)
            refine lv_iinc (v := (y6 + (1 : Int32))) (lv' := [(6, .int (y6 + (1 : Int32))), (0, .ref (Γ.2.2.1 (30 + 3 * i0))), (1, .int x1), (2, .ref (Γ.2.2.1 (1 + 8 * i2))), (3, .int x3), (4, .int x4), (5, .ref (Γ.2.2.1 (29))), (7, .int y7), (8, .int y8)]) hx hb dX6_value_114 hl (k := 6) rfl rfl (by decide) rfl (fun ls hl => ?_)
            refine lv_goto (tgt := 198) hx hb dX6_value_117 (by decide) ?_
            refine lv_iinc (v := (y7 + (1 : Int32))) (lv' := [(7, .int (y7 + (1 : Int32))), (6, .int (y6 + (1 : Int32))), (0, .ref (Γ.2.2.1 (30 + 3 * i0))), (1, .int x1), (2, .ref (Γ.2.2.1 (1 + 8 * i2))), (3, .int x3), (4, .int x4), (5, .ref (Γ.2.2.1 (29))), (8, .int y8)]) hx hb dX6_value_198 hl (k := 7) rfl rfl (by decide) rfl (fun ls hl => ?_)
            refine lv_goto (tgt := 48) hx hb dX6_value_201 (by decide) ?_
            exact ih48 ((y6 + (1 : Int32))) ((y7 + (1 : Int32))) (up q33.2 (42) (y6).toNatClampNeg q33.1) H locs ls hf hP hS (lv_sub hl [2, 3, 4, 5, 6, 7, 1, 0] rfl)
          · replace hf := (if_neg c32).symm.trans hf
            refine lv_iload hx hb dX6_value_98 (lv_at hl 8 rfl) ?_
            refine lv_goto (tgt := 113) hx hb dX6_value_100 (by decide) ?_
            obtain ⟨g36, hf⟩ := w_oi hf
            refine w_iast (D := Γ.1) (tys := (tysC Γ)) (X := XC Γ) (σ' := (up τ (42) (y6).toNatClampNeg y8)) hx hb hK hP (halC Γ) hG hS (29) 0 (gC_Law_stack Γ τ) rfl g36 dX6_value_113 (sC_Law_stack Γ τ (y6).toNatClampNeg y8) (fun H locs hP hS => ?_)
            refine lv_iinc (v := (y6 + (1 : Int32))) (lv' := [(6, .int (y6 + (1 : Int32))), (0, .ref (Γ.2.2.1 (30 + 3 * i0))), (1, .int x1), (2, .ref (Γ.2.2.1 (1 + 8 * i2))), (3, .int x3), (4, .int x4), (5, .ref (Γ.2.2.1 (29))), (7, .int y7), (8, .int y8)]) hx hb dX6_value_114 hl (k := 6) rfl rfl (by decide) rfl (fun ls hl => ?_)
            refine lv_goto (tgt := 198) hx hb dX6_value_117 (by decide) ?_
            refine lv_iinc (v := (y7 + (1 : Int32))) (lv' := [(7, .int (y7 + (1 : Int32))), (6, .int (y6 + (1 : Int32))), (0, .ref (Γ.2.2.1 (30 + 3 * i0))), (1, .int x1), (2, .ref (Γ.2.2.1 (1 + 8 * i2))), (3, .int x3), (4, .int x4), (5, .ref (Γ.2.2.1 (29))), (8, .int y8)]) hx hb dX6_value_198 hl (k := 7) rfl rfl (by decide) rfl (fun ls hl => ?_)
            refine lv_goto (tgt := 48) hx hb dX6_value_201 (by decide) ?_
            exact ih48 ((y6 + (1 : Int32))) ((y7 + (1 : Int32))) (up τ (42) (y6).toNatClampNeg y8) H locs ls hf hP hS (lv_sub hl [2, 3, 4, 5, 6, 7, 1, 0] rfl)
      intro y6 y7 τ H locs ls hf hP hS hl
      unfold f_X6_value_48 at hf
      obtain ⟨g11, hf⟩ := w_oi hf
      obtain ⟨g12, hf⟩ := w_oi hf
      refine lv_iload hx hb dX6_value_48 (lv_at hl 7 rfl) ?_
      refine lv_aload_n hx hb dX6_value_50 rfl (lv_at hl 0 rfl) ?_
      refine va_get (D := Γ.1) (ci := 6) (v := .ref (Γ.2.2.1 (32 + 3 * i0))) (C := RX6) (T := TX6) (N := 3) hx hb hts iX6 hown hK hP (30 + 3 * i0) (gC_Text Γ τ (i0) g11) rfl 1 (by decide) (hts (.fieldLink RX6 15 "OtherHalfOfNight$Text" "ends" "[I") (wzm K62)) (fun _ h9 => h9) rfl dX6_value_51 ?_
      refine lv_iload_n hx hb dX6_value_54 rfl (lv_at hl 1 rfl) ?_
      obtain ⟨g13, hf⟩ := w_oi hf
      refine va_iald (D := Γ.1) (tys := (tysC Γ)) hx hb hK hP (32 + 3 * i0) 0 (gC_Text_ends Γ τ (i0) g11) rfl g13 dX6_value_55 ?_
      refine lv_icmp_ge (tgt := 204) hx hb dX6_value_56 (by decide) (fun c14 => ?_) (fun c14 => ?_)
      · replace hf := (if_pos c14).symm.trans hf
        refine lv_iload hx hb dX6_value_204 (lv_at hl 6 rfl) ?_
        refine lv_iconst (v := (1 : Int32)) hx hb dX6_value_206 (by decide) ?_
        refine lv_icmp_ne (tgt := 217) hx hb dX6_value_207 (by decide) (fun c15 => ?_) (fun c15 => ?_)
        · replace hf := (if_neg c15).symm.trans hf
          refine lv_iconst (v := (0 : Int32)) hx hb dX6_value_217 (by decide) ?_
          exact w_iret (X := XC Γ) hx hb hr hlocks hK hP hS rfl hf dX6_value_218
        · replace hf := (if_pos c15).symm.trans hf
          refine lv_aload hx hb dX6_value_210 (lv_at hl 5 rfl) ?_
          refine lv_iconst (v := (0 : Int32)) hx hb dX6_value_212 (by decide) ?_
          refine va_iald (D := Γ.1) (tys := (tysC Γ)) hx hb hK hP (29) 0 (gC_Law_stack Γ τ) rfl (show okI (0 : Int32) 32 by decide) dX6_value_213 ?_
          refine lv_goto (tgt := 218) hx hb dX6_value_214 (by decide) ?_
          exact w_iret (X := XC Γ) hx hb hr hlocks hK hP hS rfl hf dX6_value_218
      · replace hf := (if_neg c14).symm.trans hf
        refine lv_aload_n hx hb dX6_value_59 rfl (lv_at hl 0 rfl) ?_
        refine va_get (D := Γ.1) (ci := 6) (v := .ref (Γ.2.2.1 (31 + 3 * i0))) (C := RX6) (T := TX6) (N := 3) hx hb hts iX6 hown hK hP (30 + 3 * i0) (gC_Text Γ τ (i0) g11) rfl 0 (by decide) (hts (.fieldLink RX6 9 "OtherHalfOfNight$Text" "steps" "[I") (wzm K61)) (fun _ h9 => h9) rfl dX6_value_60 ?_
        refine lv_iload hx hb dX6_value_63 (lv_at hl 7 rfl) ?_
        obtain ⟨g16, hf⟩ := w_oi hf
        refine va_iald (D := Γ.1) (tys := (tysC Γ)) hx hb hK hP (31 + 3 * i0) 0 (gC_Text_steps Γ τ (i0) g11) rfl g16 dX6_value_65 ?_
        refine lv_istore (lv' := [(8, .int (τ (44 + 3 * i0) (y7).toNatClampNeg)), (0, .ref (Γ.2.2.1 (30 + 3 * i0))), (1, .int x1), (2, .ref (Γ.2.2.1 (1 + 8 * i2))), (3, .int x3), (4, .int x4), (5, .ref (Γ.2.2.1 (29))), (6, .int y6), (7, .int y7)]) hx hb dX6_value_66 hl (by decide) rfl (fun ls hl => ?_)
        refine lv_iload hx hb dX6_value_68 (lv_at hl 0 rfl) ?_
        refine lv_if_ge (tgt := 82) hx hb dX6_value_70 (by decide) (fun c17 => ?_) (fun c17 => ?_)
        · replace hf := (if_pos c17).symm.trans hf
          exact j82 (y6) (y7) ((τ (44 + 3 * i0) (y7).toNatClampNeg)) τ H locs ls hf hP hS (lv_sub hl [1, 2, 3, 4, 5, 6, 7, 8, 0] rfl)
        · replace hf := (if_neg c17).symm.trans hf
          refine lv_iload hx hb dX6_value_73 (lv_at hl 0 rfl) ?_
          refine lv_ineg hx hb dX6_value_75 ?_
          obtain ⟨q18, h19, hf⟩ := w_ob hf
          refine w_ci (va_runS (As := [.int (-(τ (44 + 3 * i0) (y7).toNatClampNeg))]) (rest := []) ⟨hx, hb, hml, hown, hts⟩ (c_X7_isName l Γ hG (-(τ (44 + 3 * i0) (y7).toNatClampNeg)) τ q18.1 q18.2 h19 H.size) (va_cwS 1 hts (wzS2 K356 K353 K354 K355) rfl rfl rfl (by decide +kernel) ⟨(Nat.le_of_ble_eq_true rfl), (Nat.le_of_ble_eq_true rfl)⟩) (w_pre hK hP hkc hN hS) rfl rfl hl.1 rfl (lv_room (Nat.le_of_ble_eq_true rfl)) dX6_value_76 ⟨Nat.le_refl _, Nat.le_refl _⟩) hS (fun H locs hP hS => ?_)
          refine lv_if_eq (tgt := 120) hx hb dX6_value_79 (by decide) (fun c20 => ?_) (fun c20 => ?_)
          · replace hf := (if_pos c20).symm.trans hf
            refine lv_iload hx hb dX6_value_120 (lv_at hl 0 rfl) ?_
            refine lv_sipush (v := (-261 : Int32)) hx hb dX6_value_122 (by decide) ?_
            refine lv_icmp_eq (tgt := 136) hx hb dX6_value_125 (by decide) (fun c21 => ?_) (fun c21 => ?_)
            · replace hf := (if_pos c21).symm.trans hf
              exact j136 (y6) (y7) ((τ (44 + 3 * i0) (y7).toNatClampNeg)) q18.2 H locs ls hf hP hS (lv_sub hl [1, 2, 3, 4, 5, 6, 7, 8, 0] rfl)
            · replace hf := (if_neg c21).symm.trans hf
              refine lv_iload hx hb dX6_value_128 (lv_at hl 0 rfl) ?_
              refine lv_sipush (v := (-271 : Int32)) hx hb dX6_value_130 (by decide) ?_
              refine lv_icmp_ne (tgt := 164) hx hb dX6_value_133 (by decide) (fun c22 => ?_) (fun c22 => ?_)
              · replace hf := (if_neg c22).symm.trans hf
                refine lv_iload hx hb dX6_value_164 (lv_at hl 7 rfl) ?_
                refine lv_iconst (v := (2 : Int32)) hx hb dX6_value_166 (by decide) ?_
                refine lv_icmp_lt (tgt := 198) hx hb dX6_value_167 (by decide) (fun c23 => ?_) (fun c23 => ?_)
                · replace hf := (if_pos c23).symm.trans hf
                  refine lv_iinc (v := (y7 + (1 : Int32))) (lv' := [(7, .int (y7 + (1 : Int32))), (8, .int (τ (44 + 3 * i0) (y7).toNatClampNeg)), (0, .ref (Γ.2.2.1 (30 + 3 * i0))), (1, .int x1), (2, .ref (Γ.2.2.1 (1 + 8 * i2))), (3, .int x3), (4, .int x4), (5, .ref (Γ.2.2.1 (29))), (6, .int y6)]) hx hb dX6_value_198 hl (k := 8) rfl rfl (by decide) rfl (fun ls hl => ?_)
                  refine lv_goto (tgt := 48) hx hb dX6_value_201 (by decide) ?_
                  exact ih48 (y6) ((y7 + (1 : Int32))) q18.2 H locs ls hf hP hS (lv_sub hl [2, 3, 4, 5, 6, 7, 8, 0] rfl)
                · replace hf := (if_neg c23).symm.trans hf
                  refine lv_iinc (v := (y6 + (-1 : Int32))) (lv' := [(6, .int (y6 + (-1 : Int32))), (8, .int (τ (44 + 3 * i0) (y7).toNatClampNeg)), (0, .ref (Γ.2.2.1 (30 + 3 * i0))), (1, .int x1), (2, .ref (Γ.2.2.1 (1 + 8 * i2))), (3, .int x3), (4, .int x4), (5, .ref (Γ.2.2.1 (29))), (7, .int y7)]) hx hb dX6_value_170 hl (k := 7) rfl rfl (by decide) rfl (fun ls hl => ?_)
                  refine lv_aload hx hb dX6_value_173 (lv_at hl 7 rfl) ?_
                  refine lv_iload hx hb dX6_value_175 (lv_at hl 0 rfl) ?_
                  refine lv_iconst (v := (1 : Int32)) hx hb dX6_value_177 (by decide) ?_
                  refine lv_isub hx hb dX6_value_178 ?_
                  refine lv_iload hx hb dX6_value_179 (lv_at hl 1 rfl) ?_
                  refine lv_ineg hx hb dX6_value_181 ?_
                  refine lv_aload hx hb dX6_value_182 (lv_at hl 7 rfl) ?_
                  refine lv_iload hx hb dX6_value_184 (lv_at hl 0 rfl) ?_
                  refine lv_iconst (v := (1 : Int32)) hx hb dX6_value_186 (by decide) ?_
                  refine lv_isub hx hb dX6_value_187 ?_
                  obtain ⟨g24, hf⟩ := w_oi hf
                  refine va_iald (D := Γ.1) (tys := (tysC Γ)) hx hb hK hP (29) 0 (gC_Law_stack Γ q18.2) rfl g24 dX6_value_188 ?_
                  refine lv_aload hx hb dX6_value_189 (lv_at hl 7 rfl) ?_
                  refine lv_iload hx hb dX6_value_191 (lv_at hl 0 rfl) ?_
                  obtain ⟨g25, hf⟩ := w_oi hf
                  refine va_iald (D := Γ.1) (tys := (tysC Γ)) hx hb hK hP (29) 0 (gC_Law_stack Γ q18.2) rfl g25 dX6_value_193 ?_
                  obtain ⟨q26, h27, hf⟩ := w_ob hf
                  refine w_ci (va_runS (As := [.int (-(τ (44 + 3 * i0) (y7).toNatClampNeg)), .int (q18.2 (42) (((y6 + (-1 : Int32)) - (1 : Int32))).toNatClampNeg), .int (q18.2 (42) ((y6 + (-1 : Int32))).toNatClampNeg)]) (rest := [.int ((y6 + (-1 : Int32)) - (1 : Int32)), .ref (Γ.2.2.1 (29))]) ⟨hx, hb, hml, hown, hts⟩ (c_X6_ofTwo l Γ hG (-(τ (44 + 3 * i0) (y7).toNatClampNeg)) (q18.2 (42) (((y6 + (-1 : Int32)) - (1 : Int32))).toNatClampNeg) (q18.2 (42) ((y6 + (-1 : Int32))).toNatClampNeg) q18.2 q26.1 q26.2 h27 H.size) (cwS 3 hts (wzS K370 K368 K369 K56) rfl rfl rfl (by decide +kernel) ⟨(Nat.le_of_ble_eq_true rfl), (Nat.le_of_ble_eq_true rfl)⟩) (w_pre hK hP hkc hN hS) rfl rfl hl.1 rfl (lv_room (Nat.le_of_ble_eq_true rfl)) dX6_value_194 ⟨Nat.le_refl _, Nat.le_refl _⟩) hS (fun H locs hP hS => ?_)
                  obtain ⟨g28, hf⟩ := w_oi hf
                  refine w_iast (D := Γ.1) (tys := (tysC Γ)) (X := XC Γ) (σ' := (up q26.2 (42) (((y6 + (-1 : Int32)) - (1 : Int32))).toNatClampNeg q26.1)) hx hb hK hP (halC Γ) hG hS (29) 0 (gC_Law_stack Γ q26.2) rfl g28 dX6_value_197 (sC_Law_stack Γ q26.2 (((y6 + (-1 : Int32)) - (1 : Int32))).toNatClampNeg q26.1) (fun H locs hP hS => ?_)
                  refine lv_iinc (v := (y7 + (1 : Int32))) (lv' := [(7, .int (y7 + (1 : Int32))), (6, .int (y6 + (-1 : Int32))), (8, .int (τ (44 + 3 * i0) (y7).toNatClampNeg)), (0, .ref (Γ.2.2.1 (30 + 3 * i0))), (1, .int x1), (2, .ref (Γ.2.2.1 (1 + 8 * i2))), (3, .int x3), (4, .int x4), (5, .ref (Γ.2.2.1 (29)))]) hx hb dX6_value_198 hl (k := 8) rfl rfl (by decide) rfl (fun ls hl => ?_)
                  refine lv_goto (tgt := 48) hx hb dX6_value_201 (by decide) ?_
                  exact ih48 ((y6 + (-1 : Int32))) ((y7 + (1 : Int32))) (up q26.2 (42) (((y6 + (-1 : Int32)) - (1 : Int32))).toNatClampNeg q26.1) H locs ls hf hP hS (lv_sub hl [3, 4, 5, 6, 7, 8, 1, 0] rfl)
              · replace hf := (if_pos c22).symm.trans hf
                exact j136 (y6) (y7) ((τ (44 + 3 * i0) (y7).toNatClampNeg)) q18.2 H locs ls hf hP hS (lv_sub hl [1, 2, 3, 4, 5, 6, 7, 8, 0] rfl)
          · replace hf := (if_neg c20).symm.trans hf
            exact j82 (y6) (y7) ((τ (44 + 3 * i0) (y7).toNatClampNeg)) q18.2 H locs ls hf hP hS (lv_sub hl [1, 2, 3, 4, 5, 6, 7, 8, 0] rfl)
  suffices hw : ∀ (H : Heap) (locs : List Loc), va_P Γ.1 vwCl (XC Γ σ) H → va_S (wA (alC Γ) s.heap.size) s.heap H locs → W p l e { frames := 1, cells := 0, slots := 0, locals := 23 } s m av.toArray below meth c H locs 0 0 (MQ below (wQi Γ.1 vwCl (tysC Γ) (XC Γ) (alC Γ) r σ' s.heap.size) av.toArray s 0 0 (wA (alC Γ) s.heap.size)) (F0 m 0 ls []) from hw _ [] hP va_S.rf
  clear hP
  intro H locs hP hS
  unfold f_X6_value at hf
  obtain ⟨g1, hf⟩ := w_oi hf
  obtain ⟨g2, hf⟩ := w_oi hf
  refine lv_iload_n hx hb dX6_value_0 rfl (lv_at hl 1 rfl) ?_
  refine lv_if_lt (tgt := 25) hx hb dX6_value_1 (by decide) (fun c3 => ?_) (fun c3 => ?_)
  · replace hf := (if_pos c3).symm.trans hf
    refine lv_iconst (v := (0 : Int32)) hx hb dX6_value_25 (by decide) ?_
    exact w_iret (X := XC Γ) hx hb hr hlocks hK hP hS rfl hf dX6_value_26
  · replace hf := (if_neg c3).symm.trans hf
    refine lv_iload_n hx hb dX6_value_4 rfl (lv_at hl 1 rfl) ?_
    refine lv_iconst (v := (3 : Int32)) hx hb dX6_value_5 (by decide) ?_
    refine lv_icmp_ge (tgt := 25) hx hb dX6_value_6 (by decide) (fun c4 => ?_) (fun c4 => ?_)
    · replace hf := (if_pos c4).symm.trans hf
      refine lv_iconst (v := (0 : Int32)) hx hb dX6_value_25 (by decide) ?_
      exact w_iret (X := XC Γ) hx hb hr hlocks hK hP hS rfl hf dX6_value_26
    · replace hf := (if_neg c4).symm.trans hf
      refine lv_aload hx hb dX6_value_9 (lv_at hl 5 rfl) ?_
      refine va_alen (D := Γ.1) (tys := (tysC Γ)) (v := (32 : Int32)) hx hb hK hP (29) 0 (gC_Law_stack Γ σ) rfl rfl dX6_value_11 ?_
      refine lv_bipush (v := (32 : Int32)) hx hb dX6_value_12 (by decide) ?_
      refine lv_icmp_lt (tgt := 25) hx hb dX6_value_14 (by decide) (fun c5 => ?_) (fun c5 => ?_)
      · replace hf := (if_pos c5).symm.trans hf
        refine lv_iconst (v := (0 : Int32)) hx hb dX6_value_25 (by decide) ?_
        exact w_iret (X := XC Γ) hx hb hr hlocks hK hP hS rfl hf dX6_value_26
      · replace hf := (if_neg c5).symm.trans hf
        refine lv_aload_n hx hb dX6_value_17 rfl (lv_at hl 2 rfl) ?_
        refine lv_iload_n hx hb dX6_value_18 rfl (lv_at hl 3 rfl) ?_
        obtain ⟨q6, h7, hf⟩ := w_ob hf
        refine w_ci (va_runV (As := [.int x3]) (rest := []) ⟨hx, hb, hml, hown, hts⟩ (c_X1_lodges l Γ hG (i2) x3 σ q6.1 q6.2 h7 H.size) (cwV 1 hts (wzV K144 K352 K142 K143 K14) rfl rfl rfl (by decide +kernel) ⟨(Nat.le_of_ble_eq_true rfl), (Nat.le_of_ble_eq_true rfl)⟩) (w_preV hK hP hkc hN hS (gC_House Γ σ (i2) g2) rfl) rfl rfl hl.1 rfl (lv_room (Nat.le_of_ble_eq_true rfl)) dX6_value_19 ⟨Nat.le_refl _, Nat.le_refl _⟩) hS (fun H locs hP hS => ?_)
        refine lv_if_ne (tgt := 27) hx hb dX6_value_22 (by decide) (fun c8 => ?_) (fun c8 => ?_)
        · replace hf := (if_neg c8).symm.trans hf
          refine lv_iconst (v := (0 : Int32)) hx hb dX6_value_27 (by decide) ?_
          refine lv_istore (lv' := [(6, .int (0 : Int32)), (0, .ref (Γ.2.2.1 (30 + 3 * i0))), (1, .int x1), (2, .ref (Γ.2.2.1 (1 + 8 * i2))), (3, .int x3), (4, .int x4), (5, .ref (Γ.2.2.1 (29)))]) hx hb dX6_value_28 hl (by decide) rfl (fun ls hl => ?_)
          refine lv_iload_n hx hb dX6_value_30 rfl (lv_at hl 2 rfl) ?_
          refine lv_if_ne (tgt := 38) hx hb dX6_value_31 (by decide) (fun c9 => ?_) (fun c9 => ?_)
          · replace hf := (if_neg c9).symm.trans hf
            refine lv_aload_n hx hb dX6_value_38 rfl (lv_at hl 1 rfl) ?_
            refine va_get (D := Γ.1) (ci := 6) (v := .ref (Γ.2.2.1 (32 + 3 * i0))) (C := RX6) (T := TX6) (N := 3) hx hb hts iX6 hown hK hP (30 + 3 * i0) (gC_Text Γ q6.2 (i0) g1) rfl 1 (by decide) (hts (.fieldLink RX6 15 "OtherHalfOfNight$Text" "ends" "[I") (wzm K62)) (fun _ h9 => h9) rfl dX6_value_39 ?_
            refine lv_iload_n hx hb dX6_value_42 rfl (lv_at hl 2 rfl) ?_
            refine lv_iconst (v := (1 : Int32)) hx hb dX6_value_43 (by decide) ?_
            refine lv_isub hx hb dX6_value_44 ?_
            obtain ⟨g10, hf⟩ := w_oi hf
            refine va_iald (D := Γ.1) (tys := (tysC Γ)) hx hb hK hP (32 + 3 * i0) 0 (gC_Text_ends Γ q6.2 (i0) g1) rfl g10 dX6_value_45 ?_
            refine lv_istore (lv' := [(7, .int (q6.2 (45 + 3 * i0) ((x1 - (1 : Int32))).toNatClampNeg)), (6, .int (0 : Int32)), (0, .ref (Γ.2.2.1 (30 + 3 * i0))), (1, .int x1), (2, .ref (Γ.2.2.1 (1 + 8 * i2))), (3, .int x3), (4, .int x4), (5, .ref (Γ.2.2.1 (29)))]) hx hb dX6_value_46 hl (by decide) rfl (fun ls hl => ?_)
            exact j48 5000 ((0 : Int32)) ((q6.2 (45 + 3 * i0) ((x1 - (1 : Int32))).toNatClampNeg)) q6.2 H locs ls hf hP hS (lv_sub hl [2, 3, 4, 5, 6, 7, 1, 0] rfl)
          · replace hf := (if_pos c9).symm.trans hf
            refine lv_iconst (v := (0 : Int32)) hx hb dX6_value_34 (by decide) ?_
            refine lv_goto (tgt := 46) hx hb dX6_value_35 (by decide) ?_
            refine lv_istore (lv' := [(7, .int (0 : Int32)), (6, .int (0 : Int32)), (0, .ref (Γ.2.2.1 (30 + 3 * i0))), (1, .int x1), (2, .ref (Γ.2.2.1 (1 + 8 * i2))), (3, .int x3), (4, .int x4), (5, .ref (Γ.2.2.1 (29)))]) hx hb dX6_value_46 hl (by decide) rfl (fun ls hl => ?_)
            exact j48 5000 ((0 : Int32)) ((0 : Int32)) q6.2 H locs ls hf hP hS (lv_sub hl [2, 3, 4, 5, 6, 7, 1, 0] rfl)
        · replace hf := (if_pos c8).symm.trans hf
          refine lv_iconst (v := (0 : Int32)) hx hb dX6_value_25 (by decide) ?_
          exact w_iret (X := XC Γ) hx hb hr hlocks hK hP hS rfl hf dX6_value_26
def f_X2_size (σ : Sg) : Option (Int32 × Sg) := some ((σ (41) 0), σ)
set_option maxHeartbeats 40000000 in
set_option maxRecDepth 100000 in
theorem c_X2_size (l : Launch) (Γ : Geo) (hG : okC Γ) (σ : Sg) (r : Int32) (σ' : Sg) (hf : f_X2_size σ = some (r, σ')) (sz : Nat) : Met l yX2_size (wz yX2_size cX2_size 1 (some .int)) { frames := 0, cells := 0, slots := 0, locals := 0 } (va_Pc [.ref (Γ.2.2.1 (27))] (wPre Γ.1 vwCl (tysC Γ) (XC Γ) (alC Γ) Γ.2.2.2 σ sz)) (wQi Γ.1 vwCl (tysC Γ) (XC Γ) (alC Γ) r σ' sz) 0 0 (wA (alC Γ) sz) := by
  refine w_enter (cc := cX2_size) (maxL := 1) (ret := (some .int)) (by decide) rfl (Nat.le_of_ble_eq_true rfl) ?_
  intro p e s m below meth c ls hx hb hr hlocks hml hown hts hsz hP hK hkc hN hl
  subst hsz
  generalize hav : ([.ref (Γ.2.2.1 (27))] : List Value) = av at hl hts ⊢
  have hl : lv_has ls 1 [(0, .ref (Γ.2.2.1 (27)))] := by rw [← hav] at hl; exact hl
  suffices hw : ∀ (H : Heap) (locs : List Loc), va_P Γ.1 vwCl (XC Γ σ) H → va_S (wA (alC Γ) s.heap.size) s.heap H locs → W p l e { frames := 0, cells := 0, slots := 0, locals := 0 } s m av.toArray below meth c H locs 0 0 (MQ below (wQi Γ.1 vwCl (tysC Γ) (XC Γ) (alC Γ) r σ' s.heap.size) av.toArray s 0 0 (wA (alC Γ) s.heap.size)) (F0 m 0 ls []) from hw _ [] hP va_S.rf
  clear hP
  intro H locs hP hS
  unfold f_X2_size at hf
  refine lv_aload_n hx hb dX2_size_0 rfl (lv_at hl 0 rfl) ?_
  refine va_get (D := Γ.1) (ci := 2) (v := .int (σ (41) 0)) (C := RX2) (T := TX2) (N := 3) hx hb hts iX2 hown hK hP (27) (gC_Law Γ σ) rfl 1 (by decide) (hts (.fieldLink RX2 17 "OtherHalfOfNight$Law" "many" "I") (wzm K69)) (fun _ h9 => h9) rfl dX2_size_1 ?_
  exact w_iret (X := XC Γ) hx hb hr hlocks hK hP hS rfl hf dX2_size_4
def f_X2_isFull (σ : Sg) : Option (Int32 × Sg) := if (σ (41) 0) < (6 : Int32) then some ((0 : Int32), σ) else some ((1 : Int32), σ)
set_option maxHeartbeats 40000000 in
set_option maxRecDepth 100000 in
theorem c_X2_isFull (l : Launch) (Γ : Geo) (hG : okC Γ) (σ : Sg) (r : Int32) (σ' : Sg) (hf : f_X2_isFull σ = some (r, σ')) (sz : Nat) : Met l yX2_isFull (wz yX2_isFull cX2_isFull 1 (some .boolean)) { frames := 0, cells := 0, slots := 0, locals := 0 } (va_Pc [.ref (Γ.2.2.1 (27))] (wPre Γ.1 vwCl (tysC Γ) (XC Γ) (alC Γ) Γ.2.2.2 σ sz)) (wQi Γ.1 vwCl (tysC Γ) (XC Γ) (alC Γ) r σ' sz) 0 0 (wA (alC Γ) sz) := by
  refine w_enter (cc := cX2_isFull) (maxL := 1) (ret := (some .boolean)) (by decide) rfl (Nat.le_of_ble_eq_true rfl) ?_
  intro p e s m below meth c ls hx hb hr hlocks hml hown hts hsz hP hK hkc hN hl
  subst hsz
  generalize hav : ([.ref (Γ.2.2.1 (27))] : List Value) = av at hl hts ⊢
  have hl : lv_has ls 1 [(0, .ref (Γ.2.2.1 (27)))] := by rw [← hav] at hl; exact hl
  suffices hw : ∀ (H : Heap) (locs : List Loc), va_P Γ.1 vwCl (XC Γ σ) H → va_S (wA (alC Γ) s.heap.size) s.heap H locs → W p l e { frames := 0, cells := 0, slots := 0, locals := 0 } s m av.toArray below meth c H locs 0 0 (MQ below (wQi Γ.1 vwCl (tysC Γ) (XC Γ) (alC Γ) r σ' s.heap.size) av.toArray s 0 0 (wA (alC Γ) s.heap.size)) (F0 m 0 ls []) from hw _ [] hP va_S.rf
  clear hP
  intro H locs hP hS
  unfold f_X2_isFull at hf
  refine lv_aload_n hx hb dX2_isFull_0 rfl (lv_at hl 0 rfl) ?_
  refine va_get (D := Γ.1) (ci := 2) (v := .int (σ (41) 0)) (C := RX2) (T := TX2) (N := 3) hx hb hts iX2 hown hK hP (27) (gC_Law Γ σ) rfl 1 (by decide) (hts (.fieldLink RX2 17 "OtherHalfOfNight$Law" "many" "I") (wzm K69)) (fun _ h9 => h9) rfl dX2_isFull_1 ?_
  refine lv_bipush (v := (6 : Int32)) hx hb dX2_isFull_4 (by decide) ?_
  refine lv_icmp_lt (tgt := 13) hx hb dX2_isFull_6 (by decide) (fun c1 => ?_) (fun c1 => ?_)
  · replace hf := (if_pos c1).symm.trans hf
    refine lv_iconst (v := (0 : Int32)) hx hb dX2_isFull_13 (by decide) ?_
    exact w_iret (X := XC Γ) hx hb hr hlocks hK hP hS (by decide) hf dX2_isFull_14
  · replace hf := (if_neg c1).symm.trans hf
    refine lv_iconst (v := (1 : Int32)) hx hb dX2_isFull_9 (by decide) ?_
    refine lv_goto (tgt := 14) hx hb dX2_isFull_10 (by decide) ?_
    exact w_iret (X := XC Γ) hx hb hr hlocks hK hP hS (by decide) hf dX2_isFull_14
def f_X2_hasText (x1 : Int32) (σ : Sg) : Option (Int32 × Sg) := if x1 < 0 then some ((0 : Int32), σ) else if (σ (41) 0) ≤ x1 then some ((0 : Int32), σ) else some ((1 : Int32), σ)
set_option maxHeartbeats 40000000 in
set_option maxRecDepth 100000 in
theorem c_X2_hasText (l : Launch) (Γ : Geo) (hG : okC Γ) (x1 : Int32) (σ : Sg) (r : Int32) (σ' : Sg) (hf : f_X2_hasText x1 σ = some (r, σ')) (sz : Nat) : Met l yX2_hasText (wz yX2_hasText cX2_hasText 2 (some .boolean)) { frames := 0, cells := 0, slots := 0, locals := 0 } (va_Pc [.ref (Γ.2.2.1 (27)), .int x1] (wPre Γ.1 vwCl (tysC Γ) (XC Γ) (alC Γ) Γ.2.2.2 σ sz)) (wQi Γ.1 vwCl (tysC Γ) (XC Γ) (alC Γ) r σ' sz) 0 0 (wA (alC Γ) sz) := by
  refine w_enter (cc := cX2_hasText) (maxL := 2) (ret := (some .boolean)) (by decide) rfl (Nat.le_of_ble_eq_true rfl) ?_
  intro p e s m below meth c ls hx hb hr hlocks hml hown hts hsz hP hK hkc hN hl
  subst hsz
  generalize hav : ([.ref (Γ.2.2.1 (27)), .int x1] : List Value) = av at hl hts ⊢
  have hl : lv_has ls 2 [(0, .ref (Γ.2.2.1 (27))), (1, .int x1)] := by rw [← hav] at hl; exact hl
  suffices hw : ∀ (H : Heap) (locs : List Loc), va_P Γ.1 vwCl (XC Γ σ) H → va_S (wA (alC Γ) s.heap.size) s.heap H locs → W p l e { frames := 0, cells := 0, slots := 0, locals := 0 } s m av.toArray below meth c H locs 0 0 (MQ below (wQi Γ.1 vwCl (tysC Γ) (XC Γ) (alC Γ) r σ' s.heap.size) av.toArray s 0 0 (wA (alC Γ) s.heap.size)) (F0 m 0 ls []) from hw _ [] hP va_S.rf
  clear hP
  intro H locs hP hS
  unfold f_X2_hasText at hf
  refine lv_iload_n hx hb dX2_hasText_0 rfl (lv_at hl 1 rfl) ?_
  refine lv_if_lt (tgt := 16) hx hb dX2_hasText_1 (by decide) (fun c1 => ?_) (fun c1 => ?_)
  · replace hf := (if_pos c1).symm.trans hf
    refine lv_iconst (v := (0 : Int32)) hx hb dX2_hasText_16 (by decide) ?_
    exact w_iret (X := XC Γ) hx hb hr hlocks hK hP hS (by decide) hf dX2_hasText_17
  · replace hf := (if_neg c1).symm.trans hf
    refine lv_iload_n hx hb dX2_hasText_4 rfl (lv_at hl 1 rfl) ?_
    refine lv_aload_n hx hb dX2_hasText_5 rfl (lv_at hl 0 rfl) ?_
    refine va_get (D := Γ.1) (ci := 2) (v := .int (σ (41) 0)) (C := RX2) (T := TX2) (N := 3) hx hb hts iX2 hown hK hP (27) (gC_Law Γ σ) rfl 1 (by decide) (hts (.fieldLink RX2 17 "OtherHalfOfNight$Law" "many" "I") (wzm K69)) (fun _ h9 => h9) rfl dX2_hasText_6 ?_
    refine lv_icmp_ge (tgt := 16) hx hb dX2_hasText_9 (by decide) (fun c2 => ?_) (fun c2 => ?_)
    · replace hf := (if_pos c2).symm.trans hf
      refine lv_iconst (v := (0 : Int32)) hx hb dX2_hasText_16 (by decide) ?_
      exact w_iret (X := XC Γ) hx hb hr hlocks hK hP hS (by decide) hf dX2_hasText_17
    · replace hf := (if_neg c2).symm.trans hf
      refine lv_iconst (v := (1 : Int32)) hx hb dX2_hasText_12 (by decide) ?_
      refine lv_goto (tgt := 17) hx hb dX2_hasText_13 (by decide) ?_
      exact w_iret (X := XC Γ) hx hb hr hlocks hK hP hS (by decide) hf dX2_hasText_17
def f_X2_nextText (σ : Sg) : Option (Nat × Sg) := if okI (if (5 : Int32) < (σ (41) 0) then (5 : Int32) else (σ (41) 0)) 6 then some (((if (5 : Int32) < (σ (41) 0) then (5 : Int32) else (σ (41) 0))).toNatClampNeg, σ) else none
set_option maxHeartbeats 40000000 in
set_option maxRecDepth 100000 in
theorem c_X2_nextText (l : Launch) (Γ : Geo) (hG : okC Γ) (σ : Sg) (r : Nat) (σ' : Sg) (hf : f_X2_nextText σ = some (r, σ')) (sz : Nat) : Met l yX2_nextText (wz yX2_nextText cX2_nextText 1 (some (.object "OtherHalfOfNight$Text"))) { frames := 1, cells := 0, slots := 0, locals := 21 } (va_Pc [.ref (Γ.2.2.1 (27))] (wPre Γ.1 vwCl (tysC Γ) (XC Γ) (alC Γ) Γ.2.2.2 σ sz)) (wQr Γ.1 vwCl (tysC Γ) (XC Γ) (alC Γ) (Γ.2.2.1 (30 + 3 * r)) σ' sz) 0 0 (wA (alC Γ) sz) := by
  refine w_enter (cc := cX2_nextText) (maxL := 1) (ret := (some (.object "OtherHalfOfNight$Text"))) (by decide) rfl (Nat.le_of_ble_eq_true rfl) ?_
  intro p e s m below meth c ls hx hb hr hlocks hml hown hts hsz hP hK hkc hN hl
  subst hsz
  generalize hav : ([.ref (Γ.2.2.1 (27))] : List Value) = av at hl hts ⊢
  have hl : lv_has ls 1 [(0, .ref (Γ.2.2.1 (27)))] := by rw [← hav] at hl; exact hl
  suffices hw : ∀ (H : Heap) (locs : List Loc), va_P Γ.1 vwCl (XC Γ σ) H → va_S (wA (alC Γ) s.heap.size) s.heap H locs → W p l e { frames := 1, cells := 0, slots := 0, locals := 21 } s m av.toArray below meth c H locs 0 0 (MQ below (wQr Γ.1 vwCl (tysC Γ) (XC Γ) (alC Γ) (Γ.2.2.1 (30 + 3 * r)) σ' s.heap.size) av.toArray s 0 0 (wA (alC Γ) s.heap.size)) (F0 m 0 ls []) from hw _ [] hP va_S.rf
  clear hP
  intro H locs hP hS
  unfold f_X2_nextText at hf
  refine lv_aload_n hx hb dX2_nextText_0 rfl (lv_at hl 0 rfl) ?_
  refine va_get (D := Γ.1) (ci := 2) (v := .ref (Γ.2.2.1 (28))) (C := RX2) (T := TX2) (N := 3) hx hb hts iX2 hown hK hP (27) (gC_Law Γ σ) rfl 0 (by decide) (hts (.fieldLink RX2 11 "OtherHalfOfNight$Law" "texts" "[LOtherHalfOfNight$Text;") (wzm K68)) (fun _ h9 => h9) rfl dX2_nextText_1 ?_
  refine lv_aload_n hx hb dX2_nextText_4 rfl (lv_at hl 0 rfl) ?_
  refine va_get (D := Γ.1) (ci := 2) (v := .int (σ (41) 0)) (C := RX2) (T := TX2) (N := 3) hx hb hts iX2 hown hK hP (27) (gC_Law Γ σ) rfl 1 (by decide) (hts (.fieldLink RX2 17 "OtherHalfOfNight$Law" "many" "I") (wzm K69)) (fun _ h9 => h9) rfl dX2_nextText_5 ?_
  refine lv_iconst (v := (5 : Int32)) hx hb dX2_nextText_8 (by decide) ?_
  refine va_mmin hx hb (hml.trans hl.1.symm) hown (hts (.methodLink RX2 29 Lib.Math.min.name) (wzm K387)) (hts (.static Lib.Math.min.name) (wzm K374)) (hts (.initialized "java/lang/Math") (wzm K375)) (hts (.code Lib.Math.min.name Lib.Math.min.code 2 (some .int)) (wzm K376)) (Nat.le_of_ble_eq_true rfl) (Nat.le_of_ble_eq_true rfl) (Nat.le_refl _) (Nat.le_refl _) dX2_nextText_9 ?_
  obtain ⟨g1, hf⟩ := w_oi hf
  refine w_aaldq (D := Γ.1) (tys := (tysC Γ)) (g := fun j => Γ.2.2.1 (30 + 3 * j)) hx hb hK hP (28) 4 (gC_texts Γ σ) rfl g1 dX2_nextText_12 ?_
  exact w_aret (X := XC Γ) hx hb hr hlocks hK hP hS (congrArg (fun k => Γ.2.2.1 (30 + 3 * k)) (congrArg Prod.fst (Option.some.inj hf))) (congrArg Prod.snd (Option.some.inj hf)) dX2_nextText_13
def f_X2_keepNext (σ : Sg) : Option (Int32 × Sg) := some ((((up σ (41) 0 (if (6 : Int32) < ((σ (41) 0) + (1 : Int32)) then (6 : Int32) else ((σ (41) 0) + (1 : Int32)))) (41) 0) - (1 : Int32)), (up σ (41) 0 (if (6 : Int32) < ((σ (41) 0) + (1 : Int32)) then (6 : Int32) else ((σ (41) 0) + (1 : Int32)))))
set_option maxHeartbeats 40000000 in
set_option maxRecDepth 100000 in
theorem c_X2_keepNext (l : Launch) (Γ : Geo) (hG : okC Γ) (σ : Sg) (r : Int32) (σ' : Sg) (hf : f_X2_keepNext σ = some (r, σ')) (sz : Nat) : Met l yX2_keepNext (wz yX2_keepNext cX2_keepNext 1 (some .int)) { frames := 1, cells := 0, slots := 0, locals := 21 } (va_Pc [.ref (Γ.2.2.1 (27))] (wPre Γ.1 vwCl (tysC Γ) (XC Γ) (alC Γ) Γ.2.2.2 σ sz)) (wQi Γ.1 vwCl (tysC Γ) (XC Γ) (alC Γ) r σ' sz) 0 0 (wA (alC Γ) sz) := by
  refine w_enter (cc := cX2_keepNext) (maxL := 1) (ret := (some .int)) (by decide) rfl (Nat.le_of_ble_eq_true rfl) ?_
  intro p e s m below meth c ls hx hb hr hlocks hml hown hts hsz hP hK hkc hN hl
  subst hsz
  generalize hav : ([.ref (Γ.2.2.1 (27))] : List Value) = av at hl hts ⊢
  have hl : lv_has ls 1 [(0, .ref (Γ.2.2.1 (27)))] := by rw [← hav] at hl; exact hl
  suffices hw : ∀ (H : Heap) (locs : List Loc), va_P Γ.1 vwCl (XC Γ σ) H → va_S (wA (alC Γ) s.heap.size) s.heap H locs → W p l e { frames := 1, cells := 0, slots := 0, locals := 21 } s m av.toArray below meth c H locs 0 0 (MQ below (wQi Γ.1 vwCl (tysC Γ) (XC Γ) (alC Γ) r σ' s.heap.size) av.toArray s 0 0 (wA (alC Γ) s.heap.size)) (F0 m 0 ls []) from hw _ [] hP va_S.rf
  clear hP
  intro H locs hP hS
  unfold f_X2_keepNext at hf
  refine lv_aload_n hx hb dX2_keepNext_0 rfl (lv_at hl 0 rfl) ?_
  refine lv_aload_n hx hb dX2_keepNext_1 rfl (lv_at hl 0 rfl) ?_
  refine va_get (D := Γ.1) (ci := 2) (v := .int (σ (41) 0)) (C := RX2) (T := TX2) (N := 3) hx hb hts iX2 hown hK hP (27) (gC_Law Γ σ) rfl 1 (by decide) (hts (.fieldLink RX2 17 "OtherHalfOfNight$Law" "many" "I") (wzm K69)) (fun _ h9 => h9) rfl dX2_keepNext_2 ?_
  refine lv_iconst (v := (1 : Int32)) hx hb dX2_keepNext_5 (by decide) ?_
  refine lv_iadd hx hb dX2_keepNext_6 ?_
  refine lv_bipush (v := (6 : Int32)) hx hb dX2_keepNext_7 (by decide) ?_
  refine va_mmin hx hb (hml.trans hl.1.symm) hown (hts (.methodLink RX2 29 Lib.Math.min.name) (wzm K387)) (hts (.static Lib.Math.min.name) (wzm K374)) (hts (.initialized "java/lang/Math") (wzm K375)) (hts (.code Lib.Math.min.name Lib.Math.min.code 2 (some .int)) (wzm K376)) (Nat.le_of_ble_eq_true rfl) (Nat.le_of_ble_eq_true rfl) (Nat.le_refl _) (Nat.le_refl _) dX2_keepNext_9 ?_
  refine w_put (X := XC Γ) (σ' := (up σ (41) 0 (if (6 : Int32) < ((σ (41) 0) + (1 : Int32)) then (6 : Int32) else ((σ (41) 0) + (1 : Int32))))) (ci := 2) (C := RX2) (T := TX2) (N := 3) (ty := .int) hx hb hts iX2 tyX2 tyX2_ok nmX2 hown hK hP (halC Γ) hG hS (27) (gC_Law Γ σ) rfl 1 (by decide) (hts (.fieldLink RX2 17 "OtherHalfOfNight$Law" "many" "I") (wzm K69)) (fun _ h9 => h9) rfl (by decide +kernel) rfl rfl (Nat.le_of_ble_eq_true rfl) dX2_keepNext_12 (sC_Law_many Γ σ (if (6 : Int32) < ((σ (41) 0) + (1 : Int32)) then (6 : Int32) else ((σ (41) 0) + (1 : Int32)))) (fun H locs hP hS => ?_)
  refine lv_aload_n hx hb dX2_keepNext_15 rfl (lv_at hl 0 rfl) ?_
  refine va_get (D := Γ.1) (ci := 2) (v := .int ((up σ (41) 0 (if (6 : Int32) < ((σ (41) 0) + (1 : Int32)) then (6 : Int32) else ((σ (41) 0) + (1 : Int32)))) (41) 0)) (C := RX2) (T := TX2) (N := 3) hx hb hts iX2 hown hK hP (27) (gC_Law Γ (up σ (41) 0 (if (6 : Int32) < ((σ (41) 0) + (1 : Int32)) then (6 : Int32) else ((σ (41) 0) + (1 : Int32))))) rfl 1 (by decide) (hts (.fieldLink RX2 17 "OtherHalfOfNight$Law" "many" "I") (wzm K69)) (fun _ h9 => h9) rfl dX2_keepNext_16 ?_
  refine lv_iconst (v := (1 : Int32)) hx hb dX2_keepNext_19 (by decide) ?_
  refine lv_isub hx hb dX2_keepNext_20 ?_
  exact w_iret (X := XC Γ) hx hb hr hlocks hK hP hS rfl hf dX2_keepNext_21
def f_X2_ruling (i1 : Nat) (σ : Sg) : Option (Nat × Sg) := if i1 < 3 then (f_X2_hasText (σ (11 * i1 + 2) 0) σ).bind fun (q2 : Int32 × Sg) => if q2.1 = 0 then some (((0 : Int32)).toNatClampNeg, q2.2) else if okI (q2.2 (11 * i1 + 2) 0) 6 then some (((q2.2 (11 * i1 + 2) 0)).toNatClampNeg, q2.2) else none else none
set_option maxHeartbeats 40000000 in
set_option maxRecDepth 100000 in
theorem c_X2_ruling (l : Launch) (Γ : Geo) (hG : okC Γ) (i1 : Nat) (σ : Sg) (r : Nat) (σ' : Sg) (hf : f_X2_ruling i1 σ = some (r, σ')) (sz : Nat) : Met l yX2_ruling (wz yX2_ruling cX2_ruling 2 (some (.object "OtherHalfOfNight$Text"))) { frames := 1, cells := 0, slots := 0, locals := 21 } (va_Pc [.ref (Γ.2.2.1 (27)), .ref (Γ.2.2.1 (1 + 8 * i1))] (wPre Γ.1 vwCl (tysC Γ) (XC Γ) (alC Γ) Γ.2.2.2 σ sz)) (wQr Γ.1 vwCl (tysC Γ) (XC Γ) (alC Γ) (Γ.2.2.1 (30 + 3 * r)) σ' sz) 0 0 (wA (alC Γ) sz) := by
  refine w_enter (cc := cX2_ruling) (maxL := 2) (ret := (some (.object "OtherHalfOfNight$Text"))) (by decide) rfl (Nat.le_of_ble_eq_true rfl) ?_
  intro p e s m below meth c ls hx hb hr hlocks hml hown hts hsz hP hK hkc hN hl
  subst hsz
  generalize hav : ([.ref (Γ.2.2.1 (27)), .ref (Γ.2.2.1 (1 + 8 * i1))] : List Value) = av at hl hts ⊢
  have hl : lv_has ls 2 [(0, .ref (Γ.2.2.1 (27))), (1, .ref (Γ.2.2.1 (1 + 8 * i1)))] := by rw [← hav] at hl; exact hl
  suffices hw : ∀ (H : Heap) (locs : List Loc), va_P Γ.1 vwCl (XC Γ σ) H → va_S (wA (alC Γ) s.heap.size) s.heap H locs → W p l e { frames := 1, cells := 0, slots := 0, locals := 21 } s m av.toArray below meth c H locs 0 0 (MQ below (wQr Γ.1 vwCl (tysC Γ) (XC Γ) (alC Γ) (Γ.2.2.1 (30 + 3 * r)) σ' s.heap.size) av.toArray s 0 0 (wA (alC Γ) s.heap.size)) (F0 m 0 ls []) from hw _ [] hP va_S.rf
  clear hP
  intro H locs hP hS
  unfold f_X2_ruling at hf
  obtain ⟨g1, hf⟩ := w_oi hf
  refine lv_aload_n hx hb dX2_ruling_0 rfl (lv_at hl 0 rfl) ?_
  refine va_get (D := Γ.1) (ci := 2) (v := .ref (Γ.2.2.1 (28))) (C := RX2) (T := TX2) (N := 3) hx hb hts iX2 hown hK hP (27) (gC_Law Γ σ) rfl 0 (by decide) (hts (.fieldLink RX2 11 "OtherHalfOfNight$Law" "texts" "[LOtherHalfOfNight$Text;") (wzm K68)) (fun _ h9 => h9) rfl dX2_ruling_1 ?_
  refine lv_aload_n hx hb dX2_ruling_4 rfl (lv_at hl 0 rfl) ?_
  refine lv_aload_n hx hb dX2_ruling_5 rfl (lv_at hl 1 rfl) ?_
  refine va_get (D := Γ.1) (ci := 1) (v := .int (σ (11 * i1 + 2) 0)) (C := RX1) (T := TX1) (N := 11) hx hb hts iX1 hown hK hP (1 + 8 * i1) (gC_House Γ σ (i1) g1) rfl 2 (by decide) (hts (.fieldLink RX2 89 "OtherHalfOfNight$House" "rule" "I") (wzm K343)) (fun _ h9 => h9) rfl dX2_ruling_6 ?_
  obtain ⟨q2, h3, hf⟩ := w_ob hf
  refine w_ci (va_runV (As := [.int (σ (11 * i1 + 2) 0)]) (rest := [.ref (Γ.2.2.1 (28))]) ⟨hx, hb, hml, hown, hts⟩ (c_X2_hasText l Γ hG (σ (11 * i1 + 2) 0) σ q2.1 q2.2 h3 H.size) (cwV 1 hts (wzV K347 K344 K345 K346 K24) rfl rfl rfl (by decide +kernel) ⟨(Nat.le_of_ble_eq_true rfl), (Nat.le_of_ble_eq_true rfl)⟩) (w_preV hK hP hkc hN hS (gC_Law Γ σ) rfl) rfl rfl hl.1 rfl (lv_room (Nat.le_of_ble_eq_true rfl)) dX2_ruling_9 ⟨Nat.le_refl _, Nat.le_refl _⟩) hS (fun H locs hP hS => ?_)
  refine lv_if_eq (tgt := 22) hx hb dX2_ruling_12 (by decide) (fun c4 => ?_) (fun c4 => ?_)
  · replace hf := (if_pos c4).symm.trans hf
    refine lv_iconst (v := (0 : Int32)) hx hb dX2_ruling_22 (by decide) ?_
    refine w_aaldq (D := Γ.1) (tys := (tysC Γ)) (g := fun j => Γ.2.2.1 (30 + 3 * j)) hx hb hK hP (28) 4 (gC_texts Γ q2.2) rfl (show okI (0 : Int32) 6 by decide) dX2_ruling_23 ?_
    exact w_aret (X := XC Γ) hx hb hr hlocks hK hP hS (congrArg (fun k => Γ.2.2.1 (30 + 3 * k)) (congrArg Prod.fst (Option.some.inj hf))) (congrArg Prod.snd (Option.some.inj hf)) dX2_ruling_24
  · replace hf := (if_neg c4).symm.trans hf
    refine lv_aload_n hx hb dX2_ruling_15 rfl (lv_at hl 1 rfl) ?_
    refine va_get (D := Γ.1) (ci := 1) (v := .int (q2.2 (11 * i1 + 2) 0)) (C := RX1) (T := TX1) (N := 11) hx hb hts iX1 hown hK hP (1 + 8 * i1) (gC_House Γ q2.2 (i1) g1) rfl 2 (by decide) (hts (.fieldLink RX2 89 "OtherHalfOfNight$House" "rule" "I") (wzm K343)) (fun _ h9 => h9) rfl dX2_ruling_16 ?_
    refine lv_goto (tgt := 23) hx hb dX2_ruling_19 (by decide) ?_
    obtain ⟨g5, hf⟩ := w_oi hf
    refine w_aaldq (D := Γ.1) (tys := (tysC Γ)) (g := fun j => Γ.2.2.1 (30 + 3 * j)) hx hb hK hP (28) 4 (gC_texts Γ q2.2) rfl g5 dX2_ruling_23 ?_
    exact w_aret (X := XC Γ) hx hb hr hlocks hK hP hS (congrArg (fun k => Γ.2.2.1 (30 + 3 * k)) (congrArg Prod.fst (Option.some.inj hf))) (congrArg Prod.snd (Option.some.inj hf)) dX2_ruling_24
def f_X2_yieldByKind_21 (i1 : Nat) (x2 : Int32) (x3 : Int32) (z0 : Int32) (τ : Sg) : Option (Int32 × Sg) := if i1 < 3 then if okI x2 5 then if (τ (11 * i1 + 4) (x2).toNatClampNeg) = 1 then some (z0, τ) else if (τ (11 * i1 + 4) (x2).toNatClampNeg) = 2 then some (((2 : Int32) * x3), τ) else if (τ (11 * i1 + 4) (x2).toNatClampNeg) = 3 then some ((if z0 < (20 : Int32) then z0 else (20 : Int32)), τ) else if (τ (11 * i1 + 4) (x2).toNatClampNeg) = 4 then if (11 : Int32) ≤ (τ (11 * i1 + 1) 0) then some (((2 : Int32) * x3), τ) else some ((0 : Int32), τ) else if (τ (11 * i1 + 4) (x2).toNatClampNeg) = 5 then if okI x2 5 then if (τ (11 * i1 + 7) (x2).toNatClampNeg) ≤ 0 then some (x3, τ) else some ((0 : Int32), τ) else none else some (x3, τ) else none else none
def f_X2_yieldByKind (i1 : Nat) (x2 : Int32) (x3 : Int32) (σ : Sg) : Option (Int32 × Sg) := if i1 < 3 then if ((σ (11 * i1) 0) - (σ (11 * i1) 0) / (2 : Int32) * (2 : Int32)) = 0 then f_X2_yieldByKind_21 i1 x2 x3 (x3) σ else if okI x2 5 then f_X2_yieldByKind_21 i1 x2 x3 ((x3 + (σ (11 * i1 + 5) (x2).toNatClampNeg))) σ else none else none
set_option maxHeartbeats 40000000 in
set_option maxRecDepth 100000 in
theorem c_X2_yieldByKind (l : Launch) (Γ : Geo) (hG : okC Γ) (i1 : Nat) (x2 : Int32) (x3 : Int32) (σ : Sg) (r : Int32) (σ' : Sg) (hf : f_X2_yieldByKind i1 x2 x3 σ = some (r, σ')) (sz : Nat) : Met l yX2_yieldByKind (wz yX2_yieldByKind cX2_yieldByKind 5 (some .int)) { frames := 1, cells := 0, slots := 0, locals := 21 } (va_Pc [.ref (Γ.2.2.1 (27)), .ref (Γ.2.2.1 (1 + 8 * i1)), .int x2, .int x3] (wPre Γ.1 vwCl (tysC Γ) (XC Γ) (alC Γ) Γ.2.2.2 σ sz)) (wQi Γ.1 vwCl (tysC Γ) (XC Γ) (alC Γ) r σ' sz) 0 0 (wA (alC Γ) sz) := by
  refine w_enter (cc := cX2_yieldByKind) (maxL := 5) (ret := (some .int)) (by decide) rfl (Nat.le_of_ble_eq_true rfl) ?_
  intro p e s m below meth c ls hx hb hr hlocks hml hown hts hsz hP hK hkc hN hl
  subst hsz
  generalize hav : ([.ref (Γ.2.2.1 (27)), .ref (Γ.2.2.1 (1 + 8 * i1)), .int x2, .int x3] : List Value) = av at hl hts ⊢
  have hl : lv_has ls 5 [(0, .ref (Γ.2.2.1 (27))), (1, .ref (Γ.2.2.1 (1 + 8 * i1))), (2, .int x2), (3, .int x3)] := by rw [← hav] at hl; exact hl
  have j21 : ∀ (z0 : Int32) (τ : Sg) (H : Heap) (locs : List Loc) (ls : Array Slot) (hf : f_X2_yieldByKind_21 i1 x2 x3 z0 τ = some (r, σ')) (hP : va_P Γ.1 vwCl (XC Γ τ) H) (hS : va_S (wA (alC Γ) s.heap.size) s.heap H locs) (hl : lv_has ls 5 [(1, .ref (Γ.2.2.1 (1 + 8 * i1))), (2, .int x2), (3, .int x3)]), W p l e { frames := 1, cells := 0, slots := 0, locals := 21 } s m av.toArray below meth c H locs 0 0 (MQ below (wQi Γ.1 vwCl (tysC Γ) (XC Γ) (alC Γ) r σ' s.heap.size) av.toArray s 0 0 (wA (alC Γ) s.heap.size)) (F0 m 21 ls [.int z0]) := by
    intro z0 τ H locs ls hf hP hS hl
    unfold f_X2_yieldByKind_21 at hf
    obtain ⟨g4, hf⟩ := w_oi hf
    refine lv_istore (lv' := [(4, .int z0), (1, .ref (Γ.2.2.1 (1 + 8 * i1))), (2, .int x2), (3, .int x3)]) hx hb dX2_yieldByKind_21 hl (by decide) rfl (fun ls hl => ?_)
    refine lv_aload_n hx hb dX2_yieldByKind_23 rfl (lv_at hl 1 rfl) ?_
    refine va_get (D := Γ.1) (ci := 1) (v := .ref (Γ.2.2.1 (2 + 8 * i1))) (C := RX1) (T := TX1) (N := 11) hx hb hts iX1 hown hK hP (1 + 8 * i1) (gC_House Γ τ (i1) g4) rfl 4 (by decide) (hts (.fieldLink RX2 69 "OtherHalfOfNight$House" "kind" "[I") (wzm K386)) (fun _ h9 => h9) rfl dX2_yieldByKind_24 ?_
    refine lv_iload_n hx hb dX2_yieldByKind_27 rfl (lv_at hl 2 rfl) ?_
    obtain ⟨g5, hf⟩ := w_oi hf
    refine va_iald (D := Γ.1) (tys := (tysC Γ)) hx hb hK hP (2 + 8 * i1) 0 (gC_House_kind Γ τ (i1) g4) rfl g5 dX2_yieldByKind_28 ?_
    by_cases c6 : (τ (11 * i1 + 4) (x2).toNatClampNeg) = 1
    · replace hf := (if_pos c6).symm.trans hf
      refine lv_tableIn (off := 35) (tgt := 64) hx hb dX2_yieldByKind_29 (by rw [c6]; decide) (by rw [c6]; decide) (by rw [c6]; rfl) (by decide) ?_
      refine lv_iload hx hb dX2_yieldByKind_64 (lv_at hl 0 rfl) ?_
      exact w_iret (X := XC Γ) hx hb hr hlocks hK hP hS rfl hf dX2_yieldByKind_66
    · replace hf := (if_neg c6).symm.trans hf
      by_cases c7 : (τ (11 * i1 + 4) (x2).toNatClampNeg) = 2
      · replace hf := (if_pos c7).symm.trans hf
        refine lv_tableIn (off := 38) (tgt := 67) hx hb dX2_yieldByKind_29 (by rw [c7]; decide) (by rw [c7]; decide) (by rw [c7]; rfl) (by decide) ?_
        refine lv_iconst (v := (2 : Int32)) hx hb dX2_yieldByKind_67 (by decide) ?_
        refine lv_iload_n hx hb dX2_yieldByKind_68 rfl (lv_at hl 3 rfl) ?_
        refine lv_imul hx hb dX2_yieldByKind_69 ?_
        exact w_iret (X := XC Γ) hx hb hr hlocks hK hP hS rfl hf dX2_yieldByKind_70
      · replace hf := (if_neg c7).symm.trans hf
        by_cases c8 : (τ (11 * i1 + 4) (x2).toNatClampNeg) = 3
        · replace hf := (if_pos c8).symm.trans hf
          refine lv_tableIn (off := 42) (tgt := 71) hx hb dX2_yieldByKind_29 (by rw [c8]; decide) (by rw [c8]; decide) (by rw [c8]; rfl) (by decide) ?_
          refine lv_bipush (v := (20 : Int32)) hx hb dX2_yieldByKind_71 (by decide) ?_
          refine lv_iload hx hb dX2_yieldByKind_73 (lv_at hl 0 rfl) ?_
          refine va_mmin hx hb (hml.trans hl.1.symm) hown (hts (.methodLink RX2 29 Lib.Math.min.name) (wzm K387)) (hts (.static Lib.Math.min.name) (wzm K374)) (hts (.initialized "java/lang/Math") (wzm K375)) (hts (.code Lib.Math.min.name Lib.Math.min.code 2 (some .int)) (wzm K376)) (Nat.le_of_ble_eq_true rfl) (Nat.le_of_ble_eq_true rfl) (Nat.le_refl _) (Nat.le_refl _) dX2_yieldByKind_75 ?_
          exact w_iret (X := XC Γ) hx hb hr hlocks hK hP hS rfl hf dX2_yieldByKind_78
        · replace hf := (if_neg c8).symm.trans hf
          by_cases c9 : (τ (11 * i1 + 4) (x2).toNatClampNeg) = 4
          · replace hf := (if_pos c9).symm.trans hf
            refine lv_tableIn (off := 50) (tgt := 79) hx hb dX2_yieldByKind_29 (by rw [c9]; decide) (by rw [c9]; decide) (by rw [c9]; rfl) (by decide) ?_
            refine lv_aload_n hx hb dX2_yieldByKind_79 rfl (lv_at hl 1 rfl) ?_
            refine va_get (D := Γ.1) (ci := 1) (v := .int (τ (11 * i1 + 1) 0)) (C := RX1) (T := TX1) (N := 11) hx hb hts iX1 hown hK hP (1 + 8 * i1) (gC_House Γ τ (i1) g4) rfl 1 (by decide) (hts (.fieldLink RX2 86 "OtherHalfOfNight$House" "hour" "I") (wzm K388)) (fun _ h9 => h9) rfl dX2_yieldByKind_80 ?_
            refine lv_bipush (v := (11 : Int32)) hx hb dX2_yieldByKind_83 (by decide) ?_
            refine lv_icmp_ge (tgt := 92) hx hb dX2_yieldByKind_85 (by decide) (fun c10 => ?_) (fun c10 => ?_)
            · replace hf := (if_pos c10).symm.trans hf
              refine lv_iconst (v := (2 : Int32)) hx hb dX2_yieldByKind_92 (by decide) ?_
              refine lv_iload_n hx hb dX2_yieldByKind_93 rfl (lv_at hl 3 rfl) ?_
              refine lv_imul hx hb dX2_yieldByKind_94 ?_
              exact w_iret (X := XC Γ) hx hb hr hlocks hK hP hS rfl hf dX2_yieldByKind_95
            · replace hf := (if_neg c10).symm.trans hf
              refine lv_iconst (v := (0 : Int32)) hx hb dX2_yieldByKind_88 (by decide) ?_
              refine lv_goto (tgt := 95) hx hb dX2_yieldByKind_89 (by decide) ?_
              exact w_iret (X := XC Γ) hx hb hr hlocks hK hP hS rfl hf dX2_yieldByKind_95
          · replace hf := (if_neg c9).symm.trans hf
            by_cases c11 : (τ (11 * i1 + 4) (x2).toNatClampNeg) = 5
            · replace hf := (if_pos c11).symm.trans hf
              refine lv_tableIn (off := 67) (tgt := 96) hx hb dX2_yieldByKind_29 (by rw [c11]; decide) (by rw [c11]; decide) (by rw [c11]; rfl) (by decide) ?_
              refine lv_aload_n hx hb dX2_yieldByKind_96 rfl (lv_at hl 1 rfl) ?_
              refine va_get (D := Γ.1) (ci := 1) (v := .ref (Γ.2.2.1 (5 + 8 * i1))) (C := RX1) (T := TX1) (N := 11) hx hb hts iX1 hown hK hP (1 + 8 * i1) (gC_House Γ τ (i1) g4) rfl 7 (by decide) (hts (.fieldLink RX2 79 "OtherHalfOfNight$House" "news" "[I") (wzm K389)) (fun _ h9 => h9) rfl dX2_yieldByKind_97 ?_
              refine lv_iload_n hx hb dX2_yieldByKind_100 rfl (lv_at hl 2 rfl) ?_
              obtain ⟨g12, hf⟩ := w_oi hf
              refine va_iald (D := Γ.1) (tys := (tysC Γ)) hx hb hK hP (5 + 8 * i1) 0 (gC_House_news Γ τ (i1) g4) rfl g12 dX2_yieldByKind_101 ?_
              refine lv_if_le (tgt := 109) hx hb dX2_yieldByKind_102 (by decide) (fun c13 => ?_) (fun c13 => ?_)
              · replace hf := (if_pos c13).symm.trans hf
                refine lv_iload_n hx hb dX2_yieldByKind_109 rfl (lv_at hl 3 rfl) ?_
                exact w_iret (X := XC Γ) hx hb hr hlocks hK hP hS rfl hf dX2_yieldByKind_110
              · replace hf := (if_neg c13).symm.trans hf
                refine lv_iconst (v := (0 : Int32)) hx hb dX2_yieldByKind_105 (by decide) ?_
                refine lv_goto (tgt := 110) hx hb dX2_yieldByKind_106 (by decide) ?_
                exact w_iret (X := XC Γ) hx hb hr hlocks hK hP hS rfl hf dX2_yieldByKind_110
            · replace hf := (if_neg c11).symm.trans hf
              have nc6 : ¬ ((τ (11 * i1 + 4) (x2).toNatClampNeg)).toInt = 1 := fun q => c6 (Int32.toInt_inj.mp q)
              have nc7 : ¬ ((τ (11 * i1 + 4) (x2).toNatClampNeg)).toInt = 2 := fun q => c7 (Int32.toInt_inj.mp q)
              have nc8 : ¬ ((τ (11 * i1 + 4) (x2).toNatClampNeg)).toInt = 3 := fun q => c8 (Int32.toInt_inj.mp q)
              have nc9 : ¬ ((τ (11 * i1 + 4) (x2).toNatClampNeg)).toInt = 4 := fun q => c9 (Int32.toInt_inj.mp q)
              have nc11 : ¬ ((τ (11 * i1 + 4) (x2).toNatClampNeg)).toInt = 5 := fun q => c11 (Int32.toInt_inj.mp q)
              refine lv_tableOut (tgt := 111) hx hb dX2_yieldByKind_29 (by omega) (by decide) ?_
              refine lv_iload_n hx hb dX2_yieldByKind_111 rfl (lv_at hl 3 rfl) ?_
              exact w_iret (X := XC Γ) hx hb hr hlocks hK hP hS rfl hf dX2_yieldByKind_112
  suffices hw : ∀ (H : Heap) (locs : List Loc), va_P Γ.1 vwCl (XC Γ σ) H → va_S (wA (alC Γ) s.heap.size) s.heap H locs → W p l e { frames := 1, cells := 0, slots := 0, locals := 21 } s m av.toArray below meth c H locs 0 0 (MQ below (wQi Γ.1 vwCl (tysC Γ) (XC Γ) (alC Γ) r σ' s.heap.size) av.toArray s 0 0 (wA (alC Γ) s.heap.size)) (F0 m 0 ls []) from hw _ [] hP va_S.rf
  clear hP
  intro H locs hP hS
  unfold f_X2_yieldByKind at hf
  obtain ⟨g1, hf⟩ := w_oi hf
  refine lv_aload_n hx hb dX2_yieldByKind_0 rfl (lv_at hl 1 rfl) ?_
  refine va_get (D := Γ.1) (ci := 1) (v := .int (σ (11 * i1) 0)) (C := RX1) (T := TX1) (N := 11) hx hb hts iX1 hown hK hP (1 + 8 * i1) (gC_House Γ σ (i1) g1) rfl 0 (by decide) (hts (.fieldLink RX2 76 "OtherHalfOfNight$House" "night" "I") (wzm K384)) (fun _ h9 => h9) rfl dX2_yieldByKind_1 ?_
  refine lv_iconst (v := (2 : Int32)) hx hb dX2_yieldByKind_4 (by decide) ?_
  refine lv_irem hx hb dX2_yieldByKind_5 (by decide) ?_
  refine lv_if_ne (tgt := 13) hx hb dX2_yieldByKind_6 (by decide) (fun c2 => ?_) (fun c2 => ?_)
  · replace hf := (if_neg c2).symm.trans hf
    refine lv_iload_n hx hb dX2_yieldByKind_13 rfl (lv_at hl 3 rfl) ?_
    refine lv_aload_n hx hb dX2_yieldByKind_14 rfl (lv_at hl 1 rfl) ?_
    refine va_get (D := Γ.1) (ci := 1) (v := .ref (Γ.2.2.1 (3 + 8 * i1))) (C := RX1) (T := TX1) (N := 11) hx hb hts iX1 hown hK hP (1 + 8 * i1) (gC_House Γ σ (i1) g1) rfl 5 (by decide) (hts (.fieldLink RX2 66 "OtherHalfOfNight$House" "number" "[I") (wzm K385)) (fun _ h9 => h9) rfl dX2_yieldByKind_15 ?_
    refine lv_iload_n hx hb dX2_yieldByKind_18 rfl (lv_at hl 2 rfl) ?_
    obtain ⟨g3, hf⟩ := w_oi hf
    refine va_iald (D := Γ.1) (tys := (tysC Γ)) hx hb hK hP (3 + 8 * i1) 0 (gC_House_number Γ σ (i1) g1) rfl g3 dX2_yieldByKind_19 ?_
    refine lv_iadd hx hb dX2_yieldByKind_20 ?_
    exact j21 ((x3 + (σ (11 * i1 + 5) (x2).toNatClampNeg))) σ H locs ls hf hP hS (lv_sub hl [1, 2, 3] rfl)
  · replace hf := (if_pos c2).symm.trans hf
    refine lv_iload_n hx hb dX2_yieldByKind_9 rfl (lv_at hl 3 rfl) ?_
    refine lv_goto (tgt := 21) hx hb dX2_yieldByKind_10 (by decide) ?_
    exact j21 (x3) σ H locs ls hf hP hS (lv_sub hl [1, 2, 3] rfl)
def f_X2_yieldOf (i1 : Nat) (x2 : Int32) (σ : Sg) : Option (Int32 × Sg) := if i1 < 3 then (f_X1_lodges (i1) x2 σ).bind fun (q2 : Int32 × Sg) => if q2.1 = 0 then some ((0 : Int32), q2.2) else if okI x2 5 then if (q2.2 (11 * i1 + 6) (x2).toNatClampNeg) = 0 then some ((0 : Int32), q2.2) else (f_X2_ruling (i1) q2.2).bind fun (q7 : Nat × Sg) => if q7.1 < 7 then (f_X6_value (q7.1) (0 : Int32) (i1) x2 (0 : Int32) q7.2).bind fun (q10 : Int32 × Sg) => (f_X8_bounded q10.1 q10.2).bind fun (q12 : Int32 × Sg) => (f_X2_yieldByKind (i1) x2 q12.1 q12.2).bind fun (q14 : Int32 × Sg) => (f_X8_bounded q14.1 q14.2).bind fun (q16 : Int32 × Sg) => some (q16.1, q16.2) else none else none else none
set_option maxHeartbeats 40000000 in
set_option maxRecDepth 100000 in
theorem c_X2_yieldOf (l : Launch) (Γ : Geo) (hG : okC Γ) (i1 : Nat) (x2 : Int32) (σ : Sg) (r : Int32) (σ' : Sg) (hf : f_X2_yieldOf i1 x2 σ = some (r, σ')) (sz : Nat) : Met l yX2_yieldOf (wz yX2_yieldOf cX2_yieldOf 4 (some .int)) { frames := 2, cells := 0, slots := 0, locals := 51 } (va_Pc [.ref (Γ.2.2.1 (27)), .ref (Γ.2.2.1 (1 + 8 * i1)), .int x2] (wPre Γ.1 vwCl (tysC Γ) (XC Γ) (alC Γ) Γ.2.2.2 σ sz)) (wQi Γ.1 vwCl (tysC Γ) (XC Γ) (alC Γ) r σ' sz) 0 0 (wA (alC Γ) sz) := by
  refine w_enter (cc := cX2_yieldOf) (maxL := 4) (ret := (some .int)) (by decide) rfl (Nat.le_of_ble_eq_true rfl) ?_
  intro p e s m below meth c ls hx hb hr hlocks hml hown hts hsz hP hK hkc hN hl
  subst hsz
  generalize hav : ([.ref (Γ.2.2.1 (27)), .ref (Γ.2.2.1 (1 + 8 * i1)), .int x2] : List Value) = av at hl hts ⊢
  have hl : lv_has ls 4 [(0, .ref (Γ.2.2.1 (27))), (1, .ref (Γ.2.2.1 (1 + 8 * i1))), (2, .int x2)] := by rw [← hav] at hl; exact hl
  suffices hw : ∀ (H : Heap) (locs : List Loc), va_P Γ.1 vwCl (XC Γ σ) H → va_S (wA (alC Γ) s.heap.size) s.heap H locs → W p l e { frames := 2, cells := 0, slots := 0, locals := 51 } s m av.toArray below meth c H locs 0 0 (MQ below (wQi Γ.1 vwCl (tysC Γ) (XC Γ) (alC Γ) r σ' s.heap.size) av.toArray s 0 0 (wA (alC Γ) s.heap.size)) (F0 m 0 ls []) from hw _ [] hP va_S.rf
  clear hP
  intro H locs hP hS
  unfold f_X2_yieldOf at hf
  obtain ⟨g1, hf⟩ := w_oi hf
  refine lv_aload_n hx hb dX2_yieldOf_0 rfl (lv_at hl 1 rfl) ?_
  refine lv_iload_n hx hb dX2_yieldOf_1 rfl (lv_at hl 2 rfl) ?_
  obtain ⟨q2, h3, hf⟩ := w_ob hf
  refine w_ci (va_runV (As := [.int x2]) (rest := []) ⟨hx, hb, hml, hown, hts⟩ (c_X1_lodges l Γ hG (i1) x2 σ q2.1 q2.2 h3 H.size) (cwV 1 hts (wzV K144 K338 K142 K143 K14) rfl rfl rfl (by decide +kernel) ⟨(Nat.le_of_ble_eq_true rfl), (Nat.le_of_ble_eq_true rfl)⟩) (w_preV hK hP hkc hN hS (gC_House Γ σ (i1) g1) rfl) rfl rfl hl.1 rfl (lv_room (Nat.le_of_ble_eq_true rfl)) dX2_yieldOf_2 ⟨Nat.le_refl _, Nat.le_refl _⟩) hS (fun H locs hP hS => ?_)
  refine lv_if_eq (tgt := 17) hx hb dX2_yieldOf_5 (by decide) (fun c4 => ?_) (fun c4 => ?_)
  · replace hf := (if_pos c4).symm.trans hf
    refine lv_iconst (v := (0 : Int32)) hx hb dX2_yieldOf_17 (by decide) ?_
    exact w_iret (X := XC Γ) hx hb hr hlocks hK hP hS rfl hf dX2_yieldOf_18
  · replace hf := (if_neg c4).symm.trans hf
    refine lv_aload_n hx hb dX2_yieldOf_8 rfl (lv_at hl 1 rfl) ?_
    refine va_get (D := Γ.1) (ci := 1) (v := .ref (Γ.2.2.1 (4 + 8 * i1))) (C := RX1) (T := TX1) (N := 11) hx hb hts iX1 hown hK hP (1 + 8 * i1) (gC_House Γ q2.2 (i1) g1) rfl 6 (by decide) (hts (.fieldLink RX2 41 "OtherHalfOfNight$House" "trouble" "[I") (wzm K337)) (fun _ h9 => h9) rfl dX2_yieldOf_9 ?_
    refine lv_iload_n hx hb dX2_yieldOf_12 rfl (lv_at hl 2 rfl) ?_
    obtain ⟨g5, hf⟩ := w_oi hf
    refine va_iald (D := Γ.1) (tys := (tysC Γ)) hx hb hK hP (4 + 8 * i1) 0 (gC_House_trouble Γ q2.2 (i1) g1) rfl g5 dX2_yieldOf_13 ?_
    refine lv_if_ne (tgt := 19) hx hb dX2_yieldOf_14 (by decide) (fun c6 => ?_) (fun c6 => ?_)
    · replace hf := (if_neg c6).symm.trans hf
      refine lv_aload_n hx hb dX2_yieldOf_19 rfl (lv_at hl 0 rfl) ?_
      refine lv_aload_n hx hb dX2_yieldOf_20 rfl (lv_at hl 1 rfl) ?_
      obtain ⟨q7, h8, hf⟩ := w_ob hf
      refine w_cr (va_runV (As := [.ref (Γ.2.2.1 (1 + 8 * i1))]) (rest := []) ⟨hx, hb, hml, hown, hts⟩ (c_X2_ruling l Γ hG (i1) q2.2 q7.1 q7.2 h8 H.size) (cwV 1 hts (wzV K342 K339 K340 K341 K24) rfl rfl rfl (by decide +kernel) ⟨(Nat.le_of_ble_eq_true rfl), (Nat.le_of_ble_eq_true rfl)⟩) (w_preV hK hP hkc hN hS (gC_Law Γ q2.2) rfl) rfl rfl hl.1 rfl (lv_room (Nat.le_of_ble_eq_true rfl)) dX2_yieldOf_21 ⟨Nat.le_refl _, Nat.le_refl _⟩) hS (fun H locs hP hS => ?_)
      obtain ⟨g9, hf⟩ := w_oi hf
      refine lv_iconst (v := (0 : Int32)) hx hb dX2_yieldOf_24 (by decide) ?_
      refine lv_aload_n hx hb dX2_yieldOf_25 rfl (lv_at hl 1 rfl) ?_
      refine lv_iload_n hx hb dX2_yieldOf_26 rfl (lv_at hl 2 rfl) ?_
      refine lv_iconst (v := (0 : Int32)) hx hb dX2_yieldOf_27 (by decide) ?_
      refine lv_aload_n hx hb dX2_yieldOf_28 rfl (lv_at hl 0 rfl) ?_
      refine va_get (D := Γ.1) (ci := 2) (v := .ref (Γ.2.2.1 (29))) (C := RX2) (T := TX2) (N := 3) hx hb hts iX2 hown hK hP (27) (gC_Law Γ q7.2) rfl 2 (by decide) (hts (.fieldLink RX2 21 "OtherHalfOfNight$Law" "stack" "[I") (wzm K70)) (fun _ h9 => h9) rfl dX2_yieldOf_29 ?_
      obtain ⟨q10, h11, hf⟩ := w_ob hf
      refine w_ci (va_runV (As := [.int (0 : Int32), .ref (Γ.2.2.1 (1 + 8 * i1)), .int x2, .int (0 : Int32), .ref (Γ.2.2.1 (29))]) (rest := []) ⟨hx, hb, hml, hown, hts⟩ (c_X6_value l Γ hG (q7.1) (0 : Int32) (i1) x2 (0 : Int32) q7.2 q10.1 q10.2 h11 H.size) (cwV 5 hts (wzV K351 K348 K349 K350 K56) rfl rfl rfl (by decide +kernel) ⟨(Nat.le_of_ble_eq_true rfl), (Nat.le_of_ble_eq_true rfl)⟩) (w_preV hK hP hkc hN hS (gC_Text Γ q7.2 (q7.1) g9) rfl) rfl rfl hl.1 rfl (lv_room (Nat.le_of_ble_eq_true rfl)) dX2_yieldOf_32 ⟨Nat.le_refl _, Nat.le_refl _⟩) hS (fun H locs hP hS => ?_)
      obtain ⟨q12, h13, hf⟩ := w_ob hf
      refine w_ci (va_runSN (As := [.int q10.1]) (rest := []) ⟨hx, hb, hml, hown, hts⟩ (c_X8_bounded l Γ hG q10.1 q10.2 q12.1 q12.2 h13 H.size) ⟨va_cnB 1 hts (wzC K372) rfl rfl rfl (hN _ (List.mem_of_getElem? (i := 4) rfl)) (hts (.initialized RX8) (wzm K2)) (by decide +kernel) ⟨(Nat.le_of_ble_eq_true rfl), (Nat.le_of_ble_eq_true rfl)⟩, (hts (.static yX8_bounded) (wzm K371)), trivial⟩ (w_pre hK hP hkc hN hS) rfl rfl hl.1 rfl (lv_room (Nat.le_of_ble_eq_true rfl)) dX2_yieldOf_35 ⟨Nat.le_refl _, Nat.le_refl _⟩) hS (fun H locs hP hS => ?_)
      refine lv_istore_n (lv' := [(3, .int q12.1), (0, .ref (Γ.2.2.1 (27))), (1, .ref (Γ.2.2.1 (1 + 8 * i1))), (2, .int x2)]) hx hb dX2_yieldOf_38 rfl hl (by decide) rfl (fun ls hl => ?_)
      refine lv_aload_n hx hb dX2_yieldOf_39 rfl (lv_at hl 1 rfl) ?_
      refine lv_aload_n hx hb dX2_yieldOf_40 rfl (lv_at hl 2 rfl) ?_
      refine lv_iload_n hx hb dX2_yieldOf_41 rfl (lv_at hl 3 rfl) ?_
      refine lv_iload_n hx hb dX2_yieldOf_42 rfl (lv_at hl 0 rfl) ?_
      obtain ⟨q14, h15, hf⟩ := w_ob hf
      refine w_ci (va_runV (As := [.ref (Γ.2.2.1 (1 + 8 * i1)), .int x2, .int q12.1]) (rest := []) ⟨hx, hb, hml, hown, hts⟩ (c_X2_yieldByKind l Γ hG (i1) x2 q12.1 q12.2 q14.1 q14.2 h15 H.size) (cwV 3 hts (wzV K383 K380 K381 K382 K24) rfl rfl rfl (by decide +kernel) ⟨(Nat.le_of_ble_eq_true rfl), (Nat.le_of_ble_eq_true rfl)⟩) (w_preV hK hP hkc hN hS (gC_Law Γ q12.2) rfl) rfl rfl hl.1 rfl (lv_room (Nat.le_of_ble_eq_true rfl)) dX2_yieldOf_43 ⟨Nat.le_refl _, Nat.le_refl _⟩) hS (fun H locs hP hS => ?_)
      obtain ⟨q16, h17, hf⟩ := w_ob hf
      refine w_ci (va_runSN (As := [.int q14.1]) (rest := []) ⟨hx, hb, hml, hown, hts⟩ (c_X8_bounded l Γ hG q14.1 q14.2 q16.1 q16.2 h17 H.size) ⟨va_cnB 1 hts (wzC K372) rfl rfl rfl (hN _ (List.mem_of_getElem? (i := 4) rfl)) (hts (.initialized RX8) (wzm K2)) (by decide +kernel) ⟨(Nat.le_of_ble_eq_true rfl), (Nat.le_of_ble_eq_true rfl)⟩, (hts (.static yX8_bounded) (wzm K371)), trivial⟩ (w_pre hK hP hkc hN hS) rfl rfl hl.1 rfl (lv_room (Nat.le_of_ble_eq_true rfl)) dX2_yieldOf_46 ⟨Nat.le_refl _, Nat.le_refl _⟩) hS (fun H locs hP hS => ?_)
      exact w_iret (X := XC Γ) hx hb hr hlocks hK hP hS rfl hf dX2_yieldOf_49
    · replace hf := (if_pos c6).symm.trans hf
      refine lv_iconst (v := (0 : Int32)) hx hb dX2_yieldOf_17 (by decide) ?_
      exact w_iret (X := XC Γ) hx hb hr hlocks hK hP hS rfl hf dX2_yieldOf_18
def f_X2_suitsCup_73 (i1 : Nat) (x2 : Int32) (x3 : Int32) (y4 : Int32) (y5 : Int32) (z0 : Int32) (τ : Sg) : Option (Int32 × Sg) := if i1 < 3 then if okI x2 5 then if (τ (11 * i1 + 4) (x2).toNatClampNeg) = 1 then if (z0 = 0 ∨ z0 = 1) then some (z0, τ) else none else if (τ (11 * i1 + 4) (x2).toNatClampNeg) = 2 then if y5 = 0 then if (3 : Int32) ≤ y4 then some ((0 : Int32), τ) else some ((1 : Int32), τ) else some ((1 : Int32), τ) else if (τ (11 * i1 + 4) (x2).toNatClampNeg) = 3 then if z0 = 0 then if y4 = (9 : Int32) then some ((1 : Int32), τ) else some ((0 : Int32), τ) else some ((1 : Int32), τ) else if (τ (11 * i1 + 4) (x2).toNatClampNeg) = 4 then if x3 = (5 : Int32) then some ((1 : Int32), τ) else some ((0 : Int32), τ) else if (τ (11 * i1 + 4) (x2).toNatClampNeg) = 5 then some ((1 : Int32), τ) else if (y5 = 0 ∨ y5 = 1) then some (y5, τ) else none else none else none
def f_X2_suitsCup_50 (i1 : Nat) (x2 : Int32) (x3 : Int32) (y4 : Int32) (z0 : Int32) (τ : Sg) : Option (Int32 × Sg) := if i1 < 3 then if z0 = 0 then f_X2_suitsCup_73 i1 x2 x3 (y4) (z0) ((0 : Int32)) τ else if okI x2 5 then if y4 = (τ (11 * i1 + 5) (x2).toNatClampNeg) then f_X2_suitsCup_73 i1 x2 x3 (y4) (z0) ((0 : Int32)) τ else f_X2_suitsCup_73 i1 x2 x3 (y4) (z0) ((1 : Int32)) τ else none else none
def f_X2_suitsCup (i1 : Nat) (x2 : Int32) (x3 : Int32) (σ : Sg) : Option (Int32 × Sg) := if i1 < 3 then (f_X1_lodges (i1) x2 σ).bind fun (q2 : Int32 × Sg) => if q2.1 = 0 then some ((0 : Int32), q2.2) else (f_X8_isCup x3 q2.2).bind fun (q5 : Int32 × Sg) => if q5.1 = 0 then some ((0 : Int32), q5.2) else if okI x3 6 then (f_X2_ruling (i1) q5.2).bind fun (q9 : Nat × Sg) => if q9.1 < 7 then (f_X6_value (q9.1) (1 : Int32) (i1) x2 (q5.2 (11 * i1 + 9) (x3).toNatClampNeg) q9.2).bind fun (q12 : Int32 × Sg) => if q12.1 = 0 then f_X2_suitsCup_50 i1 x2 x3 ((q5.2 (11 * i1 + 9) (x3).toNatClampNeg)) ((0 : Int32)) q12.2 else f_X2_suitsCup_50 i1 x2 x3 ((q5.2 (11 * i1 + 9) (x3).toNatClampNeg)) ((1 : Int32)) q12.2 else none else none else none
set_option maxHeartbeats 40000000 in
set_option maxRecDepth 100000 in
theorem c_X2_suitsCup (l : Launch) (Γ : Geo) (hG : okC Γ) (i1 : Nat) (x2 : Int32) (x3 : Int32) (σ : Sg) (r : Int32) (σ' : Sg) (hf : f_X2_suitsCup i1 x2 x3 σ = some (r, σ')) (sz : Nat) : Met l yX2_suitsCup (wz yX2_suitsCup cX2_suitsCup 7 (some .boolean)) { frames := 2, cells := 0, slots := 0, locals := 51 } (va_Pc [.ref (Γ.2.2.1 (27)), .ref (Γ.2.2.1 (1 + 8 * i1)), .int x2, .int x3] (wPre Γ.1 vwCl (tysC Γ) (XC Γ) (alC Γ) Γ.2.2.2 σ sz)) (wQi Γ.1 vwCl (tysC Γ) (XC Γ) (alC Γ) r σ' sz) 0 0 (wA (alC Γ) sz) := by
  refine w_enter (cc := cX2_suitsCup) (maxL := 7) (ret := (some .boolean)) (by decide) rfl (Nat.le_of_ble_eq_true rfl) ?_
  intro p e s m below meth c ls hx hb hr hlocks hml hown hts hsz hP hK hkc hN hl
  subst hsz
  generalize hav : ([.ref (Γ.2.2.1 (27)), .ref (Γ.2.2.1 (1 + 8 * i1)), .int x2, .int x3] : List Value) = av at hl hts ⊢
  have hl : lv_has ls 7 [(0, .ref (Γ.2.2.1 (27))), (1, .ref (Γ.2.2.1 (1 + 8 * i1))), (2, .int x2), (3, .int x3)] := by rw [← hav] at hl; exact hl
  have j73 : ∀ (y4 : Int32) (y5 : Int32) (z0 : Int32) (τ : Sg) (H : Heap) (locs : List Loc) (ls : Array Slot) (hf : f_X2_suitsCup_73 i1 x2 x3 y4 y5 z0 τ = some (r, σ')) (hP : va_P Γ.1 vwCl (XC Γ τ) H) (hS : va_S (wA (alC Γ) s.heap.size) s.heap H locs) (hl : lv_has ls 7 [(1, .ref (Γ.2.2.1 (1 + 8 * i1))), (2, .int x2), (3, .int x3), (4, .int y4), (5, .int y5)]), W p l e { frames := 2, cells := 0, slots := 0, locals := 51 } s m av.toArray below meth c H locs 0 0 (MQ below (wQi Γ.1 vwCl (tysC Γ) (XC Γ) (alC Γ) r σ' s.heap.size) av.toArray s 0 0 (wA (alC Γ) s.heap.size)) (F0 m 73 ls [.int z0]) := by
    intro y4 y5 z0 τ H locs ls hf hP hS hl
    unfold f_X2_suitsCup_73 at hf
    obtain ⟨g19, hf⟩ := w_oi hf
    refine lv_istore (lv' := [(6, .int z0), (1, .ref (Γ.2.2.1 (1 + 8 * i1))), (2, .int x2), (3, .int x3), (4, .int y4), (5, .int y5)]) hx hb dX2_suitsCup_73 hl (by decide) rfl (fun ls hl => ?_)
    refine lv_aload_n hx hb dX2_suitsCup_75 rfl (lv_at hl 1 rfl) ?_
    refine va_get (D := Γ.1) (ci := 1) (v := .ref (Γ.2.2.1 (2 + 8 * i1))) (C := RX1) (T := TX1) (N := 11) hx hb hts iX1 hown hK hP (1 + 8 * i1) (gC_House Γ τ (i1) g19) rfl 4 (by decide) (hts (.fieldLink RX2 69 "OtherHalfOfNight$House" "kind" "[I") (wzm K386)) (fun _ h9 => h9) rfl dX2_suitsCup_76 ?_
    refine lv_iload_n hx hb dX2_suitsCup_79 rfl (lv_at hl 2 rfl) ?_
    obtain ⟨g20, hf⟩ := w_oi hf
    refine va_iald (D := Γ.1) (tys := (tysC Γ)) hx hb hK hP (2 + 8 * i1) 0 (gC_House_kind Γ τ (i1) g19) rfl g20 dX2_suitsCup_80 ?_
    by_cases c21 : (τ (11 * i1 + 4) (x2).toNatClampNeg) = 1
    · replace hf := (if_pos c21).symm.trans hf
      refine lv_tableIn (off := 35) (tgt := 116) hx hb dX2_suitsCup_81 (by rw [c21]; decide) (by rw [c21]; decide) (by rw [c21]; rfl) (by decide) ?_
      refine lv_iload hx hb dX2_suitsCup_116 (lv_at hl 0 rfl) ?_
      obtain ⟨g22, hf⟩ := w_oi hf
      exact w_iret (X := XC Γ) hx hb hr hlocks hK hP hS (w_nb g22) hf dX2_suitsCup_118
    · replace hf := (if_neg c21).symm.trans hf
      by_cases c23 : (τ (11 * i1 + 4) (x2).toNatClampNeg) = 2
      · replace hf := (if_pos c23).symm.trans hf
        refine lv_tableIn (off := 38) (tgt := 119) hx hb dX2_suitsCup_81 (by rw [c23]; decide) (by rw [c23]; decide) (by rw [c23]; rfl) (by decide) ?_
        refine lv_iload hx hb dX2_suitsCup_119 (lv_at hl 5 rfl) ?_
        refine lv_if_ne (tgt := 130) hx hb dX2_suitsCup_121 (by decide) (fun c24 => ?_) (fun c24 => ?_)
        · replace hf := (if_neg c24).symm.trans hf
          refine lv_iconst (v := (1 : Int32)) hx hb dX2_suitsCup_130 (by decide) ?_
          refine lv_goto (tgt := 135) hx hb dX2_suitsCup_131 (by decide) ?_
          exact w_iret (X := XC Γ) hx hb hr hlocks hK hP hS (by decide) hf dX2_suitsCup_135
        · replace hf := (if_pos c24).symm.trans hf
          refine lv_iload hx hb dX2_suitsCup_124 (lv_at hl 4 rfl) ?_
          refine lv_iconst (v := (3 : Int32)) hx hb dX2_suitsCup_126 (by decide) ?_
          refine lv_icmp_ge (tgt := 134) hx hb dX2_suitsCup_127 (by decide) (fun c25 => ?_) (fun c25 => ?_)
          · replace hf := (if_pos c25).symm.trans hf
            refine lv_iconst (v := (0 : Int32)) hx hb dX2_suitsCup_134 (by decide) ?_
            exact w_iret (X := XC Γ) hx hb hr hlocks hK hP hS (by decide) hf dX2_suitsCup_135
          · replace hf := (if_neg c25).symm.trans hf
            refine lv_iconst (v := (1 : Int32)) hx hb dX2_suitsCup_130 (by decide) ?_
            refine lv_goto (tgt := 135) hx hb dX2_suitsCup_131 (by decide) ?_
            exact w_iret (X := XC Γ) hx hb hr hlocks hK hP hS (by decide) hf dX2_suitsCup_135
      · replace hf := (if_neg c23).symm.trans hf
        by_cases c26 : (τ (11 * i1 + 4) (x2).toNatClampNeg) = 3
        · replace hf := (if_pos c26).symm.trans hf
          refine lv_tableIn (off := 55) (tgt := 136) hx hb dX2_suitsCup_81 (by rw [c26]; decide) (by rw [c26]; decide) (by rw [c26]; rfl) (by decide) ?_
          refine lv_iload hx hb dX2_suitsCup_136 (lv_at hl 0 rfl) ?_
          refine lv_if_ne (tgt := 148) hx hb dX2_suitsCup_138 (by decide) (fun c27 => ?_) (fun c27 => ?_)
          · replace hf := (if_neg c27).symm.trans hf
            refine lv_iconst (v := (1 : Int32)) hx hb dX2_suitsCup_148 (by decide) ?_
            refine lv_goto (tgt := 153) hx hb dX2_suitsCup_149 (by decide) ?_
            exact w_iret (X := XC Γ) hx hb hr hlocks hK hP hS (by decide) hf dX2_suitsCup_153
          · replace hf := (if_pos c27).symm.trans hf
            refine lv_iload hx hb dX2_suitsCup_141 (lv_at hl 4 rfl) ?_
            refine lv_bipush (v := (9 : Int32)) hx hb dX2_suitsCup_143 (by decide) ?_
            refine lv_icmp_ne (tgt := 152) hx hb dX2_suitsCup_145 (by decide) (fun c28 => ?_) (fun c28 => ?_)
            · replace hf := (if_neg c28).symm.trans hf
              refine lv_iconst (v := (0 : Int32)) hx hb dX2_suitsCup_152 (by decide) ?_
              exact w_iret (X := XC Γ) hx hb hr hlocks hK hP hS (by decide) hf dX2_suitsCup_153
            · replace hf := (if_pos c28).symm.trans hf
              refine lv_iconst (v := (1 : Int32)) hx hb dX2_suitsCup_148 (by decide) ?_
              refine lv_goto (tgt := 153) hx hb dX2_suitsCup_149 (by decide) ?_
              exact w_iret (X := XC Γ) hx hb hr hlocks hK hP hS (by decide) hf dX2_suitsCup_153
        · replace hf := (if_neg c26).symm.trans hf
          by_cases c29 : (τ (11 * i1 + 4) (x2).toNatClampNeg) = 4
          · replace hf := (if_pos c29).symm.trans hf
            refine lv_tableIn (off := 73) (tgt := 154) hx hb dX2_suitsCup_81 (by rw [c29]; decide) (by rw [c29]; decide) (by rw [c29]; rfl) (by decide) ?_
            refine lv_iload_n hx hb dX2_suitsCup_154 rfl (lv_at hl 3 rfl) ?_
            refine lv_iconst (v := (5 : Int32)) hx hb dX2_suitsCup_155 (by decide) ?_
            refine lv_icmp_ne (tgt := 163) hx hb dX2_suitsCup_156 (by decide) (fun c30 => ?_) (fun c30 => ?_)
            · replace hf := (if_neg c30).symm.trans hf
              refine lv_iconst (v := (0 : Int32)) hx hb dX2_suitsCup_163 (by decide) ?_
              exact w_iret (X := XC Γ) hx hb hr hlocks hK hP hS (by decide) hf dX2_suitsCup_164
            · replace hf := (if_pos c30).symm.trans hf
              refine lv_iconst (v := (1 : Int32)) hx hb dX2_suitsCup_159 (by decide) ?_
              refine lv_goto (tgt := 164) hx hb dX2_suitsCup_160 (by decide) ?_
              exact w_iret (X := XC Γ) hx hb hr hlocks hK hP hS (by decide) hf dX2_suitsCup_164
          · replace hf := (if_neg c29).symm.trans hf
            by_cases c31 : (τ (11 * i1 + 4) (x2).toNatClampNeg) = 5
            · replace hf := (if_pos c31).symm.trans hf
              refine lv_tableIn (off := 84) (tgt := 165) hx hb dX2_suitsCup_81 (by rw [c31]; decide) (by rw [c31]; decide) (by rw [c31]; rfl) (by decide) ?_
              refine lv_iconst (v := (1 : Int32)) hx hb dX2_suitsCup_165 (by decide) ?_
              exact w_iret (X := XC Γ) hx hb hr hlocks hK hP hS (by decide) hf dX2_suitsCup_166
            · replace hf := (if_neg c31).symm.trans hf
              have nc21 : ¬ ((τ (11 * i1 + 4) (x2).toNatClampNeg)).toInt = 1 := fun q => c21 (Int32.toInt_inj.mp q)
              have nc23 : ¬ ((τ (11 * i1 + 4) (x2).toNatClampNeg)).toInt = 2 := fun q => c23 (Int32.toInt_inj.mp q)
              have nc26 : ¬ ((τ (11 * i1 + 4) (x2).toNatClampNeg)).toInt = 3 := fun q => c26 (Int32.toInt_inj.mp q)
              have nc29 : ¬ ((τ (11 * i1 + 4) (x2).toNatClampNeg)).toInt = 4 := fun q => c29 (Int32.toInt_inj.mp q)
              have nc31 : ¬ ((τ (11 * i1 + 4) (x2).toNatClampNeg)).toInt = 5 := fun q => c31 (Int32.toInt_inj.mp q)
              refine lv_tableOut (tgt := 167) hx hb dX2_suitsCup_81 (by omega) (by decide) ?_
              refine lv_iload hx hb dX2_suitsCup_167 (lv_at hl 5 rfl) ?_
              obtain ⟨g32, hf⟩ := w_oi hf
              exact w_iret (X := XC Γ) hx hb hr hlocks hK hP hS (w_nb g32) hf dX2_suitsCup_169
  have j50 : ∀ (y4 : Int32) (z0 : Int32) (τ : Sg) (H : Heap) (locs : List Loc) (ls : Array Slot) (hf : f_X2_suitsCup_50 i1 x2 x3 y4 z0 τ = some (r, σ')) (hP : va_P Γ.1 vwCl (XC Γ τ) H) (hS : va_S (wA (alC Γ) s.heap.size) s.heap H locs) (hl : lv_has ls 7 [(1, .ref (Γ.2.2.1 (1 + 8 * i1))), (2, .int x2), (3, .int x3), (4, .int y4)]), W p l e { frames := 2, cells := 0, slots := 0, locals := 51 } s m av.toArray below meth c H locs 0 0 (MQ below (wQi Γ.1 vwCl (tysC Γ) (XC Γ) (alC Γ) r σ' s.heap.size) av.toArray s 0 0 (wA (alC Γ) s.heap.size)) (F0 m 50 ls [.int z0]) := by
    intro y4 z0 τ H locs ls hf hP hS hl
    unfold f_X2_suitsCup_50 at hf
    obtain ⟨g15, hf⟩ := w_oi hf
    refine lv_istore (lv' := [(5, .int z0), (1, .ref (Γ.2.2.1 (1 + 8 * i1))), (2, .int x2), (3, .int x3), (4, .int y4)]) hx hb dX2_suitsCup_50 hl (by decide) rfl (fun ls hl => ?_)
    refine lv_iload hx hb dX2_suitsCup_52 (lv_at hl 0 rfl) ?_
    refine lv_if_eq (tgt := 72) hx hb dX2_suitsCup_54 (by decide) (fun c16 => ?_) (fun c16 => ?_)
    · replace hf := (if_pos c16).symm.trans hf
      refine lv_iconst (v := (0 : Int32)) hx hb dX2_suitsCup_72 (by decide) ?_
      exact j73 (y4) (z0) ((0 : Int32)) τ H locs ls hf hP hS (lv_sub hl [1, 2, 3, 4, 0] rfl)
    · replace hf := (if_neg c16).symm.trans hf
      refine lv_iload hx hb dX2_suitsCup_57 (lv_at hl 4 rfl) ?_
      refine lv_aload_n hx hb dX2_suitsCup_59 rfl (lv_at hl 1 rfl) ?_
      refine va_get (D := Γ.1) (ci := 1) (v := .ref (Γ.2.2.1 (3 + 8 * i1))) (C := RX1) (T := TX1) (N := 11) hx hb hts iX1 hown hK hP (1 + 8 * i1) (gC_House Γ τ (i1) g15) rfl 5 (by decide) (hts (.fieldLink RX2 66 "OtherHalfOfNight$House" "number" "[I") (wzm K385)) (fun _ h9 => h9) rfl dX2_suitsCup_60 ?_
      refine lv_iload_n hx hb dX2_suitsCup_63 rfl (lv_at hl 2 rfl) ?_
      obtain ⟨g17, hf⟩ := w_oi hf
      refine va_iald (D := Γ.1) (tys := (tysC Γ)) hx hb hK hP (3 + 8 * i1) 0 (gC_House_number Γ τ (i1) g15) rfl g17 dX2_suitsCup_64 ?_
      refine lv_icmp_eq (tgt := 72) hx hb dX2_suitsCup_65 (by decide) (fun c18 => ?_) (fun c18 => ?_)
      · replace hf := (if_pos c18).symm.trans hf
        refine lv_iconst (v := (0 : Int32)) hx hb dX2_suitsCup_72 (by decide) ?_
        exact j73 (y4) (z0) ((0 : Int32)) τ H locs ls hf hP hS (lv_sub hl [1, 2, 3, 4, 0] rfl)
      · replace hf := (if_neg c18).symm.trans hf
        refine lv_iconst (v := (1 : Int32)) hx hb dX2_suitsCup_68 (by decide) ?_
        refine lv_goto (tgt := 73) hx hb dX2_suitsCup_69 (by decide) ?_
        exact j73 (y4) (z0) ((1 : Int32)) τ H locs ls hf hP hS (lv_sub hl [1, 2, 3, 4, 0] rfl)
  suffices hw : ∀ (H : Heap) (locs : List Loc), va_P Γ.1 vwCl (XC Γ σ) H → va_S (wA (alC Γ) s.heap.size) s.heap H locs → W p l e { frames := 2, cells := 0, slots := 0, locals := 51 } s m av.toArray below meth c H locs 0 0 (MQ below (wQi Γ.1 vwCl (tysC Γ) (XC Γ) (alC Γ) r σ' s.heap.size) av.toArray s 0 0 (wA (alC Γ) s.heap.size)) (F0 m 0 ls []) from hw _ [] hP va_S.rf
  clear hP
  intro H locs hP hS
  unfold f_X2_suitsCup at hf
  obtain ⟨g1, hf⟩ := w_oi hf
  refine lv_aload_n hx hb dX2_suitsCup_0 rfl (lv_at hl 1 rfl) ?_
  refine lv_iload_n hx hb dX2_suitsCup_1 rfl (lv_at hl 2 rfl) ?_
  obtain ⟨q2, h3, hf⟩ := w_ob hf
  refine w_ci (va_runV (As := [.int x2]) (rest := []) ⟨hx, hb, hml, hown, hts⟩ (c_X1_lodges l Γ hG (i1) x2 σ q2.1 q2.2 h3 H.size) (cwV 1 hts (wzV K144 K338 K142 K143 K14) rfl rfl rfl (by decide +kernel) ⟨(Nat.le_of_ble_eq_true rfl), (Nat.le_of_ble_eq_true rfl)⟩) (w_preV hK hP hkc hN hS (gC_House Γ σ (i1) g1) rfl) rfl rfl hl.1 rfl (lv_room (Nat.le_of_ble_eq_true rfl)) dX2_suitsCup_2 ⟨Nat.le_refl _, Nat.le_refl _⟩) hS (fun H locs hP hS => ?_)
  refine lv_if_eq (tgt := 15) hx hb dX2_suitsCup_5 (by decide) (fun c4 => ?_) (fun c4 => ?_)
  · replace hf := (if_pos c4).symm.trans hf
    refine lv_iconst (v := (0 : Int32)) hx hb dX2_suitsCup_15 (by decide) ?_
    exact w_iret (X := XC Γ) hx hb hr hlocks hK hP hS (by decide) hf dX2_suitsCup_16
  · replace hf := (if_neg c4).symm.trans hf
    refine lv_iload_n hx hb dX2_suitsCup_8 rfl (lv_at hl 3 rfl) ?_
    obtain ⟨q5, h6, hf⟩ := w_ob hf
    refine w_ci (va_runSN (As := [.int x3]) (rest := []) ⟨hx, hb, hml, hown, hts⟩ (c_X8_isCup l Γ hG x3 q2.2 q5.1 q5.2 h6 H.size) ⟨va_cnB 1 hts (wzC K147) rfl rfl rfl (hN _ (List.mem_of_getElem? (i := 5) rfl)) (hts (.initialized RX8) (wzm K2)) (by decide +kernel) ⟨(Nat.le_of_ble_eq_true rfl), (Nat.le_of_ble_eq_true rfl)⟩, (hts (.static yX8_isCup) (wzm K146)), trivial⟩ (w_pre hK hP hkc hN hS) rfl rfl hl.1 rfl (lv_room (Nat.le_of_ble_eq_true rfl)) dX2_suitsCup_9 ⟨Nat.le_refl _, Nat.le_refl _⟩) hS (fun H locs hP hS => ?_)
    refine lv_if_ne (tgt := 17) hx hb dX2_suitsCup_12 (by decide) (fun c7 => ?_) (fun c7 => ?_)
    · replace hf := (if_neg c7).symm.trans hf
      refine lv_aload_n hx hb dX2_suitsCup_17 rfl (lv_at hl 1 rfl) ?_
      refine va_get (D := Γ.1) (ci := 1) (v := .ref (Γ.2.2.1 (7 + 8 * i1))) (C := RX1) (T := TX1) (N := 11) hx hb hts iX1 hown hK hP (1 + 8 * i1) (gC_House Γ q5.2 (i1) g1) rfl 9 (by decide) (hts (.fieldLink RX2 63 "OtherHalfOfNight$House" "taste" "[I") (wzm K398)) (fun _ h9 => h9) rfl dX2_suitsCup_18 ?_
      refine lv_iload_n hx hb dX2_suitsCup_21 rfl (lv_at hl 3 rfl) ?_
      obtain ⟨g8, hf⟩ := w_oi hf
      refine va_iald (D := Γ.1) (tys := (tysC Γ)) hx hb hK hP (7 + 8 * i1) 0 (gC_House_taste Γ q5.2 (i1) g1) rfl g8 dX2_suitsCup_22 ?_
      refine lv_istore (lv' := [(4, .int (q5.2 (11 * i1 + 9) (x3).toNatClampNeg)), (0, .ref (Γ.2.2.1 (27))), (1, .ref (Γ.2.2.1 (1 + 8 * i1))), (2, .int x2), (3, .int x3)]) hx hb dX2_suitsCup_23 hl (by decide) rfl (fun ls hl => ?_)
      refine lv_aload_n hx hb dX2_suitsCup_25 rfl (lv_at hl 1 rfl) ?_
      refine lv_aload_n hx hb dX2_suitsCup_26 rfl (lv_at hl 2 rfl) ?_
      obtain ⟨q9, h10, hf⟩ := w_ob hf
      refine w_cr (va_runV (As := [.ref (Γ.2.2.1 (1 + 8 * i1))]) (rest := []) ⟨hx, hb, hml, hown, hts⟩ (c_X2_ruling l Γ hG (i1) q5.2 q9.1 q9.2 h10 H.size) (cwV 1 hts (wzV K342 K339 K340 K341 K24) rfl rfl rfl (by decide +kernel) ⟨(Nat.le_of_ble_eq_true rfl), (Nat.le_of_ble_eq_true rfl)⟩) (w_preV hK hP hkc hN hS (gC_Law Γ q5.2) rfl) rfl rfl hl.1 rfl (lv_room (Nat.le_of_ble_eq_true rfl)) dX2_suitsCup_27 ⟨Nat.le_refl _, Nat.le_refl _⟩) hS (fun H locs hP hS => ?_)
      obtain ⟨g11, hf⟩ := w_oi hf
      refine lv_iconst (v := (1 : Int32)) hx hb dX2_suitsCup_30 (by decide) ?_
      refine lv_aload_n hx hb dX2_suitsCup_31 rfl (lv_at hl 2 rfl) ?_
      refine lv_iload_n hx hb dX2_suitsCup_32 rfl (lv_at hl 3 rfl) ?_
      refine lv_iload hx hb dX2_suitsCup_33 (lv_at hl 0 rfl) ?_
      refine lv_aload_n hx hb dX2_suitsCup_35 rfl (lv_at hl 1 rfl) ?_
      refine va_get (D := Γ.1) (ci := 2) (v := .ref (Γ.2.2.1 (29))) (C := RX2) (T := TX2) (N := 3) hx hb hts iX2 hown hK hP (27) (gC_Law Γ q9.2) rfl 2 (by decide) (hts (.fieldLink RX2 21 "OtherHalfOfNight$Law" "stack" "[I") (wzm K70)) (fun _ h9 => h9) rfl dX2_suitsCup_36 ?_
      obtain ⟨q12, h13, hf⟩ := w_ob hf
      refine w_ci (va_runV (As := [.int (1 : Int32), .ref (Γ.2.2.1 (1 + 8 * i1)), .int x2, .int (q5.2 (11 * i1 + 9) (x3).toNatClampNeg), .ref (Γ.2.2.1 (29))]) (rest := []) ⟨hx, hb, hml, hown, hts⟩ (c_X6_value l Γ hG (q9.1) (1 : Int32) (i1) x2 (q5.2 (11 * i1 + 9) (x3).toNatClampNeg) q9.2 q12.1 q12.2 h13 H.size) (cwV 5 hts (wzV K351 K348 K349 K350 K56) rfl rfl rfl (by decide +kernel) ⟨(Nat.le_of_ble_eq_true rfl), (Nat.le_of_ble_eq_true rfl)⟩) (w_preV hK hP hkc hN hS (gC_Text Γ q9.2 (q9.1) g11) rfl) rfl rfl hl.1 rfl (lv_room (Nat.le_of_ble_eq_true rfl)) dX2_suitsCup_39 ⟨Nat.le_refl _, Nat.le_refl _⟩) hS (fun H locs hP hS => ?_)
      refine lv_if_eq (tgt := 49) hx hb dX2_suitsCup_42 (by decide) (fun c14 => ?_) (fun c14 => ?_)
      · replace hf := (if_pos c14).symm.trans hf
        refine lv_iconst (v := (0 : Int32)) hx hb dX2_suitsCup_49 (by decide) ?_
        exact j50 ((q5.2 (11 * i1 + 9) (x3).toNatClampNeg)) ((0 : Int32)) q12.2 H locs ls hf hP hS (lv_sub hl [2, 3, 4, 0] rfl)
      · replace hf := (if_neg c14).symm.trans hf
        refine lv_iconst (v := (1 : Int32)) hx hb dX2_suitsCup_45 (by decide) ?_
        refine lv_goto (tgt := 50) hx hb dX2_suitsCup_46 (by decide) ?_
        exact j50 ((q5.2 (11 * i1 + 9) (x3).toNatClampNeg)) ((1 : Int32)) q12.2 H locs ls hf hP hS (lv_sub hl [2, 3, 4, 0] rfl)
    · replace hf := (if_pos c7).symm.trans hf
      refine lv_iconst (v := (0 : Int32)) hx hb dX2_suitsCup_15 (by decide) ?_
      exact w_iret (X := XC Γ) hx hb hr hlocks hK hP hS (by decide) hf dX2_suitsCup_16
def f_X2_suitBits_5 (i1 : Nat) (x2 : Int32) : Nat → Int32 → Int32 → Sg → Option (Int32 × Sg)
  | 0, _, _, _ => none
  | n + 1, y3, y4, τ => if i1 < 3 then if (6 : Int32) ≤ y4 then some (y3, τ) else (f_X2_suitsCup (i1) x2 y4 τ).bind fun (q4 : Int32 × Sg) => if q4.1 = 0 then (f_X2_suitBits_5 i1 x2 n) (y3) ((y4 + (1 : Int32))) q4.2 else (f_X2_suitBits_5 i1 x2 n) ((y3 ||| ((1 : Int32) <<< (y4 &&& 31)))) ((y4 + (1 : Int32))) q4.2 else none
def f_X2_suitBits (i1 : Nat) (x2 : Int32) (σ : Sg) : Option (Int32 × Sg) := if i1 < 3 then f_X2_suitBits_5 i1 x2 5000 ((0 : Int32)) ((0 : Int32)) σ else none
set_option maxHeartbeats 40000000 in
set_option maxRecDepth 100000 in
theorem c_X2_suitBits (l : Launch) (Γ : Geo) (hG : okC Γ) (i1 : Nat) (x2 : Int32) (σ : Sg) (r : Int32) (σ' : Sg) (hf : f_X2_suitBits i1 x2 σ = some (r, σ')) (sz : Nat) : Met l yX2_suitBits (wz yX2_suitBits cX2_suitBits 5 (some .int)) { frames := 3, cells := 0, slots := 0, locals := 77 } (va_Pc [.ref (Γ.2.2.1 (27)), .ref (Γ.2.2.1 (1 + 8 * i1)), .int x2] (wPre Γ.1 vwCl (tysC Γ) (XC Γ) (alC Γ) Γ.2.2.2 σ sz)) (wQi Γ.1 vwCl (tysC Γ) (XC Γ) (alC Γ) r σ' sz) 0 0 (wA (alC Γ) sz) := by
  refine w_enter (cc := cX2_suitBits) (maxL := 5) (ret := (some .int)) (by decide) rfl (Nat.le_of_ble_eq_true rfl) ?_
  intro p e s m below meth c ls hx hb hr hlocks hml hown hts hsz hP hK hkc hN hl
  subst hsz
  generalize hav : ([.ref (Γ.2.2.1 (27)), .ref (Γ.2.2.1 (1 + 8 * i1)), .int x2] : List Value) = av at hl hts ⊢
  have hl : lv_has ls 5 [(0, .ref (Γ.2.2.1 (27))), (1, .ref (Γ.2.2.1 (1 + 8 * i1))), (2, .int x2)] := by rw [← hav] at hl; exact hl
  have j5 : ∀ (n5 : Nat), ∀ (y3 : Int32) (y4 : Int32) (τ : Sg) (H : Heap) (locs : List Loc) (ls : Array Slot) (hf : f_X2_suitBits_5 i1 x2 n5 y3 y4 τ = some (r, σ')) (hP : va_P Γ.1 vwCl (XC Γ τ) H) (hS : va_S (wA (alC Γ) s.heap.size) s.heap H locs) (hl : lv_has ls 5 [(0, .ref (Γ.2.2.1 (27))), (1, .ref (Γ.2.2.1 (1 + 8 * i1))), (2, .int x2), (3, .int y3), (4, .int y4)]), W p l e { frames := 3, cells := 0, slots := 0, locals := 77 } s m av.toArray below meth c H locs 0 0 (MQ below (wQi Γ.1 vwCl (tysC Γ) (XC Γ) (alC Γ) r σ' s.heap.size) av.toArray s 0 0 (wA (alC Γ) s.heap.size)) (F0 m 5 ls []) := by
    intro n5
    induction n5 with
    | zero =>
      intro y3 y4 τ H locs ls hf
      exact absurd hf (by intro h; cases h)
    | succ n5 ih5 =>
      intro y3 y4 τ H locs ls hf hP hS hl
      unfold f_X2_suitBits_5 at hf
      obtain ⟨g2, hf⟩ := w_oi hf
      refine lv_iload hx hb dX2_suitBits_5 (lv_at hl 4 rfl) ?_
      refine lv_bipush (v := (6 : Int32)) hx hb dX2_suitBits_7 (by decide) ?_
      refine lv_icmp_ge (tgt := 36) hx hb dX2_suitBits_9 (by decide) (fun c3 => ?_) (fun c3 => ?_)
      · replace hf := (if_pos c3).symm.trans hf
        refine lv_iload_n hx hb dX2_suitBits_36 rfl (lv_at hl 3 rfl) ?_
        exact w_iret (X := XC Γ) hx hb hr hlocks hK hP hS rfl hf dX2_suitBits_37
      · replace hf := (if_neg c3).symm.trans hf
        refine lv_aload_n hx hb dX2_suitBits_12 rfl (lv_at hl 0 rfl) ?_
        refine lv_aload_n hx hb dX2_suitBits_13 rfl (lv_at hl 1 rfl) ?_
        refine lv_iload_n hx hb dX2_suitBits_14 rfl (lv_at hl 2 rfl) ?_
        refine lv_iload hx hb dX2_suitBits_15 (lv_at hl 4 rfl) ?_
        obtain ⟨q4, h5, hf⟩ := w_ob hf
        refine w_ci (va_runV (As := [.ref (Γ.2.2.1 (1 + 8 * i1)), .int x2, .int y4]) (rest := []) ⟨hx, hb, hml, hown, hts⟩ (c_X2_suitsCup l Γ hG (i1) x2 y4 τ q4.1 q4.2 h5 H.size) (cwV 3 hts (wzV K397 K394 K395 K396 K24) rfl rfl rfl (by decide +kernel) ⟨(Nat.le_of_ble_eq_true rfl), (Nat.le_of_ble_eq_true rfl)⟩) (w_preV hK hP hkc hN hS (gC_Law Γ τ) rfl) rfl rfl hl.1 rfl (lv_room (Nat.le_of_ble_eq_true rfl)) dX2_suitBits_17 ⟨Nat.le_refl _, Nat.le_refl _⟩) hS (fun H locs hP hS => ?_)
        refine lv_if_eq (tgt := 30) hx hb dX2_suitBits_20 (by decide) (fun c6 => ?_) (fun c6 => ?_)
        · replace hf := (if_pos c6).symm.trans hf
          refine lv_iinc (v := (y4 + (1 : Int32))) (lv' := [(4, .int (y4 + (1 : Int32))), (0, .ref (Γ.2.2.1 (27))), (1, .ref (Γ.2.2.1 (1 + 8 * i1))), (2, .int x2), (3, .int y3)]) hx hb dX2_suitBits_30 hl (k := 4) rfl rfl (by decide) rfl (fun ls hl => ?_)
          refine lv_goto (tgt := 5) hx hb dX2_suitBits_33 (by decide) ?_
          exact ih5 (y3) ((y4 + (1 : Int32))) q4.2 H locs ls hf hP hS (lv_sub hl [1, 2, 3, 4, 0] rfl)
        · replace hf := (if_neg c6).symm.trans hf
          refine lv_iload_n hx hb dX2_suitBits_23 rfl (lv_at hl 3 rfl) ?_
          refine lv_iconst (v := (1 : Int32)) hx hb dX2_suitBits_24 (by decide) ?_
          refine lv_iload hx hb dX2_suitBits_25 (lv_at hl 4 rfl) ?_
          refine lv_ishl hx hb dX2_suitBits_27 ?_
          refine lv_ior hx hb dX2_suitBits_28 ?_
          refine lv_istore_n (lv' := [(3, .int (y3 ||| ((1 : Int32) <<< (y4 &&& 31)))), (0, .ref (Γ.2.2.1 (27))), (1, .ref (Γ.2.2.1 (1 + 8 * i1))), (2, .int x2), (4, .int y4)]) hx hb dX2_suitBits_29 rfl hl (by decide) rfl (fun ls hl => ?_)
          refine lv_iinc (v := (y4 + (1 : Int32))) (lv' := [(4, .int (y4 + (1 : Int32))), (3, .int (y3 ||| ((1 : Int32) <<< (y4 &&& 31)))), (0, .ref (Γ.2.2.1 (27))), (1, .ref (Γ.2.2.1 (1 + 8 * i1))), (2, .int x2)]) hx hb dX2_suitBits_30 hl (k := 4) rfl rfl (by decide) rfl (fun ls hl => ?_)
          refine lv_goto (tgt := 5) hx hb dX2_suitBits_33 (by decide) ?_
          exact ih5 ((y3 ||| ((1 : Int32) <<< (y4 &&& 31)))) ((y4 + (1 : Int32))) q4.2 H locs ls hf hP hS (lv_sub hl [2, 3, 4, 1, 0] rfl)
  suffices hw : ∀ (H : Heap) (locs : List Loc), va_P Γ.1 vwCl (XC Γ σ) H → va_S (wA (alC Γ) s.heap.size) s.heap H locs → W p l e { frames := 3, cells := 0, slots := 0, locals := 77 } s m av.toArray below meth c H locs 0 0 (MQ below (wQi Γ.1 vwCl (tysC Γ) (XC Γ) (alC Γ) r σ' s.heap.size) av.toArray s 0 0 (wA (alC Γ) s.heap.size)) (F0 m 0 ls []) from hw _ [] hP va_S.rf
  clear hP
  intro H locs hP hS
  unfold f_X2_suitBits at hf
  obtain ⟨g1, hf⟩ := w_oi hf
  refine lv_iconst (v := (0 : Int32)) hx hb dX2_suitBits_0 (by decide) ?_
  refine lv_istore_n (lv' := [(3, .int (0 : Int32)), (0, .ref (Γ.2.2.1 (27))), (1, .ref (Γ.2.2.1 (1 + 8 * i1))), (2, .int x2)]) hx hb dX2_suitBits_1 rfl hl (by decide) rfl (fun ls hl => ?_)
  refine lv_iconst (v := (0 : Int32)) hx hb dX2_suitBits_2 (by decide) ?_
  refine lv_istore (lv' := [(4, .int (0 : Int32)), (3, .int (0 : Int32)), (0, .ref (Γ.2.2.1 (27))), (1, .ref (Γ.2.2.1 (1 + 8 * i1))), (2, .int x2)]) hx hb dX2_suitBits_3 hl (by decide) rfl (fun ls hl => ?_)
  exact j5 5000 ((0 : Int32)) ((0 : Int32)) σ H locs ls hf hP hS (lv_sub hl [2, 3, 4, 1, 0] rfl)
def f_X2_easeOf (i1 : Nat) (x2 : Int32) (σ : Sg) : Option (Int32 × Sg) := if i1 < 3 then (f_X1_lodges (i1) x2 σ).bind fun (q2 : Int32 × Sg) => if q2.1 = 0 then some ((0 : Int32), q2.2) else (f_X2_ruling (i1) q2.2).bind fun (q5 : Nat × Sg) => if q5.1 < 7 then (f_X6_value (q5.1) (2 : Int32) (i1) x2 (0 : Int32) q5.2).bind fun (q8 : Int32 × Sg) => (f_X8_bounded q8.1 q8.2).bind fun (q10 : Int32 × Sg) => if okI x2 5 then if (q10.2 (11 * i1 + 4) (x2).toNatClampNeg) = 1 then some ((q10.1 / (2 : Int32)), q10.2) else if (q10.2 (11 * i1 + 4) (x2).toNatClampNeg) = 2 then some ((0 : Int32), q10.2) else if (q10.2 (11 * i1 + 4) (x2).toNatClampNeg) = 3 then if ((q10.2 (11 * i1) 0) - (q10.2 (11 * i1) 0) / (7 : Int32) * (7 : Int32)) = 0 then some ((-1 : Int32), q10.2) else some ((q10.1 / (2 : Int32)), q10.2) else if (q10.2 (11 * i1 + 4) (x2).toNatClampNeg) = 4 then if okI x2 5 then some ((-(q10.2 (11 * i1 + 5) (x2).toNatClampNeg)), q10.2) else none else if (q10.2 (11 * i1 + 4) (x2).toNatClampNeg) = 5 then if okI x2 5 then if (q10.2 (11 * i1 + 7) (x2).toNatClampNeg) ≤ 0 then some (q10.1, q10.2) else if okI x2 5 then some ((q10.2 (11 * i1 + 6) (x2).toNatClampNeg), q10.2) else none else none else some (q10.1, q10.2) else none else none else none
set_option maxHeartbeats 40000000 in
set_option maxRecDepth 100000 in
theorem c_X2_easeOf (l : Launch) (Γ : Geo) (hG : okC Γ) (i1 : Nat) (x2 : Int32) (σ : Sg) (r : Int32) (σ' : Sg) (hf : f_X2_easeOf i1 x2 σ = some (r, σ')) (sz : Nat) : Met l yX2_easeOf (wz yX2_easeOf cX2_easeOf 4 (some .int)) { frames := 2, cells := 0, slots := 0, locals := 51 } (va_Pc [.ref (Γ.2.2.1 (27)), .ref (Γ.2.2.1 (1 + 8 * i1)), .int x2] (wPre Γ.1 vwCl (tysC Γ) (XC Γ) (alC Γ) Γ.2.2.2 σ sz)) (wQi Γ.1 vwCl (tysC Γ) (XC Γ) (alC Γ) r σ' sz) 0 0 (wA (alC Γ) sz) := by
  refine w_enter (cc := cX2_easeOf) (maxL := 4) (ret := (some .int)) (by decide) rfl (Nat.le_of_ble_eq_true rfl) ?_
  intro p e s m below meth c ls hx hb hr hlocks hml hown hts hsz hP hK hkc hN hl
  subst hsz
  generalize hav : ([.ref (Γ.2.2.1 (27)), .ref (Γ.2.2.1 (1 + 8 * i1)), .int x2] : List Value) = av at hl hts ⊢
  have hl : lv_has ls 4 [(0, .ref (Γ.2.2.1 (27))), (1, .ref (Γ.2.2.1 (1 + 8 * i1))), (2, .int x2)] := by rw [← hav] at hl; exact hl
  suffices hw : ∀ (H : Heap) (locs : List Loc), va_P Γ.1 vwCl (XC Γ σ) H → va_S (wA (alC Γ) s.heap.size) s.heap H locs → W p l e { frames := 2, cells := 0, slots := 0, locals := 51 } s m av.toArray below meth c H locs 0 0 (MQ below (wQi Γ.1 vwCl (tysC Γ) (XC Γ) (alC Γ) r σ' s.heap.size) av.toArray s 0 0 (wA (alC Γ) s.heap.size)) (F0 m 0 ls []) from hw _ [] hP va_S.rf
  clear hP
  intro H locs hP hS
  unfold f_X2_easeOf at hf
  obtain ⟨g1, hf⟩ := w_oi hf
  refine lv_aload_n hx hb dX2_easeOf_0 rfl (lv_at hl 1 rfl) ?_
  refine lv_iload_n hx hb dX2_easeOf_1 rfl (lv_at hl 2 rfl) ?_
  obtain ⟨q2, h3, hf⟩ := w_ob hf
  refine w_ci (va_runV (As := [.int x2]) (rest := []) ⟨hx, hb, hml, hown, hts⟩ (c_X1_lodges l Γ hG (i1) x2 σ q2.1 q2.2 h3 H.size) (cwV 1 hts (wzV K144 K338 K142 K143 K14) rfl rfl rfl (by decide +kernel) ⟨(Nat.le_of_ble_eq_true rfl), (Nat.le_of_ble_eq_true rfl)⟩) (w_preV hK hP hkc hN hS (gC_House Γ σ (i1) g1) rfl) rfl rfl hl.1 rfl (lv_room (Nat.le_of_ble_eq_true rfl)) dX2_easeOf_2 ⟨Nat.le_refl _, Nat.le_refl _⟩) hS (fun H locs hP hS => ?_)
  refine lv_if_ne (tgt := 10) hx hb dX2_easeOf_5 (by decide) (fun c4 => ?_) (fun c4 => ?_)
  · replace hf := (if_neg c4).symm.trans hf
    refine lv_aload_n hx hb dX2_easeOf_10 rfl (lv_at hl 0 rfl) ?_
    refine lv_aload_n hx hb dX2_easeOf_11 rfl (lv_at hl 1 rfl) ?_
    obtain ⟨q5, h6, hf⟩ := w_ob hf
    refine w_cr (va_runV (As := [.ref (Γ.2.2.1 (1 + 8 * i1))]) (rest := []) ⟨hx, hb, hml, hown, hts⟩ (c_X2_ruling l Γ hG (i1) q2.2 q5.1 q5.2 h6 H.size) (cwV 1 hts (wzV K342 K339 K340 K341 K24) rfl rfl rfl (by decide +kernel) ⟨(Nat.le_of_ble_eq_true rfl), (Nat.le_of_ble_eq_true rfl)⟩) (w_preV hK hP hkc hN hS (gC_Law Γ q2.2) rfl) rfl rfl hl.1 rfl (lv_room (Nat.le_of_ble_eq_true rfl)) dX2_easeOf_12 ⟨Nat.le_refl _, Nat.le_refl _⟩) hS (fun H locs hP hS => ?_)
    obtain ⟨g7, hf⟩ := w_oi hf
    refine lv_iconst (v := (2 : Int32)) hx hb dX2_easeOf_15 (by decide) ?_
    refine lv_aload_n hx hb dX2_easeOf_16 rfl (lv_at hl 1 rfl) ?_
    refine lv_iload_n hx hb dX2_easeOf_17 rfl (lv_at hl 2 rfl) ?_
    refine lv_iconst (v := (0 : Int32)) hx hb dX2_easeOf_18 (by decide) ?_
    refine lv_aload_n hx hb dX2_easeOf_19 rfl (lv_at hl 0 rfl) ?_
    refine va_get (D := Γ.1) (ci := 2) (v := .ref (Γ.2.2.1 (29))) (C := RX2) (T := TX2) (N := 3) hx hb hts iX2 hown hK hP (27) (gC_Law Γ q5.2) rfl 2 (by decide) (hts (.fieldLink RX2 21 "OtherHalfOfNight$Law" "stack" "[I") (wzm K70)) (fun _ h9 => h9) rfl dX2_easeOf_20 ?_
    obtain ⟨q8, h9, hf⟩ := w_ob hf
    refine w_ci (va_runV (As := [.int (2 : Int32), .ref (Γ.2.2.1 (1 + 8 * i1)), .int x2, .int (0 : Int32), .ref (Γ.2.2.1 (29))]) (rest := []) ⟨hx, hb, hml, hown, hts⟩ (c_X6_value l Γ hG (q5.1) (2 : Int32) (i1) x2 (0 : Int32) q5.2 q8.1 q8.2 h9 H.size) (cwV 5 hts (wzV K351 K348 K349 K350 K56) rfl rfl rfl (by decide +kernel) ⟨(Nat.le_of_ble_eq_true rfl), (Nat.le_of_ble_eq_true rfl)⟩) (w_preV hK hP hkc hN hS (gC_Text Γ q5.2 (q5.1) g7) rfl) rfl rfl hl.1 rfl (lv_room (Nat.le_of_ble_eq_true rfl)) dX2_easeOf_23 ⟨Nat.le_refl _, Nat.le_refl _⟩) hS (fun H locs hP hS => ?_)
    obtain ⟨q10, h11, hf⟩ := w_ob hf
    refine w_ci (va_runSN (As := [.int q8.1]) (rest := []) ⟨hx, hb, hml, hown, hts⟩ (c_X8_bounded l Γ hG q8.1 q8.2 q10.1 q10.2 h11 H.size) ⟨va_cnB 1 hts (wzC K372) rfl rfl rfl (hN _ (List.mem_of_getElem? (i := 4) rfl)) (hts (.initialized RX8) (wzm K2)) (by decide +kernel) ⟨(Nat.le_of_ble_eq_true rfl), (Nat.le_of_ble_eq_true rfl)⟩, (hts (.static yX8_bounded) (wzm K371)), trivial⟩ (w_pre hK hP hkc hN hS) rfl rfl hl.1 rfl (lv_room (Nat.le_of_ble_eq_true rfl)) dX2_easeOf_26 ⟨Nat.le_refl _, Nat.le_refl _⟩) hS (fun H locs hP hS => ?_)
    refine lv_istore_n (lv' := [(3, .int q10.1), (0, .ref (Γ.2.2.1 (27))), (1, .ref (Γ.2.2.1 (1 + 8 * i1))), (2, .int x2)]) hx hb dX2_easeOf_29 rfl hl (by decide) rfl (fun ls hl => ?_)
    refine lv_aload_n hx hb dX2_easeOf_30 rfl (lv_at hl 2 rfl) ?_
    refine va_get (D := Γ.1) (ci := 1) (v := .ref (Γ.2.2.1 (2 + 8 * i1))) (C := RX1) (T := TX1) (N := 11) hx hb hts iX1 hown hK hP (1 + 8 * i1) (gC_House Γ q10.2 (i1) g1) rfl 4 (by decide) (hts (.fieldLink RX2 69 "OtherHalfOfNight$House" "kind" "[I") (wzm K386)) (fun _ h9 => h9) rfl dX2_easeOf_31 ?_
    refine lv_iload_n hx hb dX2_easeOf_34 rfl (lv_at hl 3 rfl) ?_
    obtain ⟨g12, hf⟩ := w_oi hf
    refine va_iald (D := Γ.1) (tys := (tysC Γ)) hx hb hK hP (2 + 8 * i1) 0 (gC_House_kind Γ q10.2 (i1) g1) rfl g12 dX2_easeOf_35 ?_
    by_cases c13 : (q10.2 (11 * i1 + 4) (x2).toNatClampNeg) = 1
    · replace hf := (if_pos c13).symm.trans hf
      refine lv_tableIn (off := 36) (tgt := 72) hx hb dX2_easeOf_36 (by rw [c13]; decide) (by rw [c13]; decide) (by rw [c13]; rfl) (by decide) ?_
      refine lv_iload_n hx hb dX2_easeOf_72 rfl (lv_at hl 0 rfl) ?_
      refine lv_iconst (v := (2 : Int32)) hx hb dX2_easeOf_73 (by decide) ?_
      refine lv_idiv hx hb dX2_easeOf_74 (by decide) ?_
      exact w_iret (X := XC Γ) hx hb hr hlocks hK hP hS rfl hf dX2_easeOf_75
    · replace hf := (if_neg c13).symm.trans hf
      by_cases c14 : (q10.2 (11 * i1 + 4) (x2).toNatClampNeg) = 2
      · replace hf := (if_pos c14).symm.trans hf
        refine lv_tableIn (off := 40) (tgt := 76) hx hb dX2_easeOf_36 (by rw [c14]; decide) (by rw [c14]; decide) (by rw [c14]; rfl) (by decide) ?_
        refine lv_iconst (v := (0 : Int32)) hx hb dX2_easeOf_76 (by decide) ?_
        exact w_iret (X := XC Γ) hx hb hr hlocks hK hP hS rfl hf dX2_easeOf_77
      · replace hf := (if_neg c14).symm.trans hf
        by_cases c15 : (q10.2 (11 * i1 + 4) (x2).toNatClampNeg) = 3
        · replace hf := (if_pos c15).symm.trans hf
          refine lv_tableIn (off := 42) (tgt := 78) hx hb dX2_easeOf_36 (by rw [c15]; decide) (by rw [c15]; decide) (by rw [c15]; rfl) (by decide) ?_
          refine lv_aload_n hx hb dX2_easeOf_78 rfl (lv_at hl 2 rfl) ?_
          refine va_get (D := Γ.1) (ci := 1) (v := .int (q10.2 (11 * i1) 0)) (C := RX1) (T := TX1) (N := 11) hx hb hts iX1 hown hK hP (1 + 8 * i1) (gC_House Γ q10.2 (i1) g1) rfl 0 (by decide) (hts (.fieldLink RX2 76 "OtherHalfOfNight$House" "night" "I") (wzm K384)) (fun _ h9 => h9) rfl dX2_easeOf_79 ?_
          refine lv_bipush (v := (7 : Int32)) hx hb dX2_easeOf_82 (by decide) ?_
          refine lv_irem hx hb dX2_easeOf_84 (by decide) ?_
          refine lv_if_ne (tgt := 92) hx hb dX2_easeOf_85 (by decide) (fun c16 => ?_) (fun c16 => ?_)
          · replace hf := (if_neg c16).symm.trans hf
            refine lv_iload_n hx hb dX2_easeOf_92 rfl (lv_at hl 0 rfl) ?_
            refine lv_iconst (v := (2 : Int32)) hx hb dX2_easeOf_93 (by decide) ?_
            refine lv_idiv hx hb dX2_easeOf_94 (by decide) ?_
            exact w_iret (X := XC Γ) hx hb hr hlocks hK hP hS rfl hf dX2_easeOf_95
          · replace hf := (if_pos c16).symm.trans hf
            refine lv_iconst (v := (-1 : Int32)) hx hb dX2_easeOf_88 (by decide) ?_
            refine lv_goto (tgt := 95) hx hb dX2_easeOf_89 (by decide) ?_
            exact w_iret (X := XC Γ) hx hb hr hlocks hK hP hS rfl hf dX2_easeOf_95
        · replace hf := (if_neg c15).symm.trans hf
          by_cases c17 : (q10.2 (11 * i1 + 4) (x2).toNatClampNeg) = 4
          · replace hf := (if_pos c17).symm.trans hf
            refine lv_tableIn (off := 60) (tgt := 96) hx hb dX2_easeOf_36 (by rw [c17]; decide) (by rw [c17]; decide) (by rw [c17]; rfl) (by decide) ?_
            refine lv_aload_n hx hb dX2_easeOf_96 rfl (lv_at hl 2 rfl) ?_
            refine va_get (D := Γ.1) (ci := 1) (v := .ref (Γ.2.2.1 (3 + 8 * i1))) (C := RX1) (T := TX1) (N := 11) hx hb hts iX1 hown hK hP (1 + 8 * i1) (gC_House Γ q10.2 (i1) g1) rfl 5 (by decide) (hts (.fieldLink RX2 66 "OtherHalfOfNight$House" "number" "[I") (wzm K385)) (fun _ h9 => h9) rfl dX2_easeOf_97 ?_
            refine lv_iload_n hx hb dX2_easeOf_100 rfl (lv_at hl 3 rfl) ?_
            obtain ⟨g18, hf⟩ := w_oi hf
            refine va_iald (D := Γ.1) (tys := (tysC Γ)) hx hb hK hP (3 + 8 * i1) 0 (gC_House_number Γ q10.2 (i1) g1) rfl g18 dX2_easeOf_101 ?_
            refine lv_ineg hx hb dX2_easeOf_102 ?_
            exact w_iret (X := XC Γ) hx hb hr hlocks hK hP hS rfl hf dX2_easeOf_103
          · replace hf := (if_neg c17).symm.trans hf
            by_cases c19 : (q10.2 (11 * i1 + 4) (x2).toNatClampNeg) = 5
            · replace hf := (if_pos c19).symm.trans hf
              refine lv_tableIn (off := 68) (tgt := 104) hx hb dX2_easeOf_36 (by rw [c19]; decide) (by rw [c19]; decide) (by rw [c19]; rfl) (by decide) ?_
              refine lv_aload_n hx hb dX2_easeOf_104 rfl (lv_at hl 2 rfl) ?_
              refine va_get (D := Γ.1) (ci := 1) (v := .ref (Γ.2.2.1 (5 + 8 * i1))) (C := RX1) (T := TX1) (N := 11) hx hb hts iX1 hown hK hP (1 + 8 * i1) (gC_House Γ q10.2 (i1) g1) rfl 7 (by decide) (hts (.fieldLink RX2 79 "OtherHalfOfNight$House" "news" "[I") (wzm K389)) (fun _ h9 => h9) rfl dX2_easeOf_105 ?_
              refine lv_iload_n hx hb dX2_easeOf_108 rfl (lv_at hl 3 rfl) ?_
              obtain ⟨g20, hf⟩ := w_oi hf
              refine va_iald (D := Γ.1) (tys := (tysC Γ)) hx hb hK hP (5 + 8 * i1) 0 (gC_House_news Γ q10.2 (i1) g1) rfl g20 dX2_easeOf_109 ?_
              refine lv_if_le (tgt := 122) hx hb dX2_easeOf_110 (by decide) (fun c21 => ?_) (fun c21 => ?_)
              · replace hf := (if_pos c21).symm.trans hf
                refine lv_iload_n hx hb dX2_easeOf_122 rfl (lv_at hl 0 rfl) ?_
                exact w_iret (X := XC Γ) hx hb hr hlocks hK hP hS rfl hf dX2_easeOf_123
              · replace hf := (if_neg c21).symm.trans hf
                refine lv_aload_n hx hb dX2_easeOf_113 rfl (lv_at hl 2 rfl) ?_
                refine va_get (D := Γ.1) (ci := 1) (v := .ref (Γ.2.2.1 (4 + 8 * i1))) (C := RX1) (T := TX1) (N := 11) hx hb hts iX1 hown hK hP (1 + 8 * i1) (gC_House Γ q10.2 (i1) g1) rfl 6 (by decide) (hts (.fieldLink RX2 41 "OtherHalfOfNight$House" "trouble" "[I") (wzm K337)) (fun _ h9 => h9) rfl dX2_easeOf_114 ?_
                refine lv_iload_n hx hb dX2_easeOf_117 rfl (lv_at hl 3 rfl) ?_
                obtain ⟨g22, hf⟩ := w_oi hf
                refine va_iald (D := Γ.1) (tys := (tysC Γ)) hx hb hK hP (4 + 8 * i1) 0 (gC_House_trouble Γ q10.2 (i1) g1) rfl g22 dX2_easeOf_118 ?_
                refine lv_goto (tgt := 123) hx hb dX2_easeOf_119 (by decide) ?_
                exact w_iret (X := XC Γ) hx hb hr hlocks hK hP hS rfl hf dX2_easeOf_123
            · replace hf := (if_neg c19).symm.trans hf
              have nc13 : ¬ ((q10.2 (11 * i1 + 4) (x2).toNatClampNeg)).toInt = 1 := fun q => c13 (Int32.toInt_inj.mp q)
              have nc14 : ¬ ((q10.2 (11 * i1 + 4) (x2).toNatClampNeg)).toInt = 2 := fun q => c14 (Int32.toInt_inj.mp q)
              have nc15 : ¬ ((q10.2 (11 * i1 + 4) (x2).toNatClampNeg)).toInt = 3 := fun q => c15 (Int32.toInt_inj.mp q)
              have nc17 : ¬ ((q10.2 (11 * i1 + 4) (x2).toNatClampNeg)).toInt = 4 := fun q => c17 (Int32.toInt_inj.mp q)
              have nc19 : ¬ ((q10.2 (11 * i1 + 4) (x2).toNatClampNeg)).toInt = 5 := fun q => c19 (Int32.toInt_inj.mp q)
              refine lv_tableOut (tgt := 124) hx hb dX2_easeOf_36 (by omega) (by decide) ?_
              refine lv_iload_n hx hb dX2_easeOf_124 rfl (lv_at hl 0 rfl) ?_
              exact w_iret (X := XC Γ) hx hb hr hlocks hK hP hS rfl hf dX2_easeOf_125
  · replace hf := (if_pos c4).symm.trans hf
    refine lv_iconst (v := (0 : Int32)) hx hb dX2_easeOf_8 (by decide) ?_
    exact w_iret (X := XC Γ) hx hb hr hlocks hK hP hS rfl hf dX2_easeOf_9
def f_X2_easeOne (i1 : Nat) (x2 : Int32) (σ : Sg) : Option Sg := if i1 < 3 then (f_X1_lodges (i1) x2 σ).bind fun (q2 : Int32 × Sg) => if q2.1 = 0 then some q2.2 else if okI x2 5 then (f_X2_easeOf (i1) x2 q2.2).bind fun (q6 : Int32 × Sg) => (f_X8_bounded ((q2.2 (11 * i1 + 6) (x2).toNatClampNeg) - q6.1) q6.2).bind fun (q8 : Int32 × Sg) => if okI x2 5 then some (up q8.2 (11 * i1 + 6) (x2).toNatClampNeg q8.1) else none else none else none
set_option maxHeartbeats 40000000 in
set_option maxRecDepth 100000 in
theorem c_X2_easeOne (l : Launch) (Γ : Geo) (hG : okC Γ) (i1 : Nat) (x2 : Int32) (σ : Sg) (σ' : Sg) (hf : f_X2_easeOne i1 x2 σ = some σ') (sz : Nat) : Met l yX2_easeOne (wz yX2_easeOne cX2_easeOne 3 none) { frames := 3, cells := 0, slots := 0, locals := 74 } (va_Pc [.ref (Γ.2.2.1 (27)), .ref (Γ.2.2.1 (1 + 8 * i1)), .int x2] (wPre Γ.1 vwCl (tysC Γ) (XC Γ) (alC Γ) Γ.2.2.2 σ sz)) (wQv Γ.1 vwCl (tysC Γ) (XC Γ) (alC Γ) σ' sz) 0 0 (wA (alC Γ) sz) := by
  refine w_enter (cc := cX2_easeOne) (maxL := 3) (ret := none) (by decide) rfl (Nat.le_of_ble_eq_true rfl) ?_
  intro p e s m below meth c ls hx hb hr hlocks hml hown hts hsz hP hK hkc hN hl
  subst hsz
  generalize hav : ([.ref (Γ.2.2.1 (27)), .ref (Γ.2.2.1 (1 + 8 * i1)), .int x2] : List Value) = av at hl hts ⊢
  have hl : lv_has ls 3 [(0, .ref (Γ.2.2.1 (27))), (1, .ref (Γ.2.2.1 (1 + 8 * i1))), (2, .int x2)] := by rw [← hav] at hl; exact hl
  suffices hw : ∀ (H : Heap) (locs : List Loc), va_P Γ.1 vwCl (XC Γ σ) H → va_S (wA (alC Γ) s.heap.size) s.heap H locs → W p l e { frames := 3, cells := 0, slots := 0, locals := 74 } s m av.toArray below meth c H locs 0 0 (MQ below (wQv Γ.1 vwCl (tysC Γ) (XC Γ) (alC Γ) σ' s.heap.size) av.toArray s 0 0 (wA (alC Γ) s.heap.size)) (F0 m 0 ls []) from hw _ [] hP va_S.rf
  clear hP
  intro H locs hP hS
  unfold f_X2_easeOne at hf
  obtain ⟨g1, hf⟩ := w_oi hf
  refine lv_aload_n hx hb dX2_easeOne_0 rfl (lv_at hl 1 rfl) ?_
  refine lv_iload_n hx hb dX2_easeOne_1 rfl (lv_at hl 2 rfl) ?_
  obtain ⟨q2, h3, hf⟩ := w_ob hf
  refine w_ci (va_runV (As := [.int x2]) (rest := []) ⟨hx, hb, hml, hown, hts⟩ (c_X1_lodges l Γ hG (i1) x2 σ q2.1 q2.2 h3 H.size) (cwV 1 hts (wzV K144 K338 K142 K143 K14) rfl rfl rfl (by decide +kernel) ⟨(Nat.le_of_ble_eq_true rfl), (Nat.le_of_ble_eq_true rfl)⟩) (w_preV hK hP hkc hN hS (gC_House Γ σ (i1) g1) rfl) rfl rfl hl.1 rfl (lv_room (Nat.le_of_ble_eq_true rfl)) dX2_easeOne_2 ⟨Nat.le_refl _, Nat.le_refl _⟩) hS (fun H locs hP hS => ?_)
  refine lv_if_eq (tgt := 30) hx hb dX2_easeOne_5 (by decide) (fun c4 => ?_) (fun c4 => ?_)
  · replace hf := (if_pos c4).symm.trans hf
    exact w_vret (X := XC Γ) hx hb hr hlocks hK hP hS hf dX2_easeOne_30
  · replace hf := (if_neg c4).symm.trans hf
    refine lv_aload_n hx hb dX2_easeOne_8 rfl (lv_at hl 1 rfl) ?_
    refine va_get (D := Γ.1) (ci := 1) (v := .ref (Γ.2.2.1 (4 + 8 * i1))) (C := RX1) (T := TX1) (N := 11) hx hb hts iX1 hown hK hP (1 + 8 * i1) (gC_House Γ q2.2 (i1) g1) rfl 6 (by decide) (hts (.fieldLink RX2 41 "OtherHalfOfNight$House" "trouble" "[I") (wzm K337)) (fun _ h9 => h9) rfl dX2_easeOne_9 ?_
    refine lv_iload_n hx hb dX2_easeOne_12 rfl (lv_at hl 2 rfl) ?_
    refine lv_aload_n hx hb dX2_easeOne_13 rfl (lv_at hl 1 rfl) ?_
    refine va_get (D := Γ.1) (ci := 1) (v := .ref (Γ.2.2.1 (4 + 8 * i1))) (C := RX1) (T := TX1) (N := 11) hx hb hts iX1 hown hK hP (1 + 8 * i1) (gC_House Γ q2.2 (i1) g1) rfl 6 (by decide) (hts (.fieldLink RX2 41 "OtherHalfOfNight$House" "trouble" "[I") (wzm K337)) (fun _ h9 => h9) rfl dX2_easeOne_14 ?_
    refine lv_iload_n hx hb dX2_easeOne_17 rfl (lv_at hl 2 rfl) ?_
    obtain ⟨g5, hf⟩ := w_oi hf
    refine va_iald (D := Γ.1) (tys := (tysC Γ)) hx hb hK hP (4 + 8 * i1) 0 (gC_House_trouble Γ q2.2 (i1) g1) rfl g5 dX2_easeOne_18 ?_
    refine lv_aload_n hx hb dX2_easeOne_19 rfl (lv_at hl 0 rfl) ?_
    refine lv_aload_n hx hb dX2_easeOne_20 rfl (lv_at hl 1 rfl) ?_
    refine lv_iload_n hx hb dX2_easeOne_21 rfl (lv_at hl 2 rfl) ?_
    obtain ⟨q6, h7, hf⟩ := w_ob hf
    refine w_ci (va_runV (As := [.ref (Γ.2.2.1 (1 + 8 * i1)), .int x2]) (rest := [.int (q2.2 (11 * i1 + 6) (x2).toNatClampNeg), .int x2, .ref (Γ.2.2.1 (4 + 8 * i1))]) ⟨hx, hb, hml, hown, hts⟩ (c_X2_easeOf l Γ hG (i1) x2 q2.2 q6.1 q6.2 h7 H.size) (cwV 2 hts (wzV K407 K668 K405 K406 K24) rfl rfl rfl (by decide +kernel) ⟨(Nat.le_of_ble_eq_true rfl), (Nat.le_of_ble_eq_true rfl)⟩) (w_preV hK hP hkc hN hS (gC_Law Γ q2.2) rfl) rfl rfl hl.1 rfl (lv_room (Nat.le_of_ble_eq_true rfl)) dX2_easeOne_22 ⟨Nat.le_refl _, Nat.le_refl _⟩) hS (fun H locs hP hS => ?_)
    refine lv_isub hx hb dX2_easeOne_25 ?_
    obtain ⟨q8, h9, hf⟩ := w_ob hf
    refine w_ci (va_runSN (As := [.int ((q2.2 (11 * i1 + 6) (x2).toNatClampNeg) - q6.1)]) (rest := [.int x2, .ref (Γ.2.2.1 (4 + 8 * i1))]) ⟨hx, hb, hml, hown, hts⟩ (c_X8_bounded l Γ hG ((q2.2 (11 * i1 + 6) (x2).toNatClampNeg) - q6.1) q6.2 q8.1 q8.2 h9 H.size) ⟨va_cnB 1 hts (wzC K372) rfl rfl rfl (hN _ (List.mem_of_getElem? (i := 4) rfl)) (hts (.initialized RX8) (wzm K2)) (by decide +kernel) ⟨(Nat.le_of_ble_eq_true rfl), (Nat.le_of_ble_eq_true rfl)⟩, (hts (.static yX8_bounded) (wzm K371)), trivial⟩ (w_pre hK hP hkc hN hS) rfl rfl hl.1 rfl (lv_room (Nat.le_of_ble_eq_true rfl)) dX2_easeOne_26 ⟨Nat.le_refl _, Nat.le_refl _⟩) hS (fun H locs hP hS => ?_)
    obtain ⟨g10, hf⟩ := w_oi hf
    refine w_iast (D := Γ.1) (tys := (tysC Γ)) (X := XC Γ) (σ' := (up q8.2 (11 * i1 + 6) (x2).toNatClampNeg q8.1)) hx hb hK hP (halC Γ) hG hS (4 + 8 * i1) 0 (gC_House_trouble Γ q8.2 (i1) g1) rfl g10 dX2_easeOne_29 (sC_House_trouble Γ q8.2 (i1) g1 (x2).toNatClampNeg q8.1) (fun H locs hP hS => ?_)
    exact w_vret (X := XC Γ) hx hb hr hlocks hK hP hS hf dX2_easeOne_30
