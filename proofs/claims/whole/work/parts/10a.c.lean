def f_X8_isCup (x0 : Int32) (σ : Sg) : Option (Int32 × Sg) := if x0 < 0 then some ((0 : Int32), σ) else if (6 : Int32) ≤ x0 then some ((0 : Int32), σ) else some ((1 : Int32), σ)
set_option maxHeartbeats 40000000 in
set_option maxRecDepth 100000 in
theorem c_X8_isCup (l : Launch) (Γ : Geo) (hG : okC Γ) (x0 : Int32) (σ : Sg) (r : Int32) (σ' : Sg) (hf : f_X8_isCup x0 σ = some (r, σ')) (sz : Nat) : Met l yX8_isCup (wz yX8_isCup cX8_isCup 1 (some .boolean)) { frames := 0, cells := 0, slots := 0, locals := 0 } (va_Pc [.int x0] (wPre Γ.1 vwCl (tysC Γ) (XC Γ) (alC Γ) Γ.2.2.2 σ sz)) (wQi Γ.1 vwCl (tysC Γ) (XC Γ) (alC Γ) r σ' sz) 0 0 (wA (alC Γ) sz) := by
  refine w_enter (cc := cX8_isCup) (maxL := 1) (ret := (some .boolean)) (by decide) rfl (Nat.le_of_ble_eq_true rfl) ?_
  intro p e s m below meth c ls hx hb hr hlocks hml hown hts hsz hP hK hkc hN hl
  subst hsz
  generalize hav : ([.int x0] : List Value) = av at hl hts ⊢
  have hl : lv_has ls 1 [(0, .int x0)] := by rw [← hav] at hl; exact hl
  suffices hw : ∀ (H : Heap) (locs : List Loc), va_P Γ.1 vwCl (XC Γ σ) H → va_S (wA (alC Γ) s.heap.size) s.heap H locs → W p l e { frames := 0, cells := 0, slots := 0, locals := 0 } s m av.toArray below meth c H locs 0 0 (MQ below (wQi Γ.1 vwCl (tysC Γ) (XC Γ) (alC Γ) r σ' s.heap.size) av.toArray s 0 0 (wA (alC Γ) s.heap.size)) (F0 m 0 ls []) from hw _ [] hP va_S.rf
  clear hP
  intro H locs hP hS
  unfold f_X8_isCup at hf
  refine lv_iload_n hx hb dX8_isCup_0 rfl (lv_at hl 0 rfl) ?_
  refine lv_if_lt (tgt := 14) hx hb dX8_isCup_1 (by decide) (fun c1 => ?_) (fun c1 => ?_)
  · replace hf := (if_pos c1).symm.trans hf
    refine lv_iconst (v := (0 : Int32)) hx hb dX8_isCup_14 (by decide) ?_
    exact w_iret (X := XC Γ) hx hb hr hlocks hK hP hS (by decide) hf dX8_isCup_15
  · replace hf := (if_neg c1).symm.trans hf
    refine lv_iload_n hx hb dX8_isCup_4 rfl (lv_at hl 0 rfl) ?_
    refine lv_bipush (v := (6 : Int32)) hx hb dX8_isCup_5 (by decide) ?_
    refine lv_icmp_ge (tgt := 14) hx hb dX8_isCup_7 (by decide) (fun c2 => ?_) (fun c2 => ?_)
    · replace hf := (if_pos c2).symm.trans hf
      refine lv_iconst (v := (0 : Int32)) hx hb dX8_isCup_14 (by decide) ?_
      exact w_iret (X := XC Γ) hx hb hr hlocks hK hP hS (by decide) hf dX8_isCup_15
    · replace hf := (if_neg c2).symm.trans hf
      refine lv_iconst (v := (1 : Int32)) hx hb dX8_isCup_10 (by decide) ?_
      refine lv_goto (tgt := 15) hx hb dX8_isCup_11 (by decide) ?_
      exact w_iret (X := XC Γ) hx hb hr hlocks hK hP hS (by decide) hf dX8_isCup_15
def f_X8_isSheet (x0 : Int32) (σ : Sg) : Option (Int32 × Sg) := if x0 < 0 then some ((0 : Int32), σ) else if (4 : Int32) ≤ x0 then some ((0 : Int32), σ) else some ((1 : Int32), σ)
set_option maxHeartbeats 40000000 in
set_option maxRecDepth 100000 in
theorem c_X8_isSheet (l : Launch) (Γ : Geo) (hG : okC Γ) (x0 : Int32) (σ : Sg) (r : Int32) (σ' : Sg) (hf : f_X8_isSheet x0 σ = some (r, σ')) (sz : Nat) : Met l yX8_isSheet (wz yX8_isSheet cX8_isSheet 1 (some .boolean)) { frames := 0, cells := 0, slots := 0, locals := 0 } (va_Pc [.int x0] (wPre Γ.1 vwCl (tysC Γ) (XC Γ) (alC Γ) Γ.2.2.2 σ sz)) (wQi Γ.1 vwCl (tysC Γ) (XC Γ) (alC Γ) r σ' sz) 0 0 (wA (alC Γ) sz) := by
  refine w_enter (cc := cX8_isSheet) (maxL := 1) (ret := (some .boolean)) (by decide) rfl (Nat.le_of_ble_eq_true rfl) ?_
  intro p e s m below meth c ls hx hb hr hlocks hml hown hts hsz hP hK hkc hN hl
  subst hsz
  generalize hav : ([.int x0] : List Value) = av at hl hts ⊢
  have hl : lv_has ls 1 [(0, .int x0)] := by rw [← hav] at hl; exact hl
  suffices hw : ∀ (H : Heap) (locs : List Loc), va_P Γ.1 vwCl (XC Γ σ) H → va_S (wA (alC Γ) s.heap.size) s.heap H locs → W p l e { frames := 0, cells := 0, slots := 0, locals := 0 } s m av.toArray below meth c H locs 0 0 (MQ below (wQi Γ.1 vwCl (tysC Γ) (XC Γ) (alC Γ) r σ' s.heap.size) av.toArray s 0 0 (wA (alC Γ) s.heap.size)) (F0 m 0 ls []) from hw _ [] hP va_S.rf
  clear hP
  intro H locs hP hS
  unfold f_X8_isSheet at hf
  refine lv_iload_n hx hb dX8_isSheet_0 rfl (lv_at hl 0 rfl) ?_
  refine lv_if_lt (tgt := 13) hx hb dX8_isSheet_1 (by decide) (fun c1 => ?_) (fun c1 => ?_)
  · replace hf := (if_pos c1).symm.trans hf
    refine lv_iconst (v := (0 : Int32)) hx hb dX8_isSheet_13 (by decide) ?_
    exact w_iret (X := XC Γ) hx hb hr hlocks hK hP hS (by decide) hf dX8_isSheet_14
  · replace hf := (if_neg c1).symm.trans hf
    refine lv_iload_n hx hb dX8_isSheet_4 rfl (lv_at hl 0 rfl) ?_
    refine lv_iconst (v := (4 : Int32)) hx hb dX8_isSheet_5 (by decide) ?_
    refine lv_icmp_ge (tgt := 13) hx hb dX8_isSheet_6 (by decide) (fun c2 => ?_) (fun c2 => ?_)
    · replace hf := (if_pos c2).symm.trans hf
      refine lv_iconst (v := (0 : Int32)) hx hb dX8_isSheet_13 (by decide) ?_
      exact w_iret (X := XC Γ) hx hb hr hlocks hK hP hS (by decide) hf dX8_isSheet_14
    · replace hf := (if_neg c2).symm.trans hf
      refine lv_iconst (v := (1 : Int32)) hx hb dX8_isSheet_9 (by decide) ?_
      refine lv_goto (tgt := 14) hx hb dX8_isSheet_10 (by decide) ?_
      exact w_iret (X := XC Γ) hx hb hr hlocks hK hP hS (by decide) hf dX8_isSheet_14
def f_X8_bounded (x0 : Int32) (σ : Sg) : Option (Int32 × Sg) := some ((if (0 : Int32) < (if x0 < (99 : Int32) then x0 else (99 : Int32)) then (if x0 < (99 : Int32) then x0 else (99 : Int32)) else (0 : Int32)), σ)
set_option maxHeartbeats 40000000 in
set_option maxRecDepth 100000 in
theorem c_X8_bounded (l : Launch) (Γ : Geo) (hG : okC Γ) (x0 : Int32) (σ : Sg) (r : Int32) (σ' : Sg) (hf : f_X8_bounded x0 σ = some (r, σ')) (sz : Nat) : Met l yX8_bounded (wz yX8_bounded cX8_bounded 1 (some .int)) { frames := 1, cells := 0, slots := 0, locals := 21 } (va_Pc [.int x0] (wPre Γ.1 vwCl (tysC Γ) (XC Γ) (alC Γ) Γ.2.2.2 σ sz)) (wQi Γ.1 vwCl (tysC Γ) (XC Γ) (alC Γ) r σ' sz) 0 0 (wA (alC Γ) sz) := by
  refine w_enter (cc := cX8_bounded) (maxL := 1) (ret := (some .int)) (by decide) rfl (Nat.le_of_ble_eq_true rfl) ?_
  intro p e s m below meth c ls hx hb hr hlocks hml hown hts hsz hP hK hkc hN hl
  subst hsz
  generalize hav : ([.int x0] : List Value) = av at hl hts ⊢
  have hl : lv_has ls 1 [(0, .int x0)] := by rw [← hav] at hl; exact hl
  suffices hw : ∀ (H : Heap) (locs : List Loc), va_P Γ.1 vwCl (XC Γ σ) H → va_S (wA (alC Γ) s.heap.size) s.heap H locs → W p l e { frames := 1, cells := 0, slots := 0, locals := 21 } s m av.toArray below meth c H locs 0 0 (MQ below (wQi Γ.1 vwCl (tysC Γ) (XC Γ) (alC Γ) r σ' s.heap.size) av.toArray s 0 0 (wA (alC Γ) s.heap.size)) (F0 m 0 ls []) from hw _ [] hP va_S.rf
  clear hP
  intro H locs hP hS
  unfold f_X8_bounded at hf
  refine lv_iconst (v := (0 : Int32)) hx hb dX8_bounded_0 (by decide) ?_
  refine lv_bipush (v := (99 : Int32)) hx hb dX8_bounded_1 (by decide) ?_
  refine lv_iload_n hx hb dX8_bounded_3 rfl (lv_at hl 0 rfl) ?_
  refine va_mmin hx hb (hml.trans hl.1.symm) hown (hts (.methodLink RX8 266 Lib.Math.min.name) (wzm K373)) (hts (.static Lib.Math.min.name) (wzm K374)) (hts (.initialized "java/lang/Math") (wzm K375)) (hts (.code Lib.Math.min.name Lib.Math.min.code 2 (some .int)) (wzm K376)) (Nat.le_of_ble_eq_true rfl) (Nat.le_of_ble_eq_true rfl) (Nat.le_refl _) (Nat.le_refl _) dX8_bounded_4 ?_
  refine va_mmax hx hb (hml.trans hl.1.symm) hown (hts (.methodLink RX8 271 Lib.Math.max.name) (wzm K377)) (hts (.static Lib.Math.max.name) (wzm K378)) (hts (.initialized "java/lang/Math") (wzm K375)) (hts (.code Lib.Math.max.name Lib.Math.max.code 2 (some .int)) (wzm K379)) (Nat.le_of_ble_eq_true rfl) (Nat.le_of_ble_eq_true rfl) (Nat.le_refl _) (Nat.le_refl _) dX8_bounded_7 ?_
  exact w_iret (X := XC Γ) hx hb hr hlocks hK hP hS rfl hf dX8_bounded_10
def f_X8_mostOf (x0 : Int32) (σ : Sg) : Option (Int32 × Sg) := if x0 = 0 then some ((999 : Int32), σ) else if x0 = 1 then some ((23 : Int32), σ) else if x0 = 2 then some ((9 : Int32), σ) else if x0 = 6 then some ((9 : Int32), σ) else if x0 = 3 then some ((99 : Int32), σ) else if x0 = 4 then some ((99 : Int32), σ) else if x0 = 5 then some ((99 : Int32), σ) else some ((99 : Int32), σ)
set_option maxHeartbeats 40000000 in
set_option maxRecDepth 100000 in
theorem c_X8_mostOf (l : Launch) (Γ : Geo) (hG : okC Γ) (x0 : Int32) (σ : Sg) (r : Int32) (σ' : Sg) (hf : f_X8_mostOf x0 σ = some (r, σ')) (sz : Nat) : Met l yX8_mostOf (wz yX8_mostOf cX8_mostOf 1 (some .int)) { frames := 0, cells := 0, slots := 0, locals := 0 } (va_Pc [.int x0] (wPre Γ.1 vwCl (tysC Γ) (XC Γ) (alC Γ) Γ.2.2.2 σ sz)) (wQi Γ.1 vwCl (tysC Γ) (XC Γ) (alC Γ) r σ' sz) 0 0 (wA (alC Γ) sz) := by
  refine w_enter (cc := cX8_mostOf) (maxL := 1) (ret := (some .int)) (by decide) rfl (Nat.le_of_ble_eq_true rfl) ?_
  intro p e s m below meth c ls hx hb hr hlocks hml hown hts hsz hP hK hkc hN hl
  subst hsz
  generalize hav : ([.int x0] : List Value) = av at hl hts ⊢
  have hl : lv_has ls 1 [(0, .int x0)] := by rw [← hav] at hl; exact hl
  suffices hw : ∀ (H : Heap) (locs : List Loc), va_P Γ.1 vwCl (XC Γ σ) H → va_S (wA (alC Γ) s.heap.size) s.heap H locs → W p l e { frames := 0, cells := 0, slots := 0, locals := 0 } s m av.toArray below meth c H locs 0 0 (MQ below (wQi Γ.1 vwCl (tysC Γ) (XC Γ) (alC Γ) r σ' s.heap.size) av.toArray s 0 0 (wA (alC Γ) s.heap.size)) (F0 m 0 ls []) from hw _ [] hP va_S.rf
  clear hP
  intro H locs hP hS
  unfold f_X8_mostOf at hf
  refine lv_iload_n hx hb dX8_mostOf_0 rfl (lv_at hl 0 rfl) ?_
  by_cases c1 : x0 = 0
  · replace hf := (if_pos c1).symm.trans hf
    refine lv_tableIn (off := 43) (tgt := 44) hx hb dX8_mostOf_1 (by rw [c1]; decide) (by rw [c1]; decide) (by rw [c1]; rfl) (by decide) ?_
    refine lv_sipush (v := (999 : Int32)) hx hb dX8_mostOf_44 (by decide) ?_
    exact w_iret (X := XC Γ) hx hb hr hlocks hK hP hS rfl hf dX8_mostOf_47
  · replace hf := (if_neg c1).symm.trans hf
    by_cases c2 : x0 = 1
    · replace hf := (if_pos c2).symm.trans hf
      refine lv_tableIn (off := 47) (tgt := 48) hx hb dX8_mostOf_1 (by rw [c2]; decide) (by rw [c2]; decide) (by rw [c2]; rfl) (by decide) ?_
      refine lv_bipush (v := (23 : Int32)) hx hb dX8_mostOf_48 (by decide) ?_
      exact w_iret (X := XC Γ) hx hb hr hlocks hK hP hS rfl hf dX8_mostOf_50
    · replace hf := (if_neg c2).symm.trans hf
      by_cases c3 : x0 = 2
      · replace hf := (if_pos c3).symm.trans hf
        refine lv_tableIn (off := 50) (tgt := 51) hx hb dX8_mostOf_1 (by rw [c3]; decide) (by rw [c3]; decide) (by rw [c3]; rfl) (by decide) ?_
        refine lv_bipush (v := (9 : Int32)) hx hb dX8_mostOf_51 (by decide) ?_
        exact w_iret (X := XC Γ) hx hb hr hlocks hK hP hS rfl hf dX8_mostOf_53
      · replace hf := (if_neg c3).symm.trans hf
        by_cases c4 : x0 = 6
        · replace hf := (if_pos c4).symm.trans hf
          refine lv_tableIn (off := 50) (tgt := 51) hx hb dX8_mostOf_1 (by rw [c4]; decide) (by rw [c4]; decide) (by rw [c4]; rfl) (by decide) ?_
          refine lv_bipush (v := (9 : Int32)) hx hb dX8_mostOf_51 (by decide) ?_
          exact w_iret (X := XC Γ) hx hb hr hlocks hK hP hS rfl hf dX8_mostOf_53
        · replace hf := (if_neg c4).symm.trans hf
          by_cases c5 : x0 = 3
          · replace hf := (if_pos c5).symm.trans hf
            refine lv_tableIn (off := 53) (tgt := 54) hx hb dX8_mostOf_1 (by rw [c5]; decide) (by rw [c5]; decide) (by rw [c5]; rfl) (by decide) ?_
            refine lv_bipush (v := (99 : Int32)) hx hb dX8_mostOf_54 (by decide) ?_
            exact w_iret (X := XC Γ) hx hb hr hlocks hK hP hS rfl hf dX8_mostOf_56
          · replace hf := (if_neg c5).symm.trans hf
            by_cases c6 : x0 = 4
            · replace hf := (if_pos c6).symm.trans hf
              refine lv_tableIn (off := 53) (tgt := 54) hx hb dX8_mostOf_1 (by rw [c6]; decide) (by rw [c6]; decide) (by rw [c6]; rfl) (by decide) ?_
              refine lv_bipush (v := (99 : Int32)) hx hb dX8_mostOf_54 (by decide) ?_
              exact w_iret (X := XC Γ) hx hb hr hlocks hK hP hS rfl hf dX8_mostOf_56
            · replace hf := (if_neg c6).symm.trans hf
              by_cases c7 : x0 = 5
              · replace hf := (if_pos c7).symm.trans hf
                refine lv_tableIn (off := 53) (tgt := 54) hx hb dX8_mostOf_1 (by rw [c7]; decide) (by rw [c7]; decide) (by rw [c7]; rfl) (by decide) ?_
                refine lv_bipush (v := (99 : Int32)) hx hb dX8_mostOf_54 (by decide) ?_
                exact w_iret (X := XC Γ) hx hb hr hlocks hK hP hS rfl hf dX8_mostOf_56
              · replace hf := (if_neg c7).symm.trans hf
                have nc1 : ¬ (x0).toInt = 0 := fun q => c1 (Int32.toInt_inj.mp q)
                have nc2 : ¬ (x0).toInt = 1 := fun q => c2 (Int32.toInt_inj.mp q)
                have nc3 : ¬ (x0).toInt = 2 := fun q => c3 (Int32.toInt_inj.mp q)
                have nc4 : ¬ (x0).toInt = 6 := fun q => c4 (Int32.toInt_inj.mp q)
                have nc5 : ¬ (x0).toInt = 3 := fun q => c5 (Int32.toInt_inj.mp q)
                have nc6 : ¬ (x0).toInt = 4 := fun q => c6 (Int32.toInt_inj.mp q)
                have nc7 : ¬ (x0).toInt = 5 := fun q => c7 (Int32.toInt_inj.mp q)
                refine lv_tableOut (tgt := 54) hx hb dX8_mostOf_1 (by omega) (by decide) ?_
                refine lv_bipush (v := (99 : Int32)) hx hb dX8_mostOf_54 (by decide) ?_
                exact w_iret (X := XC Γ) hx hb hr hlocks hK hP hS rfl hf dX8_mostOf_56
def f_X8_isUnder (x0 : Int32) (x1 : Int32) (σ : Sg) : Option (Int32 × Sg) := if x1 = 0 then some ((1 : Int32), σ) else if x1 = 1 then if x0 = (1 : Int32) then some ((1 : Int32), σ) else if x0 = (3 : Int32) then some ((1 : Int32), σ) else some ((0 : Int32), σ) else if x1 = 2 then if x0 = (2 : Int32) then some ((1 : Int32), σ) else if x0 = (4 : Int32) then some ((1 : Int32), σ) else some ((0 : Int32), σ) else if x0 = x1 then some ((1 : Int32), σ) else some ((0 : Int32), σ)
set_option maxHeartbeats 40000000 in
set_option maxRecDepth 100000 in
theorem c_X8_isUnder (l : Launch) (Γ : Geo) (hG : okC Γ) (x0 : Int32) (x1 : Int32) (σ : Sg) (r : Int32) (σ' : Sg) (hf : f_X8_isUnder x0 x1 σ = some (r, σ')) (sz : Nat) : Met l yX8_isUnder (wz yX8_isUnder cX8_isUnder 2 (some .boolean)) { frames := 0, cells := 0, slots := 0, locals := 0 } (va_Pc [.int x0, .int x1] (wPre Γ.1 vwCl (tysC Γ) (XC Γ) (alC Γ) Γ.2.2.2 σ sz)) (wQi Γ.1 vwCl (tysC Γ) (XC Γ) (alC Γ) r σ' sz) 0 0 (wA (alC Γ) sz) := by
  refine w_enter (cc := cX8_isUnder) (maxL := 2) (ret := (some .boolean)) (by decide) rfl (Nat.le_of_ble_eq_true rfl) ?_
  intro p e s m below meth c ls hx hb hr hlocks hml hown hts hsz hP hK hkc hN hl
  subst hsz
  generalize hav : ([.int x0, .int x1] : List Value) = av at hl hts ⊢
  have hl : lv_has ls 2 [(0, .int x0), (1, .int x1)] := by rw [← hav] at hl; exact hl
  suffices hw : ∀ (H : Heap) (locs : List Loc), va_P Γ.1 vwCl (XC Γ σ) H → va_S (wA (alC Γ) s.heap.size) s.heap H locs → W p l e { frames := 0, cells := 0, slots := 0, locals := 0 } s m av.toArray below meth c H locs 0 0 (MQ below (wQi Γ.1 vwCl (tysC Γ) (XC Γ) (alC Γ) r σ' s.heap.size) av.toArray s 0 0 (wA (alC Γ) s.heap.size)) (F0 m 0 ls []) from hw _ [] hP va_S.rf
  clear hP
  intro H locs hP hS
  unfold f_X8_isUnder at hf
  refine lv_iload_n hx hb dX8_isUnder_0 rfl (lv_at hl 1 rfl) ?_
  by_cases c1 : x1 = 0
  · replace hf := (if_pos c1).symm.trans hf
    refine lv_tableIn (off := 27) (tgt := 28) hx hb dX8_isUnder_1 (by rw [c1]; decide) (by rw [c1]; decide) (by rw [c1]; rfl) (by decide) ?_
    refine lv_iconst (v := (1 : Int32)) hx hb dX8_isUnder_28 (by decide) ?_
    exact w_iret (X := XC Γ) hx hb hr hlocks hK hP hS (by decide) hf dX8_isUnder_29
  · replace hf := (if_neg c1).symm.trans hf
    by_cases c2 : x1 = 1
    · replace hf := (if_pos c2).symm.trans hf
      refine lv_tableIn (off := 29) (tgt := 30) hx hb dX8_isUnder_1 (by rw [c2]; decide) (by rw [c2]; decide) (by rw [c2]; rfl) (by decide) ?_
      refine lv_iload_n hx hb dX8_isUnder_30 rfl (lv_at hl 0 rfl) ?_
      refine lv_iconst (v := (1 : Int32)) hx hb dX8_isUnder_31 (by decide) ?_
      refine lv_icmp_eq (tgt := 40) hx hb dX8_isUnder_32 (by decide) (fun c3 => ?_) (fun c3 => ?_)
      · replace hf := (if_pos c3).symm.trans hf
        refine lv_iconst (v := (1 : Int32)) hx hb dX8_isUnder_40 (by decide) ?_
        refine lv_goto (tgt := 45) hx hb dX8_isUnder_41 (by decide) ?_
        exact w_iret (X := XC Γ) hx hb hr hlocks hK hP hS (by decide) hf dX8_isUnder_45
      · replace hf := (if_neg c3).symm.trans hf
        refine lv_iload_n hx hb dX8_isUnder_35 rfl (lv_at hl 0 rfl) ?_
        refine lv_iconst (v := (3 : Int32)) hx hb dX8_isUnder_36 (by decide) ?_
        refine lv_icmp_ne (tgt := 44) hx hb dX8_isUnder_37 (by decide) (fun c4 => ?_) (fun c4 => ?_)
        · replace hf := (if_neg c4).symm.trans hf
          refine lv_iconst (v := (0 : Int32)) hx hb dX8_isUnder_44 (by decide) ?_
          exact w_iret (X := XC Γ) hx hb hr hlocks hK hP hS (by decide) hf dX8_isUnder_45
        · replace hf := (if_pos c4).symm.trans hf
          refine lv_iconst (v := (1 : Int32)) hx hb dX8_isUnder_40 (by decide) ?_
          refine lv_goto (tgt := 45) hx hb dX8_isUnder_41 (by decide) ?_
          exact w_iret (X := XC Γ) hx hb hr hlocks hK hP hS (by decide) hf dX8_isUnder_45
    · replace hf := (if_neg c2).symm.trans hf
      by_cases c5 : x1 = 2
      · replace hf := (if_pos c5).symm.trans hf
        refine lv_tableIn (off := 45) (tgt := 46) hx hb dX8_isUnder_1 (by rw [c5]; decide) (by rw [c5]; decide) (by rw [c5]; rfl) (by decide) ?_
        refine lv_iload_n hx hb dX8_isUnder_46 rfl (lv_at hl 0 rfl) ?_
        refine lv_iconst (v := (2 : Int32)) hx hb dX8_isUnder_47 (by decide) ?_
        refine lv_icmp_eq (tgt := 56) hx hb dX8_isUnder_48 (by decide) (fun c6 => ?_) (fun c6 => ?_)
        · replace hf := (if_pos c6).symm.trans hf
          refine lv_iconst (v := (1 : Int32)) hx hb dX8_isUnder_56 (by decide) ?_
          refine lv_goto (tgt := 61) hx hb dX8_isUnder_57 (by decide) ?_
          exact w_iret (X := XC Γ) hx hb hr hlocks hK hP hS (by decide) hf dX8_isUnder_61
        · replace hf := (if_neg c6).symm.trans hf
          refine lv_iload_n hx hb dX8_isUnder_51 rfl (lv_at hl 0 rfl) ?_
          refine lv_iconst (v := (4 : Int32)) hx hb dX8_isUnder_52 (by decide) ?_
          refine lv_icmp_ne (tgt := 60) hx hb dX8_isUnder_53 (by decide) (fun c7 => ?_) (fun c7 => ?_)
          · replace hf := (if_neg c7).symm.trans hf
            refine lv_iconst (v := (0 : Int32)) hx hb dX8_isUnder_60 (by decide) ?_
            exact w_iret (X := XC Γ) hx hb hr hlocks hK hP hS (by decide) hf dX8_isUnder_61
          · replace hf := (if_pos c7).symm.trans hf
            refine lv_iconst (v := (1 : Int32)) hx hb dX8_isUnder_56 (by decide) ?_
            refine lv_goto (tgt := 61) hx hb dX8_isUnder_57 (by decide) ?_
            exact w_iret (X := XC Γ) hx hb hr hlocks hK hP hS (by decide) hf dX8_isUnder_61
      · replace hf := (if_neg c5).symm.trans hf
        have nc1 : ¬ (x1).toInt = 0 := fun q => c1 (Int32.toInt_inj.mp q)
        have nc2 : ¬ (x1).toInt = 1 := fun q => c2 (Int32.toInt_inj.mp q)
        have nc5 : ¬ (x1).toInt = 2 := fun q => c5 (Int32.toInt_inj.mp q)
        refine lv_tableOut (tgt := 62) hx hb dX8_isUnder_1 (by omega) (by decide) ?_
        refine lv_iload_n hx hb dX8_isUnder_62 rfl (lv_at hl 0 rfl) ?_
        refine lv_iload_n hx hb dX8_isUnder_63 rfl (lv_at hl 1 rfl) ?_
        refine lv_icmp_ne (tgt := 71) hx hb dX8_isUnder_64 (by decide) (fun c8 => ?_) (fun c8 => ?_)
        · replace hf := (if_neg c8).symm.trans hf
          refine lv_iconst (v := (0 : Int32)) hx hb dX8_isUnder_71 (by decide) ?_
          exact w_iret (X := XC Γ) hx hb hr hlocks hK hP hS (by decide) hf dX8_isUnder_72
        · replace hf := (if_pos c8).symm.trans hf
          refine lv_iconst (v := (1 : Int32)) hx hb dX8_isUnder_67 (by decide) ?_
          refine lv_goto (tgt := 72) hx hb dX8_isUnder_68 (by decide) ?_
          exact w_iret (X := XC Γ) hx hb hr hlocks hK hP hS (by decide) hf dX8_isUnder_72
def f_X8_lowest_39 (x0 : Int32) (x1 : Int32) (x2 : Int32) (y3 : Int32) (τ : Sg) : Option (Int64 × Sg) := if x1 = 0 then some ((-4611686018427387904 : Int64), τ) else if y3 = 0 then some ((-4611686018427387904 : Int64), τ) else if x2 = 0 then if ¬ y3 = 0 then some ((((x0 / y3)).toInt64), τ) else none else if ¬ y3 = 0 then some ((((x1 / y3)).toInt64), τ) else none
def f_X8_lowest_8 (x0 : Int32) (x1 : Int32) (x2 : Int32) : Nat → Int32 → Int32 → Int32 → Sg → Option (Int64 × Sg)
  | 0, _, _, _, _ => none
  | n + 1, y3, y4, y5, τ => if (50 : Int32) ≤ y5 then f_X8_lowest_39 x0 x1 x2 (y3) τ else if y4 = 0 then f_X8_lowest_39 x0 x1 x2 (y3) τ else if ¬ y4 = 0 then (f_X8_lowest_8 x0 x1 x2 n) (y4) ((y3 - y3 / y4 * y4)) ((y5 + (1 : Int32))) τ else none
def f_X8_lowest (x0 : Int32) (x1 : Int32) (x2 : Int32) (σ : Sg) : Option (Int64 × Sg) := f_X8_lowest_8 x0 x1 x2 5000 (x1) (x0) ((0 : Int32)) σ
set_option maxHeartbeats 40000000 in
set_option maxRecDepth 100000 in
theorem c_X8_lowest (l : Launch) (Γ : Geo) (hG : okC Γ) (x0 : Int32) (x1 : Int32) (x2 : Int32) (σ : Sg) (r : Int64) (σ' : Sg) (hf : f_X8_lowest x0 x1 x2 σ = some (r, σ')) (sz : Nat) : Met l yX8_lowest (wz yX8_lowest cX8_lowest 7 (some .long)) { frames := 0, cells := 0, slots := 0, locals := 0 } (va_Pc [.int x0, .int x1, .int x2] (wPre Γ.1 vwCl (tysC Γ) (XC Γ) (alC Γ) Γ.2.2.2 σ sz)) (wQl Γ.1 vwCl (tysC Γ) (XC Γ) (alC Γ) r σ' sz) 0 0 (wA (alC Γ) sz) := by
  refine w_enter (cc := cX8_lowest) (maxL := 7) (ret := (some .long)) (by decide) rfl (Nat.le_of_ble_eq_true rfl) ?_
  intro p e s m below meth c ls hx hb hr hlocks hml hown hts hsz hP hK hkc hN hl
  subst hsz
  generalize hav : ([.int x0, .int x1, .int x2] : List Value) = av at hl hts ⊢
  have hl : lv_has ls 7 [(0, .int x0), (1, .int x1), (2, .int x2)] := by rw [← hav] at hl; exact hl
  have j39 : ∀ (y3 : Int32) (τ : Sg) (H : Heap) (locs : List Loc) (ls : Array Slot) (hf : f_X8_lowest_39 x0 x1 x2 y3 τ = some (r, σ')) (hP : va_P Γ.1 vwCl (XC Γ τ) H) (hS : va_S (wA (alC Γ) s.heap.size) s.heap H locs) (hl : lv_has ls 7 [(0, .int x0), (1, .int x1), (2, .int x2), (3, .int y3)]), W p l e { frames := 0, cells := 0, slots := 0, locals := 0 } s m av.toArray below meth c H locs 0 0 (MQ below (wQl Γ.1 vwCl (tysC Γ) (XC Γ) (alC Γ) r σ' s.heap.size) av.toArray s 0 0 (wA (alC Γ) s.heap.size)) (F0 m 39 ls []) := by
    intro y3 τ H locs ls hf hP hS hl
    unfold f_X8_lowest_39 at hf
    refine lv_iload_n hx hb dX8_lowest_39 rfl (lv_at hl 1 rfl) ?_
    refine lv_if_eq (tgt := 47) hx hb dX8_lowest_40 (by decide) (fun c4 => ?_) (fun c4 => ?_)
    · replace hf := (if_pos c4).symm.trans hf
      refine lv_ldc2 (v := (-4611686018427387904 : Int64)) hx hb hown (hts (.constantLong RX8 185 (-4611686018427387904)) (wzm K833)) dX8_lowest_47 ?_
      exact w_lret (X := XC Γ) hx hb hr hlocks hK hP hS hf dX8_lowest_50
    · replace hf := (if_neg c4).symm.trans hf
      refine lv_iload_n hx hb dX8_lowest_43 rfl (lv_at hl 3 rfl) ?_
      refine lv_if_ne (tgt := 51) hx hb dX8_lowest_44 (by decide) (fun c5 => ?_) (fun c5 => ?_)
      · replace hf := (if_neg c5).symm.trans hf
        refine lv_iload_n hx hb dX8_lowest_51 rfl (lv_at hl 2 rfl) ?_
        refine lv_if_ne (tgt := 62) hx hb dX8_lowest_52 (by decide) (fun c6 => ?_) (fun c6 => ?_)
        · replace hf := (if_neg c6).symm.trans hf
          refine lv_iload_n hx hb dX8_lowest_62 rfl (lv_at hl 1 rfl) ?_
          refine lv_iload_n hx hb dX8_lowest_63 rfl (lv_at hl 3 rfl) ?_
          obtain ⟨g7, hf⟩ := w_oi hf
          refine lv_idiv hx hb dX8_lowest_64 g7 ?_
          refine lv_i2l (v := (((x1 / y3)).toInt64)) hx hb dX8_lowest_65 rfl ?_
          exact w_lret (X := XC Γ) hx hb hr hlocks hK hP hS hf dX8_lowest_66
        · replace hf := (if_pos c6).symm.trans hf
          refine lv_iload_n hx hb dX8_lowest_55 rfl (lv_at hl 0 rfl) ?_
          refine lv_iload_n hx hb dX8_lowest_56 rfl (lv_at hl 3 rfl) ?_
          obtain ⟨g8, hf⟩ := w_oi hf
          refine lv_idiv hx hb dX8_lowest_57 g8 ?_
          refine lv_i2l (v := (((x0 / y3)).toInt64)) hx hb dX8_lowest_58 rfl ?_
          refine lv_goto (tgt := 66) hx hb dX8_lowest_59 (by decide) ?_
          exact w_lret (X := XC Γ) hx hb hr hlocks hK hP hS hf dX8_lowest_66
      · replace hf := (if_pos c5).symm.trans hf
        refine lv_ldc2 (v := (-4611686018427387904 : Int64)) hx hb hown (hts (.constantLong RX8 185 (-4611686018427387904)) (wzm K833)) dX8_lowest_47 ?_
        exact w_lret (X := XC Γ) hx hb hr hlocks hK hP hS hf dX8_lowest_50
  have j8 : ∀ (n8 : Nat), ∀ (y3 : Int32) (y4 : Int32) (y5 : Int32) (τ : Sg) (H : Heap) (locs : List Loc) (ls : Array Slot) (hf : f_X8_lowest_8 x0 x1 x2 n8 y3 y4 y5 τ = some (r, σ')) (hP : va_P Γ.1 vwCl (XC Γ τ) H) (hS : va_S (wA (alC Γ) s.heap.size) s.heap H locs) (hl : lv_has ls 7 [(0, .int x0), (1, .int x1), (2, .int x2), (3, .int y3), (4, .int y4), (5, .int y5)]), W p l e { frames := 0, cells := 0, slots := 0, locals := 0 } s m av.toArray below meth c H locs 0 0 (MQ below (wQl Γ.1 vwCl (tysC Γ) (XC Γ) (alC Γ) r σ' s.heap.size) av.toArray s 0 0 (wA (alC Γ) s.heap.size)) (F0 m 8 ls []) := by
    intro n8
    induction n8 with
    | zero =>
      intro y3 y4 y5 τ H locs ls hf
      exact absurd hf (by intro h; cases h)
    | succ n8 ih8 =>
      intro y3 y4 y5 τ H locs ls hf hP hS hl
      unfold f_X8_lowest_8 at hf
      refine lv_iload hx hb dX8_lowest_8 (lv_at hl 5 rfl) ?_
      refine lv_bipush (v := (50 : Int32)) hx hb dX8_lowest_10 (by decide) ?_
      refine lv_icmp_ge (tgt := 39) hx hb dX8_lowest_12 (by decide) (fun c1 => ?_) (fun c1 => ?_)
      · replace hf := (if_pos c1).symm.trans hf
        exact j39 (y3) τ H locs ls hf hP hS (lv_sub hl [0, 1, 2, 3] rfl)
      · replace hf := (if_neg c1).symm.trans hf
        refine lv_iload hx hb dX8_lowest_15 (lv_at hl 4 rfl) ?_
        refine lv_if_eq (tgt := 39) hx hb dX8_lowest_17 (by decide) (fun c2 => ?_) (fun c2 => ?_)
        · replace hf := (if_pos c2).symm.trans hf
          exact j39 (y3) τ H locs ls hf hP hS (lv_sub hl [0, 1, 2, 3] rfl)
        · replace hf := (if_neg c2).symm.trans hf
          refine lv_iload_n hx hb dX8_lowest_20 rfl (lv_at hl 3 rfl) ?_
          refine lv_iload hx hb dX8_lowest_21 (lv_at hl 4 rfl) ?_
          obtain ⟨g3, hf⟩ := w_oi hf
          refine lv_irem hx hb dX8_lowest_23 g3 ?_
          refine lv_istore (lv' := [(6, .int (y3 - y3 / y4 * y4)), (0, .int x0), (1, .int x1), (2, .int x2), (3, .int y3), (4, .int y4), (5, .int y5)]) hx hb dX8_lowest_24 hl (by decide) rfl (fun ls hl => ?_)
          refine lv_iload hx hb dX8_lowest_26 (lv_at hl 5 rfl) ?_
          refine lv_istore_n (lv' := [(3, .int y4), (6, .int (y3 - y3 / y4 * y4)), (0, .int x0), (1, .int x1), (2, .int x2), (4, .int y4), (5, .int y5)]) hx hb dX8_lowest_28 rfl hl (by decide) rfl (fun ls hl => ?_)
          refine lv_iload hx hb dX8_lowest_29 (lv_at hl 1 rfl) ?_
          refine lv_istore (lv' := [(4, .int (y3 - y3 / y4 * y4)), (3, .int y4), (6, .int (y3 - y3 / y4 * y4)), (0, .int x0), (1, .int x1), (2, .int x2), (5, .int y5)]) hx hb dX8_lowest_31 hl (by decide) rfl (fun ls hl => ?_)
          refine lv_iinc (v := (y5 + (1 : Int32))) (lv' := [(5, .int (y5 + (1 : Int32))), (4, .int (y3 - y3 / y4 * y4)), (3, .int y4), (6, .int (y3 - y3 / y4 * y4)), (0, .int x0), (1, .int x1), (2, .int x2)]) hx hb dX8_lowest_33 hl (k := 6) rfl rfl (by decide) rfl (fun ls hl => ?_)
          refine lv_goto (tgt := 8) hx hb dX8_lowest_36 (by decide) ?_
          exact ih8 (y4) ((y3 - y3 / y4 * y4)) ((y5 + (1 : Int32))) τ H locs ls hf hP hS (lv_sub hl [4, 5, 6, 2, 1, 0] rfl)
  suffices hw : ∀ (H : Heap) (locs : List Loc), va_P Γ.1 vwCl (XC Γ σ) H → va_S (wA (alC Γ) s.heap.size) s.heap H locs → W p l e { frames := 0, cells := 0, slots := 0, locals := 0 } s m av.toArray below meth c H locs 0 0 (MQ below (wQl Γ.1 vwCl (tysC Γ) (XC Γ) (alC Γ) r σ' s.heap.size) av.toArray s 0 0 (wA (alC Γ) s.heap.size)) (F0 m 0 ls []) from hw _ [] hP va_S.rf
  clear hP
  intro H locs hP hS
  unfold f_X8_lowest at hf
  refine lv_iload_n hx hb dX8_lowest_0 rfl (lv_at hl 1 rfl) ?_
  refine lv_istore_n (lv' := [(3, .int x1), (0, .int x0), (1, .int x1), (2, .int x2)]) hx hb dX8_lowest_1 rfl hl (by decide) rfl (fun ls hl => ?_)
  refine lv_iload_n hx hb dX8_lowest_2 rfl (lv_at hl 1 rfl) ?_
  refine lv_istore (lv' := [(4, .int x0), (3, .int x1), (0, .int x0), (1, .int x1), (2, .int x2)]) hx hb dX8_lowest_3 hl (by decide) rfl (fun ls hl => ?_)
  refine lv_iconst (v := (0 : Int32)) hx hb dX8_lowest_5 (by decide) ?_
  refine lv_istore (lv' := [(5, .int (0 : Int32)), (4, .int x0), (3, .int x1), (0, .int x0), (1, .int x1), (2, .int x2)]) hx hb dX8_lowest_6 hl (by decide) rfl (fun ls hl => ?_)
  exact j8 5000 (x1) (x0) ((0 : Int32)) σ H locs ls hf hP hS (lv_sub hl [3, 4, 5, 2, 1, 0] rfl)
def f_X1_lodges (i0 : Nat) (x1 : Int32) (σ : Sg) : Option (Int32 × Sg) := if i0 < 3 then if x1 < 0 then some ((0 : Int32), σ) else if (σ (11 * i0 + 3) 0) ≤ x1 then some ((0 : Int32), σ) else some ((1 : Int32), σ) else none
set_option maxHeartbeats 40000000 in
set_option maxRecDepth 100000 in
theorem c_X1_lodges (l : Launch) (Γ : Geo) (hG : okC Γ) (i0 : Nat) (x1 : Int32) (σ : Sg) (r : Int32) (σ' : Sg) (hf : f_X1_lodges i0 x1 σ = some (r, σ')) (sz : Nat) : Met l yX1_lodges (wz yX1_lodges cX1_lodges 2 (some .boolean)) { frames := 0, cells := 0, slots := 0, locals := 0 } (va_Pc [.ref (Γ.2.2.1 (1 + 8 * i0)), .int x1] (wPre Γ.1 vwCl (tysC Γ) (XC Γ) (alC Γ) Γ.2.2.2 σ sz)) (wQi Γ.1 vwCl (tysC Γ) (XC Γ) (alC Γ) r σ' sz) 0 0 (wA (alC Γ) sz) := by
  refine w_enter (cc := cX1_lodges) (maxL := 2) (ret := (some .boolean)) (by decide) rfl (Nat.le_of_ble_eq_true rfl) ?_
  intro p e s m below meth c ls hx hb hr hlocks hml hown hts hsz hP hK hkc hN hl
  subst hsz
  generalize hav : ([.ref (Γ.2.2.1 (1 + 8 * i0)), .int x1] : List Value) = av at hl hts ⊢
  have hl : lv_has ls 2 [(0, .ref (Γ.2.2.1 (1 + 8 * i0))), (1, .int x1)] := by rw [← hav] at hl; exact hl
  suffices hw : ∀ (H : Heap) (locs : List Loc), va_P Γ.1 vwCl (XC Γ σ) H → va_S (wA (alC Γ) s.heap.size) s.heap H locs → W p l e { frames := 0, cells := 0, slots := 0, locals := 0 } s m av.toArray below meth c H locs 0 0 (MQ below (wQi Γ.1 vwCl (tysC Γ) (XC Γ) (alC Γ) r σ' s.heap.size) av.toArray s 0 0 (wA (alC Γ) s.heap.size)) (F0 m 0 ls []) from hw _ [] hP va_S.rf
  clear hP
  intro H locs hP hS
  unfold f_X1_lodges at hf
  obtain ⟨g1, hf⟩ := w_oi hf
  refine lv_iload_n hx hb dX1_lodges_0 rfl (lv_at hl 1 rfl) ?_
  refine lv_if_lt (tgt := 16) hx hb dX1_lodges_1 (by decide) (fun c2 => ?_) (fun c2 => ?_)
  · replace hf := (if_pos c2).symm.trans hf
    refine lv_iconst (v := (0 : Int32)) hx hb dX1_lodges_16 (by decide) ?_
    exact w_iret (X := XC Γ) hx hb hr hlocks hK hP hS (by decide) hf dX1_lodges_17
  · replace hf := (if_neg c2).symm.trans hf
    refine lv_iload_n hx hb dX1_lodges_4 rfl (lv_at hl 1 rfl) ?_
    refine lv_aload_n hx hb dX1_lodges_5 rfl (lv_at hl 0 rfl) ?_
    refine va_get (D := Γ.1) (ci := 1) (v := .int (σ (11 * i0 + 3) 0)) (C := RX1) (T := TX1) (N := 11) hx hb hts iX1 hown hK hP (1 + 8 * i0) (gC_House Γ σ (i0) g1) rfl 3 (by decide) (hts (.fieldLink RX1 43 "OtherHalfOfNight$House" "ones" "I") (wzm K145)) (fun _ h9 => h9) rfl dX1_lodges_6 ?_
    refine lv_icmp_ge (tgt := 16) hx hb dX1_lodges_9 (by decide) (fun c3 => ?_) (fun c3 => ?_)
    · replace hf := (if_pos c3).symm.trans hf
      refine lv_iconst (v := (0 : Int32)) hx hb dX1_lodges_16 (by decide) ?_
      exact w_iret (X := XC Γ) hx hb hr hlocks hK hP hS (by decide) hf dX1_lodges_17
    · replace hf := (if_neg c3).symm.trans hf
      refine lv_iconst (v := (1 : Int32)) hx hb dX1_lodges_12 (by decide) ?_
      refine lv_goto (tgt := 17) hx hb dX1_lodges_13 (by decide) ?_
      exact w_iret (X := XC Γ) hx hb hr hlocks hK hP hS (by decide) hf dX1_lodges_17
def f_X1_takeFrom (i0 : Nat) (i1 : Nat) (σ : Sg) : Option Sg := if i0 < 3 then if i1 < 3 then (some (up (up (up σ (11 * i0) 0 (σ (11 * i1) 0)) (11 * i0 + 1) 0 ((up σ (11 * i0) 0 (σ (11 * i1) 0)) (11 * i1 + 1) 0)) (11 * i0 + 2) 0 ((up (up σ (11 * i0) 0 (σ (11 * i1) 0)) (11 * i0 + 1) 0 ((up σ (11 * i0) 0 (σ (11 * i1) 0)) (11 * i1 + 1) 0)) (11 * i1 + 2) 0))).bind fun (τ3 : Sg) => if (¬ (0 : Int32) < 0 ∧ ¬ (0 : Int32) < 0 ∧ ¬ (5 : Int32) < 0 ∧ ((0 : Int32)).toNatClampNeg + ((5 : Int32)).toNatClampNeg ≤ 5 ∧ ((0 : Int32)).toNatClampNeg + ((5 : Int32)).toNatClampNeg ≤ 5) then (some (upA (up τ3 (11 * i0 + 3) 0 (τ3 (11 * i1 + 3) 0)) (11 * i0 + 4) (va_cpy ((up τ3 (11 * i0 + 3) 0 (τ3 (11 * i1 + 3) 0)) (11 * i1 + 4)) ((up τ3 (11 * i0 + 3) 0 (τ3 (11 * i1 + 3) 0)) (11 * i0 + 4)) ((0 : Int32)).toNatClampNeg ((0 : Int32)).toNatClampNeg ((5 : Int32)).toNatClampNeg))).bind fun (τ6 : Sg) => if (¬ (0 : Int32) < 0 ∧ ¬ (0 : Int32) < 0 ∧ ¬ (5 : Int32) < 0 ∧ ((0 : Int32)).toNatClampNeg + ((5 : Int32)).toNatClampNeg ≤ 5 ∧ ((0 : Int32)).toNatClampNeg + ((5 : Int32)).toNatClampNeg ≤ 5) then (some (upA τ6 (11 * i0 + 5) (va_cpy (τ6 (11 * i1 + 5)) (τ6 (11 * i0 + 5)) ((0 : Int32)).toNatClampNeg ((0 : Int32)).toNatClampNeg ((5 : Int32)).toNatClampNeg))).bind fun (τ9 : Sg) => if (¬ (0 : Int32) < 0 ∧ ¬ (0 : Int32) < 0 ∧ ¬ (5 : Int32) < 0 ∧ ((0 : Int32)).toNatClampNeg + ((5 : Int32)).toNatClampNeg ≤ 5 ∧ ((0 : Int32)).toNatClampNeg + ((5 : Int32)).toNatClampNeg ≤ 5) then (some (upA τ9 (11 * i0 + 6) (va_cpy (τ9 (11 * i1 + 6)) (τ9 (11 * i0 + 6)) ((0 : Int32)).toNatClampNeg ((0 : Int32)).toNatClampNeg ((5 : Int32)).toNatClampNeg))).bind fun (τ12 : Sg) => if (¬ (0 : Int32) < 0 ∧ ¬ (0 : Int32) < 0 ∧ ¬ (5 : Int32) < 0 ∧ ((0 : Int32)).toNatClampNeg + ((5 : Int32)).toNatClampNeg ≤ 5 ∧ ((0 : Int32)).toNatClampNeg + ((5 : Int32)).toNatClampNeg ≤ 5) then (some (upA τ12 (11 * i0 + 7) (va_cpy (τ12 (11 * i1 + 7)) (τ12 (11 * i0 + 7)) ((0 : Int32)).toNatClampNeg ((0 : Int32)).toNatClampNeg ((5 : Int32)).toNatClampNeg))).bind fun (τ15 : Sg) => if (¬ (0 : Int32) < 0 ∧ ¬ (0 : Int32) < 0 ∧ ¬ (6 : Int32) < 0 ∧ ((0 : Int32)).toNatClampNeg + ((6 : Int32)).toNatClampNeg ≤ 6 ∧ ((0 : Int32)).toNatClampNeg + ((6 : Int32)).toNatClampNeg ≤ 6) then (some (upA τ15 (11 * i0 + 8) (va_cpy (τ15 (11 * i1 + 8)) (τ15 (11 * i0 + 8)) ((0 : Int32)).toNatClampNeg ((0 : Int32)).toNatClampNeg ((6 : Int32)).toNatClampNeg))).bind fun (τ18 : Sg) => if (¬ (0 : Int32) < 0 ∧ ¬ (0 : Int32) < 0 ∧ ¬ (6 : Int32) < 0 ∧ ((0 : Int32)).toNatClampNeg + ((6 : Int32)).toNatClampNeg ≤ 6 ∧ ((0 : Int32)).toNatClampNeg + ((6 : Int32)).toNatClampNeg ≤ 6) then (some (upA τ18 (11 * i0 + 9) (va_cpy (τ18 (11 * i1 + 9)) (τ18 (11 * i0 + 9)) ((0 : Int32)).toNatClampNeg ((0 : Int32)).toNatClampNeg ((6 : Int32)).toNatClampNeg))).bind fun (τ21 : Sg) => if (¬ (0 : Int32) < 0 ∧ ¬ (0 : Int32) < 0 ∧ ¬ (6 : Int32) < 0 ∧ ((0 : Int32)).toNatClampNeg + ((6 : Int32)).toNatClampNeg ≤ 6 ∧ ((0 : Int32)).toNatClampNeg + ((6 : Int32)).toNatClampNeg ≤ 6) then (some (upA τ21 (11 * i0 + 10) (va_cpy (τ21 (11 * i1 + 10)) (τ21 (11 * i0 + 10)) ((0 : Int32)).toNatClampNeg ((0 : Int32)).toNatClampNeg ((6 : Int32)).toNatClampNeg))).bind fun (τ24 : Sg) => some τ24 else none else none else none else none else none else none else none else none else none
set_option maxHeartbeats 40000000 in
set_option maxRecDepth 100000 in
theorem c_X1_takeFrom (l : Launch) (Γ : Geo) (hG : okC Γ) (i0 : Nat) (i1 : Nat) (σ : Sg) (σ' : Sg) (hf : f_X1_takeFrom i0 i1 σ = some σ') (sz : Nat) : Met l yX1_takeFrom (wz yX1_takeFrom cX1_takeFrom 2 none) { frames := 1, cells := 0, slots := 0, locals := 80 } (va_Pc [.ref (Γ.2.2.1 (1 + 8 * i0)), .ref (Γ.2.2.1 (1 + 8 * i1))] (wPre Γ.1 vwCl (tysC Γ) (XC Γ) (alC Γ) Γ.2.2.2 σ sz)) (wQv Γ.1 vwCl (tysC Γ) (XC Γ) (alC Γ) σ' sz) 0 0 (wA (alC Γ) sz) := by
  refine w_enter (cc := cX1_takeFrom) (maxL := 2) (ret := none) (by decide) rfl (Nat.le_of_ble_eq_true rfl) ?_
  intro p e s m below meth c ls hx hb hr hlocks hml hown hts hsz hP hK hkc hN hl
  subst hsz
  generalize hav : ([.ref (Γ.2.2.1 (1 + 8 * i0)), .ref (Γ.2.2.1 (1 + 8 * i1))] : List Value) = av at hl hts ⊢
  have hl : lv_has ls 2 [(0, .ref (Γ.2.2.1 (1 + 8 * i0))), (1, .ref (Γ.2.2.1 (1 + 8 * i1)))] := by rw [← hav] at hl; exact hl
  suffices hw : ∀ (H : Heap) (locs : List Loc), va_P Γ.1 vwCl (XC Γ σ) H → va_S (wA (alC Γ) s.heap.size) s.heap H locs → W p l e { frames := 1, cells := 0, slots := 0, locals := 80 } s m av.toArray below meth c H locs 0 0 (MQ below (wQv Γ.1 vwCl (tysC Γ) (XC Γ) (alC Γ) σ' s.heap.size) av.toArray s 0 0 (wA (alC Γ) s.heap.size)) (F0 m 0 ls []) from hw _ [] hP va_S.rf
  clear hP
  intro H locs hP hS
  unfold f_X1_takeFrom at hf
  obtain ⟨g1, hf⟩ := w_oi hf
  obtain ⟨g2, hf⟩ := w_oi hf
  refine lv_aload_n hx hb dX1_takeFrom_0 rfl (lv_at hl 0 rfl) ?_
  refine lv_aload_n hx hb dX1_takeFrom_1 rfl (lv_at hl 1 rfl) ?_
  refine va_get (D := Γ.1) (ci := 1) (v := .int (σ (11 * i1) 0)) (C := RX1) (T := TX1) (N := 11) hx hb hts iX1 hown hK hP (1 + 8 * i1) (gC_House Γ σ (i1) g2) rfl 0 (by decide) (hts (.fieldLink RX1 33 "OtherHalfOfNight$House" "night" "I") (wzm K155)) (fun _ h9 => h9) rfl dX1_takeFrom_2 ?_
  refine w_put (X := XC Γ) (σ' := (up σ (11 * i0) 0 (σ (11 * i1) 0))) (ci := 1) (C := RX1) (T := TX1) (N := 11) (ty := .int) hx hb hts iX1 tyX1 tyX1_ok nmX1 hown hK hP (halC Γ) hG hS (1 + 8 * i0) (gC_House Γ σ (i0) g1) rfl 0 (by decide) (hts (.fieldLink RX1 33 "OtherHalfOfNight$House" "night" "I") (wzm K155)) (fun _ h9 => h9) rfl (by decide +kernel) rfl rfl (Nat.le_of_ble_eq_true rfl) dX1_takeFrom_5 (sC_House_night Γ σ (i0) g1 (σ (11 * i1) 0)) (fun H locs hP hS => ?_)
  refine lv_aload_n hx hb dX1_takeFrom_8 rfl (lv_at hl 0 rfl) ?_
  refine lv_aload_n hx hb dX1_takeFrom_9 rfl (lv_at hl 1 rfl) ?_
  refine va_get (D := Γ.1) (ci := 1) (v := .int ((up σ (11 * i0) 0 (σ (11 * i1) 0)) (11 * i1 + 1) 0)) (C := RX1) (T := TX1) (N := 11) hx hb hts iX1 hown hK hP (1 + 8 * i1) (gC_House Γ (up σ (11 * i0) 0 (σ (11 * i1) 0)) (i1) g2) rfl 1 (by decide) (hts (.fieldLink RX1 37 "OtherHalfOfNight$House" "hour" "I") (wzm K156)) (fun _ h9 => h9) rfl dX1_takeFrom_10 ?_
  refine w_put (X := XC Γ) (σ' := (up (up σ (11 * i0) 0 (σ (11 * i1) 0)) (11 * i0 + 1) 0 ((up σ (11 * i0) 0 (σ (11 * i1) 0)) (11 * i1 + 1) 0))) (ci := 1) (C := RX1) (T := TX1) (N := 11) (ty := .int) hx hb hts iX1 tyX1 tyX1_ok nmX1 hown hK hP (halC Γ) hG hS (1 + 8 * i0) (gC_House Γ (up σ (11 * i0) 0 (σ (11 * i1) 0)) (i0) g1) rfl 1 (by decide) (hts (.fieldLink RX1 37 "OtherHalfOfNight$House" "hour" "I") (wzm K156)) (fun _ h9 => h9) rfl (by decide +kernel) rfl rfl (Nat.le_of_ble_eq_true rfl) dX1_takeFrom_13 (sC_House_hour Γ (up σ (11 * i0) 0 (σ (11 * i1) 0)) (i0) g1 ((up σ (11 * i0) 0 (σ (11 * i1) 0)) (11 * i1 + 1) 0)) (fun H locs hP hS => ?_)
  refine lv_aload_n hx hb dX1_takeFrom_16 rfl (lv_at hl 0 rfl) ?_
  refine lv_aload_n hx hb dX1_takeFrom_17 rfl (lv_at hl 1 rfl) ?_
  refine va_get (D := Γ.1) (ci := 1) (v := .int ((up (up σ (11 * i0) 0 (σ (11 * i1) 0)) (11 * i0 + 1) 0 ((up σ (11 * i0) 0 (σ (11 * i1) 0)) (11 * i1 + 1) 0)) (11 * i1 + 2) 0)) (C := RX1) (T := TX1) (N := 11) hx hb hts iX1 hown hK hP (1 + 8 * i1) (gC_House Γ (up (up σ (11 * i0) 0 (σ (11 * i1) 0)) (11 * i0 + 1) 0 ((up σ (11 * i0) 0 (σ (11 * i1) 0)) (11 * i1 + 1) 0)) (i1) g2) rfl 2 (by decide) (hts (.fieldLink RX1 40 "OtherHalfOfNight$House" "rule" "I") (wzm K157)) (fun _ h9 => h9) rfl dX1_takeFrom_18 ?_
  refine w_put (X := XC Γ) (σ' := (up (up (up σ (11 * i0) 0 (σ (11 * i1) 0)) (11 * i0 + 1) 0 ((up σ (11 * i0) 0 (σ (11 * i1) 0)) (11 * i1 + 1) 0)) (11 * i0 + 2) 0 ((up (up σ (11 * i0) 0 (σ (11 * i1) 0)) (11 * i0 + 1) 0 ((up σ (11 * i0) 0 (σ (11 * i1) 0)) (11 * i1 + 1) 0)) (11 * i1 + 2) 0))) (ci := 1) (C := RX1) (T := TX1) (N := 11) (ty := .int) hx hb hts iX1 tyX1 tyX1_ok nmX1 hown hK hP (halC Γ) hG hS (1 + 8 * i0) (gC_House Γ (up (up σ (11 * i0) 0 (σ (11 * i1) 0)) (11 * i0 + 1) 0 ((up σ (11 * i0) 0 (σ (11 * i1) 0)) (11 * i1 + 1) 0)) (i0) g1) rfl 2 (by decide) (hts (.fieldLink RX1 40 "OtherHalfOfNight$House" "rule" "I") (wzm K157)) (fun _ h9 => h9) rfl (by decide +kernel) rfl rfl (Nat.le_of_ble_eq_true rfl) dX1_takeFrom_21 (sC_House_rule Γ (up (up σ (11 * i0) 0 (σ (11 * i1) 0)) (11 * i0 + 1) 0 ((up σ (11 * i0) 0 (σ (11 * i1) 0)) (11 * i1 + 1) 0)) (i0) g1 ((up (up σ (11 * i0) 0 (σ (11 * i1) 0)) (11 * i0 + 1) 0 ((up σ (11 * i0) 0 (σ (11 * i1) 0)) (11 * i1 + 1) 0)) (11 * i1 + 2) 0)) (fun H locs hP hS => ?_)
  obtain ⟨τ3, e4, hf⟩ := w_ob hf
  replace e4 := Option.some.inj e4
  rw [e4] at hP
  refine lv_aload_n hx hb dX1_takeFrom_24 rfl (lv_at hl 0 rfl) ?_
  refine lv_aload_n hx hb dX1_takeFrom_25 rfl (lv_at hl 1 rfl) ?_
  refine va_get (D := Γ.1) (ci := 1) (v := .int (τ3 (11 * i1 + 3) 0)) (C := RX1) (T := TX1) (N := 11) hx hb hts iX1 hown hK hP (1 + 8 * i1) (gC_House Γ τ3 (i1) g2) rfl 3 (by decide) (hts (.fieldLink RX1 43 "OtherHalfOfNight$House" "ones" "I") (wzm K145)) (fun _ h9 => h9) rfl dX1_takeFrom_26 ?_
  refine w_put (X := XC Γ) (σ' := (up τ3 (11 * i0 + 3) 0 (τ3 (11 * i1 + 3) 0))) (ci := 1) (C := RX1) (T := TX1) (N := 11) (ty := .int) hx hb hts iX1 tyX1 tyX1_ok nmX1 hown hK hP (halC Γ) hG hS (1 + 8 * i0) (gC_House Γ τ3 (i0) g1) rfl 3 (by decide) (hts (.fieldLink RX1 43 "OtherHalfOfNight$House" "ones" "I") (wzm K145)) (fun _ h9 => h9) rfl (by decide +kernel) rfl rfl (Nat.le_of_ble_eq_true rfl) dX1_takeFrom_29 (sC_House_ones Γ τ3 (i0) g1 (τ3 (11 * i1 + 3) 0)) (fun H locs hP hS => ?_)
  refine lv_aload_n hx hb dX1_takeFrom_32 rfl (lv_at hl 1 rfl) ?_
  refine va_get (D := Γ.1) (ci := 1) (v := .ref (Γ.2.2.1 (2 + 8 * i1))) (C := RX1) (T := TX1) (N := 11) hx hb hts iX1 hown hK hP (1 + 8 * i1) (gC_House Γ (up τ3 (11 * i0 + 3) 0 (τ3 (11 * i1 + 3) 0)) (i1) g2) rfl 4 (by decide) (hts (.fieldLink RX1 9 "OtherHalfOfNight$House" "kind" "[I") (wzm K43)) (fun _ h9 => h9) rfl dX1_takeFrom_33 ?_
  refine lv_iconst (v := (0 : Int32)) hx hb dX1_takeFrom_36 (by decide) ?_
  refine lv_aload_n hx hb dX1_takeFrom_37 rfl (lv_at hl 0 rfl) ?_
  refine va_get (D := Γ.1) (ci := 1) (v := .ref (Γ.2.2.1 (2 + 8 * i0))) (C := RX1) (T := TX1) (N := 11) hx hb hts iX1 hown hK hP (1 + 8 * i0) (gC_House Γ (up τ3 (11 * i0 + 3) 0 (τ3 (11 * i1 + 3) 0)) (i0) g1) rfl 4 (by decide) (hts (.fieldLink RX1 9 "OtherHalfOfNight$House" "kind" "[I") (wzm K43)) (fun _ h9 => h9) rfl dX1_takeFrom_38 ?_
  refine lv_iconst (v := (0 : Int32)) hx hb dX1_takeFrom_41 (by decide) ?_
  refine lv_iconst (v := (5 : Int32)) hx hb dX1_takeFrom_42 (by decide) ?_
  obtain ⟨g5, hf⟩ := w_oi hf
  refine w_copy (D := Γ.1) (tys := (tysC Γ)) (X := XC Γ) (σ' := (upA (up τ3 (11 * i0 + 3) 0 (τ3 (11 * i1 + 3) 0)) (11 * i0 + 4) (va_cpy ((up τ3 (11 * i0 + 3) 0 (τ3 (11 * i1 + 3) 0)) (11 * i1 + 4)) ((up τ3 (11 * i0 + 3) 0 (τ3 (11 * i1 + 3) 0)) (11 * i0 + 4)) ((0 : Int32)).toNatClampNeg ((0 : Int32)).toNatClampNeg ((5 : Int32)).toNatClampNeg))) hx hb (hml.trans hl.1.symm) hown (hts (.methodLink RX1 46 arraycopyName) (wzm K704)) (hts (.native arraycopyName) (wzm K705)) (hts (.static arraycopyName) (wzm K706)) (hts (.initialized "java/lang/System") (wzm K707)) hK hP (halC Γ) hG hS (2 + 8 * i1) (2 + 8 * i0) 0 0 (gC_House_kind Γ (up τ3 (11 * i0 + 3) 0 (τ3 (11 * i1 + 3) 0)) (i1) g2) (gC_House_kind Γ (up τ3 (11 * i0 + 3) 0 (τ3 (11 * i1 + 3) 0)) (i0) g1) rfl rfl g5 (Nat.le_of_ble_eq_true rfl) (Nat.le_of_ble_eq_true rfl) dX1_takeFrom_43 (sAC_House_kind Γ (up τ3 (11 * i0 + 3) 0 (τ3 (11 * i1 + 3) 0)) (i0) g1 _) (fun H locs hP hS => ?_)
  obtain ⟨τ6, e7, hf⟩ := w_ob hf
  replace e7 := Option.some.inj e7
  rw [e7] at hP
  refine lv_aload_n hx hb dX1_takeFrom_46 rfl (lv_at hl 1 rfl) ?_
  refine va_get (D := Γ.1) (ci := 1) (v := .ref (Γ.2.2.1 (3 + 8 * i1))) (C := RX1) (T := TX1) (N := 11) hx hb hts iX1 hown hK hP (1 + 8 * i1) (gC_House Γ τ6 (i1) g2) rfl 5 (by decide) (hts (.fieldLink RX1 15 "OtherHalfOfNight$House" "number" "[I") (wzm K44)) (fun _ h9 => h9) rfl dX1_takeFrom_47 ?_
  refine lv_iconst (v := (0 : Int32)) hx hb dX1_takeFrom_50 (by decide) ?_
  refine lv_aload_n hx hb dX1_takeFrom_51 rfl (lv_at hl 0 rfl) ?_
  refine va_get (D := Γ.1) (ci := 1) (v := .ref (Γ.2.2.1 (3 + 8 * i0))) (C := RX1) (T := TX1) (N := 11) hx hb hts iX1 hown hK hP (1 + 8 * i0) (gC_House Γ τ6 (i0) g1) rfl 5 (by decide) (hts (.fieldLink RX1 15 "OtherHalfOfNight$House" "number" "[I") (wzm K44)) (fun _ h9 => h9) rfl dX1_takeFrom_52 ?_
  refine lv_iconst (v := (0 : Int32)) hx hb dX1_takeFrom_55 (by decide) ?_
  refine lv_iconst (v := (5 : Int32)) hx hb dX1_takeFrom_56 (by decide) ?_
  obtain ⟨g8, hf⟩ := w_oi hf
  refine w_copy (D := Γ.1) (tys := (tysC Γ)) (X := XC Γ) (σ' := (upA τ6 (11 * i0 + 5) (va_cpy (τ6 (11 * i1 + 5)) (τ6 (11 * i0 + 5)) ((0 : Int32)).toNatClampNeg ((0 : Int32)).toNatClampNeg ((5 : Int32)).toNatClampNeg))) hx hb (hml.trans hl.1.symm) hown (hts (.methodLink RX1 46 arraycopyName) (wzm K704)) (hts (.native arraycopyName) (wzm K705)) (hts (.static arraycopyName) (wzm K706)) (hts (.initialized "java/lang/System") (wzm K707)) hK hP (halC Γ) hG hS (3 + 8 * i1) (3 + 8 * i0) 0 0 (gC_House_number Γ τ6 (i1) g2) (gC_House_number Γ τ6 (i0) g1) rfl rfl g8 (Nat.le_of_ble_eq_true rfl) (Nat.le_of_ble_eq_true rfl) dX1_takeFrom_57 (sAC_House_number Γ τ6 (i0) g1 _) (fun H locs hP hS => ?_)
  obtain ⟨τ9, e10, hf⟩ := w_ob hf
  replace e10 := Option.some.inj e10
  rw [e10] at hP
  refine lv_aload_n hx hb dX1_takeFrom_60 rfl (lv_at hl 1 rfl) ?_
  refine va_get (D := Γ.1) (ci := 1) (v := .ref (Γ.2.2.1 (4 + 8 * i1))) (C := RX1) (T := TX1) (N := 11) hx hb hts iX1 hown hK hP (1 + 8 * i1) (gC_House Γ τ9 (i1) g2) rfl 6 (by decide) (hts (.fieldLink RX1 18 "OtherHalfOfNight$House" "trouble" "[I") (wzm K45)) (fun _ h9 => h9) rfl dX1_takeFrom_61 ?_
  refine lv_iconst (v := (0 : Int32)) hx hb dX1_takeFrom_64 (by decide) ?_
  refine lv_aload_n hx hb dX1_takeFrom_65 rfl (lv_at hl 0 rfl) ?_
  refine va_get (D := Γ.1) (ci := 1) (v := .ref (Γ.2.2.1 (4 + 8 * i0))) (C := RX1) (T := TX1) (N := 11) hx hb hts iX1 hown hK hP (1 + 8 * i0) (gC_House Γ τ9 (i0) g1) rfl 6 (by decide) (hts (.fieldLink RX1 18 "OtherHalfOfNight$House" "trouble" "[I") (wzm K45)) (fun _ h9 => h9) rfl dX1_takeFrom_66 ?_
  refine lv_iconst (v := (0 : Int32)) hx hb dX1_takeFrom_69 (by decide) ?_
  refine lv_iconst (v := (5 : Int32)) hx hb dX1_takeFrom_70 (by decide) ?_
  obtain ⟨g11, hf⟩ := w_oi hf
  refine w_copy (D := Γ.1) (tys := (tysC Γ)) (X := XC Γ) (σ' := (upA τ9 (11 * i0 + 6) (va_cpy (τ9 (11 * i1 + 6)) (τ9 (11 * i0 + 6)) ((0 : Int32)).toNatClampNeg ((0 : Int32)).toNatClampNeg ((5 : Int32)).toNatClampNeg))) hx hb (hml.trans hl.1.symm) hown (hts (.methodLink RX1 46 arraycopyName) (wzm K704)) (hts (.native arraycopyName) (wzm K705)) (hts (.static arraycopyName) (wzm K706)) (hts (.initialized "java/lang/System") (wzm K707)) hK hP (halC Γ) hG hS (4 + 8 * i1) (4 + 8 * i0) 0 0 (gC_House_trouble Γ τ9 (i1) g2) (gC_House_trouble Γ τ9 (i0) g1) rfl rfl g11 (Nat.le_of_ble_eq_true rfl) (Nat.le_of_ble_eq_true rfl) dX1_takeFrom_71 (sAC_House_trouble Γ τ9 (i0) g1 _) (fun H locs hP hS => ?_)
  obtain ⟨τ12, e13, hf⟩ := w_ob hf
  replace e13 := Option.some.inj e13
  rw [e13] at hP
  refine lv_aload_n hx hb dX1_takeFrom_74 rfl (lv_at hl 1 rfl) ?_
  refine va_get (D := Γ.1) (ci := 1) (v := .ref (Γ.2.2.1 (5 + 8 * i1))) (C := RX1) (T := TX1) (N := 11) hx hb hts iX1 hown hK hP (1 + 8 * i1) (gC_House Γ τ12 (i1) g2) rfl 7 (by decide) (hts (.fieldLink RX1 21 "OtherHalfOfNight$House" "news" "[I") (wzm K46)) (fun _ h9 => h9) rfl dX1_takeFrom_75 ?_
  refine lv_iconst (v := (0 : Int32)) hx hb dX1_takeFrom_78 (by decide) ?_
  refine lv_aload_n hx hb dX1_takeFrom_79 rfl (lv_at hl 0 rfl) ?_
  refine va_get (D := Γ.1) (ci := 1) (v := .ref (Γ.2.2.1 (5 + 8 * i0))) (C := RX1) (T := TX1) (N := 11) hx hb hts iX1 hown hK hP (1 + 8 * i0) (gC_House Γ τ12 (i0) g1) rfl 7 (by decide) (hts (.fieldLink RX1 21 "OtherHalfOfNight$House" "news" "[I") (wzm K46)) (fun _ h9 => h9) rfl dX1_takeFrom_80 ?_
  refine lv_iconst (v := (0 : Int32)) hx hb dX1_takeFrom_83 (by decide) ?_
  refine lv_iconst (v := (5 : Int32)) hx hb dX1_takeFrom_84 (by decide) ?_
  obtain ⟨g14, hf⟩ := w_oi hf
  refine w_copy (D := Γ.1) (tys := (tysC Γ)) (X := XC Γ) (σ' := (upA τ12 (11 * i0 + 7) (va_cpy (τ12 (11 * i1 + 7)) (τ12 (11 * i0 + 7)) ((0 : Int32)).toNatClampNeg ((0 : Int32)).toNatClampNeg ((5 : Int32)).toNatClampNeg))) hx hb (hml.trans hl.1.symm) hown (hts (.methodLink RX1 46 arraycopyName) (wzm K704)) (hts (.native arraycopyName) (wzm K705)) (hts (.static arraycopyName) (wzm K706)) (hts (.initialized "java/lang/System") (wzm K707)) hK hP (halC Γ) hG hS (5 + 8 * i1) (5 + 8 * i0) 0 0 (gC_House_news Γ τ12 (i1) g2) (gC_House_news Γ τ12 (i0) g1) rfl rfl g14 (Nat.le_of_ble_eq_true rfl) (Nat.le_of_ble_eq_true rfl) dX1_takeFrom_85 (sAC_House_news Γ τ12 (i0) g1 _) (fun H locs hP hS => ?_)
  obtain ⟨τ15, e16, hf⟩ := w_ob hf
  replace e16 := Option.some.inj e16
  rw [e16] at hP
  refine lv_aload_n hx hb dX1_takeFrom_88 rfl (lv_at hl 1 rfl) ?_
  refine va_get (D := Γ.1) (ci := 1) (v := .ref (Γ.2.2.1 (6 + 8 * i1))) (C := RX1) (T := TX1) (N := 11) hx hb hts iX1 hown hK hP (1 + 8 * i1) (gC_House Γ τ15 (i1) g2) rfl 8 (by decide) (hts (.fieldLink RX1 24 "OtherHalfOfNight$House" "want" "[I") (wzm K47)) (fun _ h9 => h9) rfl dX1_takeFrom_89 ?_
  refine lv_iconst (v := (0 : Int32)) hx hb dX1_takeFrom_92 (by decide) ?_
  refine lv_aload_n hx hb dX1_takeFrom_93 rfl (lv_at hl 0 rfl) ?_
  refine va_get (D := Γ.1) (ci := 1) (v := .ref (Γ.2.2.1 (6 + 8 * i0))) (C := RX1) (T := TX1) (N := 11) hx hb hts iX1 hown hK hP (1 + 8 * i0) (gC_House Γ τ15 (i0) g1) rfl 8 (by decide) (hts (.fieldLink RX1 24 "OtherHalfOfNight$House" "want" "[I") (wzm K47)) (fun _ h9 => h9) rfl dX1_takeFrom_94 ?_
  refine lv_iconst (v := (0 : Int32)) hx hb dX1_takeFrom_97 (by decide) ?_
  refine lv_bipush (v := (6 : Int32)) hx hb dX1_takeFrom_98 (by decide) ?_
  obtain ⟨g17, hf⟩ := w_oi hf
  refine w_copy (D := Γ.1) (tys := (tysC Γ)) (X := XC Γ) (σ' := (upA τ15 (11 * i0 + 8) (va_cpy (τ15 (11 * i1 + 8)) (τ15 (11 * i0 + 8)) ((0 : Int32)).toNatClampNeg ((0 : Int32)).toNatClampNeg ((6 : Int32)).toNatClampNeg))) hx hb (hml.trans hl.1.symm) hown (hts (.methodLink RX1 46 arraycopyName) (wzm K704)) (hts (.native arraycopyName) (wzm K705)) (hts (.static arraycopyName) (wzm K706)) (hts (.initialized "java/lang/System") (wzm K707)) hK hP (halC Γ) hG hS (6 + 8 * i1) (6 + 8 * i0) 0 0 (gC_House_want Γ τ15 (i1) g2) (gC_House_want Γ τ15 (i0) g1) rfl rfl g17 (Nat.le_of_ble_eq_true rfl) (Nat.le_of_ble_eq_true rfl) dX1_takeFrom_100 (sAC_House_want Γ τ15 (i0) g1 _) (fun H locs hP hS => ?_)
  obtain ⟨τ18, e19, hf⟩ := w_ob hf
  replace e19 := Option.some.inj e19
  rw [e19] at hP
  refine lv_aload_n hx hb dX1_takeFrom_103 rfl (lv_at hl 1 rfl) ?_
  refine va_get (D := Γ.1) (ci := 1) (v := .ref (Γ.2.2.1 (7 + 8 * i1))) (C := RX1) (T := TX1) (N := 11) hx hb hts iX1 hown hK hP (1 + 8 * i1) (gC_House Γ τ18 (i1) g2) rfl 9 (by decide) (hts (.fieldLink RX1 27 "OtherHalfOfNight$House" "taste" "[I") (wzm K48)) (fun _ h9 => h9) rfl dX1_takeFrom_104 ?_
  refine lv_iconst (v := (0 : Int32)) hx hb dX1_takeFrom_107 (by decide) ?_
  refine lv_aload_n hx hb dX1_takeFrom_108 rfl (lv_at hl 0 rfl) ?_
  refine va_get (D := Γ.1) (ci := 1) (v := .ref (Γ.2.2.1 (7 + 8 * i0))) (C := RX1) (T := TX1) (N := 11) hx hb hts iX1 hown hK hP (1 + 8 * i0) (gC_House Γ τ18 (i0) g1) rfl 9 (by decide) (hts (.fieldLink RX1 27 "OtherHalfOfNight$House" "taste" "[I") (wzm K48)) (fun _ h9 => h9) rfl dX1_takeFrom_109 ?_
  refine lv_iconst (v := (0 : Int32)) hx hb dX1_takeFrom_112 (by decide) ?_
  refine lv_bipush (v := (6 : Int32)) hx hb dX1_takeFrom_113 (by decide) ?_
  obtain ⟨g20, hf⟩ := w_oi hf
  refine w_copy (D := Γ.1) (tys := (tysC Γ)) (X := XC Γ) (σ' := (upA τ18 (11 * i0 + 9) (va_cpy (τ18 (11 * i1 + 9)) (τ18 (11 * i0 + 9)) ((0 : Int32)).toNatClampNeg ((0 : Int32)).toNatClampNeg ((6 : Int32)).toNatClampNeg))) hx hb (hml.trans hl.1.symm) hown (hts (.methodLink RX1 46 arraycopyName) (wzm K704)) (hts (.native arraycopyName) (wzm K705)) (hts (.static arraycopyName) (wzm K706)) (hts (.initialized "java/lang/System") (wzm K707)) hK hP (halC Γ) hG hS (7 + 8 * i1) (7 + 8 * i0) 0 0 (gC_House_taste Γ τ18 (i1) g2) (gC_House_taste Γ τ18 (i0) g1) rfl rfl g20 (Nat.le_of_ble_eq_true rfl) (Nat.le_of_ble_eq_true rfl) dX1_takeFrom_115 (sAC_House_taste Γ τ18 (i0) g1 _) (fun H locs hP hS => ?_)
  obtain ⟨τ21, e22, hf⟩ := w_ob hf
  replace e22 := Option.some.inj e22
  rw [e22] at hP
  refine lv_aload_n hx hb dX1_takeFrom_118 rfl (lv_at hl 1 rfl) ?_
  refine va_get (D := Γ.1) (ci := 1) (v := .ref (Γ.2.2.1 (8 + 8 * i1))) (C := RX1) (T := TX1) (N := 11) hx hb hts iX1 hown hK hP (1 + 8 * i1) (gC_House Γ τ21 (i1) g2) rfl 10 (by decide) (hts (.fieldLink RX1 30 "OtherHalfOfNight$House" "hold" "[I") (wzm K49)) (fun _ h9 => h9) rfl dX1_takeFrom_119 ?_
  refine lv_iconst (v := (0 : Int32)) hx hb dX1_takeFrom_122 (by decide) ?_
  refine lv_aload_n hx hb dX1_takeFrom_123 rfl (lv_at hl 0 rfl) ?_
  refine va_get (D := Γ.1) (ci := 1) (v := .ref (Γ.2.2.1 (8 + 8 * i0))) (C := RX1) (T := TX1) (N := 11) hx hb hts iX1 hown hK hP (1 + 8 * i0) (gC_House Γ τ21 (i0) g1) rfl 10 (by decide) (hts (.fieldLink RX1 30 "OtherHalfOfNight$House" "hold" "[I") (wzm K49)) (fun _ h9 => h9) rfl dX1_takeFrom_124 ?_
  refine lv_iconst (v := (0 : Int32)) hx hb dX1_takeFrom_127 (by decide) ?_
  refine lv_bipush (v := (6 : Int32)) hx hb dX1_takeFrom_128 (by decide) ?_
  obtain ⟨g23, hf⟩ := w_oi hf
  refine w_copy (D := Γ.1) (tys := (tysC Γ)) (X := XC Γ) (σ' := (upA τ21 (11 * i0 + 10) (va_cpy (τ21 (11 * i1 + 10)) (τ21 (11 * i0 + 10)) ((0 : Int32)).toNatClampNeg ((0 : Int32)).toNatClampNeg ((6 : Int32)).toNatClampNeg))) hx hb (hml.trans hl.1.symm) hown (hts (.methodLink RX1 46 arraycopyName) (wzm K704)) (hts (.native arraycopyName) (wzm K705)) (hts (.static arraycopyName) (wzm K706)) (hts (.initialized "java/lang/System") (wzm K707)) hK hP (halC Γ) hG hS (8 + 8 * i1) (8 + 8 * i0) 0 0 (gC_House_hold Γ τ21 (i1) g2) (gC_House_hold Γ τ21 (i0) g1) rfl rfl g23 (Nat.le_of_ble_eq_true rfl) (Nat.le_of_ble_eq_true rfl) dX1_takeFrom_130 (sAC_House_hold Γ τ21 (i0) g1 _) (fun H locs hP hS => ?_)
  obtain ⟨τ24, e25, hf⟩ := w_ob hf
  replace e25 := Option.some.inj e25
  rw [e25] at hP
  exact w_vret (X := XC Γ) hx hb hr hlocks hK hP hS hf dX1_takeFrom_133
def f_X1_hasPlace (i0 : Nat) (x1 : Int32) (x2 : Int32) (σ : Sg) : Option (Int32 × Sg) := if i0 < 3 then if x1 = 0 then some ((1 : Int32), σ) else if x1 = 1 then some ((1 : Int32), σ) else if x1 = 2 then (f_X1_lodges (i0) x2 σ).bind fun (q5 : Int32 × Sg) => if (q5.1 = 0 ∨ q5.1 = 1) then some (q5.1, q5.2) else none else if x1 = 3 then (f_X1_lodges (i0) x2 σ).bind fun (q9 : Int32 × Sg) => if (q9.1 = 0 ∨ q9.1 = 1) then some (q9.1, q9.2) else none else if x1 = 4 then (f_X1_lodges (i0) x2 σ).bind fun (q13 : Int32 × Sg) => if (q13.1 = 0 ∨ q13.1 = 1) then some (q13.1, q13.2) else none else if x1 = 5 then (f_X8_isCup x2 σ).bind fun (q17 : Int32 × Sg) => if (q17.1 = 0 ∨ q17.1 = 1) then some (q17.1, q17.2) else none else if x1 = 6 then (f_X8_isCup x2 σ).bind fun (q21 : Int32 × Sg) => if (q21.1 = 0 ∨ q21.1 = 1) then some (q21.1, q21.2) else none else if x1 = 7 then (f_X1_lodges (i0) x2 σ).bind fun (q25 : Int32 × Sg) => if (q25.1 = 0 ∨ q25.1 = 1) then some (q25.1, q25.2) else none else if x1 = 10 then (f_X8_isCup x2 σ).bind fun (q29 : Int32 × Sg) => if (q29.1 = 0 ∨ q29.1 = 1) then some (q29.1, q29.2) else none else if x1 = 11 then some ((1 : Int32), σ) else if x1 = 8 then some ((0 : Int32), σ) else if x1 = 9 then some ((0 : Int32), σ) else some ((0 : Int32), σ) else none
set_option maxHeartbeats 40000000 in
set_option maxRecDepth 100000 in
theorem c_X1_hasPlace (l : Launch) (Γ : Geo) (hG : okC Γ) (i0 : Nat) (x1 : Int32) (x2 : Int32) (σ : Sg) (r : Int32) (σ' : Sg) (hf : f_X1_hasPlace i0 x1 x2 σ = some (r, σ')) (sz : Nat) : Met l yX1_hasPlace (wz yX1_hasPlace cX1_hasPlace 3 (some .boolean)) { frames := 1, cells := 0, slots := 0, locals := 21 } (va_Pc [.ref (Γ.2.2.1 (1 + 8 * i0)), .int x1, .int x2] (wPre Γ.1 vwCl (tysC Γ) (XC Γ) (alC Γ) Γ.2.2.2 σ sz)) (wQi Γ.1 vwCl (tysC Γ) (XC Γ) (alC Γ) r σ' sz) 0 0 (wA (alC Γ) sz) := by
  refine w_enter (cc := cX1_hasPlace) (maxL := 3) (ret := (some .boolean)) (by decide) rfl (Nat.le_of_ble_eq_true rfl) ?_
  intro p e s m below meth c ls hx hb hr hlocks hml hown hts hsz hP hK hkc hN hl
  subst hsz
  generalize hav : ([.ref (Γ.2.2.1 (1 + 8 * i0)), .int x1, .int x2] : List Value) = av at hl hts ⊢
  have hl : lv_has ls 3 [(0, .ref (Γ.2.2.1 (1 + 8 * i0))), (1, .int x1), (2, .int x2)] := by rw [← hav] at hl; exact hl
  suffices hw : ∀ (H : Heap) (locs : List Loc), va_P Γ.1 vwCl (XC Γ σ) H → va_S (wA (alC Γ) s.heap.size) s.heap H locs → W p l e { frames := 1, cells := 0, slots := 0, locals := 21 } s m av.toArray below meth c H locs 0 0 (MQ below (wQi Γ.1 vwCl (tysC Γ) (XC Γ) (alC Γ) r σ' s.heap.size) av.toArray s 0 0 (wA (alC Γ) s.heap.size)) (F0 m 0 ls []) from hw _ [] hP va_S.rf
  clear hP
  intro H locs hP hS
  unfold f_X1_hasPlace at hf
  obtain ⟨g1, hf⟩ := w_oi hf
  refine lv_iload_n hx hb dX1_hasPlace_0 rfl (lv_at hl 1 rfl) ?_
  by_cases c2 : x1 = 0
  · replace hf := (if_pos c2).symm.trans hf
    refine lv_tableIn (off := 63) (tgt := 64) hx hb dX1_hasPlace_1 (by rw [c2]; decide) (by rw [c2]; decide) (by rw [c2]; rfl) (by decide) ?_
    refine lv_iconst (v := (1 : Int32)) hx hb dX1_hasPlace_64 (by decide) ?_
    exact w_iret (X := XC Γ) hx hb hr hlocks hK hP hS (by decide) hf dX1_hasPlace_65
  · replace hf := (if_neg c2).symm.trans hf
    by_cases c3 : x1 = 1
    · replace hf := (if_pos c3).symm.trans hf
      refine lv_tableIn (off := 63) (tgt := 64) hx hb dX1_hasPlace_1 (by rw [c3]; decide) (by rw [c3]; decide) (by rw [c3]; rfl) (by decide) ?_
      refine lv_iconst (v := (1 : Int32)) hx hb dX1_hasPlace_64 (by decide) ?_
      exact w_iret (X := XC Γ) hx hb hr hlocks hK hP hS (by decide) hf dX1_hasPlace_65
    · replace hf := (if_neg c3).symm.trans hf
      by_cases c4 : x1 = 2
      · replace hf := (if_pos c4).symm.trans hf
        refine lv_tableIn (off := 65) (tgt := 66) hx hb dX1_hasPlace_1 (by rw [c4]; decide) (by rw [c4]; decide) (by rw [c4]; rfl) (by decide) ?_
        refine lv_aload_n hx hb dX1_hasPlace_66 rfl (lv_at hl 0 rfl) ?_
        refine lv_iload_n hx hb dX1_hasPlace_67 rfl (lv_at hl 2 rfl) ?_
        obtain ⟨q5, h6, hf⟩ := w_ob hf
        refine w_ci (va_runV (As := [.int x2]) (rest := []) ⟨hx, hb, hml, hown, hts⟩ (c_X1_lodges l Γ hG (i0) x2 σ q5.1 q5.2 h6 H.size) (cwV 1 hts (wzV K144 K141 K142 K143 K14) rfl rfl rfl (by decide +kernel) ⟨(Nat.le_of_ble_eq_true rfl), (Nat.le_of_ble_eq_true rfl)⟩) (w_preV hK hP hkc hN hS (gC_House Γ σ (i0) g1) rfl) rfl rfl hl.1 rfl (lv_room (Nat.le_of_ble_eq_true rfl)) dX1_hasPlace_68 ⟨Nat.le_refl _, Nat.le_refl _⟩) hS (fun H locs hP hS => ?_)
        obtain ⟨g7, hf⟩ := w_oi hf
        exact w_iret (X := XC Γ) hx hb hr hlocks hK hP hS (w_nb g7) hf dX1_hasPlace_71
      · replace hf := (if_neg c4).symm.trans hf
        by_cases c8 : x1 = 3
        · replace hf := (if_pos c8).symm.trans hf
          refine lv_tableIn (off := 65) (tgt := 66) hx hb dX1_hasPlace_1 (by rw [c8]; decide) (by rw [c8]; decide) (by rw [c8]; rfl) (by decide) ?_
          refine lv_aload_n hx hb dX1_hasPlace_66 rfl (lv_at hl 0 rfl) ?_
          refine lv_iload_n hx hb dX1_hasPlace_67 rfl (lv_at hl 2 rfl) ?_
          obtain ⟨q9, h10, hf⟩ := w_ob hf
          refine w_ci (va_runV (As := [.int x2]) (rest := []) ⟨hx, hb, hml, hown, hts⟩ (c_X1_lodges l Γ hG (i0) x2 σ q9.1 q9.2 h10 H.size) (cwV 1 hts (wzV K144 K141 K142 K143 K14) rfl rfl rfl (by decide +kernel) ⟨(Nat.le_of_ble_eq_true rfl), (Nat.le_of_ble_eq_true rfl)⟩) (w_preV hK hP hkc hN hS (gC_House Γ σ (i0) g1) rfl) rfl rfl hl.1 rfl (lv_room (Nat.le_of_ble_eq_true rfl)) dX1_hasPlace_68 ⟨Nat.le_refl _, Nat.le_refl _⟩) hS (fun H locs hP hS => ?_)
          obtain ⟨g11, hf⟩ := w_oi hf
          exact w_iret (X := XC Γ) hx hb hr hlocks hK hP hS (w_nb g11) hf dX1_hasPlace_71
        · replace hf := (if_neg c8).symm.trans hf
          by_cases c12 : x1 = 4
          · replace hf := (if_pos c12).symm.trans hf
            refine lv_tableIn (off := 65) (tgt := 66) hx hb dX1_hasPlace_1 (by rw [c12]; decide) (by rw [c12]; decide) (by rw [c12]; rfl) (by decide) ?_
            refine lv_aload_n hx hb dX1_hasPlace_66 rfl (lv_at hl 0 rfl) ?_
            refine lv_iload_n hx hb dX1_hasPlace_67 rfl (lv_at hl 2 rfl) ?_
            obtain ⟨q13, h14, hf⟩ := w_ob hf
            refine w_ci (va_runV (As := [.int x2]) (rest := []) ⟨hx, hb, hml, hown, hts⟩ (c_X1_lodges l Γ hG (i0) x2 σ q13.1 q13.2 h14 H.size) (cwV 1 hts (wzV K144 K141 K142 K143 K14) rfl rfl rfl (by decide +kernel) ⟨(Nat.le_of_ble_eq_true rfl), (Nat.le_of_ble_eq_true rfl)⟩) (w_preV hK hP hkc hN hS (gC_House Γ σ (i0) g1) rfl) rfl rfl hl.1 rfl (lv_room (Nat.le_of_ble_eq_true rfl)) dX1_hasPlace_68 ⟨Nat.le_refl _, Nat.le_refl _⟩) hS (fun H locs hP hS => ?_)
            obtain ⟨g15, hf⟩ := w_oi hf
            exact w_iret (X := XC Γ) hx hb hr hlocks hK hP hS (w_nb g15) hf dX1_hasPlace_71
          · replace hf := (if_neg c12).symm.trans hf
            by_cases c16 : x1 = 5
            · replace hf := (if_pos c16).symm.trans hf
              refine lv_tableIn (off := 71) (tgt := 72) hx hb dX1_hasPlace_1 (by rw [c16]; decide) (by rw [c16]; decide) (by rw [c16]; rfl) (by decide) ?_
              refine lv_iload_n hx hb dX1_hasPlace_72 rfl (lv_at hl 2 rfl) ?_
              obtain ⟨q17, h18, hf⟩ := w_ob hf
              refine w_ci (va_runSN (As := [.int x2]) (rest := []) ⟨hx, hb, hml, hown, hts⟩ (c_X8_isCup l Γ hG x2 σ q17.1 q17.2 h18 H.size) ⟨va_cnB 1 hts (wzC K147) rfl rfl rfl (hN _ (List.mem_of_getElem? (i := 2) rfl)) (hts (.initialized RX8) (wzm K2)) (by decide +kernel) ⟨(Nat.le_of_ble_eq_true rfl), (Nat.le_of_ble_eq_true rfl)⟩, (hts (.static yX8_isCup) (wzm K146)), trivial⟩ (w_pre hK hP hkc hN hS) rfl rfl hl.1 rfl (lv_room (Nat.le_of_ble_eq_true rfl)) dX1_hasPlace_73 ⟨Nat.le_refl _, Nat.le_refl _⟩) hS (fun H locs hP hS => ?_)
              obtain ⟨g19, hf⟩ := w_oi hf
              exact w_iret (X := XC Γ) hx hb hr hlocks hK hP hS (w_nb g19) hf dX1_hasPlace_76
            · replace hf := (if_neg c16).symm.trans hf
              by_cases c20 : x1 = 6
              · replace hf := (if_pos c20).symm.trans hf
                refine lv_tableIn (off := 71) (tgt := 72) hx hb dX1_hasPlace_1 (by rw [c20]; decide) (by rw [c20]; decide) (by rw [c20]; rfl) (by decide) ?_
                refine lv_iload_n hx hb dX1_hasPlace_72 rfl (lv_at hl 2 rfl) ?_
                obtain ⟨q21, h22, hf⟩ := w_ob hf
                refine w_ci (va_runSN (As := [.int x2]) (rest := []) ⟨hx, hb, hml, hown, hts⟩ (c_X8_isCup l Γ hG x2 σ q21.1 q21.2 h22 H.size) ⟨va_cnB 1 hts (wzC K147) rfl rfl rfl (hN _ (List.mem_of_getElem? (i := 2) rfl)) (hts (.initialized RX8) (wzm K2)) (by decide +kernel) ⟨(Nat.le_of_ble_eq_true rfl), (Nat.le_of_ble_eq_true rfl)⟩, (hts (.static yX8_isCup) (wzm K146)), trivial⟩ (w_pre hK hP hkc hN hS) rfl rfl hl.1 rfl (lv_room (Nat.le_of_ble_eq_true rfl)) dX1_hasPlace_73 ⟨Nat.le_refl _, Nat.le_refl _⟩) hS (fun H locs hP hS => ?_)
                obtain ⟨g23, hf⟩ := w_oi hf
                exact w_iret (X := XC Γ) hx hb hr hlocks hK hP hS (w_nb g23) hf dX1_hasPlace_76
              · replace hf := (if_neg c20).symm.trans hf
                by_cases c24 : x1 = 7
                · replace hf := (if_pos c24).symm.trans hf
                  refine lv_tableIn (off := 65) (tgt := 66) hx hb dX1_hasPlace_1 (by rw [c24]; decide) (by rw [c24]; decide) (by rw [c24]; rfl) (by decide) ?_
                  refine lv_aload_n hx hb dX1_hasPlace_66 rfl (lv_at hl 0 rfl) ?_
                  refine lv_iload_n hx hb dX1_hasPlace_67 rfl (lv_at hl 2 rfl) ?_
                  obtain ⟨q25, h26, hf⟩ := w_ob hf
                  refine w_ci (va_runV (As := [.int x2]) (rest := []) ⟨hx, hb, hml, hown, hts⟩ (c_X1_lodges l Γ hG (i0) x2 σ q25.1 q25.2 h26 H.size) (cwV 1 hts (wzV K144 K141 K142 K143 K14) rfl rfl rfl (by decide +kernel) ⟨(Nat.le_of_ble_eq_true rfl), (Nat.le_of_ble_eq_true rfl)⟩) (w_preV hK hP hkc hN hS (gC_House Γ σ (i0) g1) rfl) rfl rfl hl.1 rfl (lv_room (Nat.le_of_ble_eq_true rfl)) dX1_hasPlace_68 ⟨Nat.le_refl _, Nat.le_refl _⟩) hS (fun H locs hP hS => ?_)
                  obtain ⟨g27, hf⟩ := w_oi hf
                  exact w_iret (X := XC Γ) hx hb hr hlocks hK hP hS (w_nb g27) hf dX1_hasPlace_71
                · replace hf := (if_neg c24).symm.trans hf
                  by_cases c28 : x1 = 10
                  · replace hf := (if_pos c28).symm.trans hf
                    refine lv_tableIn (off := 71) (tgt := 72) hx hb dX1_hasPlace_1 (by rw [c28]; decide) (by rw [c28]; decide) (by rw [c28]; rfl) (by decide) ?_
                    refine lv_iload_n hx hb dX1_hasPlace_72 rfl (lv_at hl 2 rfl) ?_
                    obtain ⟨q29, h30, hf⟩ := w_ob hf
                    refine w_ci (va_runSN (As := [.int x2]) (rest := []) ⟨hx, hb, hml, hown, hts⟩ (c_X8_isCup l Γ hG x2 σ q29.1 q29.2 h30 H.size) ⟨va_cnB 1 hts (wzC K147) rfl rfl rfl (hN _ (List.mem_of_getElem? (i := 2) rfl)) (hts (.initialized RX8) (wzm K2)) (by decide +kernel) ⟨(Nat.le_of_ble_eq_true rfl), (Nat.le_of_ble_eq_true rfl)⟩, (hts (.static yX8_isCup) (wzm K146)), trivial⟩ (w_pre hK hP hkc hN hS) rfl rfl hl.1 rfl (lv_room (Nat.le_of_ble_eq_true rfl)) dX1_hasPlace_73 ⟨Nat.le_refl _, Nat.le_refl _⟩) hS (fun H locs hP hS => ?_)
                    obtain ⟨g31, hf⟩ := w_oi hf
                    exact w_iret (X := XC Γ) hx hb hr hlocks hK hP hS (w_nb g31) hf dX1_hasPlace_76
                  · replace hf := (if_neg c28).symm.trans hf
                    by_cases c32 : x1 = 11
                    · replace hf := (if_pos c32).symm.trans hf
                      refine lv_tableIn (off := 63) (tgt := 64) hx hb dX1_hasPlace_1 (by rw [c32]; decide) (by rw [c32]; decide) (by rw [c32]; rfl) (by decide) ?_
                      refine lv_iconst (v := (1 : Int32)) hx hb dX1_hasPlace_64 (by decide) ?_
                      exact w_iret (X := XC Γ) hx hb hr hlocks hK hP hS (by decide) hf dX1_hasPlace_65
                    · replace hf := (if_neg c32).symm.trans hf
                      by_cases c33 : x1 = 8
                      · replace hf := (if_pos c33).symm.trans hf
                        refine lv_tableIn (off := 76) (tgt := 77) hx hb dX1_hasPlace_1 (by rw [c33]; decide) (by rw [c33]; decide) (by rw [c33]; rfl) (by decide) ?_
                        refine lv_iconst (v := (0 : Int32)) hx hb dX1_hasPlace_77 (by decide) ?_
                        exact w_iret (X := XC Γ) hx hb hr hlocks hK hP hS (by decide) hf dX1_hasPlace_78
                      · replace hf := (if_neg c33).symm.trans hf
                        by_cases c34 : x1 = 9
                        · replace hf := (if_pos c34).symm.trans hf
                          refine lv_tableIn (off := 76) (tgt := 77) hx hb dX1_hasPlace_1 (by rw [c34]; decide) (by rw [c34]; decide) (by rw [c34]; rfl) (by decide) ?_
                          refine lv_iconst (v := (0 : Int32)) hx hb dX1_hasPlace_77 (by decide) ?_
                          exact w_iret (X := XC Γ) hx hb hr hlocks hK hP hS (by decide) hf dX1_hasPlace_78
                        · replace hf := (if_neg c34).symm.trans hf
                          have nc2 : ¬ (x1).toInt = 0 := fun q => c2 (Int32.toInt_inj.mp q)
                          have nc3 : ¬ (x1).toInt = 1 := fun q => c3 (Int32.toInt_inj.mp q)
                          have nc4 : ¬ (x1).toInt = 2 := fun q => c4 (Int32.toInt_inj.mp q)
                          have nc8 : ¬ (x1).toInt = 3 := fun q => c8 (Int32.toInt_inj.mp q)
                          have nc12 : ¬ (x1).toInt = 4 := fun q => c12 (Int32.toInt_inj.mp q)
                          have nc16 : ¬ (x1).toInt = 5 := fun q => c16 (Int32.toInt_inj.mp q)
                          have nc20 : ¬ (x1).toInt = 6 := fun q => c20 (Int32.toInt_inj.mp q)
                          have nc24 : ¬ (x1).toInt = 7 := fun q => c24 (Int32.toInt_inj.mp q)
                          have nc28 : ¬ (x1).toInt = 10 := fun q => c28 (Int32.toInt_inj.mp q)
                          have nc32 : ¬ (x1).toInt = 11 := fun q => c32 (Int32.toInt_inj.mp q)
                          have nc33 : ¬ (x1).toInt = 8 := fun q => c33 (Int32.toInt_inj.mp q)
                          have nc34 : ¬ (x1).toInt = 9 := fun q => c34 (Int32.toInt_inj.mp q)
                          refine lv_tableOut (tgt := 77) hx hb dX1_hasPlace_1 (by omega) (by decide) ?_
                          refine lv_iconst (v := (0 : Int32)) hx hb dX1_hasPlace_77 (by decide) ?_
                          exact w_iret (X := XC Γ) hx hb hr hlocks hK hP hS (by decide) hf dX1_hasPlace_78
def f_X1_read (i0 : Nat) (x1 : Int32) (x2 : Int32) (σ : Sg) : Option (Int32 × Sg) := if i0 < 3 then (f_X1_hasPlace (i0) x1 x2 σ).bind fun (q2 : Int32 × Sg) => if q2.1 = 0 then some ((-2 : Int32), q2.2) else if x1 = 0 then some ((q2.2 (11 * i0) 0), q2.2) else if x1 = 1 then some ((q2.2 (11 * i0 + 1) 0), q2.2) else if x1 = 2 then if okI x2 5 then some ((q2.2 (11 * i0 + 5) (x2).toNatClampNeg), q2.2) else none else if x1 = 3 then if okI x2 5 then some ((q2.2 (11 * i0 + 6) (x2).toNatClampNeg), q2.2) else none else if x1 = 4 then if okI x2 5 then some ((q2.2 (11 * i0 + 7) (x2).toNatClampNeg), q2.2) else none else if x1 = 5 then if okI x2 6 then some ((q2.2 (11 * i0 + 8) (x2).toNatClampNeg), q2.2) else none else if x1 = 6 then if okI x2 6 then some ((q2.2 (11 * i0 + 9) (x2).toNatClampNeg), q2.2) else none else if x1 = 7 then if okI x2 5 then some ((q2.2 (11 * i0 + 4) (x2).toNatClampNeg), q2.2) else none else if x1 = 10 then if okI x2 6 then some ((q2.2 (11 * i0 + 10) (x2).toNatClampNeg), q2.2) else none else if x1 = 8 then some ((q2.2 (11 * i0 + 2) 0), q2.2) else if x1 = 9 then some ((q2.2 (11 * i0 + 2) 0), q2.2) else some ((q2.2 (11 * i0 + 2) 0), q2.2) else none
set_option maxHeartbeats 40000000 in
set_option maxRecDepth 100000 in
theorem c_X1_read (l : Launch) (Γ : Geo) (hG : okC Γ) (i0 : Nat) (x1 : Int32) (x2 : Int32) (σ : Sg) (r : Int32) (σ' : Sg) (hf : f_X1_read i0 x1 x2 σ = some (r, σ')) (sz : Nat) : Met l yX1_read (wz yX1_read cX1_read 3 (some .int)) { frames := 2, cells := 0, slots := 0, locals := 43 } (va_Pc [.ref (Γ.2.2.1 (1 + 8 * i0)), .int x1, .int x2] (wPre Γ.1 vwCl (tysC Γ) (XC Γ) (alC Γ) Γ.2.2.2 σ sz)) (wQi Γ.1 vwCl (tysC Γ) (XC Γ) (alC Γ) r σ' sz) 0 0 (wA (alC Γ) sz) := by
  refine w_enter (cc := cX1_read) (maxL := 3) (ret := (some .int)) (by decide) rfl (Nat.le_of_ble_eq_true rfl) ?_
  intro p e s m below meth c ls hx hb hr hlocks hml hown hts hsz hP hK hkc hN hl
  subst hsz
  generalize hav : ([.ref (Γ.2.2.1 (1 + 8 * i0)), .int x1, .int x2] : List Value) = av at hl hts ⊢
  have hl : lv_has ls 3 [(0, .ref (Γ.2.2.1 (1 + 8 * i0))), (1, .int x1), (2, .int x2)] := by rw [← hav] at hl; exact hl
  suffices hw : ∀ (H : Heap) (locs : List Loc), va_P Γ.1 vwCl (XC Γ σ) H → va_S (wA (alC Γ) s.heap.size) s.heap H locs → W p l e { frames := 2, cells := 0, slots := 0, locals := 43 } s m av.toArray below meth c H locs 0 0 (MQ below (wQi Γ.1 vwCl (tysC Γ) (XC Γ) (alC Γ) r σ' s.heap.size) av.toArray s 0 0 (wA (alC Γ) s.heap.size)) (F0 m 0 ls []) from hw _ [] hP va_S.rf
  clear hP
  intro H locs hP hS
  unfold f_X1_read at hf
  obtain ⟨g1, hf⟩ := w_oi hf
  refine lv_aload_n hx hb dX1_read_0 rfl (lv_at hl 0 rfl) ?_
  refine lv_iload_n hx hb dX1_read_1 rfl (lv_at hl 1 rfl) ?_
  refine lv_iload_n hx hb dX1_read_2 rfl (lv_at hl 2 rfl) ?_
  obtain ⟨q2, h3, hf⟩ := w_ob hf
  refine w_ci (va_runV (As := [.int x1, .int x2]) (rest := []) ⟨hx, hb, hml, hown, hts⟩ (c_X1_hasPlace l Γ hG (i0) x1 x2 σ q2.1 q2.2 h3 H.size) (cwV 2 hts (wzV K140 K158 K138 K139 K14) rfl rfl rfl (by decide +kernel) ⟨(Nat.le_of_ble_eq_true rfl), (Nat.le_of_ble_eq_true rfl)⟩) (w_preV hK hP hkc hN hS (gC_House Γ σ (i0) g1) rfl) rfl rfl hl.1 rfl (lv_room (Nat.le_of_ble_eq_true rfl)) dX1_read_3 ⟨Nat.le_refl _, Nat.le_refl _⟩) hS (fun H locs hP hS => ?_)
  refine lv_if_ne (tgt := 12) hx hb dX1_read_6 (by decide) (fun c4 => ?_) (fun c4 => ?_)
  · replace hf := (if_neg c4).symm.trans hf
    refine lv_iload_n hx hb dX1_read_12 rfl (lv_at hl 1 rfl) ?_
    by_cases c5 : x1 = 0
    · replace hf := (if_pos c5).symm.trans hf
      refine lv_tableIn (off := 59) (tgt := 72) hx hb dX1_read_13 (by rw [c5]; decide) (by rw [c5]; decide) (by rw [c5]; rfl) (by decide) ?_
      refine lv_aload_n hx hb dX1_read_72 rfl (lv_at hl 0 rfl) ?_
      refine va_get (D := Γ.1) (ci := 1) (v := .int (q2.2 (11 * i0) 0)) (C := RX1) (T := TX1) (N := 11) hx hb hts iX1 hown hK hP (1 + 8 * i0) (gC_House Γ q2.2 (i0) g1) rfl 0 (by decide) (hts (.fieldLink RX1 33 "OtherHalfOfNight$House" "night" "I") (wzm K155)) (fun _ h9 => h9) rfl dX1_read_73 ?_
      exact w_iret (X := XC Γ) hx hb hr hlocks hK hP hS rfl hf dX1_read_76
    · replace hf := (if_neg c5).symm.trans hf
      by_cases c6 : x1 = 1
      · replace hf := (if_pos c6).symm.trans hf
        refine lv_tableIn (off := 64) (tgt := 77) hx hb dX1_read_13 (by rw [c6]; decide) (by rw [c6]; decide) (by rw [c6]; rfl) (by decide) ?_
        refine lv_aload_n hx hb dX1_read_77 rfl (lv_at hl 0 rfl) ?_
        refine va_get (D := Γ.1) (ci := 1) (v := .int (q2.2 (11 * i0 + 1) 0)) (C := RX1) (T := TX1) (N := 11) hx hb hts iX1 hown hK hP (1 + 8 * i0) (gC_House Γ q2.2 (i0) g1) rfl 1 (by decide) (hts (.fieldLink RX1 37 "OtherHalfOfNight$House" "hour" "I") (wzm K156)) (fun _ h9 => h9) rfl dX1_read_78 ?_
        exact w_iret (X := XC Γ) hx hb hr hlocks hK hP hS rfl hf dX1_read_81
      · replace hf := (if_neg c6).symm.trans hf
        by_cases c7 : x1 = 2
        · replace hf := (if_pos c7).symm.trans hf
          refine lv_tableIn (off := 69) (tgt := 82) hx hb dX1_read_13 (by rw [c7]; decide) (by rw [c7]; decide) (by rw [c7]; rfl) (by decide) ?_
          refine lv_aload_n hx hb dX1_read_82 rfl (lv_at hl 0 rfl) ?_
          refine va_get (D := Γ.1) (ci := 1) (v := .ref (Γ.2.2.1 (3 + 8 * i0))) (C := RX1) (T := TX1) (N := 11) hx hb hts iX1 hown hK hP (1 + 8 * i0) (gC_House Γ q2.2 (i0) g1) rfl 5 (by decide) (hts (.fieldLink RX1 15 "OtherHalfOfNight$House" "number" "[I") (wzm K44)) (fun _ h9 => h9) rfl dX1_read_83 ?_
          refine lv_iload_n hx hb dX1_read_86 rfl (lv_at hl 2 rfl) ?_
          obtain ⟨g8, hf⟩ := w_oi hf
          refine va_iald (D := Γ.1) (tys := (tysC Γ)) hx hb hK hP (3 + 8 * i0) 0 (gC_House_number Γ q2.2 (i0) g1) rfl g8 dX1_read_87 ?_
          exact w_iret (X := XC Γ) hx hb hr hlocks hK hP hS rfl hf dX1_read_88
        · replace hf := (if_neg c7).symm.trans hf
          by_cases c9 : x1 = 3
          · replace hf := (if_pos c9).symm.trans hf
            refine lv_tableIn (off := 76) (tgt := 89) hx hb dX1_read_13 (by rw [c9]; decide) (by rw [c9]; decide) (by rw [c9]; rfl) (by decide) ?_
            refine lv_aload_n hx hb dX1_read_89 rfl (lv_at hl 0 rfl) ?_
            refine va_get (D := Γ.1) (ci := 1) (v := .ref (Γ.2.2.1 (4 + 8 * i0))) (C := RX1) (T := TX1) (N := 11) hx hb hts iX1 hown hK hP (1 + 8 * i0) (gC_House Γ q2.2 (i0) g1) rfl 6 (by decide) (hts (.fieldLink RX1 18 "OtherHalfOfNight$House" "trouble" "[I") (wzm K45)) (fun _ h9 => h9) rfl dX1_read_90 ?_
            refine lv_iload_n hx hb dX1_read_93 rfl (lv_at hl 2 rfl) ?_
            obtain ⟨g10, hf⟩ := w_oi hf
            refine va_iald (D := Γ.1) (tys := (tysC Γ)) hx hb hK hP (4 + 8 * i0) 0 (gC_House_trouble Γ q2.2 (i0) g1) rfl g10 dX1_read_94 ?_
            exact w_iret (X := XC Γ) hx hb hr hlocks hK hP hS rfl hf dX1_read_95
          · replace hf := (if_neg c9).symm.trans hf
            by_cases c11 : x1 = 4
            · replace hf := (if_pos c11).symm.trans hf
              refine lv_tableIn (off := 83) (tgt := 96) hx hb dX1_read_13 (by rw [c11]; decide) (by rw [c11]; decide) (by rw [c11]; rfl) (by decide) ?_
              refine lv_aload_n hx hb dX1_read_96 rfl (lv_at hl 0 rfl) ?_
              refine va_get (D := Γ.1) (ci := 1) (v := .ref (Γ.2.2.1 (5 + 8 * i0))) (C := RX1) (T := TX1) (N := 11) hx hb hts iX1 hown hK hP (1 + 8 * i0) (gC_House Γ q2.2 (i0) g1) rfl 7 (by decide) (hts (.fieldLink RX1 21 "OtherHalfOfNight$House" "news" "[I") (wzm K46)) (fun _ h9 => h9) rfl dX1_read_97 ?_
              refine lv_iload_n hx hb dX1_read_100 rfl (lv_at hl 2 rfl) ?_
              obtain ⟨g12, hf⟩ := w_oi hf
              refine va_iald (D := Γ.1) (tys := (tysC Γ)) hx hb hK hP (5 + 8 * i0) 0 (gC_House_news Γ q2.2 (i0) g1) rfl g12 dX1_read_101 ?_
              exact w_iret (X := XC Γ) hx hb hr hlocks hK hP hS rfl hf dX1_read_102
            · replace hf := (if_neg c11).symm.trans hf
              by_cases c13 : x1 = 5
              · replace hf := (if_pos c13).symm.trans hf
                refine lv_tableIn (off := 90) (tgt := 103) hx hb dX1_read_13 (by rw [c13]; decide) (by rw [c13]; decide) (by rw [c13]; rfl) (by decide) ?_
                refine lv_aload_n hx hb dX1_read_103 rfl (lv_at hl 0 rfl) ?_
                refine va_get (D := Γ.1) (ci := 1) (v := .ref (Γ.2.2.1 (6 + 8 * i0))) (C := RX1) (T := TX1) (N := 11) hx hb hts iX1 hown hK hP (1 + 8 * i0) (gC_House Γ q2.2 (i0) g1) rfl 8 (by decide) (hts (.fieldLink RX1 24 "OtherHalfOfNight$House" "want" "[I") (wzm K47)) (fun _ h9 => h9) rfl dX1_read_104 ?_
                refine lv_iload_n hx hb dX1_read_107 rfl (lv_at hl 2 rfl) ?_
                obtain ⟨g14, hf⟩ := w_oi hf
                refine va_iald (D := Γ.1) (tys := (tysC Γ)) hx hb hK hP (6 + 8 * i0) 0 (gC_House_want Γ q2.2 (i0) g1) rfl g14 dX1_read_108 ?_
                exact w_iret (X := XC Γ) hx hb hr hlocks hK hP hS rfl hf dX1_read_109
              · replace hf := (if_neg c13).symm.trans hf
                by_cases c15 : x1 = 6
                · replace hf := (if_pos c15).symm.trans hf
                  refine lv_tableIn (off := 97) (tgt := 110) hx hb dX1_read_13 (by rw [c15]; decide) (by rw [c15]; decide) (by rw [c15]; rfl) (by decide) ?_
                  refine lv_aload_n hx hb dX1_read_110 rfl (lv_at hl 0 rfl) ?_
                  refine va_get (D := Γ.1) (ci := 1) (v := .ref (Γ.2.2.1 (7 + 8 * i0))) (C := RX1) (T := TX1) (N := 11) hx hb hts iX1 hown hK hP (1 + 8 * i0) (gC_House Γ q2.2 (i0) g1) rfl 9 (by decide) (hts (.fieldLink RX1 27 "OtherHalfOfNight$House" "taste" "[I") (wzm K48)) (fun _ h9 => h9) rfl dX1_read_111 ?_
                  refine lv_iload_n hx hb dX1_read_114 rfl (lv_at hl 2 rfl) ?_
                  obtain ⟨g16, hf⟩ := w_oi hf
                  refine va_iald (D := Γ.1) (tys := (tysC Γ)) hx hb hK hP (7 + 8 * i0) 0 (gC_House_taste Γ q2.2 (i0) g1) rfl g16 dX1_read_115 ?_
                  exact w_iret (X := XC Γ) hx hb hr hlocks hK hP hS rfl hf dX1_read_116
                · replace hf := (if_neg c15).symm.trans hf
                  by_cases c17 : x1 = 7
                  · replace hf := (if_pos c17).symm.trans hf
                    refine lv_tableIn (off := 104) (tgt := 117) hx hb dX1_read_13 (by rw [c17]; decide) (by rw [c17]; decide) (by rw [c17]; rfl) (by decide) ?_
                    refine lv_aload_n hx hb dX1_read_117 rfl (lv_at hl 0 rfl) ?_
                    refine va_get (D := Γ.1) (ci := 1) (v := .ref (Γ.2.2.1 (2 + 8 * i0))) (C := RX1) (T := TX1) (N := 11) hx hb hts iX1 hown hK hP (1 + 8 * i0) (gC_House Γ q2.2 (i0) g1) rfl 4 (by decide) (hts (.fieldLink RX1 9 "OtherHalfOfNight$House" "kind" "[I") (wzm K43)) (fun _ h9 => h9) rfl dX1_read_118 ?_
                    refine lv_iload_n hx hb dX1_read_121 rfl (lv_at hl 2 rfl) ?_
                    obtain ⟨g18, hf⟩ := w_oi hf
                    refine va_iald (D := Γ.1) (tys := (tysC Γ)) hx hb hK hP (2 + 8 * i0) 0 (gC_House_kind Γ q2.2 (i0) g1) rfl g18 dX1_read_122 ?_
                    exact w_iret (X := XC Γ) hx hb hr hlocks hK hP hS rfl hf dX1_read_123
                  · replace hf := (if_neg c17).symm.trans hf
                    by_cases c19 : x1 = 10
                    · replace hf := (if_pos c19).symm.trans hf
                      refine lv_tableIn (off := 111) (tgt := 124) hx hb dX1_read_13 (by rw [c19]; decide) (by rw [c19]; decide) (by rw [c19]; rfl) (by decide) ?_
                      refine lv_aload_n hx hb dX1_read_124 rfl (lv_at hl 0 rfl) ?_
                      refine va_get (D := Γ.1) (ci := 1) (v := .ref (Γ.2.2.1 (8 + 8 * i0))) (C := RX1) (T := TX1) (N := 11) hx hb hts iX1 hown hK hP (1 + 8 * i0) (gC_House Γ q2.2 (i0) g1) rfl 10 (by decide) (hts (.fieldLink RX1 30 "OtherHalfOfNight$House" "hold" "[I") (wzm K49)) (fun _ h9 => h9) rfl dX1_read_125 ?_
                      refine lv_iload_n hx hb dX1_read_128 rfl (lv_at hl 2 rfl) ?_
                      obtain ⟨g20, hf⟩ := w_oi hf
                      refine va_iald (D := Γ.1) (tys := (tysC Γ)) hx hb hK hP (8 + 8 * i0) 0 (gC_House_hold Γ q2.2 (i0) g1) rfl g20 dX1_read_129 ?_
                      exact w_iret (X := XC Γ) hx hb hr hlocks hK hP hS rfl hf dX1_read_130
                    · replace hf := (if_neg c19).symm.trans hf
                      by_cases c21 : x1 = 8
                      · replace hf := (if_pos c21).symm.trans hf
                        refine lv_tableIn (off := 118) (tgt := 131) hx hb dX1_read_13 (by rw [c21]; decide) (by rw [c21]; decide) (by rw [c21]; rfl) (by decide) ?_
                        refine lv_aload_n hx hb dX1_read_131 rfl (lv_at hl 0 rfl) ?_
                        refine va_get (D := Γ.1) (ci := 1) (v := .int (q2.2 (11 * i0 + 2) 0)) (C := RX1) (T := TX1) (N := 11) hx hb hts iX1 hown hK hP (1 + 8 * i0) (gC_House Γ q2.2 (i0) g1) rfl 2 (by decide) (hts (.fieldLink RX1 40 "OtherHalfOfNight$House" "rule" "I") (wzm K157)) (fun _ h9 => h9) rfl dX1_read_132 ?_
                        exact w_iret (X := XC Γ) hx hb hr hlocks hK hP hS rfl hf dX1_read_135
                      · replace hf := (if_neg c21).symm.trans hf
                        by_cases c22 : x1 = 9
                        · replace hf := (if_pos c22).symm.trans hf
                          refine lv_tableIn (off := 118) (tgt := 131) hx hb dX1_read_13 (by rw [c22]; decide) (by rw [c22]; decide) (by rw [c22]; rfl) (by decide) ?_
                          refine lv_aload_n hx hb dX1_read_131 rfl (lv_at hl 0 rfl) ?_
                          refine va_get (D := Γ.1) (ci := 1) (v := .int (q2.2 (11 * i0 + 2) 0)) (C := RX1) (T := TX1) (N := 11) hx hb hts iX1 hown hK hP (1 + 8 * i0) (gC_House Γ q2.2 (i0) g1) rfl 2 (by decide) (hts (.fieldLink RX1 40 "OtherHalfOfNight$House" "rule" "I") (wzm K157)) (fun _ h9 => h9) rfl dX1_read_132 ?_
                          exact w_iret (X := XC Γ) hx hb hr hlocks hK hP hS rfl hf dX1_read_135
                        · replace hf := (if_neg c22).symm.trans hf
                          have nc5 : ¬ (x1).toInt = 0 := fun q => c5 (Int32.toInt_inj.mp q)
                          have nc6 : ¬ (x1).toInt = 1 := fun q => c6 (Int32.toInt_inj.mp q)
                          have nc7 : ¬ (x1).toInt = 2 := fun q => c7 (Int32.toInt_inj.mp q)
                          have nc9 : ¬ (x1).toInt = 3 := fun q => c9 (Int32.toInt_inj.mp q)
                          have nc11 : ¬ (x1).toInt = 4 := fun q => c11 (Int32.toInt_inj.mp q)
                          have nc13 : ¬ (x1).toInt = 5 := fun q => c13 (Int32.toInt_inj.mp q)
                          have nc15 : ¬ (x1).toInt = 6 := fun q => c15 (Int32.toInt_inj.mp q)
                          have nc17 : ¬ (x1).toInt = 7 := fun q => c17 (Int32.toInt_inj.mp q)
                          have nc19 : ¬ (x1).toInt = 10 := fun q => c19 (Int32.toInt_inj.mp q)
                          have nc21 : ¬ (x1).toInt = 8 := fun q => c21 (Int32.toInt_inj.mp q)
                          have nc22 : ¬ (x1).toInt = 9 := fun q => c22 (Int32.toInt_inj.mp q)
                          refine lv_tableOut (tgt := 131) hx hb dX1_read_13 (by omega) (by decide) ?_
                          refine lv_aload_n hx hb dX1_read_131 rfl (lv_at hl 0 rfl) ?_
                          refine va_get (D := Γ.1) (ci := 1) (v := .int (q2.2 (11 * i0 + 2) 0)) (C := RX1) (T := TX1) (N := 11) hx hb hts iX1 hown hK hP (1 + 8 * i0) (gC_House Γ q2.2 (i0) g1) rfl 2 (by decide) (hts (.fieldLink RX1 40 "OtherHalfOfNight$House" "rule" "I") (wzm K157)) (fun _ h9 => h9) rfl dX1_read_132 ?_
                          exact w_iret (X := XC Γ) hx hb hr hlocks hK hP hS rfl hf dX1_read_135
  · replace hf := (if_pos c4).symm.trans hf
    refine lv_bipush (v := (-2 : Int32)) hx hb dX1_read_9 (by decide) ?_
    exact w_iret (X := XC Γ) hx hb hr hlocks hK hP hS rfl hf dX1_read_11
def f_X1_write (i0 : Nat) (x1 : Int32) (x2 : Int32) (x3 : Int32) (σ : Sg) : Option Sg := if i0 < 3 then (f_X1_hasPlace (i0) x1 x2 σ).bind fun (q2 : Int32 × Sg) => if q2.1 = 0 then some q2.2 else if x1 = 0 then some (up q2.2 (11 * i0) 0 x3) else if x1 = 1 then some (up q2.2 (11 * i0 + 1) 0 x3) else if x1 = 2 then if okI x2 5 then some (up q2.2 (11 * i0 + 5) (x2).toNatClampNeg x3) else none else if x1 = 3 then if okI x2 5 then some (up q2.2 (11 * i0 + 6) (x2).toNatClampNeg x3) else none else if x1 = 4 then if okI x2 5 then some (up q2.2 (11 * i0 + 7) (x2).toNatClampNeg x3) else none else if x1 = 5 then if okI x2 6 then some (up q2.2 (11 * i0 + 8) (x2).toNatClampNeg x3) else none else if x1 = 6 then if okI x2 6 then some (up q2.2 (11 * i0 + 9) (x2).toNatClampNeg x3) else none else if x1 = 7 then if okI x2 5 then some (up q2.2 (11 * i0 + 4) (x2).toNatClampNeg x3) else none else if x1 = 10 then if okI x2 6 then some (up q2.2 (11 * i0 + 10) (x2).toNatClampNeg x3) else none else if x1 = 8 then some (up q2.2 (11 * i0 + 2) 0 x3) else if x1 = 9 then some (up q2.2 (11 * i0 + 2) 0 x3) else some (up q2.2 (11 * i0 + 2) 0 x3) else none
set_option maxHeartbeats 40000000 in
set_option maxRecDepth 100000 in
theorem c_X1_write (l : Launch) (Γ : Geo) (hG : okC Γ) (i0 : Nat) (x1 : Int32) (x2 : Int32) (x3 : Int32) (σ : Sg) (σ' : Sg) (hf : f_X1_write i0 x1 x2 x3 σ = some σ') (sz : Nat) : Met l yX1_write (wz yX1_write cX1_write 4 none) { frames := 2, cells := 0, slots := 0, locals := 43 } (va_Pc [.ref (Γ.2.2.1 (1 + 8 * i0)), .int x1, .int x2, .int x3] (wPre Γ.1 vwCl (tysC Γ) (XC Γ) (alC Γ) Γ.2.2.2 σ sz)) (wQv Γ.1 vwCl (tysC Γ) (XC Γ) (alC Γ) σ' sz) 0 0 (wA (alC Γ) sz) := by
  refine w_enter (cc := cX1_write) (maxL := 4) (ret := none) (by decide) rfl (Nat.le_of_ble_eq_true rfl) ?_
  intro p e s m below meth c ls hx hb hr hlocks hml hown hts hsz hP hK hkc hN hl
  subst hsz
  generalize hav : ([.ref (Γ.2.2.1 (1 + 8 * i0)), .int x1, .int x2, .int x3] : List Value) = av at hl hts ⊢
  have hl : lv_has ls 4 [(0, .ref (Γ.2.2.1 (1 + 8 * i0))), (1, .int x1), (2, .int x2), (3, .int x3)] := by rw [← hav] at hl; exact hl
  suffices hw : ∀ (H : Heap) (locs : List Loc), va_P Γ.1 vwCl (XC Γ σ) H → va_S (wA (alC Γ) s.heap.size) s.heap H locs → W p l e { frames := 2, cells := 0, slots := 0, locals := 43 } s m av.toArray below meth c H locs 0 0 (MQ below (wQv Γ.1 vwCl (tysC Γ) (XC Γ) (alC Γ) σ' s.heap.size) av.toArray s 0 0 (wA (alC Γ) s.heap.size)) (F0 m 0 ls []) from hw _ [] hP va_S.rf
  clear hP
  intro H locs hP hS
  unfold f_X1_write at hf
  obtain ⟨g1, hf⟩ := w_oi hf
  refine lv_aload_n hx hb dX1_write_0 rfl (lv_at hl 0 rfl) ?_
  refine lv_iload_n hx hb dX1_write_1 rfl (lv_at hl 1 rfl) ?_
  refine lv_iload_n hx hb dX1_write_2 rfl (lv_at hl 2 rfl) ?_
  obtain ⟨q2, h3, hf⟩ := w_ob hf
  refine w_ci (va_runV (As := [.int x1, .int x2]) (rest := []) ⟨hx, hb, hml, hown, hts⟩ (c_X1_hasPlace l Γ hG (i0) x1 x2 σ q2.1 q2.2 h3 H.size) (cwV 2 hts (wzV K140 K158 K138 K139 K14) rfl rfl rfl (by decide +kernel) ⟨(Nat.le_of_ble_eq_true rfl), (Nat.le_of_ble_eq_true rfl)⟩) (w_preV hK hP hkc hN hS (gC_House Γ σ (i0) g1) rfl) rfl rfl hl.1 rfl (lv_room (Nat.le_of_ble_eq_true rfl)) dX1_write_3 ⟨Nat.le_refl _, Nat.le_refl _⟩) hS (fun H locs hP hS => ?_)
  refine lv_if_ne (tgt := 10) hx hb dX1_write_6 (by decide) (fun c4 => ?_) (fun c4 => ?_)
  · replace hf := (if_neg c4).symm.trans hf
    refine lv_iload_n hx hb dX1_write_10 rfl (lv_at hl 1 rfl) ?_
    by_cases c5 : x1 = 0
    · replace hf := (if_pos c5).symm.trans hf
      refine lv_tableIn (off := 57) (tgt := 68) hx hb dX1_write_11 (by rw [c5]; decide) (by rw [c5]; decide) (by rw [c5]; rfl) (by decide) ?_
      refine lv_aload_n hx hb dX1_write_68 rfl (lv_at hl 0 rfl) ?_
      refine lv_iload_n hx hb dX1_write_69 rfl (lv_at hl 3 rfl) ?_
      refine w_put (X := XC Γ) (σ' := (up q2.2 (11 * i0) 0 x3)) (ci := 1) (C := RX1) (T := TX1) (N := 11) (ty := .int) hx hb hts iX1 tyX1 tyX1_ok nmX1 hown hK hP (halC Γ) hG hS (1 + 8 * i0) (gC_House Γ q2.2 (i0) g1) rfl 0 (by decide) (hts (.fieldLink RX1 33 "OtherHalfOfNight$House" "night" "I") (wzm K155)) (fun _ h9 => h9) rfl (by decide +kernel) rfl rfl (Nat.le_of_ble_eq_true rfl) dX1_write_70 (sC_House_night Γ q2.2 (i0) g1 x3) (fun H locs hP hS => ?_)
      refine lv_goto (tgt := 159) hx hb dX1_write_73 (by decide) ?_
      exact w_vret (X := XC Γ) hx hb hr hlocks hK hP hS hf dX1_write_159
    · replace hf := (if_neg c5).symm.trans hf
      by_cases c6 : x1 = 1
      · replace hf := (if_pos c6).symm.trans hf
        refine lv_tableIn (off := 65) (tgt := 76) hx hb dX1_write_11 (by rw [c6]; decide) (by rw [c6]; decide) (by rw [c6]; rfl) (by decide) ?_
        refine lv_aload_n hx hb dX1_write_76 rfl (lv_at hl 0 rfl) ?_
        refine lv_iload_n hx hb dX1_write_77 rfl (lv_at hl 3 rfl) ?_
        refine w_put (X := XC Γ) (σ' := (up q2.2 (11 * i0 + 1) 0 x3)) (ci := 1) (C := RX1) (T := TX1) (N := 11) (ty := .int) hx hb hts iX1 tyX1 tyX1_ok nmX1 hown hK hP (halC Γ) hG hS (1 + 8 * i0) (gC_House Γ q2.2 (i0) g1) rfl 1 (by decide) (hts (.fieldLink RX1 37 "OtherHalfOfNight$House" "hour" "I") (wzm K156)) (fun _ h9 => h9) rfl (by decide +kernel) rfl rfl (Nat.le_of_ble_eq_true rfl) dX1_write_78 (sC_House_hour Γ q2.2 (i0) g1 x3) (fun H locs hP hS => ?_)
        refine lv_goto (tgt := 159) hx hb dX1_write_81 (by decide) ?_
        exact w_vret (X := XC Γ) hx hb hr hlocks hK hP hS hf dX1_write_159
      · replace hf := (if_neg c6).symm.trans hf
        by_cases c7 : x1 = 2
        · replace hf := (if_pos c7).symm.trans hf
          refine lv_tableIn (off := 73) (tgt := 84) hx hb dX1_write_11 (by rw [c7]; decide) (by rw [c7]; decide) (by rw [c7]; rfl) (by decide) ?_
          refine lv_aload_n hx hb dX1_write_84 rfl (lv_at hl 0 rfl) ?_
          refine va_get (D := Γ.1) (ci := 1) (v := .ref (Γ.2.2.1 (3 + 8 * i0))) (C := RX1) (T := TX1) (N := 11) hx hb hts iX1 hown hK hP (1 + 8 * i0) (gC_House Γ q2.2 (i0) g1) rfl 5 (by decide) (hts (.fieldLink RX1 15 "OtherHalfOfNight$House" "number" "[I") (wzm K44)) (fun _ h9 => h9) rfl dX1_write_85 ?_
          refine lv_iload_n hx hb dX1_write_88 rfl (lv_at hl 2 rfl) ?_
          refine lv_iload_n hx hb dX1_write_89 rfl (lv_at hl 3 rfl) ?_
          obtain ⟨g8, hf⟩ := w_oi hf
          refine w_iast (D := Γ.1) (tys := (tysC Γ)) (X := XC Γ) (σ' := (up q2.2 (11 * i0 + 5) (x2).toNatClampNeg x3)) hx hb hK hP (halC Γ) hG hS (3 + 8 * i0) 0 (gC_House_number Γ q2.2 (i0) g1) rfl g8 dX1_write_90 (sC_House_number Γ q2.2 (i0) g1 (x2).toNatClampNeg x3) (fun H locs hP hS => ?_)
          refine lv_goto (tgt := 159) hx hb dX1_write_91 (by decide) ?_
          exact w_vret (X := XC Γ) hx hb hr hlocks hK hP hS hf dX1_write_159
        · replace hf := (if_neg c7).symm.trans hf
          by_cases c9 : x1 = 3
          · replace hf := (if_pos c9).symm.trans hf
            refine lv_tableIn (off := 83) (tgt := 94) hx hb dX1_write_11 (by rw [c9]; decide) (by rw [c9]; decide) (by rw [c9]; rfl) (by decide) ?_
            refine lv_aload_n hx hb dX1_write_94 rfl (lv_at hl 0 rfl) ?_
            refine va_get (D := Γ.1) (ci := 1) (v := .ref (Γ.2.2.1 (4 + 8 * i0))) (C := RX1) (T := TX1) (N := 11) hx hb hts iX1 hown hK hP (1 + 8 * i0) (gC_House Γ q2.2 (i0) g1) rfl 6 (by decide) (hts (.fieldLink RX1 18 "OtherHalfOfNight$House" "trouble" "[I") (wzm K45)) (fun _ h9 => h9) rfl dX1_write_95 ?_
            refine lv_iload_n hx hb dX1_write_98 rfl (lv_at hl 2 rfl) ?_
            refine lv_iload_n hx hb dX1_write_99 rfl (lv_at hl 3 rfl) ?_
            obtain ⟨g10, hf⟩ := w_oi hf
            refine w_iast (D := Γ.1) (tys := (tysC Γ)) (X := XC Γ) (σ' := (up q2.2 (11 * i0 + 6) (x2).toNatClampNeg x3)) hx hb hK hP (halC Γ) hG hS (4 + 8 * i0) 0 (gC_House_trouble Γ q2.2 (i0) g1) rfl g10 dX1_write_100 (sC_House_trouble Γ q2.2 (i0) g1 (x2).toNatClampNeg x3) (fun H locs hP hS => ?_)
            refine lv_goto (tgt := 159) hx hb dX1_write_101 (by decide) ?_
            exact w_vret (X := XC Γ) hx hb hr hlocks hK hP hS hf dX1_write_159
          · replace hf := (if_neg c9).symm.trans hf
            by_cases c11 : x1 = 4
            · replace hf := (if_pos c11).symm.trans hf
              refine lv_tableIn (off := 93) (tgt := 104) hx hb dX1_write_11 (by rw [c11]; decide) (by rw [c11]; decide) (by rw [c11]; rfl) (by decide) ?_
              refine lv_aload_n hx hb dX1_write_104 rfl (lv_at hl 0 rfl) ?_
              refine va_get (D := Γ.1) (ci := 1) (v := .ref (Γ.2.2.1 (5 + 8 * i0))) (C := RX1) (T := TX1) (N := 11) hx hb hts iX1 hown hK hP (1 + 8 * i0) (gC_House Γ q2.2 (i0) g1) rfl 7 (by decide) (hts (.fieldLink RX1 21 "OtherHalfOfNight$House" "news" "[I") (wzm K46)) (fun _ h9 => h9) rfl dX1_write_105 ?_
              refine lv_iload_n hx hb dX1_write_108 rfl (lv_at hl 2 rfl) ?_
              refine lv_iload_n hx hb dX1_write_109 rfl (lv_at hl 3 rfl) ?_
              obtain ⟨g12, hf⟩ := w_oi hf
              refine w_iast (D := Γ.1) (tys := (tysC Γ)) (X := XC Γ) (σ' := (up q2.2 (11 * i0 + 7) (x2).toNatClampNeg x3)) hx hb hK hP (halC Γ) hG hS (5 + 8 * i0) 0 (gC_House_news Γ q2.2 (i0) g1) rfl g12 dX1_write_110 (sC_House_news Γ q2.2 (i0) g1 (x2).toNatClampNeg x3) (fun H locs hP hS => ?_)
              refine lv_goto (tgt := 159) hx hb dX1_write_111 (by decide) ?_
              exact w_vret (X := XC Γ) hx hb hr hlocks hK hP hS hf dX1_write_159
            · replace hf := (if_neg c11).symm.trans hf
              by_cases c13 : x1 = 5
              · replace hf := (if_pos c13).symm.trans hf
                refine lv_tableIn (off := 103) (tgt := 114) hx hb dX1_write_11 (by rw [c13]; decide) (by rw [c13]; decide) (by rw [c13]; rfl) (by decide) ?_
                refine lv_aload_n hx hb dX1_write_114 rfl (lv_at hl 0 rfl) ?_
                refine va_get (D := Γ.1) (ci := 1) (v := .ref (Γ.2.2.1 (6 + 8 * i0))) (C := RX1) (T := TX1) (N := 11) hx hb hts iX1 hown hK hP (1 + 8 * i0) (gC_House Γ q2.2 (i0) g1) rfl 8 (by decide) (hts (.fieldLink RX1 24 "OtherHalfOfNight$House" "want" "[I") (wzm K47)) (fun _ h9 => h9) rfl dX1_write_115 ?_
                refine lv_iload_n hx hb dX1_write_118 rfl (lv_at hl 2 rfl) ?_
                refine lv_iload_n hx hb dX1_write_119 rfl (lv_at hl 3 rfl) ?_
                obtain ⟨g14, hf⟩ := w_oi hf
                refine w_iast (D := Γ.1) (tys := (tysC Γ)) (X := XC Γ) (σ' := (up q2.2 (11 * i0 + 8) (x2).toNatClampNeg x3)) hx hb hK hP (halC Γ) hG hS (6 + 8 * i0) 0 (gC_House_want Γ q2.2 (i0) g1) rfl g14 dX1_write_120 (sC_House_want Γ q2.2 (i0) g1 (x2).toNatClampNeg x3) (fun H locs hP hS => ?_)
                refine lv_goto (tgt := 159) hx hb dX1_write_121 (by decide) ?_
                exact w_vret (X := XC Γ) hx hb hr hlocks hK hP hS hf dX1_write_159
              · replace hf := (if_neg c13).symm.trans hf
                by_cases c15 : x1 = 6
                · replace hf := (if_pos c15).symm.trans hf
                  refine lv_tableIn (off := 113) (tgt := 124) hx hb dX1_write_11 (by rw [c15]; decide) (by rw [c15]; decide) (by rw [c15]; rfl) (by decide) ?_
                  refine lv_aload_n hx hb dX1_write_124 rfl (lv_at hl 0 rfl) ?_
                  refine va_get (D := Γ.1) (ci := 1) (v := .ref (Γ.2.2.1 (7 + 8 * i0))) (C := RX1) (T := TX1) (N := 11) hx hb hts iX1 hown hK hP (1 + 8 * i0) (gC_House Γ q2.2 (i0) g1) rfl 9 (by decide) (hts (.fieldLink RX1 27 "OtherHalfOfNight$House" "taste" "[I") (wzm K48)) (fun _ h9 => h9) rfl dX1_write_125 ?_
                  refine lv_iload_n hx hb dX1_write_128 rfl (lv_at hl 2 rfl) ?_
                  refine lv_iload_n hx hb dX1_write_129 rfl (lv_at hl 3 rfl) ?_
                  obtain ⟨g16, hf⟩ := w_oi hf
                  refine w_iast (D := Γ.1) (tys := (tysC Γ)) (X := XC Γ) (σ' := (up q2.2 (11 * i0 + 9) (x2).toNatClampNeg x3)) hx hb hK hP (halC Γ) hG hS (7 + 8 * i0) 0 (gC_House_taste Γ q2.2 (i0) g1) rfl g16 dX1_write_130 (sC_House_taste Γ q2.2 (i0) g1 (x2).toNatClampNeg x3) (fun H locs hP hS => ?_)
                  refine lv_goto (tgt := 159) hx hb dX1_write_131 (by decide) ?_
                  exact w_vret (X := XC Γ) hx hb hr hlocks hK hP hS hf dX1_write_159
                · replace hf := (if_neg c15).symm.trans hf
                  by_cases c17 : x1 = 7
                  · replace hf := (if_pos c17).symm.trans hf
                    refine lv_tableIn (off := 123) (tgt := 134) hx hb dX1_write_11 (by rw [c17]; decide) (by rw [c17]; decide) (by rw [c17]; rfl) (by decide) ?_
                    refine lv_aload_n hx hb dX1_write_134 rfl (lv_at hl 0 rfl) ?_
                    refine va_get (D := Γ.1) (ci := 1) (v := .ref (Γ.2.2.1 (2 + 8 * i0))) (C := RX1) (T := TX1) (N := 11) hx hb hts iX1 hown hK hP (1 + 8 * i0) (gC_House Γ q2.2 (i0) g1) rfl 4 (by decide) (hts (.fieldLink RX1 9 "OtherHalfOfNight$House" "kind" "[I") (wzm K43)) (fun _ h9 => h9) rfl dX1_write_135 ?_
                    refine lv_iload_n hx hb dX1_write_138 rfl (lv_at hl 2 rfl) ?_
                    refine lv_iload_n hx hb dX1_write_139 rfl (lv_at hl 3 rfl) ?_
                    obtain ⟨g18, hf⟩ := w_oi hf
                    refine w_iast (D := Γ.1) (tys := (tysC Γ)) (X := XC Γ) (σ' := (up q2.2 (11 * i0 + 4) (x2).toNatClampNeg x3)) hx hb hK hP (halC Γ) hG hS (2 + 8 * i0) 0 (gC_House_kind Γ q2.2 (i0) g1) rfl g18 dX1_write_140 (sC_House_kind Γ q2.2 (i0) g1 (x2).toNatClampNeg x3) (fun H locs hP hS => ?_)
                    refine lv_goto (tgt := 159) hx hb dX1_write_141 (by decide) ?_
                    exact w_vret (X := XC Γ) hx hb hr hlocks hK hP hS hf dX1_write_159
                  · replace hf := (if_neg c17).symm.trans hf
                    by_cases c19 : x1 = 10
                    · replace hf := (if_pos c19).symm.trans hf
                      refine lv_tableIn (off := 133) (tgt := 144) hx hb dX1_write_11 (by rw [c19]; decide) (by rw [c19]; decide) (by rw [c19]; rfl) (by decide) ?_
                      refine lv_aload_n hx hb dX1_write_144 rfl (lv_at hl 0 rfl) ?_
                      refine va_get (D := Γ.1) (ci := 1) (v := .ref (Γ.2.2.1 (8 + 8 * i0))) (C := RX1) (T := TX1) (N := 11) hx hb hts iX1 hown hK hP (1 + 8 * i0) (gC_House Γ q2.2 (i0) g1) rfl 10 (by decide) (hts (.fieldLink RX1 30 "OtherHalfOfNight$House" "hold" "[I") (wzm K49)) (fun _ h9 => h9) rfl dX1_write_145 ?_
                      refine lv_iload_n hx hb dX1_write_148 rfl (lv_at hl 2 rfl) ?_
                      refine lv_iload_n hx hb dX1_write_149 rfl (lv_at hl 3 rfl) ?_
                      obtain ⟨g20, hf⟩ := w_oi hf
                      refine w_iast (D := Γ.1) (tys := (tysC Γ)) (X := XC Γ) (σ' := (up q2.2 (11 * i0 + 10) (x2).toNatClampNeg x3)) hx hb hK hP (halC Γ) hG hS (8 + 8 * i0) 0 (gC_House_hold Γ q2.2 (i0) g1) rfl g20 dX1_write_150 (sC_House_hold Γ q2.2 (i0) g1 (x2).toNatClampNeg x3) (fun H locs hP hS => ?_)
                      refine lv_goto (tgt := 159) hx hb dX1_write_151 (by decide) ?_
                      exact w_vret (X := XC Γ) hx hb hr hlocks hK hP hS hf dX1_write_159
                    · replace hf := (if_neg c19).symm.trans hf
                      by_cases c21 : x1 = 8
                      · replace hf := (if_pos c21).symm.trans hf
                        refine lv_tableIn (off := 143) (tgt := 154) hx hb dX1_write_11 (by rw [c21]; decide) (by rw [c21]; decide) (by rw [c21]; rfl) (by decide) ?_
                        refine lv_aload_n hx hb dX1_write_154 rfl (lv_at hl 0 rfl) ?_
                        refine lv_iload_n hx hb dX1_write_155 rfl (lv_at hl 3 rfl) ?_
                        refine w_put (X := XC Γ) (σ' := (up q2.2 (11 * i0 + 2) 0 x3)) (ci := 1) (C := RX1) (T := TX1) (N := 11) (ty := .int) hx hb hts iX1 tyX1 tyX1_ok nmX1 hown hK hP (halC Γ) hG hS (1 + 8 * i0) (gC_House Γ q2.2 (i0) g1) rfl 2 (by decide) (hts (.fieldLink RX1 40 "OtherHalfOfNight$House" "rule" "I") (wzm K157)) (fun _ h9 => h9) rfl (by decide +kernel) rfl rfl (Nat.le_of_ble_eq_true rfl) dX1_write_156 (sC_House_rule Γ q2.2 (i0) g1 x3) (fun H locs hP hS => ?_)
                        exact w_vret (X := XC Γ) hx hb hr hlocks hK hP hS hf dX1_write_159
                      · replace hf := (if_neg c21).symm.trans hf
                        by_cases c22 : x1 = 9
                        · replace hf := (if_pos c22).symm.trans hf
                          refine lv_tableIn (off := 143) (tgt := 154) hx hb dX1_write_11 (by rw [c22]; decide) (by rw [c22]; decide) (by rw [c22]; rfl) (by decide) ?_
                          refine lv_aload_n hx hb dX1_write_154 rfl (lv_at hl 0 rfl) ?_
                          refine lv_iload_n hx hb dX1_write_155 rfl (lv_at hl 3 rfl) ?_
                          refine w_put (X := XC Γ) (σ' := (up q2.2 (11 * i0 + 2) 0 x3)) (ci := 1) (C := RX1) (T := TX1) (N := 11) (ty := .int) hx hb hts iX1 tyX1 tyX1_ok nmX1 hown hK hP (halC Γ) hG hS (1 + 8 * i0) (gC_House Γ q2.2 (i0) g1) rfl 2 (by decide) (hts (.fieldLink RX1 40 "OtherHalfOfNight$House" "rule" "I") (wzm K157)) (fun _ h9 => h9) rfl (by decide +kernel) rfl rfl (Nat.le_of_ble_eq_true rfl) dX1_write_156 (sC_House_rule Γ q2.2 (i0) g1 x3) (fun H locs hP hS => ?_)
                          exact w_vret (X := XC Γ) hx hb hr hlocks hK hP hS hf dX1_write_159
                        · replace hf := (if_neg c22).symm.trans hf
                          have nc5 : ¬ (x1).toInt = 0 := fun q => c5 (Int32.toInt_inj.mp q)
                          have nc6 : ¬ (x1).toInt = 1 := fun q => c6 (Int32.toInt_inj.mp q)
                          have nc7 : ¬ (x1).toInt = 2 := fun q => c7 (Int32.toInt_inj.mp q)
                          have nc9 : ¬ (x1).toInt = 3 := fun q => c9 (Int32.toInt_inj.mp q)
                          have nc11 : ¬ (x1).toInt = 4 := fun q => c11 (Int32.toInt_inj.mp q)
                          have nc13 : ¬ (x1).toInt = 5 := fun q => c13 (Int32.toInt_inj.mp q)
                          have nc15 : ¬ (x1).toInt = 6 := fun q => c15 (Int32.toInt_inj.mp q)
                          have nc17 : ¬ (x1).toInt = 7 := fun q => c17 (Int32.toInt_inj.mp q)
                          have nc19 : ¬ (x1).toInt = 10 := fun q => c19 (Int32.toInt_inj.mp q)
                          have nc21 : ¬ (x1).toInt = 8 := fun q => c21 (Int32.toInt_inj.mp q)
                          have nc22 : ¬ (x1).toInt = 9 := fun q => c22 (Int32.toInt_inj.mp q)
                          refine lv_tableOut (tgt := 154) hx hb dX1_write_11 (by omega) (by decide) ?_
                          refine lv_aload_n hx hb dX1_write_154 rfl (lv_at hl 0 rfl) ?_
                          refine lv_iload_n hx hb dX1_write_155 rfl (lv_at hl 3 rfl) ?_
                          refine w_put (X := XC Γ) (σ' := (up q2.2 (11 * i0 + 2) 0 x3)) (ci := 1) (C := RX1) (T := TX1) (N := 11) (ty := .int) hx hb hts iX1 tyX1 tyX1_ok nmX1 hown hK hP (halC Γ) hG hS (1 + 8 * i0) (gC_House Γ q2.2 (i0) g1) rfl 2 (by decide) (hts (.fieldLink RX1 40 "OtherHalfOfNight$House" "rule" "I") (wzm K157)) (fun _ h9 => h9) rfl (by decide +kernel) rfl rfl (Nat.le_of_ble_eq_true rfl) dX1_write_156 (sC_House_rule Γ q2.2 (i0) g1 x3) (fun H locs hP hS => ?_)
                          exact w_vret (X := XC Γ) hx hb hr hlocks hK hP hS hf dX1_write_159
  · replace hf := (if_pos c4).symm.trans hf
    exact w_vret (X := XC Γ) hx hb hr hlocks hK hP hS hf dX1_write_9
def f_X1_admit (i0 : Nat) (x1 : Int32) (x2 : Int32) (x3 : Int32) (σ : Sg) : Option (Int32 × Sg) := if i0 < 3 then if x1 < 0 then some ((-2 : Int32), σ) else if (5 : Int32) < x1 then some ((-2 : Int32), σ) else if x2 < 0 then some ((-2 : Int32), σ) else if (9 : Int32) < x2 then some ((-2 : Int32), σ) else if x3 < 0 then some ((-2 : Int32), σ) else if x3 ≤ (99 : Int32) then if (σ (11 * i0 + 3) 0) < (5 : Int32) then if okI (σ (11 * i0 + 3) 0) 5 then if okI ((up σ (11 * i0 + 4) ((σ (11 * i0 + 3) 0)).toNatClampNeg x1) (11 * i0 + 3) 0) 5 then (some (up (up σ (11 * i0 + 4) ((σ (11 * i0 + 3) 0)).toNatClampNeg x1) (11 * i0 + 5) (((up σ (11 * i0 + 4) ((σ (11 * i0 + 3) 0)).toNatClampNeg x1) (11 * i0 + 3) 0)).toNatClampNeg x2)).bind fun (τ11 : Sg) => if okI (τ11 (11 * i0 + 3) 0) 5 then if okI ((up τ11 (11 * i0 + 6) ((τ11 (11 * i0 + 3) 0)).toNatClampNeg x3) (11 * i0 + 3) 0) 5 then (some (up (up τ11 (11 * i0 + 6) ((τ11 (11 * i0 + 3) 0)).toNatClampNeg x3) (11 * i0 + 7) (((up τ11 (11 * i0 + 6) ((τ11 (11 * i0 + 3) 0)).toNatClampNeg x3) (11 * i0 + 3) 0)).toNatClampNeg (0 : Int32))).bind fun (τ15 : Sg) => some ((((up τ15 (11 * i0 + 3) 0 ((τ15 (11 * i0 + 3) 0) + (1 : Int32))) (11 * i0 + 3) 0) - (1 : Int32)), (up τ15 (11 * i0 + 3) 0 ((τ15 (11 * i0 + 3) 0) + (1 : Int32)))) else none else none else none else none else some ((-4 : Int32), σ) else some ((-2 : Int32), σ) else none
set_option maxHeartbeats 40000000 in
set_option maxRecDepth 100000 in
theorem c_X1_admit (l : Launch) (Γ : Geo) (hG : okC Γ) (i0 : Nat) (x1 : Int32) (x2 : Int32) (x3 : Int32) (σ : Sg) (r : Int32) (σ' : Sg) (hf : f_X1_admit i0 x1 x2 x3 σ = some (r, σ')) (sz : Nat) : Met l yX1_admit (wz yX1_admit cX1_admit 4 (some .int)) { frames := 0, cells := 0, slots := 0, locals := 0 } (va_Pc [.ref (Γ.2.2.1 (1 + 8 * i0)), .int x1, .int x2, .int x3] (wPre Γ.1 vwCl (tysC Γ) (XC Γ) (alC Γ) Γ.2.2.2 σ sz)) (wQi Γ.1 vwCl (tysC Γ) (XC Γ) (alC Γ) r σ' sz) 0 0 (wA (alC Γ) sz) := by
  refine w_enter (cc := cX1_admit) (maxL := 4) (ret := (some .int)) (by decide) rfl (Nat.le_of_ble_eq_true rfl) ?_
  intro p e s m below meth c ls hx hb hr hlocks hml hown hts hsz hP hK hkc hN hl
  subst hsz
  generalize hav : ([.ref (Γ.2.2.1 (1 + 8 * i0)), .int x1, .int x2, .int x3] : List Value) = av at hl hts ⊢
  have hl : lv_has ls 4 [(0, .ref (Γ.2.2.1 (1 + 8 * i0))), (1, .int x1), (2, .int x2), (3, .int x3)] := by rw [← hav] at hl; exact hl
  suffices hw : ∀ (H : Heap) (locs : List Loc), va_P Γ.1 vwCl (XC Γ σ) H → va_S (wA (alC Γ) s.heap.size) s.heap H locs → W p l e { frames := 0, cells := 0, slots := 0, locals := 0 } s m av.toArray below meth c H locs 0 0 (MQ below (wQi Γ.1 vwCl (tysC Γ) (XC Γ) (alC Γ) r σ' s.heap.size) av.toArray s 0 0 (wA (alC Γ) s.heap.size)) (F0 m 0 ls []) from hw _ [] hP va_S.rf
  clear hP
  intro H locs hP hS
  unfold f_X1_admit at hf
  obtain ⟨g1, hf⟩ := w_oi hf
  refine lv_iload_n hx hb dX1_admit_0 rfl (lv_at hl 1 rfl) ?_
  refine lv_if_lt (tgt := 29) hx hb dX1_admit_1 (by decide) (fun c2 => ?_) (fun c2 => ?_)
  · replace hf := (if_pos c2).symm.trans hf
    refine lv_bipush (v := (-2 : Int32)) hx hb dX1_admit_29 (by decide) ?_
    exact w_iret (X := XC Γ) hx hb hr hlocks hK hP hS rfl hf dX1_admit_31
  · replace hf := (if_neg c2).symm.trans hf
    refine lv_iload_n hx hb dX1_admit_4 rfl (lv_at hl 1 rfl) ?_
    refine lv_iconst (v := (5 : Int32)) hx hb dX1_admit_5 (by decide) ?_
    refine lv_icmp_gt (tgt := 29) hx hb dX1_admit_6 (by decide) (fun c3 => ?_) (fun c3 => ?_)
    · replace hf := (if_pos c3).symm.trans hf
      refine lv_bipush (v := (-2 : Int32)) hx hb dX1_admit_29 (by decide) ?_
      exact w_iret (X := XC Γ) hx hb hr hlocks hK hP hS rfl hf dX1_admit_31
    · replace hf := (if_neg c3).symm.trans hf
      refine lv_iload_n hx hb dX1_admit_9 rfl (lv_at hl 2 rfl) ?_
      refine lv_if_lt (tgt := 29) hx hb dX1_admit_10 (by decide) (fun c4 => ?_) (fun c4 => ?_)
      · replace hf := (if_pos c4).symm.trans hf
        refine lv_bipush (v := (-2 : Int32)) hx hb dX1_admit_29 (by decide) ?_
        exact w_iret (X := XC Γ) hx hb hr hlocks hK hP hS rfl hf dX1_admit_31
      · replace hf := (if_neg c4).symm.trans hf
        refine lv_iload_n hx hb dX1_admit_13 rfl (lv_at hl 2 rfl) ?_
        refine lv_bipush (v := (9 : Int32)) hx hb dX1_admit_14 (by decide) ?_
        refine lv_icmp_gt (tgt := 29) hx hb dX1_admit_16 (by decide) (fun c5 => ?_) (fun c5 => ?_)
        · replace hf := (if_pos c5).symm.trans hf
          refine lv_bipush (v := (-2 : Int32)) hx hb dX1_admit_29 (by decide) ?_
          exact w_iret (X := XC Γ) hx hb hr hlocks hK hP hS rfl hf dX1_admit_31
        · replace hf := (if_neg c5).symm.trans hf
          refine lv_iload_n hx hb dX1_admit_19 rfl (lv_at hl 3 rfl) ?_
          refine lv_if_lt (tgt := 29) hx hb dX1_admit_20 (by decide) (fun c6 => ?_) (fun c6 => ?_)
          · replace hf := (if_pos c6).symm.trans hf
            refine lv_bipush (v := (-2 : Int32)) hx hb dX1_admit_29 (by decide) ?_
            exact w_iret (X := XC Γ) hx hb hr hlocks hK hP hS rfl hf dX1_admit_31
          · replace hf := (if_neg c6).symm.trans hf
            refine lv_iload_n hx hb dX1_admit_23 rfl (lv_at hl 3 rfl) ?_
            refine lv_bipush (v := (99 : Int32)) hx hb dX1_admit_24 (by decide) ?_
            refine lv_icmp_le (tgt := 32) hx hb dX1_admit_26 (by decide) (fun c7 => ?_) (fun c7 => ?_)
            · replace hf := (if_pos c7).symm.trans hf
              refine lv_aload_n hx hb dX1_admit_32 rfl (lv_at hl 0 rfl) ?_
              refine va_get (D := Γ.1) (ci := 1) (v := .int (σ (11 * i0 + 3) 0)) (C := RX1) (T := TX1) (N := 11) hx hb hts iX1 hown hK hP (1 + 8 * i0) (gC_House Γ σ (i0) g1) rfl 3 (by decide) (hts (.fieldLink RX1 43 "OtherHalfOfNight$House" "ones" "I") (wzm K145)) (fun _ h9 => h9) rfl dX1_admit_33 ?_
              refine lv_iconst (v := (5 : Int32)) hx hb dX1_admit_36 (by decide) ?_
              refine lv_icmp_lt (tgt := 43) hx hb dX1_admit_37 (by decide) (fun c8 => ?_) (fun c8 => ?_)
              · replace hf := (if_pos c8).symm.trans hf
                refine lv_aload_n hx hb dX1_admit_43 rfl (lv_at hl 0 rfl) ?_
                refine va_get (D := Γ.1) (ci := 1) (v := .ref (Γ.2.2.1 (2 + 8 * i0))) (C := RX1) (T := TX1) (N := 11) hx hb hts iX1 hown hK hP (1 + 8 * i0) (gC_House Γ σ (i0) g1) rfl 4 (by decide) (hts (.fieldLink RX1 9 "OtherHalfOfNight$House" "kind" "[I") (wzm K43)) (fun _ h9 => h9) rfl dX1_admit_44 ?_
                refine lv_aload_n hx hb dX1_admit_47 rfl (lv_at hl 0 rfl) ?_
                refine va_get (D := Γ.1) (ci := 1) (v := .int (σ (11 * i0 + 3) 0)) (C := RX1) (T := TX1) (N := 11) hx hb hts iX1 hown hK hP (1 + 8 * i0) (gC_House Γ σ (i0) g1) rfl 3 (by decide) (hts (.fieldLink RX1 43 "OtherHalfOfNight$House" "ones" "I") (wzm K145)) (fun _ h9 => h9) rfl dX1_admit_48 ?_
                refine lv_iload_n hx hb dX1_admit_51 rfl (lv_at hl 1 rfl) ?_
                obtain ⟨g9, hf⟩ := w_oi hf
                refine w_iast (D := Γ.1) (tys := (tysC Γ)) (X := XC Γ) (σ' := (up σ (11 * i0 + 4) ((σ (11 * i0 + 3) 0)).toNatClampNeg x1)) hx hb hK hP (halC Γ) hG hS (2 + 8 * i0) 0 (gC_House_kind Γ σ (i0) g1) rfl g9 dX1_admit_52 (sC_House_kind Γ σ (i0) g1 ((σ (11 * i0 + 3) 0)).toNatClampNeg x1) (fun H locs hP hS => ?_)
                refine lv_aload_n hx hb dX1_admit_53 rfl (lv_at hl 0 rfl) ?_
                refine va_get (D := Γ.1) (ci := 1) (v := .ref (Γ.2.2.1 (3 + 8 * i0))) (C := RX1) (T := TX1) (N := 11) hx hb hts iX1 hown hK hP (1 + 8 * i0) (gC_House Γ (up σ (11 * i0 + 4) ((σ (11 * i0 + 3) 0)).toNatClampNeg x1) (i0) g1) rfl 5 (by decide) (hts (.fieldLink RX1 15 "OtherHalfOfNight$House" "number" "[I") (wzm K44)) (fun _ h9 => h9) rfl dX1_admit_54 ?_
                refine lv_aload_n hx hb dX1_admit_57 rfl (lv_at hl 0 rfl) ?_
                refine va_get (D := Γ.1) (ci := 1) (v := .int ((up σ (11 * i0 + 4) ((σ (11 * i0 + 3) 0)).toNatClampNeg x1) (11 * i0 + 3) 0)) (C := RX1) (T := TX1) (N := 11) hx hb hts iX1 hown hK hP (1 + 8 * i0) (gC_House Γ (up σ (11 * i0 + 4) ((σ (11 * i0 + 3) 0)).toNatClampNeg x1) (i0) g1) rfl 3 (by decide) (hts (.fieldLink RX1 43 "OtherHalfOfNight$House" "ones" "I") (wzm K145)) (fun _ h9 => h9) rfl dX1_admit_58 ?_
                refine lv_iload_n hx hb dX1_admit_61 rfl (lv_at hl 2 rfl) ?_
                obtain ⟨g10, hf⟩ := w_oi hf
                refine w_iast (D := Γ.1) (tys := (tysC Γ)) (X := XC Γ) (σ' := (up (up σ (11 * i0 + 4) ((σ (11 * i0 + 3) 0)).toNatClampNeg x1) (11 * i0 + 5) (((up σ (11 * i0 + 4) ((σ (11 * i0 + 3) 0)).toNatClampNeg x1) (11 * i0 + 3) 0)).toNatClampNeg x2)) hx hb hK hP (halC Γ) hG hS (3 + 8 * i0) 0 (gC_House_number Γ (up σ (11 * i0 + 4) ((σ (11 * i0 + 3) 0)).toNatClampNeg x1) (i0) g1) rfl g10 dX1_admit_62 (sC_House_number Γ (up σ (11 * i0 + 4) ((σ (11 * i0 + 3) 0)).toNatClampNeg x1) (i0) g1 (((up σ (11 * i0 + 4) ((σ (11 * i0 + 3) 0)).toNatClampNeg x1) (11 * i0 + 3) 0)).toNatClampNeg x2) (fun H locs hP hS => ?_)
                obtain ⟨τ11, e12, hf⟩ := w_ob hf
                replace e12 := Option.some.inj e12
                rw [e12] at hP
                refine lv_aload_n hx hb dX1_admit_63 rfl (lv_at hl 0 rfl) ?_
                refine va_get (D := Γ.1) (ci := 1) (v := .ref (Γ.2.2.1 (4 + 8 * i0))) (C := RX1) (T := TX1) (N := 11) hx hb hts iX1 hown hK hP (1 + 8 * i0) (gC_House Γ τ11 (i0) g1) rfl 6 (by decide) (hts (.fieldLink RX1 18 "OtherHalfOfNight$House" "trouble" "[I") (wzm K45)) (fun _ h9 => h9) rfl dX1_admit_64 ?_
                refine lv_aload_n hx hb dX1_admit_67 rfl (lv_at hl 0 rfl) ?_
                refine va_get (D := Γ.1) (ci := 1) (v := .int (τ11 (11 * i0 + 3) 0)) (C := RX1) (T := TX1) (N := 11) hx hb hts iX1 hown hK hP (1 + 8 * i0) (gC_House Γ τ11 (i0) g1) rfl 3 (by decide) (hts (.fieldLink RX1 43 "OtherHalfOfNight$House" "ones" "I") (wzm K145)) (fun _ h9 => h9) rfl dX1_admit_68 ?_
                refine lv_iload_n hx hb dX1_admit_71 rfl (lv_at hl 3 rfl) ?_
                obtain ⟨g13, hf⟩ := w_oi hf
                refine w_iast (D := Γ.1) (tys := (tysC Γ)) (X := XC Γ) (σ' := (up τ11 (11 * i0 + 6) ((τ11 (11 * i0 + 3) 0)).toNatClampNeg x3)) hx hb hK hP (halC Γ) hG hS (4 + 8 * i0) 0 (gC_House_trouble Γ τ11 (i0) g1) rfl g13 dX1_admit_72 (sC_House_trouble Γ τ11 (i0) g1 ((τ11 (11 * i0 + 3) 0)).toNatClampNeg x3) (fun H locs hP hS => ?_)
                refine lv_aload_n hx hb dX1_admit_73 rfl (lv_at hl 0 rfl) ?_
                refine va_get (D := Γ.1) (ci := 1) (v := .ref (Γ.2.2.1 (5 + 8 * i0))) (C := RX1) (T := TX1) (N := 11) hx hb hts iX1 hown hK hP (1 + 8 * i0) (gC_House Γ (up τ11 (11 * i0 + 6) ((τ11 (11 * i0 + 3) 0)).toNatClampNeg x3) (i0) g1) rfl 7 (by decide) (hts (.fieldLink RX1 21 "OtherHalfOfNight$House" "news" "[I") (wzm K46)) (fun _ h9 => h9) rfl dX1_admit_74 ?_
                refine lv_aload_n hx hb dX1_admit_77 rfl (lv_at hl 0 rfl) ?_
                refine va_get (D := Γ.1) (ci := 1) (v := .int ((up τ11 (11 * i0 + 6) ((τ11 (11 * i0 + 3) 0)).toNatClampNeg x3) (11 * i0 + 3) 0)) (C := RX1) (T := TX1) (N := 11) hx hb hts iX1 hown hK hP (1 + 8 * i0) (gC_House Γ (up τ11 (11 * i0 + 6) ((τ11 (11 * i0 + 3) 0)).toNatClampNeg x3) (i0) g1) rfl 3 (by decide) (hts (.fieldLink RX1 43 "OtherHalfOfNight$House" "ones" "I") (wzm K145)) (fun _ h9 => h9) rfl dX1_admit_78 ?_
                refine lv_iconst (v := (0 : Int32)) hx hb dX1_admit_81 (by decide) ?_
                obtain ⟨g14, hf⟩ := w_oi hf
                refine w_iast (D := Γ.1) (tys := (tysC Γ)) (X := XC Γ) (σ' := (up (up τ11 (11 * i0 + 6) ((τ11 (11 * i0 + 3) 0)).toNatClampNeg x3) (11 * i0 + 7) (((up τ11 (11 * i0 + 6) ((τ11 (11 * i0 + 3) 0)).toNatClampNeg x3) (11 * i0 + 3) 0)).toNatClampNeg (0 : Int32))) hx hb hK hP (halC Γ) hG hS (5 + 8 * i0) 0 (gC_House_news Γ (up τ11 (11 * i0 + 6) ((τ11 (11 * i0 + 3) 0)).toNatClampNeg x3) (i0) g1) rfl g14 dX1_admit_82 (sC_House_news Γ (up τ11 (11 * i0 + 6) ((τ11 (11 * i0 + 3) 0)).toNatClampNeg x3) (i0) g1 (((up τ11 (11 * i0 + 6) ((τ11 (11 * i0 + 3) 0)).toNatClampNeg x3) (11 * i0 + 3) 0)).toNatClampNeg (0 : Int32)) (fun H locs hP hS => ?_)
                obtain ⟨τ15, e16, hf⟩ := w_ob hf
                replace e16 := Option.some.inj e16
                rw [e16] at hP
                refine lv_aload_n hx hb dX1_admit_83 rfl (lv_at hl 0 rfl) ?_
                refine lv_dup hx hb dX1_admit_84 rfl ?_
                refine va_get (D := Γ.1) (ci := 1) (v := .int (τ15 (11 * i0 + 3) 0)) (C := RX1) (T := TX1) (N := 11) hx hb hts iX1 hown hK hP (1 + 8 * i0) (gC_House Γ τ15 (i0) g1) rfl 3 (by decide) (hts (.fieldLink RX1 43 "OtherHalfOfNight$House" "ones" "I") (wzm K145)) (fun _ h9 => h9) rfl dX1_admit_85 ?_
                refine lv_iconst (v := (1 : Int32)) hx hb dX1_admit_88 (by decide) ?_
                refine lv_iadd hx hb dX1_admit_89 ?_
                refine w_put (X := XC Γ) (σ' := (up τ15 (11 * i0 + 3) 0 ((τ15 (11 * i0 + 3) 0) + (1 : Int32)))) (ci := 1) (C := RX1) (T := TX1) (N := 11) (ty := .int) hx hb hts iX1 tyX1 tyX1_ok nmX1 hown hK hP (halC Γ) hG hS (1 + 8 * i0) (gC_House Γ τ15 (i0) g1) rfl 3 (by decide) (hts (.fieldLink RX1 43 "OtherHalfOfNight$House" "ones" "I") (wzm K145)) (fun _ h9 => h9) rfl (by decide +kernel) rfl rfl (Nat.le_of_ble_eq_true rfl) dX1_admit_90 (sC_House_ones Γ τ15 (i0) g1 ((τ15 (11 * i0 + 3) 0) + (1 : Int32))) (fun H locs hP hS => ?_)
                refine lv_aload_n hx hb dX1_admit_93 rfl (lv_at hl 0 rfl) ?_
                refine va_get (D := Γ.1) (ci := 1) (v := .int ((up τ15 (11 * i0 + 3) 0 ((τ15 (11 * i0 + 3) 0) + (1 : Int32))) (11 * i0 + 3) 0)) (C := RX1) (T := TX1) (N := 11) hx hb hts iX1 hown hK hP (1 + 8 * i0) (gC_House Γ (up τ15 (11 * i0 + 3) 0 ((τ15 (11 * i0 + 3) 0) + (1 : Int32))) (i0) g1) rfl 3 (by decide) (hts (.fieldLink RX1 43 "OtherHalfOfNight$House" "ones" "I") (wzm K145)) (fun _ h9 => h9) rfl dX1_admit_94 ?_
                refine lv_iconst (v := (1 : Int32)) hx hb dX1_admit_97 (by decide) ?_
                refine lv_isub hx hb dX1_admit_98 ?_
                exact w_iret (X := XC Γ) hx hb hr hlocks hK hP hS rfl hf dX1_admit_99
              · replace hf := (if_neg c8).symm.trans hf
                refine lv_bipush (v := (-4 : Int32)) hx hb dX1_admit_40 (by decide) ?_
                exact w_iret (X := XC Γ) hx hb hr hlocks hK hP hS rfl hf dX1_admit_42
            · replace hf := (if_neg c7).symm.trans hf
              refine lv_bipush (v := (-2 : Int32)) hx hb dX1_admit_29 (by decide) ?_
              exact w_iret (X := XC Γ) hx hb hr hlocks hK hP hS rfl hf dX1_admit_31
def f_X1_bringNews (i0 : Nat) (x1 : Int32) (σ : Sg) : Option Sg := if i0 < 3 then (f_X1_lodges (i0) x1 σ).bind fun (q2 : Int32 × Sg) => if q2.1 = 0 then some q2.2 else if okI x1 5 then (f_X8_bounded ((q2.2 (11 * i0 + 7) (x1).toNatClampNeg) + (1 : Int32)) q2.2).bind fun (q6 : Int32 × Sg) => if okI x1 5 then if okI x1 5 then some (up (up q6.2 (11 * i0 + 7) (x1).toNatClampNeg q6.1) (11 * i0 + 6) (x1).toNatClampNeg (0 : Int32)) else none else none else none else none
set_option maxHeartbeats 40000000 in
set_option maxRecDepth 100000 in
theorem c_X1_bringNews (l : Launch) (Γ : Geo) (hG : okC Γ) (i0 : Nat) (x1 : Int32) (σ : Sg) (σ' : Sg) (hf : f_X1_bringNews i0 x1 σ = some σ') (sz : Nat) : Met l yX1_bringNews (wz yX1_bringNews cX1_bringNews 2 none) { frames := 2, cells := 0, slots := 0, locals := 41 } (va_Pc [.ref (Γ.2.2.1 (1 + 8 * i0)), .int x1] (wPre Γ.1 vwCl (tysC Γ) (XC Γ) (alC Γ) Γ.2.2.2 σ sz)) (wQv Γ.1 vwCl (tysC Γ) (XC Γ) (alC Γ) σ' sz) 0 0 (wA (alC Γ) sz) := by
  refine w_enter (cc := cX1_bringNews) (maxL := 2) (ret := none) (by decide) rfl (Nat.le_of_ble_eq_true rfl) ?_
  intro p e s m below meth c ls hx hb hr hlocks hml hown hts hsz hP hK hkc hN hl
  subst hsz
  generalize hav : ([.ref (Γ.2.2.1 (1 + 8 * i0)), .int x1] : List Value) = av at hl hts ⊢
  have hl : lv_has ls 2 [(0, .ref (Γ.2.2.1 (1 + 8 * i0))), (1, .int x1)] := by rw [← hav] at hl; exact hl
  suffices hw : ∀ (H : Heap) (locs : List Loc), va_P Γ.1 vwCl (XC Γ σ) H → va_S (wA (alC Γ) s.heap.size) s.heap H locs → W p l e { frames := 2, cells := 0, slots := 0, locals := 41 } s m av.toArray below meth c H locs 0 0 (MQ below (wQv Γ.1 vwCl (tysC Γ) (XC Γ) (alC Γ) σ' s.heap.size) av.toArray s 0 0 (wA (alC Γ) s.heap.size)) (F0 m 0 ls []) from hw _ [] hP va_S.rf
  clear hP
  intro H locs hP hS
  unfold f_X1_bringNews at hf
  obtain ⟨g1, hf⟩ := w_oi hf
  refine lv_aload_n hx hb dX1_bringNews_0 rfl (lv_at hl 0 rfl) ?_
  refine lv_iload_n hx hb dX1_bringNews_1 rfl (lv_at hl 1 rfl) ?_
  obtain ⟨q2, h3, hf⟩ := w_ob hf
  refine w_ci (va_runV (As := [.int x1]) (rest := []) ⟨hx, hb, hml, hown, hts⟩ (c_X1_lodges l Γ hG (i0) x1 σ q2.1 q2.2 h3 H.size) (cwV 1 hts (wzV K144 K141 K142 K143 K14) rfl rfl rfl (by decide +kernel) ⟨(Nat.le_of_ble_eq_true rfl), (Nat.le_of_ble_eq_true rfl)⟩) (w_preV hK hP hkc hN hS (gC_House Γ σ (i0) g1) rfl) rfl rfl hl.1 rfl (lv_room (Nat.le_of_ble_eq_true rfl)) dX1_bringNews_2 ⟨Nat.le_refl _, Nat.le_refl _⟩) hS (fun H locs hP hS => ?_)
  refine lv_if_ne (tgt := 9) hx hb dX1_bringNews_5 (by decide) (fun c4 => ?_) (fun c4 => ?_)
  · replace hf := (if_neg c4).symm.trans hf
    refine lv_aload_n hx hb dX1_bringNews_9 rfl (lv_at hl 0 rfl) ?_
    refine va_get (D := Γ.1) (ci := 1) (v := .ref (Γ.2.2.1 (5 + 8 * i0))) (C := RX1) (T := TX1) (N := 11) hx hb hts iX1 hown hK hP (1 + 8 * i0) (gC_House Γ q2.2 (i0) g1) rfl 7 (by decide) (hts (.fieldLink RX1 21 "OtherHalfOfNight$House" "news" "[I") (wzm K46)) (fun _ h9 => h9) rfl dX1_bringNews_10 ?_
    refine lv_iload_n hx hb dX1_bringNews_13 rfl (lv_at hl 1 rfl) ?_
    refine lv_aload_n hx hb dX1_bringNews_14 rfl (lv_at hl 0 rfl) ?_
    refine va_get (D := Γ.1) (ci := 1) (v := .ref (Γ.2.2.1 (5 + 8 * i0))) (C := RX1) (T := TX1) (N := 11) hx hb hts iX1 hown hK hP (1 + 8 * i0) (gC_House Γ q2.2 (i0) g1) rfl 7 (by decide) (hts (.fieldLink RX1 21 "OtherHalfOfNight$House" "news" "[I") (wzm K46)) (fun _ h9 => h9) rfl dX1_bringNews_15 ?_
    refine lv_iload_n hx hb dX1_bringNews_18 rfl (lv_at hl 1 rfl) ?_
    obtain ⟨g5, hf⟩ := w_oi hf
    refine va_iald (D := Γ.1) (tys := (tysC Γ)) hx hb hK hP (5 + 8 * i0) 0 (gC_House_news Γ q2.2 (i0) g1) rfl g5 dX1_bringNews_19 ?_
    refine lv_iconst (v := (1 : Int32)) hx hb dX1_bringNews_20 (by decide) ?_
    refine lv_iadd hx hb dX1_bringNews_21 ?_
    obtain ⟨q6, h7, hf⟩ := w_ob hf
    refine w_ci (va_runSN (As := [.int ((q2.2 (11 * i0 + 7) (x1).toNatClampNeg) + (1 : Int32))]) (rest := [.int x1, .ref (Γ.2.2.1 (5 + 8 * i0))]) ⟨hx, hb, hml, hown, hts⟩ (c_X8_bounded l Γ hG ((q2.2 (11 * i0 + 7) (x1).toNatClampNeg) + (1 : Int32)) q2.2 q6.1 q6.2 h7 H.size) ⟨va_cnB 1 hts (wzC K372) rfl rfl rfl (hN _ (List.mem_of_getElem? (i := 3) rfl)) (hts (.initialized RX8) (wzm K2)) (by decide +kernel) ⟨(Nat.le_of_ble_eq_true rfl), (Nat.le_of_ble_eq_true rfl)⟩, (hts (.static yX8_bounded) (wzm K371)), trivial⟩ (w_pre hK hP hkc hN hS) rfl rfl hl.1 rfl (lv_room (Nat.le_of_ble_eq_true rfl)) dX1_bringNews_22 ⟨Nat.le_refl _, Nat.le_refl _⟩) hS (fun H locs hP hS => ?_)
    obtain ⟨g8, hf⟩ := w_oi hf
    refine w_iast (D := Γ.1) (tys := (tysC Γ)) (X := XC Γ) (σ' := (up q6.2 (11 * i0 + 7) (x1).toNatClampNeg q6.1)) hx hb hK hP (halC Γ) hG hS (5 + 8 * i0) 0 (gC_House_news Γ q6.2 (i0) g1) rfl g8 dX1_bringNews_25 (sC_House_news Γ q6.2 (i0) g1 (x1).toNatClampNeg q6.1) (fun H locs hP hS => ?_)
    refine lv_aload_n hx hb dX1_bringNews_26 rfl (lv_at hl 0 rfl) ?_
    refine va_get (D := Γ.1) (ci := 1) (v := .ref (Γ.2.2.1 (4 + 8 * i0))) (C := RX1) (T := TX1) (N := 11) hx hb hts iX1 hown hK hP (1 + 8 * i0) (gC_House Γ (up q6.2 (11 * i0 + 7) (x1).toNatClampNeg q6.1) (i0) g1) rfl 6 (by decide) (hts (.fieldLink RX1 18 "OtherHalfOfNight$House" "trouble" "[I") (wzm K45)) (fun _ h9 => h9) rfl dX1_bringNews_27 ?_
    refine lv_iload_n hx hb dX1_bringNews_30 rfl (lv_at hl 1 rfl) ?_
    refine lv_iconst (v := (0 : Int32)) hx hb dX1_bringNews_31 (by decide) ?_
    obtain ⟨g9, hf⟩ := w_oi hf
    refine w_iast (D := Γ.1) (tys := (tysC Γ)) (X := XC Γ) (σ' := (up (up q6.2 (11 * i0 + 7) (x1).toNatClampNeg q6.1) (11 * i0 + 6) (x1).toNatClampNeg (0 : Int32))) hx hb hK hP (halC Γ) hG hS (4 + 8 * i0) 0 (gC_House_trouble Γ (up q6.2 (11 * i0 + 7) (x1).toNatClampNeg q6.1) (i0) g1) rfl g9 dX1_bringNews_32 (sC_House_trouble Γ (up q6.2 (11 * i0 + 7) (x1).toNatClampNeg q6.1) (i0) g1 (x1).toNatClampNeg (0 : Int32)) (fun H locs hP hS => ?_)
    exact w_vret (X := XC Γ) hx hb hr hlocks hK hP hS hf dX1_bringNews_33
  · replace hf := (if_pos c4).symm.trans hf
    exact w_vret (X := XC Γ) hx hb hr hlocks hK hP hS hf dX1_bringNews_8
def f_X1_heldInAll_4 (i0 : Nat) : Nat → Int32 → Int32 → Sg → Option (Int32 × Sg)
  | 0, _, _, _ => none
  | n + 1, y1, y2, τ => if i0 < 3 then if (6 : Int32) ≤ y2 then some (y1, τ) else if okI y2 6 then (f_X1_heldInAll_4 i0 n) ((y1 + (τ (11 * i0 + 10) (y2).toNatClampNeg))) ((y2 + (1 : Int32))) τ else none else none
def f_X1_heldInAll (i0 : Nat) (σ : Sg) : Option (Int32 × Sg) := if i0 < 3 then f_X1_heldInAll_4 i0 5000 ((0 : Int32)) ((0 : Int32)) σ else none
set_option maxHeartbeats 40000000 in
set_option maxRecDepth 100000 in
theorem c_X1_heldInAll (l : Launch) (Γ : Geo) (hG : okC Γ) (i0 : Nat) (σ : Sg) (r : Int32) (σ' : Sg) (hf : f_X1_heldInAll i0 σ = some (r, σ')) (sz : Nat) : Met l yX1_heldInAll (wz yX1_heldInAll cX1_heldInAll 3 (some .int)) { frames := 0, cells := 0, slots := 0, locals := 0 } (va_Pc [.ref (Γ.2.2.1 (1 + 8 * i0))] (wPre Γ.1 vwCl (tysC Γ) (XC Γ) (alC Γ) Γ.2.2.2 σ sz)) (wQi Γ.1 vwCl (tysC Γ) (XC Γ) (alC Γ) r σ' sz) 0 0 (wA (alC Γ) sz) := by
  refine w_enter (cc := cX1_heldInAll) (maxL := 3) (ret := (some .int)) (by decide) rfl (Nat.le_of_ble_eq_true rfl) ?_
  intro p e s m below meth c ls hx hb hr hlocks hml hown hts hsz hP hK hkc hN hl
  subst hsz
  generalize hav : ([.ref (Γ.2.2.1 (1 + 8 * i0))] : List Value) = av at hl hts ⊢
  have hl : lv_has ls 3 [(0, .ref (Γ.2.2.1 (1 + 8 * i0)))] := by rw [← hav] at hl; exact hl
  have j4 : ∀ (n4 : Nat), ∀ (y1 : Int32) (y2 : Int32) (τ : Sg) (H : Heap) (locs : List Loc) (ls : Array Slot) (hf : f_X1_heldInAll_4 i0 n4 y1 y2 τ = some (r, σ')) (hP : va_P Γ.1 vwCl (XC Γ τ) H) (hS : va_S (wA (alC Γ) s.heap.size) s.heap H locs) (hl : lv_has ls 3 [(0, .ref (Γ.2.2.1 (1 + 8 * i0))), (1, .int y1), (2, .int y2)]), W p l e { frames := 0, cells := 0, slots := 0, locals := 0 } s m av.toArray below meth c H locs 0 0 (MQ below (wQi Γ.1 vwCl (tysC Γ) (XC Γ) (alC Γ) r σ' s.heap.size) av.toArray s 0 0 (wA (alC Γ) s.heap.size)) (F0 m 4 ls []) := by
    intro n4
    induction n4 with
    | zero =>
      intro y1 y2 τ H locs ls hf
      exact absurd hf (by intro h; cases h)
    | succ n4 ih4 =>
      intro y1 y2 τ H locs ls hf hP hS hl
      unfold f_X1_heldInAll_4 at hf
      obtain ⟨g2, hf⟩ := w_oi hf
      refine lv_iload_n hx hb dX1_heldInAll_4 rfl (lv_at hl 2 rfl) ?_
      refine lv_bipush (v := (6 : Int32)) hx hb dX1_heldInAll_5 (by decide) ?_
      refine lv_icmp_ge (tgt := 25) hx hb dX1_heldInAll_7 (by decide) (fun c3 => ?_) (fun c3 => ?_)
      · replace hf := (if_pos c3).symm.trans hf
        refine lv_iload_n hx hb dX1_heldInAll_25 rfl (lv_at hl 1 rfl) ?_
        exact w_iret (X := XC Γ) hx hb hr hlocks hK hP hS rfl hf dX1_heldInAll_26
      · replace hf := (if_neg c3).symm.trans hf
        refine lv_iload_n hx hb dX1_heldInAll_10 rfl (lv_at hl 1 rfl) ?_
        refine lv_aload_n hx hb dX1_heldInAll_11 rfl (lv_at hl 0 rfl) ?_
        refine va_get (D := Γ.1) (ci := 1) (v := .ref (Γ.2.2.1 (8 + 8 * i0))) (C := RX1) (T := TX1) (N := 11) hx hb hts iX1 hown hK hP (1 + 8 * i0) (gC_House Γ τ (i0) g2) rfl 10 (by decide) (hts (.fieldLink RX1 30 "OtherHalfOfNight$House" "hold" "[I") (wzm K49)) (fun _ h9 => h9) rfl dX1_heldInAll_12 ?_
        refine lv_iload_n hx hb dX1_heldInAll_15 rfl (lv_at hl 2 rfl) ?_
        obtain ⟨g4, hf⟩ := w_oi hf
        refine va_iald (D := Γ.1) (tys := (tysC Γ)) hx hb hK hP (8 + 8 * i0) 0 (gC_House_hold Γ τ (i0) g2) rfl g4 dX1_heldInAll_16 ?_
        refine lv_iadd hx hb dX1_heldInAll_17 ?_
        refine lv_istore_n (lv' := [(1, .int (y1 + (τ (11 * i0 + 10) (y2).toNatClampNeg))), (0, .ref (Γ.2.2.1 (1 + 8 * i0))), (2, .int y2)]) hx hb dX1_heldInAll_18 rfl hl (by decide) rfl (fun ls hl => ?_)
        refine lv_iinc (v := (y2 + (1 : Int32))) (lv' := [(2, .int (y2 + (1 : Int32))), (1, .int (y1 + (τ (11 * i0 + 10) (y2).toNatClampNeg))), (0, .ref (Γ.2.2.1 (1 + 8 * i0)))]) hx hb dX1_heldInAll_19 hl (k := 2) rfl rfl (by decide) rfl (fun ls hl => ?_)
        refine lv_goto (tgt := 4) hx hb dX1_heldInAll_22 (by decide) ?_
        exact ih4 ((y1 + (τ (11 * i0 + 10) (y2).toNatClampNeg))) ((y2 + (1 : Int32))) τ H locs ls hf hP hS (lv_sub hl [2, 1, 0] rfl)
  suffices hw : ∀ (H : Heap) (locs : List Loc), va_P Γ.1 vwCl (XC Γ σ) H → va_S (wA (alC Γ) s.heap.size) s.heap H locs → W p l e { frames := 0, cells := 0, slots := 0, locals := 0 } s m av.toArray below meth c H locs 0 0 (MQ below (wQi Γ.1 vwCl (tysC Γ) (XC Γ) (alC Γ) r σ' s.heap.size) av.toArray s 0 0 (wA (alC Γ) s.heap.size)) (F0 m 0 ls []) from hw _ [] hP va_S.rf
  clear hP
  intro H locs hP hS
  unfold f_X1_heldInAll at hf
  obtain ⟨g1, hf⟩ := w_oi hf
  refine lv_iconst (v := (0 : Int32)) hx hb dX1_heldInAll_0 (by decide) ?_
  refine lv_istore_n (lv' := [(1, .int (0 : Int32)), (0, .ref (Γ.2.2.1 (1 + 8 * i0)))]) hx hb dX1_heldInAll_1 rfl hl (by decide) rfl (fun ls hl => ?_)
  refine lv_iconst (v := (0 : Int32)) hx hb dX1_heldInAll_2 (by decide) ?_
  refine lv_istore_n (lv' := [(2, .int (0 : Int32)), (1, .int (0 : Int32)), (0, .ref (Γ.2.2.1 (1 + 8 * i0)))]) hx hb dX1_heldInAll_3 rfl hl (by decide) rfl (fun ls hl => ?_)
  exact j4 5000 ((0 : Int32)) ((0 : Int32)) σ H locs ls hf hP hS (lv_sub hl [2, 1, 0] rfl)
def f_X1_fullCups_4 (i0 : Nat) : Nat → Int32 → Int32 → Sg → Option (Int32 × Sg)
  | 0, _, _, _ => none
  | n + 1, y1, y2, τ => if i0 < 3 then if (6 : Int32) ≤ y2 then some (y1, τ) else if okI y2 6 then if okI y2 6 then if (τ (11 * i0 + 10) (y2).toNatClampNeg) = (τ (11 * i0 + 8) (y2).toNatClampNeg) then (f_X1_fullCups_4 i0 n) ((y1 ||| ((1 : Int32) <<< (y2 &&& 31)))) ((y2 + (1 : Int32))) τ else (f_X1_fullCups_4 i0 n) (y1) ((y2 + (1 : Int32))) τ else none else none else none
def f_X1_fullCups (i0 : Nat) (σ : Sg) : Option (Int32 × Sg) := if i0 < 3 then f_X1_fullCups_4 i0 5000 ((0 : Int32)) ((0 : Int32)) σ else none
set_option maxHeartbeats 40000000 in
set_option maxRecDepth 100000 in
theorem c_X1_fullCups (l : Launch) (Γ : Geo) (hG : okC Γ) (i0 : Nat) (σ : Sg) (r : Int32) (σ' : Sg) (hf : f_X1_fullCups i0 σ = some (r, σ')) (sz : Nat) : Met l yX1_fullCups (wz yX1_fullCups cX1_fullCups 3 (some .int)) { frames := 0, cells := 0, slots := 0, locals := 0 } (va_Pc [.ref (Γ.2.2.1 (1 + 8 * i0))] (wPre Γ.1 vwCl (tysC Γ) (XC Γ) (alC Γ) Γ.2.2.2 σ sz)) (wQi Γ.1 vwCl (tysC Γ) (XC Γ) (alC Γ) r σ' sz) 0 0 (wA (alC Γ) sz) := by
  refine w_enter (cc := cX1_fullCups) (maxL := 3) (ret := (some .int)) (by decide) rfl (Nat.le_of_ble_eq_true rfl) ?_
  intro p e s m below meth c ls hx hb hr hlocks hml hown hts hsz hP hK hkc hN hl
  subst hsz
  generalize hav : ([.ref (Γ.2.2.1 (1 + 8 * i0))] : List Value) = av at hl hts ⊢
  have hl : lv_has ls 3 [(0, .ref (Γ.2.2.1 (1 + 8 * i0)))] := by rw [← hav] at hl; exact hl
  have j4 : ∀ (n4 : Nat), ∀ (y1 : Int32) (y2 : Int32) (τ : Sg) (H : Heap) (locs : List Loc) (ls : Array Slot) (hf : f_X1_fullCups_4 i0 n4 y1 y2 τ = some (r, σ')) (hP : va_P Γ.1 vwCl (XC Γ τ) H) (hS : va_S (wA (alC Γ) s.heap.size) s.heap H locs) (hl : lv_has ls 3 [(0, .ref (Γ.2.2.1 (1 + 8 * i0))), (1, .int y1), (2, .int y2)]), W p l e { frames := 0, cells := 0, slots := 0, locals := 0 } s m av.toArray below meth c H locs 0 0 (MQ below (wQi Γ.1 vwCl (tysC Γ) (XC Γ) (alC Γ) r σ' s.heap.size) av.toArray s 0 0 (wA (alC Γ) s.heap.size)) (F0 m 4 ls []) := by
    intro n4
    induction n4 with
    | zero =>
      intro y1 y2 τ H locs ls hf
      exact absurd hf (by intro h; cases h)
    | succ n4 ih4 =>
      intro y1 y2 τ H locs ls hf hP hS hl
      unfold f_X1_fullCups_4 at hf
      obtain ⟨g2, hf⟩ := w_oi hf
      refine lv_iload_n hx hb dX1_fullCups_4 rfl (lv_at hl 2 rfl) ?_
      refine lv_bipush (v := (6 : Int32)) hx hb dX1_fullCups_5 (by decide) ?_
      refine lv_icmp_ge (tgt := 37) hx hb dX1_fullCups_7 (by decide) (fun c3 => ?_) (fun c3 => ?_)
      · replace hf := (if_pos c3).symm.trans hf
        refine lv_iload_n hx hb dX1_fullCups_37 rfl (lv_at hl 1 rfl) ?_
        exact w_iret (X := XC Γ) hx hb hr hlocks hK hP hS rfl hf dX1_fullCups_38
      · replace hf := (if_neg c3).symm.trans hf
        refine lv_aload_n hx hb dX1_fullCups_10 rfl (lv_at hl 0 rfl) ?_
        refine va_get (D := Γ.1) (ci := 1) (v := .ref (Γ.2.2.1 (8 + 8 * i0))) (C := RX1) (T := TX1) (N := 11) hx hb hts iX1 hown hK hP (1 + 8 * i0) (gC_House Γ τ (i0) g2) rfl 10 (by decide) (hts (.fieldLink RX1 30 "OtherHalfOfNight$House" "hold" "[I") (wzm K49)) (fun _ h9 => h9) rfl dX1_fullCups_11 ?_
        refine lv_iload_n hx hb dX1_fullCups_14 rfl (lv_at hl 2 rfl) ?_
        obtain ⟨g4, hf⟩ := w_oi hf
        refine va_iald (D := Γ.1) (tys := (tysC Γ)) hx hb hK hP (8 + 8 * i0) 0 (gC_House_hold Γ τ (i0) g2) rfl g4 dX1_fullCups_15 ?_
        refine lv_aload_n hx hb dX1_fullCups_16 rfl (lv_at hl 0 rfl) ?_
        refine va_get (D := Γ.1) (ci := 1) (v := .ref (Γ.2.2.1 (6 + 8 * i0))) (C := RX1) (T := TX1) (N := 11) hx hb hts iX1 hown hK hP (1 + 8 * i0) (gC_House Γ τ (i0) g2) rfl 8 (by decide) (hts (.fieldLink RX1 24 "OtherHalfOfNight$House" "want" "[I") (wzm K47)) (fun _ h9 => h9) rfl dX1_fullCups_17 ?_
        refine lv_iload_n hx hb dX1_fullCups_20 rfl (lv_at hl 2 rfl) ?_
        obtain ⟨g5, hf⟩ := w_oi hf
        refine va_iald (D := Γ.1) (tys := (tysC Γ)) hx hb hK hP (6 + 8 * i0) 0 (gC_House_want Γ τ (i0) g2) rfl g5 dX1_fullCups_21 ?_
        refine lv_icmp_ne (tgt := 31) hx hb dX1_fullCups_22 (by decide) (fun c6 => ?_) (fun c6 => ?_)
        · replace hf := (if_neg c6).symm.trans hf
          refine lv_iinc (v := (y2 + (1 : Int32))) (lv' := [(2, .int (y2 + (1 : Int32))), (0, .ref (Γ.2.2.1 (1 + 8 * i0))), (1, .int y1)]) hx hb dX1_fullCups_31 hl (k := 2) rfl rfl (by decide) rfl (fun ls hl => ?_)
          refine lv_goto (tgt := 4) hx hb dX1_fullCups_34 (by decide) ?_
          exact ih4 (y1) ((y2 + (1 : Int32))) τ H locs ls hf hP hS (lv_sub hl [1, 2, 0] rfl)
        · replace hf := (if_pos c6).symm.trans hf
          refine lv_iload_n hx hb dX1_fullCups_25 rfl (lv_at hl 1 rfl) ?_
          refine lv_iconst (v := (1 : Int32)) hx hb dX1_fullCups_26 (by decide) ?_
          refine lv_iload_n hx hb dX1_fullCups_27 rfl (lv_at hl 2 rfl) ?_
          refine lv_ishl hx hb dX1_fullCups_28 ?_
          refine lv_ior hx hb dX1_fullCups_29 ?_
          refine lv_istore_n (lv' := [(1, .int (y1 ||| ((1 : Int32) <<< (y2 &&& 31)))), (0, .ref (Γ.2.2.1 (1 + 8 * i0))), (2, .int y2)]) hx hb dX1_fullCups_30 rfl hl (by decide) rfl (fun ls hl => ?_)
          refine lv_iinc (v := (y2 + (1 : Int32))) (lv' := [(2, .int (y2 + (1 : Int32))), (1, .int (y1 ||| ((1 : Int32) <<< (y2 &&& 31)))), (0, .ref (Γ.2.2.1 (1 + 8 * i0)))]) hx hb dX1_fullCups_31 hl (k := 2) rfl rfl (by decide) rfl (fun ls hl => ?_)
          refine lv_goto (tgt := 4) hx hb dX1_fullCups_34 (by decide) ?_
          exact ih4 ((y1 ||| ((1 : Int32) <<< (y2 &&& 31)))) ((y2 + (1 : Int32))) τ H locs ls hf hP hS (lv_sub hl [2, 1, 0] rfl)
  suffices hw : ∀ (H : Heap) (locs : List Loc), va_P Γ.1 vwCl (XC Γ σ) H → va_S (wA (alC Γ) s.heap.size) s.heap H locs → W p l e { frames := 0, cells := 0, slots := 0, locals := 0 } s m av.toArray below meth c H locs 0 0 (MQ below (wQi Γ.1 vwCl (tysC Γ) (XC Γ) (alC Γ) r σ' s.heap.size) av.toArray s 0 0 (wA (alC Γ) s.heap.size)) (F0 m 0 ls []) from hw _ [] hP va_S.rf
  clear hP
  intro H locs hP hS
  unfold f_X1_fullCups at hf
  obtain ⟨g1, hf⟩ := w_oi hf
  refine lv_iconst (v := (0 : Int32)) hx hb dX1_fullCups_0 (by decide) ?_
  refine lv_istore_n (lv' := [(1, .int (0 : Int32)), (0, .ref (Γ.2.2.1 (1 + 8 * i0)))]) hx hb dX1_fullCups_1 rfl hl (by decide) rfl (fun ls hl => ?_)
  refine lv_iconst (v := (0 : Int32)) hx hb dX1_fullCups_2 (by decide) ?_
  refine lv_istore_n (lv' := [(2, .int (0 : Int32)), (1, .int (0 : Int32)), (0, .ref (Γ.2.2.1 (1 + 8 * i0)))]) hx hb dX1_fullCups_3 rfl hl (by decide) rfl (fun ls hl => ?_)
  exact j4 5000 ((0 : Int32)) ((0 : Int32)) σ H locs ls hf hP hS (lv_sub hl [2, 1, 0] rfl)
