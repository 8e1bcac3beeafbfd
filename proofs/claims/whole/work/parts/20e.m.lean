def f_X9_isSheet (x0 : Int32) (σ : Sm) : Option (Int32 × Sm) := (f_X9_in ((x0).toInt64) (0 : Int64) (3 : Int64) σ).bind fun (q1 : Int32 × Sm) => if (q1.1 = 0 ∨ q1.1 = 1) then some (q1.1, q1.2) else none
set_option maxHeartbeats 40000000 in
set_option maxRecDepth 100000 in
theorem c_X9_isSheet (l : Launch) (Γ : Geo) (hG : okM Γ) (x0 : Int32) (σ : Sm) (r : Int32) (σ' : Sm) (hf : f_X9_isSheet x0 σ = some (r, σ')) (sz : Nat) : Met l yX9_isSheet (wz yX9_isSheet cX9_isSheet 1 (some .boolean)) { frames := 1, cells := 0, slots := 0, locals := 25 } (va_Pc [.int x0] (wPre Γ.1 vwCl (tysC Γ) (XM Γ) (alM Γ) Γ.2.2.2 σ sz)) (wQi Γ.1 vwCl (tysC Γ) (XM Γ) (alM Γ) r σ' sz) 0 0 (wA (alM Γ) sz) := by
  refine w_enter (cc := cX9_isSheet) (maxL := 1) (ret := (some .boolean)) (by decide) rfl (Nat.le_of_ble_eq_true rfl) ?_
  intro p e s m below meth c ls hx hb hr hlocks hml hown hts hsz hP hK hkc hN hl
  subst hsz
  generalize hav : ([.int x0] : List Value) = av at hl hts ⊢
  have hl : lv_has ls 1 [(0, .int x0)] := by rw [← hav] at hl; exact hl
  suffices hw : ∀ (H : Heap) (locs : List Loc), va_P Γ.1 vwCl (XM Γ σ) H → va_S (wA (alM Γ) s.heap.size) s.heap H locs → W p l e { frames := 1, cells := 0, slots := 0, locals := 25 } s m av.toArray below meth c H locs 0 0 (MQ below (wQi Γ.1 vwCl (tysC Γ) (XM Γ) (alM Γ) r σ' s.heap.size) av.toArray s 0 0 (wA (alM Γ) s.heap.size)) (F0 m 0 ls []) from hw _ [] hP va_S.rf
  clear hP
  intro H locs hP hS
  unfold f_X9_isSheet at hf
  refine lv_iload_n hx hb dX9_isSheet_0 rfl (lv_at hl 0 rfl) ?_
  refine lv_i2l (v := ((x0).toInt64)) hx hb dX9_isSheet_1 rfl ?_
  refine lv_lconst (v := (0 : Int64)) hx hb dX9_isSheet_2 (by decide) ?_
  refine lv_ldc2 (v := (3 : Int64)) hx hb hown (hts (.constantLong RX9 255 (3)) (wzm K213)) dX9_isSheet_3 ?_
  obtain ⟨q1, h2, hf⟩ := w_ob hf
  refine w_ci (va_runS (As := [.long ((x0).toInt64), .long (0 : Int64), .long (3 : Int64)]) (rest := []) ⟨hx, hb, hml, hown, hts⟩ (c_X9_in l Γ hG ((x0).toInt64) (0 : Int64) (3 : Int64) σ q1.1 q1.2 h2 H.size) (cwS 3 hts (wzS K170 K168 K169 K5) rfl rfl rfl (by decide +kernel) ⟨(Nat.le_of_ble_eq_true rfl), (Nat.le_of_ble_eq_true rfl)⟩) (w_pre hK hP hkc hN hS) rfl rfl hl.1 rfl (lv_room (Nat.le_of_ble_eq_true rfl)) dX9_isSheet_6 ⟨Nat.le_refl _, Nat.le_refl _⟩) hS (fun H locs hP hS => ?_)
  obtain ⟨g3, hf⟩ := w_oi hf
  exact w_iret (X := XM Γ) hx hb hr hlocks hK hP hS (w_nb g3) hf dX9_isSheet_9
def f_X9_sheet_77 (x1 : Int32) (x2 : Int32) (x3 : Int32) : Nat → Int32 → Sm → Option (Int32 × Sm)
  | 0, _, _ => none
  | n + 1, y4, τ => if x3 ≤ y4 then some ((1 : Int32), τ) else if x2 < 0 then some ((1 : Int32), τ) else if okI (((40 : Int32) * x1) + y4) 160 then (f_X9_sheet_77 x1 x2 x3 n) ((y4 + (1 : Int32))) (upm τ (43) ((((40 : Int32) * x1) + y4)).toNatClampNeg (0 : Int32)) else none
def f_X9_sheet_59 (x1 : Int32) (x2 : Int32) (x3 : Int32) (z1 : Int32) (z2 : Int32) (τ : Sm) : Option (Int32 × Sm) := if okI z1 4 then if okI x1 4 then if okI x1 4 then f_X9_sheet_77 x1 x2 x3 5000 ((0 : Int32)) (upm (upm (upm τ (40) (z1).toNatClampNeg (vp_nar .boolean z2)) (41) (x1).toNatClampNeg x2) (42) (x1).toNatClampNeg x3) else none else none else none
def f_X9_sheet_45 (x1 : Int32) (x2 : Int32) (x3 : Int32) (τ : Sm) : Option (Int32 × Sm) := if x2 < 0 then f_X9_sheet_59 x1 x2 x3 (x1) ((0 : Int32)) τ else f_X9_sheet_59 x1 x2 x3 (x1) ((1 : Int32)) τ
def f_X9_sheet_34 (x1 : Int32) (x2 : Int32) (x3 : Int32) (τ : Sm) : Option (Int32 × Sm) := if x2 < 0 then f_X9_sheet_45 x1 x2 x3 τ else if 0 ≤ x3 then f_X9_sheet_45 x1 x2 x3 τ else some ((-14 : Int32), τ)
def f_X9_sheet (x1 : Int32) (x2 : Int32) (x3 : Int32) (σ : Sm) : Option (Int32 × Sm) := (f_X9_isSheet x1 σ).bind fun (q1 : Int32 × Sm) => if q1.1 = 0 then some ((-2 : Int32), q1.2) else (f_X9_in ((x2).toInt64) (-1 : Int64) (2 : Int64) q1.2).bind fun (q4 : Int32 × Sm) => if q4.1 = 0 then some ((-2 : Int32), q4.2) else if x2 < 0 then f_X9_sheet_34 x1 x2 x3 q4.2 else if x3 ≤ (40 : Int32) then f_X9_sheet_34 x1 x2 x3 q4.2 else some ((-2 : Int32), q4.2)
set_option maxHeartbeats 40000000 in
set_option maxRecDepth 100000 in
theorem c_X9_sheet (l : Launch) (Γ : Geo) (hG : okM Γ) (x1 : Int32) (x2 : Int32) (x3 : Int32) (σ : Sm) (r : Int32) (σ' : Sm) (hf : f_X9_sheet x1 x2 x3 σ = some (r, σ')) (sz : Nat) : Met l yX9_sheet (wz yX9_sheet cX9_sheet 5 (some .int)) { frames := 2, cells := 0, slots := 0, locals := 45 } (va_Pc [.ref (Γ.2.2.1 (0)), .int x1, .int x2, .int x3] (wPre Γ.1 vwCl (tysC Γ) (XM Γ) (alM Γ) Γ.2.2.2 σ sz)) (wQi Γ.1 vwCl (tysC Γ) (XM Γ) (alM Γ) r σ' sz) 0 0 (wA (alM Γ) sz) := by
  refine w_enter (cc := cX9_sheet) (maxL := 5) (ret := (some .int)) (by decide) rfl (Nat.le_of_ble_eq_true rfl) ?_
  intro p e s m below meth c ls hx hb hr hlocks hml hown hts hsz hP hK hkc hN hl
  subst hsz
  generalize hav : ([.ref (Γ.2.2.1 (0)), .int x1, .int x2, .int x3] : List Value) = av at hl hts ⊢
  have hl : lv_has ls 5 [(0, .ref (Γ.2.2.1 (0))), (1, .int x1), (2, .int x2), (3, .int x3)] := by rw [← hav] at hl; exact hl
  have j77 : ∀ (n77 : Nat), ∀ (y4 : Int32) (τ : Sm) (H : Heap) (locs : List Loc) (ls : Array Slot) (hf : f_X9_sheet_77 x1 x2 x3 n77 y4 τ = some (r, σ')) (hP : va_P Γ.1 vwCl (XM Γ τ) H) (hS : va_S (wA (alM Γ) s.heap.size) s.heap H locs) (hl : lv_has ls 5 [(0, .ref (Γ.2.2.1 (0))), (1, .int x1), (2, .int x2), (3, .int x3), (4, .int y4)]), W p l e { frames := 2, cells := 0, slots := 0, locals := 45 } s m av.toArray below meth c H locs 0 0 (MQ below (wQi Γ.1 vwCl (tysC Γ) (XM Γ) (alM Γ) r σ' s.heap.size) av.toArray s 0 0 (wA (alM Γ) s.heap.size)) (F0 m 77 ls []) := by
    intro n77
    induction n77 with
    | zero =>
      intro y4 τ H locs ls hf
      exact absurd hf (by intro h; cases h)
    | succ n77 ih77 =>
      intro y4 τ H locs ls hf hP hS hl
      unfold f_X9_sheet_77 at hf
      refine lv_iload hx hb dX9_sheet_77 (lv_at hl 4 rfl) ?_
      refine lv_iload_n hx hb dX9_sheet_79 rfl (lv_at hl 3 rfl) ?_
      refine lv_icmp_ge (tgt := 106) hx hb dX9_sheet_80 (by decide) (fun c15 => ?_) (fun c15 => ?_)
      · replace hf := (if_pos c15).symm.trans hf
        refine lv_iconst (v := (1 : Int32)) hx hb dX9_sheet_106 (by decide) ?_
        exact w_iret (X := XM Γ) hx hb hr hlocks hK hP hS rfl hf dX9_sheet_107
      · replace hf := (if_neg c15).symm.trans hf
        refine lv_iload_n hx hb dX9_sheet_83 rfl (lv_at hl 2 rfl) ?_
        refine lv_if_lt (tgt := 106) hx hb dX9_sheet_84 (by decide) (fun c16 => ?_) (fun c16 => ?_)
        · replace hf := (if_pos c16).symm.trans hf
          refine lv_iconst (v := (1 : Int32)) hx hb dX9_sheet_106 (by decide) ?_
          exact w_iret (X := XM Γ) hx hb hr hlocks hK hP hS rfl hf dX9_sheet_107
        · replace hf := (if_neg c16).symm.trans hf
          refine lv_aload_n hx hb dX9_sheet_87 rfl (lv_at hl 0 rfl) ?_
          refine va_get (D := Γ.1) (ci := 8) (v := .ref (Γ.2.2.1 (17))) (C := RX9) (T := TX9) (N := 44) hx hb hts iX9 hown hK hP (0) (gM_Model Γ τ) rfl 43 (by decide) (hts (.fieldLink RX9 67 "OtherHalfOfNightModel" "items" "[I") (wzm K127)) (fun _ h9 => h9) rfl dX9_sheet_88 ?_
          refine lv_bipush (v := (40 : Int32)) hx hb dX9_sheet_91 (by decide) ?_
          refine lv_iload_n hx hb dX9_sheet_93 rfl (lv_at hl 1 rfl) ?_
          refine lv_imul hx hb dX9_sheet_94 ?_
          refine lv_iload hx hb dX9_sheet_95 (lv_at hl 4 rfl) ?_
          refine lv_iadd hx hb dX9_sheet_97 ?_
          refine lv_iconst (v := (0 : Int32)) hx hb dX9_sheet_98 (by decide) ?_
          obtain ⟨g17, hf⟩ := w_oi hf
          refine w_iast (D := Γ.1) (tys := (tysC Γ)) (X := XM Γ) (σ' := (upm τ (43) ((((40 : Int32) * x1) + y4)).toNatClampNeg (0 : Int32))) hx hb hK hP (halM Γ) hG hS (17) 0 (gM_M_items Γ τ) rfl g17 dX9_sheet_99 (sM_M_items Γ τ ((((40 : Int32) * x1) + y4)).toNatClampNeg (0 : Int32)) (fun H locs hP hS => ?_)
          refine lv_iinc (v := (y4 + (1 : Int32))) (lv' := [(4, .int (y4 + (1 : Int32))), (0, .ref (Γ.2.2.1 (0))), (1, .int x1), (2, .int x2), (3, .int x3)]) hx hb dX9_sheet_100 hl (k := 4) rfl rfl (by decide) rfl (fun ls hl => ?_)
          refine lv_goto (tgt := 77) hx hb dX9_sheet_103 (by decide) ?_
          exact ih77 ((y4 + (1 : Int32))) (upm τ (43) ((((40 : Int32) * x1) + y4)).toNatClampNeg (0 : Int32)) H locs ls hf hP hS (lv_sub hl [1, 2, 3, 4, 0] rfl)
  have j59 : ∀ (z1 : Int32) (z2 : Int32) (τ : Sm) (H : Heap) (locs : List Loc) (ls : Array Slot) (hf : f_X9_sheet_59 x1 x2 x3 z1 z2 τ = some (r, σ')) (hP : va_P Γ.1 vwCl (XM Γ τ) H) (hS : va_S (wA (alM Γ) s.heap.size) s.heap H locs) (hl : lv_has ls 5 [(0, .ref (Γ.2.2.1 (0))), (1, .int x1), (2, .int x2), (3, .int x3)]), W p l e { frames := 2, cells := 0, slots := 0, locals := 45 } s m av.toArray below meth c H locs 0 0 (MQ below (wQi Γ.1 vwCl (tysC Γ) (XM Γ) (alM Γ) r σ' s.heap.size) av.toArray s 0 0 (wA (alM Γ) s.heap.size)) (F0 m 59 ls [.int z2, .int z1, .ref (Γ.2.2.1 (14))]) := by
    intro z1 z2 τ H locs ls hf hP hS hl
    unfold f_X9_sheet_59 at hf
    obtain ⟨g12, hf⟩ := w_oi hf
    refine w_zast (D := Γ.1) (tys := (tysC Γ)) (X := XM Γ) (σ' := (upm τ (40) (z1).toNatClampNeg (vp_nar .boolean z2))) hx hb hK hP (halM Γ) hG hS (14) 2 (gM_M_isThere Γ τ) rfl g12 dX9_sheet_59 (sM_M_isThere Γ τ (z1).toNatClampNeg (vp_nar .boolean z2)) (fun H locs hP hS => ?_)
    refine lv_aload_n hx hb dX9_sheet_60 rfl (lv_at hl 0 rfl) ?_
    refine va_get (D := Γ.1) (ci := 8) (v := .ref (Γ.2.2.1 (15))) (C := RX9) (T := TX9) (N := 44) hx hb hts iX9 hown hK hP (0) (gM_Model Γ (upm τ (40) (z1).toNatClampNeg (vp_nar .boolean z2))) rfl 41 (by decide) (hts (.fieldLink RX9 61 "OtherHalfOfNightModel" "sorts" "[I") (wzm K125)) (fun _ h9 => h9) rfl dX9_sheet_61 ?_
    refine lv_iload_n hx hb dX9_sheet_64 rfl (lv_at hl 1 rfl) ?_
    refine lv_iload_n hx hb dX9_sheet_65 rfl (lv_at hl 2 rfl) ?_
    obtain ⟨g13, hf⟩ := w_oi hf
    refine w_iast (D := Γ.1) (tys := (tysC Γ)) (X := XM Γ) (σ' := (upm (upm τ (40) (z1).toNatClampNeg (vp_nar .boolean z2)) (41) (x1).toNatClampNeg x2)) hx hb hK hP (halM Γ) hG hS (15) 0 (gM_M_sorts Γ (upm τ (40) (z1).toNatClampNeg (vp_nar .boolean z2))) rfl g13 dX9_sheet_66 (sM_M_sorts Γ (upm τ (40) (z1).toNatClampNeg (vp_nar .boolean z2)) (x1).toNatClampNeg x2) (fun H locs hP hS => ?_)
    refine lv_aload_n hx hb dX9_sheet_67 rfl (lv_at hl 0 rfl) ?_
    refine va_get (D := Γ.1) (ci := 8) (v := .ref (Γ.2.2.1 (16))) (C := RX9) (T := TX9) (N := 44) hx hb hts iX9 hown hK hP (0) (gM_Model Γ (upm (upm τ (40) (z1).toNatClampNeg (vp_nar .boolean z2)) (41) (x1).toNatClampNeg x2)) rfl 42 (by decide) (hts (.fieldLink RX9 64 "OtherHalfOfNightModel" "sheetSize" "[I") (wzm K126)) (fun _ h9 => h9) rfl dX9_sheet_68 ?_
    refine lv_iload_n hx hb dX9_sheet_71 rfl (lv_at hl 1 rfl) ?_
    refine lv_iload_n hx hb dX9_sheet_72 rfl (lv_at hl 3 rfl) ?_
    obtain ⟨g14, hf⟩ := w_oi hf
    refine w_iast (D := Γ.1) (tys := (tysC Γ)) (X := XM Γ) (σ' := (upm (upm (upm τ (40) (z1).toNatClampNeg (vp_nar .boolean z2)) (41) (x1).toNatClampNeg x2) (42) (x1).toNatClampNeg x3)) hx hb hK hP (halM Γ) hG hS (16) 0 (gM_M_sheetSize Γ (upm (upm τ (40) (z1).toNatClampNeg (vp_nar .boolean z2)) (41) (x1).toNatClampNeg x2)) rfl g14 dX9_sheet_73 (sM_M_sheetSize Γ (upm (upm τ (40) (z1).toNatClampNeg (vp_nar .boolean z2)) (41) (x1).toNatClampNeg x2) (x1).toNatClampNeg x3) (fun H locs hP hS => ?_)
    refine lv_iconst (v := (0 : Int32)) hx hb dX9_sheet_74 (by decide) ?_
    refine lv_istore (lv' := [(4, .int (0 : Int32)), (0, .ref (Γ.2.2.1 (0))), (1, .int x1), (2, .int x2), (3, .int x3)]) hx hb dX9_sheet_75 hl (by decide) rfl (fun ls hl => ?_)
    exact j77 5000 ((0 : Int32)) (upm (upm (upm τ (40) (z1).toNatClampNeg (vp_nar .boolean z2)) (41) (x1).toNatClampNeg x2) (42) (x1).toNatClampNeg x3) H locs ls hf hP hS (lv_sub hl [1, 2, 3, 4, 0] rfl)
  have j45 : ∀ (τ : Sm) (H : Heap) (locs : List Loc) (ls : Array Slot) (hf : f_X9_sheet_45 x1 x2 x3 τ = some (r, σ')) (hP : va_P Γ.1 vwCl (XM Γ τ) H) (hS : va_S (wA (alM Γ) s.heap.size) s.heap H locs) (hl : lv_has ls 5 [(0, .ref (Γ.2.2.1 (0))), (1, .int x1), (2, .int x2), (3, .int x3)]), W p l e { frames := 2, cells := 0, slots := 0, locals := 45 } s m av.toArray below meth c H locs 0 0 (MQ below (wQi Γ.1 vwCl (tysC Γ) (XM Γ) (alM Γ) r σ' s.heap.size) av.toArray s 0 0 (wA (alM Γ) s.heap.size)) (F0 m 45 ls []) := by
    intro τ H locs ls hf hP hS hl
    unfold f_X9_sheet_45 at hf
    refine lv_aload_n hx hb dX9_sheet_45 rfl (lv_at hl 0 rfl) ?_
    refine va_get (D := Γ.1) (ci := 8) (v := .ref (Γ.2.2.1 (14))) (C := RX9) (T := TX9) (N := 44) hx hb hts iX9 hown hK hP (0) (gM_Model Γ τ) rfl 40 (by decide) (hts (.fieldLink RX9 57 "OtherHalfOfNightModel" "isThere" "[Z") (wzm K124)) (fun _ h9 => h9) rfl dX9_sheet_46 ?_
    refine lv_iload_n hx hb dX9_sheet_49 rfl (lv_at hl 1 rfl) ?_
    refine lv_iload_n hx hb dX9_sheet_50 rfl (lv_at hl 2 rfl) ?_
    refine lv_if_lt (tgt := 58) hx hb dX9_sheet_51 (by decide) (fun c11 => ?_) (fun c11 => ?_)
    · replace hf := (if_pos c11).symm.trans hf
      refine lv_iconst (v := (0 : Int32)) hx hb dX9_sheet_58 (by decide) ?_
      exact j59 (x1) ((0 : Int32)) τ H locs ls hf hP hS (lv_sub hl [0, 1, 2, 3] rfl)
    · replace hf := (if_neg c11).symm.trans hf
      refine lv_iconst (v := (1 : Int32)) hx hb dX9_sheet_54 (by decide) ?_
      refine lv_goto (tgt := 59) hx hb dX9_sheet_55 (by decide) ?_
      exact j59 (x1) ((1 : Int32)) τ H locs ls hf hP hS (lv_sub hl [0, 1, 2, 3] rfl)
  have j34 : ∀ (τ : Sm) (H : Heap) (locs : List Loc) (ls : Array Slot) (hf : f_X9_sheet_34 x1 x2 x3 τ = some (r, σ')) (hP : va_P Γ.1 vwCl (XM Γ τ) H) (hS : va_S (wA (alM Γ) s.heap.size) s.heap H locs) (hl : lv_has ls 5 [(0, .ref (Γ.2.2.1 (0))), (1, .int x1), (2, .int x2), (3, .int x3)]), W p l e { frames := 2, cells := 0, slots := 0, locals := 45 } s m av.toArray below meth c H locs 0 0 (MQ below (wQi Γ.1 vwCl (tysC Γ) (XM Γ) (alM Γ) r σ' s.heap.size) av.toArray s 0 0 (wA (alM Γ) s.heap.size)) (F0 m 34 ls []) := by
    intro τ H locs ls hf hP hS hl
    unfold f_X9_sheet_34 at hf
    refine lv_iload_n hx hb dX9_sheet_34 rfl (lv_at hl 2 rfl) ?_
    refine lv_if_lt (tgt := 45) hx hb dX9_sheet_35 (by decide) (fun c9 => ?_) (fun c9 => ?_)
    · replace hf := (if_pos c9).symm.trans hf
      exact j45 τ H locs ls hf hP hS (lv_sub hl [0, 1, 2, 3] rfl)
    · replace hf := (if_neg c9).symm.trans hf
      refine lv_iload_n hx hb dX9_sheet_38 rfl (lv_at hl 3 rfl) ?_
      refine lv_if_ge (tgt := 45) hx hb dX9_sheet_39 (by decide) (fun c10 => ?_) (fun c10 => ?_)
      · replace hf := (if_pos c10).symm.trans hf
        exact j45 τ H locs ls hf hP hS (lv_sub hl [0, 1, 2, 3] rfl)
      · replace hf := (if_neg c10).symm.trans hf
        refine lv_bipush (v := (-14 : Int32)) hx hb dX9_sheet_42 (by decide) ?_
        exact w_iret (X := XM Γ) hx hb hr hlocks hK hP hS rfl hf dX9_sheet_44
  suffices hw : ∀ (H : Heap) (locs : List Loc), va_P Γ.1 vwCl (XM Γ σ) H → va_S (wA (alM Γ) s.heap.size) s.heap H locs → W p l e { frames := 2, cells := 0, slots := 0, locals := 45 } s m av.toArray below meth c H locs 0 0 (MQ below (wQi Γ.1 vwCl (tysC Γ) (XM Γ) (alM Γ) r σ' s.heap.size) av.toArray s 0 0 (wA (alM Γ) s.heap.size)) (F0 m 0 ls []) from hw _ [] hP va_S.rf
  clear hP
  intro H locs hP hS
  unfold f_X9_sheet at hf
  refine lv_iload_n hx hb dX9_sheet_0 rfl (lv_at hl 1 rfl) ?_
  obtain ⟨q1, h2, hf⟩ := w_ob hf
  refine w_ci (va_runS (As := [.int x1]) (rest := []) ⟨hx, hb, hml, hown, hts⟩ (c_X9_isSheet l Γ hG x1 σ q1.1 q1.2 h2 H.size) (cwS 1 hts (wzS K895 K893 K894 K5) rfl rfl rfl (by decide +kernel) ⟨(Nat.le_of_ble_eq_true rfl), (Nat.le_of_ble_eq_true rfl)⟩) (w_pre hK hP hkc hN hS) rfl rfl hl.1 rfl (lv_room (Nat.le_of_ble_eq_true rfl)) dX9_sheet_1 ⟨Nat.le_refl _, Nat.le_refl _⟩) hS (fun H locs hP hS => ?_)
  refine lv_if_eq (tgt := 31) hx hb dX9_sheet_4 (by decide) (fun c3 => ?_) (fun c3 => ?_)
  · replace hf := (if_pos c3).symm.trans hf
    refine lv_bipush (v := (-2 : Int32)) hx hb dX9_sheet_31 (by decide) ?_
    exact w_iret (X := XM Γ) hx hb hr hlocks hK hP hS rfl hf dX9_sheet_33
  · replace hf := (if_neg c3).symm.trans hf
    refine lv_iload_n hx hb dX9_sheet_7 rfl (lv_at hl 2 rfl) ?_
    refine lv_i2l (v := ((x2).toInt64)) hx hb dX9_sheet_8 rfl ?_
    refine lv_ldc2 (v := (-1 : Int64)) hx hb hown (hts (.constantLong RX9 351 (-1)) (wzm K932)) dX9_sheet_9 ?_
    refine lv_ldc2 (v := (2 : Int64)) hx hb hown (hts (.constantLong RX9 286 (2)) (wzm K713)) dX9_sheet_12 ?_
    obtain ⟨q4, h5, hf⟩ := w_ob hf
    refine w_ci (va_runS (As := [.long ((x2).toInt64), .long (-1 : Int64), .long (2 : Int64)]) (rest := []) ⟨hx, hb, hml, hown, hts⟩ (c_X9_in l Γ hG ((x2).toInt64) (-1 : Int64) (2 : Int64) q1.2 q4.1 q4.2 h5 H.size) (cwS 3 hts (wzS K170 K168 K169 K5) rfl rfl rfl (by decide +kernel) ⟨(Nat.le_of_ble_eq_true rfl), (Nat.le_of_ble_eq_true rfl)⟩) (w_pre hK hP hkc hN hS) rfl rfl hl.1 rfl (lv_room (Nat.le_of_ble_eq_true rfl)) dX9_sheet_15 ⟨Nat.le_refl _, Nat.le_refl _⟩) hS (fun H locs hP hS => ?_)
    refine lv_if_eq (tgt := 31) hx hb dX9_sheet_18 (by decide) (fun c6 => ?_) (fun c6 => ?_)
    · replace hf := (if_pos c6).symm.trans hf
      refine lv_bipush (v := (-2 : Int32)) hx hb dX9_sheet_31 (by decide) ?_
      exact w_iret (X := XM Γ) hx hb hr hlocks hK hP hS rfl hf dX9_sheet_33
    · replace hf := (if_neg c6).symm.trans hf
      refine lv_iload_n hx hb dX9_sheet_21 rfl (lv_at hl 2 rfl) ?_
      refine lv_if_lt (tgt := 34) hx hb dX9_sheet_22 (by decide) (fun c7 => ?_) (fun c7 => ?_)
      · replace hf := (if_pos c7).symm.trans hf
        exact j34 q4.2 H locs ls hf hP hS (lv_sub hl [0, 1, 2, 3] rfl)
      · replace hf := (if_neg c7).symm.trans hf
        refine lv_iload_n hx hb dX9_sheet_25 rfl (lv_at hl 3 rfl) ?_
        refine lv_bipush (v := (40 : Int32)) hx hb dX9_sheet_26 (by decide) ?_
        refine lv_icmp_le (tgt := 34) hx hb dX9_sheet_28 (by decide) (fun c8 => ?_) (fun c8 => ?_)
        · replace hf := (if_pos c8).symm.trans hf
          exact j34 q4.2 H locs ls hf hP hS (lv_sub hl [0, 1, 2, 3] rfl)
        · replace hf := (if_neg c8).symm.trans hf
          refine lv_bipush (v := (-2 : Int32)) hx hb dX9_sheet_31 (by decide) ?_
          exact w_iret (X := XM Γ) hx hb hr hlocks hK hP hS rfl hf dX9_sheet_33
def f_X9_tells_256 (k215 : Int32 → Int32 → Int32 → Int32 → Int32 → Int32 → Sm → Option (Int32 × Sm)) (x1 : Int32) (x2 : Int32) (x3 : Int32) (y4 : Int32) (y5 : Int32) (y8 : Int32) (y10 : Int32) (z0 : Int32) (z1 : Int32) (τ : Sm) : Option (Int32 × Sm) := k215 (y4) (y5) ((z0 ||| z1)) ((y8 + (1 : Int32))) (y10) ((y10 + (-1 : Int32))) τ
def f_X9_tells_215 (x1 : Int32) (x2 : Int32) (x3 : Int32) : Nat → Int32 → Int32 → Int32 → Int32 → Int32 → Int32 → Sm → Option (Int32 × Sm)
  | 0, _, _, _, _, _, _, _ => none
  | n + 1, y4, y5, y7, y8, y9, y10, τ => if y10 < 0 then (f_X9_lays y4 x2 y5 τ).bind fun (q33 : Sm) => if x3 = (3 : Int32) then some (y8, q33) else if x3 = (4 : Int32) then some (y9, q33) else some (y7, q33) else (f_X9_lays y4 x2 y10 τ).bind fun (q37 : Sm) => (f_X9_firstOther x1 x2 q37).bind fun (q39 : Int32 × Sm) => if q39.1 = (-1 : Int32) then if (24 : Int32) ≤ y10 then f_X9_tells_256 (f_X9_tells_215 x1 x2 x3 n) x1 x2 x3 (y4) (y5) (y8) (y10) (y7) ((0 : Int32)) q39.2 else f_X9_tells_256 (f_X9_tells_215 x1 x2 x3 n) x1 x2 x3 (y4) (y5) (y8) (y10) (y7) (((1 : Int32) <<< (y10 &&& 31))) q39.2 else (f_X9_tells_215 x1 x2 x3 n) (y4) (y5) (y7) (y8) (y9) ((y10 + (-1 : Int32))) q39.2
def f_X9_tells_200 (x1 : Int32) (x2 : Int32) (x3 : Int32) (y4 : Int32) (y5 : Int32) (z0 : Int32) (τ : Sm) : Option (Int32 × Sm) := f_X9_tells_215 x1 x2 x3 5000 (y4) (y5) ((0 : Int32)) ((0 : Int32)) ((-1 : Int32)) (z0) τ
def f_X9_tells_147 (x1 : Int32) (x2 : Int32) (x3 : Int32) (y4 : Int32) (z0 : Int32) (τ : Sm) : Option (Int32 × Sm) := if y4 = (8 : Int32) then f_X9_tells_200 x1 x2 x3 (y4) (z0) (((τ.1 (3) 0) - (1 : Int32))) τ else if y4 = (7 : Int32) then f_X9_tells_200 x1 x2 x3 (y4) (z0) ((5 : Int32)) τ else if y4 = (2 : Int32) then f_X9_tells_200 x1 x2 x3 (y4) (z0) ((9 : Int32)) τ else if y4 = (3 : Int32) then f_X9_tells_200 x1 x2 x3 (y4) (z0) ((99 : Int32)) τ else f_X9_tells_200 x1 x2 x3 (y4) (z0) ((23 : Int32)) τ
def f_X9_tells_124 (x1 : Int32) (x2 : Int32) (x3 : Int32) (z0 : Int32) (τ : Sm) : Option (Int32 × Sm) := if z0 = (8 : Int32) then f_X9_tells_147 x1 x2 x3 (z0) ((τ.1 (4) 0)) τ else (f_X9_told x2 z0 τ).bind fun (q26 : Int32 × Sm) => f_X9_tells_147 x1 x2 x3 (z0) (q26.1) q26.2
def f_X9_tells_66 (x1 : Int32) (x2 : Int32) (x3 : Int32) (τ : Sm) : Option (Int32 × Sm) := if x3 = 0 then (f_X9_firstOther x1 x2 τ).bind fun (q23 : Int32 × Sm) => some (q23.1, q23.2) else (f_X9_likeSet x1 τ).bind fun (q21 : Int32 × Sm) => some (q21.1, q21.2)
def f_X9_tells (x1 : Int32) (x2 : Int32) (x3 : Int32) (σ : Sm) : Option (Int32 × Sm) := (f_X9_isSheet x1 σ).bind fun (q1 : Int32 × Sm) => if q1.1 = 0 then some ((-2 : Int32), q1.2) else (f_X9_isOne x2 q1.2).bind fun (q4 : Int32 × Sm) => if q4.1 = 0 then some ((-2 : Int32), q4.2) else (f_X9_in ((x3).toInt64) (0 : Int64) (7 : Int64) q4.2).bind fun (q7 : Int32 × Sm) => if q7.1 = 0 then some ((-2 : Int32), q7.2) else if okI x1 4 then if (q7.2.1 (40) (x1).toNatClampNeg) = 0 then some ((-11 : Int32), q7.2) else if okI x1 4 then if (q7.2.1 (42) (x1).toNatClampNeg) ≤ (20 : Int32) then if x3 = 0 then f_X9_tells_66 x1 x2 x3 q7.2 else if x3 = (7 : Int32) then f_X9_tells_66 x1 x2 x3 q7.2 else if x3 = (1 : Int32) then f_X9_tells_124 x1 x2 x3 ((7 : Int32)) q7.2 else if x3 = (2 : Int32) then f_X9_tells_124 x1 x2 x3 ((2 : Int32)) q7.2 else if (5 : Int32) ≤ x3 then if x3 = (5 : Int32) then f_X9_tells_124 x1 x2 x3 ((1 : Int32)) q7.2 else f_X9_tells_124 x1 x2 x3 ((8 : Int32)) q7.2 else f_X9_tells_124 x1 x2 x3 ((3 : Int32)) q7.2 else some ((-2 : Int32), q7.2) else none else none
set_option maxHeartbeats 40000000 in
set_option maxRecDepth 100000 in
theorem c_X9_tells (l : Launch) (Γ : Geo) (hG : okM Γ) (x1 : Int32) (x2 : Int32) (x3 : Int32) (σ : Sm) (r : Int32) (σ' : Sm) (hf : f_X9_tells x1 x2 x3 σ = some (r, σ')) (sz : Nat) : Met l yX9_tells (wz yX9_tells cX9_tells 11 (some .int)) { frames := 78, cells := 0, slots := 0, locals := 2935 } (va_Pc [.ref (Γ.2.2.1 (0)), .int x1, .int x2, .int x3] (wPre Γ.1 vwCl (tysC Γ) (XM Γ) (alM Γ) Γ.2.2.2 σ sz)) (wQi Γ.1 vwCl (tysC Γ) (XM Γ) (alM Γ) r σ' sz) 0 0 (wA (alM Γ) sz) := by
  refine w_enter (cc := cX9_tells) (maxL := 11) (ret := (some .int)) (by decide) rfl (Nat.le_of_ble_eq_true rfl) ?_
  intro p e s m below meth c ls hx hb hr hlocks hml hown hts hsz hP hK hkc hN hl
  subst hsz
  generalize hav : ([.ref (Γ.2.2.1 (0)), .int x1, .int x2, .int x3] : List Value) = av at hl hts ⊢
  have hl : lv_has ls 11 [(0, .ref (Γ.2.2.1 (0))), (1, .int x1), (2, .int x2), (3, .int x3)] := by rw [← hav] at hl; exact hl
  have j215 : ∀ (n215 : Nat), ∀ (y4 : Int32) (y5 : Int32) (y7 : Int32) (y8 : Int32) (y9 : Int32) (y10 : Int32) (τ : Sm) (H : Heap) (locs : List Loc) (ls : Array Slot) (hf : f_X9_tells_215 x1 x2 x3 n215 y4 y5 y7 y8 y9 y10 τ = some (r, σ')) (hP : va_P Γ.1 vwCl (XM Γ τ) H) (hS : va_S (wA (alM Γ) s.heap.size) s.heap H locs) (hl : lv_has ls 11 [(0, .ref (Γ.2.2.1 (0))), (1, .int x1), (2, .int x2), (3, .int x3), (4, .int y4), (5, .int y5), (7, .int y7), (8, .int y8), (9, .int y9), (10, .int y10)]), W p l e { frames := 78, cells := 0, slots := 0, locals := 2935 } s m av.toArray below meth c H locs 0 0 (MQ below (wQi Γ.1 vwCl (tysC Γ) (XM Γ) (alM Γ) r σ' s.heap.size) av.toArray s 0 0 (wA (alM Γ) s.heap.size)) (F0 m 215 ls []) := by
    intro n215
    induction n215 with
    | zero =>
      intro y4 y5 y7 y8 y9 y10 τ H locs ls hf
      exact absurd hf (by intro h; cases h)
    | succ n215 ih215 =>
      have j256 : ∀ (y4 : Int32) (y5 : Int32) (y8 : Int32) (y10 : Int32) (z0 : Int32) (z1 : Int32) (τ : Sm) (H : Heap) (locs : List Loc) (ls : Array Slot) (hf : f_X9_tells_256 (f_X9_tells_215 x1 x2 x3 n215) x1 x2 x3 y4 y5 y8 y10 z0 z1 τ = some (r, σ')) (hP : va_P Γ.1 vwCl (XM Γ τ) H) (hS : va_S (wA (alM Γ) s.heap.size) s.heap H locs) (hl : lv_has ls 11 [(0, .ref (Γ.2.2.1 (0))), (1, .int x1), (2, .int x2), (3, .int x3), (4, .int y4), (5, .int y5), (8, .int y8), (10, .int y10)]), W p l e { frames := 78, cells := 0, slots := 0, locals := 2935 } s m av.toArray below meth c H locs 0 0 (MQ below (wQi Γ.1 vwCl (tysC Γ) (XM Γ) (alM Γ) r σ' s.heap.size) av.toArray s 0 0 (wA (alM Γ) s.heap.size)) (F0 m 256 ls [.int z1, .int z0]) := by
        intro y4 y5 y8 y10 z0 z1 τ H locs ls hf hP hS hl
        unfold f_X9_tells_256 at hf
        refine lv_ior hx hb dX9_tells_256 ?_
        refine lv_istore (lv' := [(7, .int (z0 ||| z1)), (0, .ref (Γ.2.2.1 (0))), (1, .int x1), (2, .int x2), (3, .int x3), (4, .int y4), (5, .int y5), (8, .int y8), (10, .int y10)]) hx hb dX9_tells_257 hl (by decide) rfl (fun ls hl => ?_)
        refine lv_iinc (v := (y8 + (1 : Int32))) (lv' := [(8, .int (y8 + (1 : Int32))), (7, .int (z0 ||| z1)), (0, .ref (Γ.2.2.1 (0))), (1, .int x1), (2, .int x2), (3, .int x3), (4, .int y4), (5, .int y5), (10, .int y10)]) hx hb dX9_tells_259 hl (k := 7) rfl rfl (by decide) rfl (fun ls hl => ?_)
        refine lv_iload hx hb dX9_tells_262 (lv_at hl 8 rfl) ?_
        refine lv_istore (lv' := [(9, .int y10), (8, .int (y8 + (1 : Int32))), (7, .int (z0 ||| z1)), (0, .ref (Γ.2.2.1 (0))), (1, .int x1), (2, .int x2), (3, .int x3), (4, .int y4), (5, .int y5), (10, .int y10)]) hx hb dX9_tells_264 hl (by decide) rfl (fun ls hl => ?_)
        refine lv_iinc (v := (y10 + (-1 : Int32))) (lv' := [(10, .int (y10 + (-1 : Int32))), (9, .int y10), (8, .int (y8 + (1 : Int32))), (7, .int (z0 ||| z1)), (0, .ref (Γ.2.2.1 (0))), (1, .int x1), (2, .int x2), (3, .int x3), (4, .int y4), (5, .int y5)]) hx hb dX9_tells_266 hl (k := 9) rfl rfl (by decide) rfl (fun ls hl => ?_)
        refine lv_goto (tgt := 215) hx hb dX9_tells_269 (by decide) ?_
        exact ih215 (y4) (y5) ((z0 ||| z1)) ((y8 + (1 : Int32))) (y10) ((y10 + (-1 : Int32))) τ H locs ls hf hP hS (lv_sub hl [4, 5, 6, 7, 8, 9, 3, 2, 1, 0] rfl)
      intro y4 y5 y7 y8 y9 y10 τ H locs ls hf hP hS hl
      unfold f_X9_tells_215 at hf
      refine lv_iload hx hb dX9_tells_215 (lv_at hl 9 rfl) ?_
      refine lv_if_lt (tgt := 272) hx hb dX9_tells_217 (by decide) (fun c32 => ?_) (fun c32 => ?_)
      · replace hf := (if_pos c32).symm.trans hf
        refine lv_aload_n hx hb dX9_tells_272 rfl (lv_at hl 0 rfl) ?_
        refine lv_iload hx hb dX9_tells_273 (lv_at hl 4 rfl) ?_
        refine lv_iload_n hx hb dX9_tells_275 rfl (lv_at hl 2 rfl) ?_
        refine lv_iload hx hb dX9_tells_276 (lv_at hl 5 rfl) ?_
        obtain ⟨q33, h34, hf⟩ := w_ob hf
        refine w_cv (va_runV (As := [.int y4, .int x2, .int y5]) (rest := []) ⟨hx, hb, hml, hown, hts⟩ (c_X9_lays l Γ hG y4 x2 y5 τ q33 h34 H.size) (cwV 3 hts (wzV K313 K310 K311 K312 K5) rfl rfl rfl (by decide +kernel) ⟨(Nat.le_of_ble_eq_true rfl), (Nat.le_of_ble_eq_true rfl)⟩) (w_preV hK hP hkc hN hS (gM_Model Γ τ) rfl) rfl rfl hl.1 rfl (lv_room (Nat.le_of_ble_eq_true rfl)) dX9_tells_278 ⟨Nat.le_refl _, Nat.le_refl _⟩) hS (fun H locs hP hS => ?_)
        refine lv_iload_n hx hb dX9_tells_281 rfl (lv_at hl 3 rfl) ?_
        refine lv_iconst (v := (3 : Int32)) hx hb dX9_tells_282 (by decide) ?_
        refine lv_icmp_ne (tgt := 291) hx hb dX9_tells_283 (by decide) (fun c35 => ?_) (fun c35 => ?_)
        · replace hf := (if_neg c35).symm.trans hf
          refine lv_iload_n hx hb dX9_tells_291 rfl (lv_at hl 3 rfl) ?_
          refine lv_iconst (v := (4 : Int32)) hx hb dX9_tells_292 (by decide) ?_
          refine lv_icmp_ne (tgt := 301) hx hb dX9_tells_293 (by decide) (fun c36 => ?_) (fun c36 => ?_)
          · replace hf := (if_neg c36).symm.trans hf
            refine lv_iload hx hb dX9_tells_301 (lv_at hl 6 rfl) ?_
            exact w_iret (X := XM Γ) hx hb hr hlocks hK hP hS rfl hf dX9_tells_303
          · replace hf := (if_pos c36).symm.trans hf
            refine lv_iload hx hb dX9_tells_296 (lv_at hl 8 rfl) ?_
            refine lv_goto (tgt := 303) hx hb dX9_tells_298 (by decide) ?_
            exact w_iret (X := XM Γ) hx hb hr hlocks hK hP hS rfl hf dX9_tells_303
        · replace hf := (if_pos c35).symm.trans hf
          refine lv_iload hx hb dX9_tells_286 (lv_at hl 7 rfl) ?_
          refine lv_goto (tgt := 303) hx hb dX9_tells_288 (by decide) ?_
          exact w_iret (X := XM Γ) hx hb hr hlocks hK hP hS rfl hf dX9_tells_303
      · replace hf := (if_neg c32).symm.trans hf
        refine lv_aload_n hx hb dX9_tells_220 rfl (lv_at hl 0 rfl) ?_
        refine lv_iload hx hb dX9_tells_221 (lv_at hl 4 rfl) ?_
        refine lv_iload_n hx hb dX9_tells_223 rfl (lv_at hl 2 rfl) ?_
        refine lv_iload hx hb dX9_tells_224 (lv_at hl 9 rfl) ?_
        obtain ⟨q37, h38, hf⟩ := w_ob hf
        refine w_cv (va_runV (As := [.int y4, .int x2, .int y10]) (rest := []) ⟨hx, hb, hml, hown, hts⟩ (c_X9_lays l Γ hG y4 x2 y10 τ q37 h38 H.size) (cwV 3 hts (wzV K313 K310 K311 K312 K5) rfl rfl rfl (by decide +kernel) ⟨(Nat.le_of_ble_eq_true rfl), (Nat.le_of_ble_eq_true rfl)⟩) (w_preV hK hP hkc hN hS (gM_Model Γ τ) rfl) rfl rfl hl.1 rfl (lv_room (Nat.le_of_ble_eq_true rfl)) dX9_tells_226 ⟨Nat.le_refl _, Nat.le_refl _⟩) hS (fun H locs hP hS => ?_)
        refine lv_aload_n hx hb dX9_tells_229 rfl (lv_at hl 0 rfl) ?_
        refine lv_iload_n hx hb dX9_tells_230 rfl (lv_at hl 1 rfl) ?_
        refine lv_iload_n hx hb dX9_tells_231 rfl (lv_at hl 2 rfl) ?_
        obtain ⟨q39, h40, hf⟩ := w_ob hf
        refine w_ci (va_runV (As := [.int x1, .int x2]) (rest := []) ⟨hx, hb, hml, hown, hts⟩ (c_X9_firstOther l Γ hG x1 x2 q37 q39.1 q39.2 h40 H.size) (cwV 2 hts (wzV K899 K896 K897 K898 K5) rfl rfl rfl (by decide +kernel) ⟨(Nat.le_of_ble_eq_true rfl), (Nat.le_of_ble_eq_true rfl)⟩) (w_preV hK hP hkc hN hS (gM_Model Γ q37) rfl) rfl rfl hl.1 rfl (lv_room (Nat.le_of_ble_eq_true rfl)) dX9_tells_232 ⟨Nat.le_refl _, Nat.le_refl _⟩) hS (fun H locs hP hS => ?_)
        refine lv_iconst (v := (-1 : Int32)) hx hb dX9_tells_235 (by decide) ?_
        refine lv_icmp_ne (tgt := 266) hx hb dX9_tells_236 (by decide) (fun c41 => ?_) (fun c41 => ?_)
        · replace hf := (if_neg c41).symm.trans hf
          refine lv_iinc (v := (y10 + (-1 : Int32))) (lv' := [(10, .int (y10 + (-1 : Int32))), (0, .ref (Γ.2.2.1 (0))), (1, .int x1), (2, .int x2), (3, .int x3), (4, .int y4), (5, .int y5), (7, .int y7), (8, .int y8), (9, .int y9)]) hx hb dX9_tells_266 hl (k := 9) rfl rfl (by decide) rfl (fun ls hl => ?_)
          refine lv_goto (tgt := 215) hx hb dX9_tells_269 (by decide) ?_
          exact ih215 (y4) (y5) (y7) (y8) (y9) ((y10 + (-1 : Int32))) q39.2 H locs ls hf hP hS (lv_sub hl [1, 2, 3, 4, 5, 6, 7, 8, 9, 0] rfl)
        · replace hf := (if_pos c41).symm.trans hf
          refine lv_iload hx hb dX9_tells_239 (lv_at hl 6 rfl) ?_
          refine lv_iload hx hb dX9_tells_241 (lv_at hl 9 rfl) ?_
          refine lv_bipush (v := (24 : Int32)) hx hb dX9_tells_243 (by decide) ?_
          refine lv_icmp_ge (tgt := 255) hx hb dX9_tells_245 (by decide) (fun c42 => ?_) (fun c42 => ?_)
          · replace hf := (if_pos c42).symm.trans hf
            refine lv_iconst (v := (0 : Int32)) hx hb dX9_tells_255 (by decide) ?_
            exact j256 (y4) (y5) (y8) (y10) (y7) ((0 : Int32)) q39.2 H locs ls hf hP hS (lv_sub hl [0, 1, 2, 3, 4, 5, 7, 9] rfl)
          · replace hf := (if_neg c42).symm.trans hf
            refine lv_iconst (v := (1 : Int32)) hx hb dX9_tells_248 (by decide) ?_
            refine lv_iload hx hb dX9_tells_249 (lv_at hl 9 rfl) ?_
            refine lv_ishl hx hb dX9_tells_251 ?_
            refine lv_goto (tgt := 256) hx hb dX9_tells_252 (by decide) ?_
            exact j256 (y4) (y5) (y8) (y10) (y7) (((1 : Int32) <<< (y10 &&& 31))) q39.2 H locs ls hf hP hS (lv_sub hl [0, 1, 2, 3, 4, 5, 7, 9] rfl)
  have j200 : ∀ (y4 : Int32) (y5 : Int32) (z0 : Int32) (τ : Sm) (H : Heap) (locs : List Loc) (ls : Array Slot) (hf : f_X9_tells_200 x1 x2 x3 y4 y5 z0 τ = some (r, σ')) (hP : va_P Γ.1 vwCl (XM Γ τ) H) (hS : va_S (wA (alM Γ) s.heap.size) s.heap H locs) (hl : lv_has ls 11 [(0, .ref (Γ.2.2.1 (0))), (1, .int x1), (2, .int x2), (3, .int x3), (4, .int y4), (5, .int y5)]), W p l e { frames := 78, cells := 0, slots := 0, locals := 2935 } s m av.toArray below meth c H locs 0 0 (MQ below (wQi Γ.1 vwCl (tysC Γ) (XM Γ) (alM Γ) r σ' s.heap.size) av.toArray s 0 0 (wA (alM Γ) s.heap.size)) (F0 m 200 ls [.int z0]) := by
    intro y4 y5 z0 τ H locs ls hf hP hS hl
    unfold f_X9_tells_200 at hf
    refine lv_istore (lv' := [(6, .int z0), (0, .ref (Γ.2.2.1 (0))), (1, .int x1), (2, .int x2), (3, .int x3), (4, .int y4), (5, .int y5)]) hx hb dX9_tells_200 hl (by decide) rfl (fun ls hl => ?_)
    refine lv_iconst (v := (0 : Int32)) hx hb dX9_tells_202 (by decide) ?_
    refine lv_istore (lv' := [(7, .int (0 : Int32)), (6, .int z0), (0, .ref (Γ.2.2.1 (0))), (1, .int x1), (2, .int x2), (3, .int x3), (4, .int y4), (5, .int y5)]) hx hb dX9_tells_203 hl (by decide) rfl (fun ls hl => ?_)
    refine lv_iconst (v := (0 : Int32)) hx hb dX9_tells_205 (by decide) ?_
    refine lv_istore (lv' := [(8, .int (0 : Int32)), (7, .int (0 : Int32)), (6, .int z0), (0, .ref (Γ.2.2.1 (0))), (1, .int x1), (2, .int x2), (3, .int x3), (4, .int y4), (5, .int y5)]) hx hb dX9_tells_206 hl (by decide) rfl (fun ls hl => ?_)
    refine lv_iconst (v := (-1 : Int32)) hx hb dX9_tells_208 (by decide) ?_
    refine lv_istore (lv' := [(9, .int (-1 : Int32)), (8, .int (0 : Int32)), (7, .int (0 : Int32)), (6, .int z0), (0, .ref (Γ.2.2.1 (0))), (1, .int x1), (2, .int x2), (3, .int x3), (4, .int y4), (5, .int y5)]) hx hb dX9_tells_209 hl (by decide) rfl (fun ls hl => ?_)
    refine lv_iload hx hb dX9_tells_211 (lv_at hl 3 rfl) ?_
    refine lv_istore (lv' := [(10, .int z0), (9, .int (-1 : Int32)), (8, .int (0 : Int32)), (7, .int (0 : Int32)), (6, .int z0), (0, .ref (Γ.2.2.1 (0))), (1, .int x1), (2, .int x2), (3, .int x3), (4, .int y4), (5, .int y5)]) hx hb dX9_tells_213 hl (by decide) rfl (fun ls hl => ?_)
    exact j215 5000 (y4) (y5) ((0 : Int32)) ((0 : Int32)) ((-1 : Int32)) (z0) τ H locs ls hf hP hS (lv_sub hl [5, 6, 7, 8, 9, 10, 3, 2, 1, 0] rfl)
  have j147 : ∀ (y4 : Int32) (z0 : Int32) (τ : Sm) (H : Heap) (locs : List Loc) (ls : Array Slot) (hf : f_X9_tells_147 x1 x2 x3 y4 z0 τ = some (r, σ')) (hP : va_P Γ.1 vwCl (XM Γ τ) H) (hS : va_S (wA (alM Γ) s.heap.size) s.heap H locs) (hl : lv_has ls 11 [(0, .ref (Γ.2.2.1 (0))), (1, .int x1), (2, .int x2), (3, .int x3), (4, .int y4)]), W p l e { frames := 78, cells := 0, slots := 0, locals := 2935 } s m av.toArray below meth c H locs 0 0 (MQ below (wQi Γ.1 vwCl (tysC Γ) (XM Γ) (alM Γ) r σ' s.heap.size) av.toArray s 0 0 (wA (alM Γ) s.heap.size)) (F0 m 147 ls [.int z0]) := by
    intro y4 z0 τ H locs ls hf hP hS hl
    unfold f_X9_tells_147 at hf
    refine lv_istore (lv' := [(5, .int z0), (0, .ref (Γ.2.2.1 (0))), (1, .int x1), (2, .int x2), (3, .int x3), (4, .int y4)]) hx hb dX9_tells_147 hl (by decide) rfl (fun ls hl => ?_)
    refine lv_iload hx hb dX9_tells_149 (lv_at hl 5 rfl) ?_
    refine lv_bipush (v := (8 : Int32)) hx hb dX9_tells_151 (by decide) ?_
    refine lv_icmp_ne (tgt := 165) hx hb dX9_tells_153 (by decide) (fun c28 => ?_) (fun c28 => ?_)
    · replace hf := (if_neg c28).symm.trans hf
      refine lv_iload hx hb dX9_tells_165 (lv_at hl 5 rfl) ?_
      refine lv_bipush (v := (7 : Int32)) hx hb dX9_tells_167 (by decide) ?_
      refine lv_icmp_ne (tgt := 176) hx hb dX9_tells_169 (by decide) (fun c29 => ?_) (fun c29 => ?_)
      · replace hf := (if_neg c29).symm.trans hf
        refine lv_iload hx hb dX9_tells_176 (lv_at hl 5 rfl) ?_
        refine lv_iconst (v := (2 : Int32)) hx hb dX9_tells_178 (by decide) ?_
        refine lv_icmp_ne (tgt := 187) hx hb dX9_tells_179 (by decide) (fun c30 => ?_) (fun c30 => ?_)
        · replace hf := (if_neg c30).symm.trans hf
          refine lv_iload hx hb dX9_tells_187 (lv_at hl 5 rfl) ?_
          refine lv_iconst (v := (3 : Int32)) hx hb dX9_tells_189 (by decide) ?_
          refine lv_icmp_ne (tgt := 198) hx hb dX9_tells_190 (by decide) (fun c31 => ?_) (fun c31 => ?_)
          · replace hf := (if_neg c31).symm.trans hf
            refine lv_bipush (v := (23 : Int32)) hx hb dX9_tells_198 (by decide) ?_
            exact j200 (y4) (z0) ((23 : Int32)) τ H locs ls hf hP hS (lv_sub hl [1, 2, 3, 4, 5, 0] rfl)
          · replace hf := (if_pos c31).symm.trans hf
            refine lv_bipush (v := (99 : Int32)) hx hb dX9_tells_193 (by decide) ?_
            refine lv_goto (tgt := 200) hx hb dX9_tells_195 (by decide) ?_
            exact j200 (y4) (z0) ((99 : Int32)) τ H locs ls hf hP hS (lv_sub hl [1, 2, 3, 4, 5, 0] rfl)
        · replace hf := (if_pos c30).symm.trans hf
          refine lv_bipush (v := (9 : Int32)) hx hb dX9_tells_182 (by decide) ?_
          refine lv_goto (tgt := 200) hx hb dX9_tells_184 (by decide) ?_
          exact j200 (y4) (z0) ((9 : Int32)) τ H locs ls hf hP hS (lv_sub hl [1, 2, 3, 4, 5, 0] rfl)
      · replace hf := (if_pos c29).symm.trans hf
        refine lv_iconst (v := (5 : Int32)) hx hb dX9_tells_172 (by decide) ?_
        refine lv_goto (tgt := 200) hx hb dX9_tells_173 (by decide) ?_
        exact j200 (y4) (z0) ((5 : Int32)) τ H locs ls hf hP hS (lv_sub hl [1, 2, 3, 4, 5, 0] rfl)
    · replace hf := (if_pos c28).symm.trans hf
      refine lv_aload_n hx hb dX9_tells_156 rfl (lv_at hl 1 rfl) ?_
      refine va_get (D := Γ.1) (ci := 8) (v := .int (τ.1 (3) 0)) (C := RX9) (T := TX9) (N := 44) hx hb hts iX9 hown hK hP (0) (gM_Model Γ τ) rfl 3 (by decide) (hts (.fieldLink RX9 74 "OtherHalfOfNightModel" "textCount" "I") (wzm K128)) (fun _ h9 => h9) rfl dX9_tells_157 ?_
      refine lv_iconst (v := (1 : Int32)) hx hb dX9_tells_160 (by decide) ?_
      refine lv_isub hx hb dX9_tells_161 ?_
      refine lv_goto (tgt := 200) hx hb dX9_tells_162 (by decide) ?_
      exact j200 (y4) (z0) (((τ.1 (3) 0) - (1 : Int32))) τ H locs ls hf hP hS (lv_sub hl [1, 2, 3, 4, 5, 0] rfl)
  have j124 : ∀ (z0 : Int32) (τ : Sm) (H : Heap) (locs : List Loc) (ls : Array Slot) (hf : f_X9_tells_124 x1 x2 x3 z0 τ = some (r, σ')) (hP : va_P Γ.1 vwCl (XM Γ τ) H) (hS : va_S (wA (alM Γ) s.heap.size) s.heap H locs) (hl : lv_has ls 11 [(0, .ref (Γ.2.2.1 (0))), (1, .int x1), (2, .int x2), (3, .int x3)]), W p l e { frames := 78, cells := 0, slots := 0, locals := 2935 } s m av.toArray below meth c H locs 0 0 (MQ below (wQi Γ.1 vwCl (tysC Γ) (XM Γ) (alM Γ) r σ' s.heap.size) av.toArray s 0 0 (wA (alM Γ) s.heap.size)) (F0 m 124 ls [.int z0]) := by
    intro z0 τ H locs ls hf hP hS hl
    unfold f_X9_tells_124 at hf
    refine lv_istore (lv' := [(4, .int z0), (0, .ref (Γ.2.2.1 (0))), (1, .int x1), (2, .int x2), (3, .int x3)]) hx hb dX9_tells_124 hl (by decide) rfl (fun ls hl => ?_)
    refine lv_iload hx hb dX9_tells_126 (lv_at hl 0 rfl) ?_
    refine lv_bipush (v := (8 : Int32)) hx hb dX9_tells_128 (by decide) ?_
    refine lv_icmp_ne (tgt := 140) hx hb dX9_tells_130 (by decide) (fun c25 => ?_) (fun c25 => ?_)
    · replace hf := (if_neg c25).symm.trans hf
      refine lv_aload_n hx hb dX9_tells_140 rfl (lv_at hl 1 rfl) ?_
      refine lv_iload_n hx hb dX9_tells_141 rfl (lv_at hl 3 rfl) ?_
      refine lv_iload hx hb dX9_tells_142 (lv_at hl 0 rfl) ?_
      obtain ⟨q26, h27, hf⟩ := w_ob hf
      refine w_ci (va_runV (As := [.int x2, .int z0]) (rest := []) ⟨hx, hb, hml, hown, hts⟩ (c_X9_told l Γ hG x2 z0 τ q26.1 q26.2 h27 H.size) (cwV 2 hts (wzV K190 K187 K188 K189 K5) rfl rfl rfl (by decide +kernel) ⟨(Nat.le_of_ble_eq_true rfl), (Nat.le_of_ble_eq_true rfl)⟩) (w_preV hK hP hkc hN hS (gM_Model Γ τ) rfl) rfl rfl hl.1 rfl (lv_room (Nat.le_of_ble_eq_true rfl)) dX9_tells_144 ⟨Nat.le_refl _, Nat.le_refl _⟩) hS (fun H locs hP hS => ?_)
      exact j147 (z0) (q26.1) q26.2 H locs ls hf hP hS (lv_sub hl [1, 2, 3, 4, 0] rfl)
    · replace hf := (if_pos c25).symm.trans hf
      refine lv_aload_n hx hb dX9_tells_133 rfl (lv_at hl 1 rfl) ?_
      refine va_get (D := Γ.1) (ci := 8) (v := .int (τ.1 (4) 0)) (C := RX9) (T := TX9) (N := 44) hx hb hts iX9 hown hK hP (0) (gM_Model Γ τ) rfl 4 (by decide) (hts (.fieldLink RX9 117 "OtherHalfOfNightModel" "rule" "I") (wzm K212)) (fun _ h9 => h9) rfl dX9_tells_134 ?_
      refine lv_goto (tgt := 147) hx hb dX9_tells_137 (by decide) ?_
      exact j147 (z0) ((τ.1 (4) 0)) τ H locs ls hf hP hS (lv_sub hl [1, 2, 3, 4, 0] rfl)
  have j66 : ∀ (τ : Sm) (H : Heap) (locs : List Loc) (ls : Array Slot) (hf : f_X9_tells_66 x1 x2 x3 τ = some (r, σ')) (hP : va_P Γ.1 vwCl (XM Γ τ) H) (hS : va_S (wA (alM Γ) s.heap.size) s.heap H locs) (hl : lv_has ls 11 [(0, .ref (Γ.2.2.1 (0))), (1, .int x1), (2, .int x2), (3, .int x3)]), W p l e { frames := 78, cells := 0, slots := 0, locals := 2935 } s m av.toArray below meth c H locs 0 0 (MQ below (wQi Γ.1 vwCl (tysC Γ) (XM Γ) (alM Γ) r σ' s.heap.size) av.toArray s 0 0 (wA (alM Γ) s.heap.size)) (F0 m 66 ls []) := by
    intro τ H locs ls hf hP hS hl
    unfold f_X9_tells_66 at hf
    refine lv_iload_n hx hb dX9_tells_66 rfl (lv_at hl 3 rfl) ?_
    refine lv_if_ne (tgt := 79) hx hb dX9_tells_67 (by decide) (fun c20 => ?_) (fun c20 => ?_)
    · replace hf := (if_neg c20).symm.trans hf
      refine lv_aload_n hx hb dX9_tells_79 rfl (lv_at hl 0 rfl) ?_
      refine lv_iload_n hx hb dX9_tells_80 rfl (lv_at hl 1 rfl) ?_
      obtain ⟨q21, h22, hf⟩ := w_ob hf
      refine w_ci (va_runV (As := [.int x1]) (rest := []) ⟨hx, hb, hml, hown, hts⟩ (c_X9_likeSet l Γ hG x1 τ q21.1 q21.2 h22 H.size) (cwV 1 hts (wzV K903 K900 K901 K902 K5) rfl rfl rfl (by decide +kernel) ⟨(Nat.le_of_ble_eq_true rfl), (Nat.le_of_ble_eq_true rfl)⟩) (w_preV hK hP hkc hN hS (gM_Model Γ τ) rfl) rfl rfl hl.1 rfl (lv_room (Nat.le_of_ble_eq_true rfl)) dX9_tells_81 ⟨Nat.le_refl _, Nat.le_refl _⟩) hS (fun H locs hP hS => ?_)
      exact w_iret (X := XM Γ) hx hb hr hlocks hK hP hS rfl hf dX9_tells_84
    · replace hf := (if_pos c20).symm.trans hf
      refine lv_aload_n hx hb dX9_tells_70 rfl (lv_at hl 0 rfl) ?_
      refine lv_iload_n hx hb dX9_tells_71 rfl (lv_at hl 1 rfl) ?_
      refine lv_iload_n hx hb dX9_tells_72 rfl (lv_at hl 2 rfl) ?_
      obtain ⟨q23, h24, hf⟩ := w_ob hf
      refine w_ci (va_runV (As := [.int x1, .int x2]) (rest := []) ⟨hx, hb, hml, hown, hts⟩ (c_X9_firstOther l Γ hG x1 x2 τ q23.1 q23.2 h24 H.size) (cwV 2 hts (wzV K899 K896 K897 K898 K5) rfl rfl rfl (by decide +kernel) ⟨(Nat.le_of_ble_eq_true rfl), (Nat.le_of_ble_eq_true rfl)⟩) (w_preV hK hP hkc hN hS (gM_Model Γ τ) rfl) rfl rfl hl.1 rfl (lv_room (Nat.le_of_ble_eq_true rfl)) dX9_tells_73 ⟨Nat.le_refl _, Nat.le_refl _⟩) hS (fun H locs hP hS => ?_)
      refine lv_goto (tgt := 84) hx hb dX9_tells_76 (by decide) ?_
      exact w_iret (X := XM Γ) hx hb hr hlocks hK hP hS rfl hf dX9_tells_84
  suffices hw : ∀ (H : Heap) (locs : List Loc), va_P Γ.1 vwCl (XM Γ σ) H → va_S (wA (alM Γ) s.heap.size) s.heap H locs → W p l e { frames := 78, cells := 0, slots := 0, locals := 2935 } s m av.toArray below meth c H locs 0 0 (MQ below (wQi Γ.1 vwCl (tysC Γ) (XM Γ) (alM Γ) r σ' s.heap.size) av.toArray s 0 0 (wA (alM Γ) s.heap.size)) (F0 m 0 ls []) from hw _ [] hP va_S.rf
  clear hP
  intro H locs hP hS
  unfold f_X9_tells at hf
  refine lv_iload_n hx hb dX9_tells_0 rfl (lv_at hl 1 rfl) ?_
  obtain ⟨q1, h2, hf⟩ := w_ob hf
  refine w_ci (va_runS (As := [.int x1]) (rest := []) ⟨hx, hb, hml, hown, hts⟩ (c_X9_isSheet l Γ hG x1 σ q1.1 q1.2 h2 H.size) (cwS 1 hts (wzS K895 K893 K894 K5) rfl rfl rfl (by decide +kernel) ⟨(Nat.le_of_ble_eq_true rfl), (Nat.le_of_ble_eq_true rfl)⟩) (w_pre hK hP hkc hN hS) rfl rfl hl.1 rfl (lv_room (Nat.le_of_ble_eq_true rfl)) dX9_tells_1 ⟨Nat.le_refl _, Nat.le_refl _⟩) hS (fun H locs hP hS => ?_)
  refine lv_if_eq (tgt := 27) hx hb dX9_tells_4 (by decide) (fun c3 => ?_) (fun c3 => ?_)
  · replace hf := (if_pos c3).symm.trans hf
    refine lv_bipush (v := (-2 : Int32)) hx hb dX9_tells_27 (by decide) ?_
    exact w_iret (X := XM Γ) hx hb hr hlocks hK hP hS rfl hf dX9_tells_29
  · replace hf := (if_neg c3).symm.trans hf
    refine lv_aload_n hx hb dX9_tells_7 rfl (lv_at hl 0 rfl) ?_
    refine lv_iload_n hx hb dX9_tells_8 rfl (lv_at hl 2 rfl) ?_
    obtain ⟨q4, h5, hf⟩ := w_ob hf
    refine w_ci (va_runV (As := [.int x2]) (rest := []) ⟨hx, hb, hml, hown, hts⟩ (c_X9_isOne l Γ hG x2 q1.2 q4.1 q4.2 h5 H.size) (cwV 1 hts (wzV K182 K179 K180 K181 K5) rfl rfl rfl (by decide +kernel) ⟨(Nat.le_of_ble_eq_true rfl), (Nat.le_of_ble_eq_true rfl)⟩) (w_preV hK hP hkc hN hS (gM_Model Γ q1.2) rfl) rfl rfl hl.1 rfl (lv_room (Nat.le_of_ble_eq_true rfl)) dX9_tells_9 ⟨Nat.le_refl _, Nat.le_refl _⟩) hS (fun H locs hP hS => ?_)
    refine lv_if_eq (tgt := 27) hx hb dX9_tells_12 (by decide) (fun c6 => ?_) (fun c6 => ?_)
    · replace hf := (if_pos c6).symm.trans hf
      refine lv_bipush (v := (-2 : Int32)) hx hb dX9_tells_27 (by decide) ?_
      exact w_iret (X := XM Γ) hx hb hr hlocks hK hP hS rfl hf dX9_tells_29
    · replace hf := (if_neg c6).symm.trans hf
      refine lv_iload_n hx hb dX9_tells_15 rfl (lv_at hl 3 rfl) ?_
      refine lv_i2l (v := ((x3).toInt64)) hx hb dX9_tells_16 rfl ?_
      refine lv_lconst (v := (0 : Int64)) hx hb dX9_tells_17 (by decide) ?_
      refine lv_ldc2 (v := (7 : Int64)) hx hb hown (hts (.constantLong RX9 326 (7)) (wzm K892)) dX9_tells_18 ?_
      obtain ⟨q7, h8, hf⟩ := w_ob hf
      refine w_ci (va_runS (As := [.long ((x3).toInt64), .long (0 : Int64), .long (7 : Int64)]) (rest := []) ⟨hx, hb, hml, hown, hts⟩ (c_X9_in l Γ hG ((x3).toInt64) (0 : Int64) (7 : Int64) q4.2 q7.1 q7.2 h8 H.size) (cwS 3 hts (wzS K170 K168 K169 K5) rfl rfl rfl (by decide +kernel) ⟨(Nat.le_of_ble_eq_true rfl), (Nat.le_of_ble_eq_true rfl)⟩) (w_pre hK hP hkc hN hS) rfl rfl hl.1 rfl (lv_room (Nat.le_of_ble_eq_true rfl)) dX9_tells_21 ⟨Nat.le_refl _, Nat.le_refl _⟩) hS (fun H locs hP hS => ?_)
      refine lv_if_ne (tgt := 30) hx hb dX9_tells_24 (by decide) (fun c9 => ?_) (fun c9 => ?_)
      · replace hf := (if_neg c9).symm.trans hf
        refine lv_aload_n hx hb dX9_tells_30 rfl (lv_at hl 0 rfl) ?_
        refine va_get (D := Γ.1) (ci := 8) (v := .ref (Γ.2.2.1 (14))) (C := RX9) (T := TX9) (N := 44) hx hb hts iX9 hown hK hP (0) (gM_Model Γ q7.2) rfl 40 (by decide) (hts (.fieldLink RX9 57 "OtherHalfOfNightModel" "isThere" "[Z") (wzm K124)) (fun _ h9 => h9) rfl dX9_tells_31 ?_
        refine lv_iload_n hx hb dX9_tells_34 rfl (lv_at hl 1 rfl) ?_
        obtain ⟨g10, hf⟩ := w_oi hf
        refine va_zald (D := Γ.1) (tys := (tysC Γ)) hx hb hK hP (14) 2 (gM_M_isThere Γ q7.2) rfl g10 dX9_tells_35 ?_
        refine lv_if_ne (tgt := 42) hx hb dX9_tells_36 (by decide) (fun c11 => ?_) (fun c11 => ?_)
        · replace hf := (if_neg c11).symm.trans hf
          refine lv_aload_n hx hb dX9_tells_42 rfl (lv_at hl 0 rfl) ?_
          refine va_get (D := Γ.1) (ci := 8) (v := .ref (Γ.2.2.1 (16))) (C := RX9) (T := TX9) (N := 44) hx hb hts iX9 hown hK hP (0) (gM_Model Γ q7.2) rfl 42 (by decide) (hts (.fieldLink RX9 64 "OtherHalfOfNightModel" "sheetSize" "[I") (wzm K126)) (fun _ h9 => h9) rfl dX9_tells_43 ?_
          refine lv_iload_n hx hb dX9_tells_46 rfl (lv_at hl 1 rfl) ?_
          obtain ⟨g12, hf⟩ := w_oi hf
          refine va_iald (D := Γ.1) (tys := (tysC Γ)) hx hb hK hP (16) 0 (gM_M_sheetSize Γ q7.2) rfl g12 dX9_tells_47 ?_
          refine lv_bipush (v := (20 : Int32)) hx hb dX9_tells_48 (by decide) ?_
          refine lv_icmp_le (tgt := 56) hx hb dX9_tells_50 (by decide) (fun c13 => ?_) (fun c13 => ?_)
          · replace hf := (if_pos c13).symm.trans hf
            refine lv_iload_n hx hb dX9_tells_56 rfl (lv_at hl 3 rfl) ?_
            refine lv_if_eq (tgt := 66) hx hb dX9_tells_57 (by decide) (fun c14 => ?_) (fun c14 => ?_)
            · replace hf := (if_pos c14).symm.trans hf
              exact j66 q7.2 H locs ls hf hP hS (lv_sub hl [0, 1, 2, 3] rfl)
            · replace hf := (if_neg c14).symm.trans hf
              refine lv_iload_n hx hb dX9_tells_60 rfl (lv_at hl 3 rfl) ?_
              refine lv_bipush (v := (7 : Int32)) hx hb dX9_tells_61 (by decide) ?_
              refine lv_icmp_ne (tgt := 85) hx hb dX9_tells_63 (by decide) (fun c15 => ?_) (fun c15 => ?_)
              · replace hf := (if_neg c15).symm.trans hf
                refine lv_iload_n hx hb dX9_tells_85 rfl (lv_at hl 3 rfl) ?_
                refine lv_iconst (v := (1 : Int32)) hx hb dX9_tells_86 (by decide) ?_
                refine lv_icmp_ne (tgt := 95) hx hb dX9_tells_87 (by decide) (fun c16 => ?_) (fun c16 => ?_)
                · replace hf := (if_neg c16).symm.trans hf
                  refine lv_iload_n hx hb dX9_tells_95 rfl (lv_at hl 3 rfl) ?_
                  refine lv_iconst (v := (2 : Int32)) hx hb dX9_tells_96 (by decide) ?_
                  refine lv_icmp_ne (tgt := 104) hx hb dX9_tells_97 (by decide) (fun c17 => ?_) (fun c17 => ?_)
                  · replace hf := (if_neg c17).symm.trans hf
                    refine lv_iload_n hx hb dX9_tells_104 rfl (lv_at hl 3 rfl) ?_
                    refine lv_iconst (v := (5 : Int32)) hx hb dX9_tells_105 (by decide) ?_
                    refine lv_icmp_ge (tgt := 113) hx hb dX9_tells_106 (by decide) (fun c18 => ?_) (fun c18 => ?_)
                    · replace hf := (if_pos c18).symm.trans hf
                      refine lv_iload_n hx hb dX9_tells_113 rfl (lv_at hl 3 rfl) ?_
                      refine lv_iconst (v := (5 : Int32)) hx hb dX9_tells_114 (by decide) ?_
                      refine lv_icmp_ne (tgt := 122) hx hb dX9_tells_115 (by decide) (fun c19 => ?_) (fun c19 => ?_)
                      · replace hf := (if_neg c19).symm.trans hf
                        refine lv_bipush (v := (8 : Int32)) hx hb dX9_tells_122 (by decide) ?_
                        exact j124 ((8 : Int32)) q7.2 H locs ls hf hP hS (lv_sub hl [0, 1, 2, 3] rfl)
                      · replace hf := (if_pos c19).symm.trans hf
                        refine lv_iconst (v := (1 : Int32)) hx hb dX9_tells_118 (by decide) ?_
                        refine lv_goto (tgt := 124) hx hb dX9_tells_119 (by decide) ?_
                        exact j124 ((1 : Int32)) q7.2 H locs ls hf hP hS (lv_sub hl [0, 1, 2, 3] rfl)
                    · replace hf := (if_neg c18).symm.trans hf
                      refine lv_iconst (v := (3 : Int32)) hx hb dX9_tells_109 (by decide) ?_
                      refine lv_goto (tgt := 124) hx hb dX9_tells_110 (by decide) ?_
                      exact j124 ((3 : Int32)) q7.2 H locs ls hf hP hS (lv_sub hl [0, 1, 2, 3] rfl)
                  · replace hf := (if_pos c17).symm.trans hf
                    refine lv_iconst (v := (2 : Int32)) hx hb dX9_tells_100 (by decide) ?_
                    refine lv_goto (tgt := 124) hx hb dX9_tells_101 (by decide) ?_
                    exact j124 ((2 : Int32)) q7.2 H locs ls hf hP hS (lv_sub hl [0, 1, 2, 3] rfl)
                · replace hf := (if_pos c16).symm.trans hf
                  refine lv_bipush (v := (7 : Int32)) hx hb dX9_tells_90 (by decide) ?_
                  refine lv_goto (tgt := 124) hx hb dX9_tells_92 (by decide) ?_
                  exact j124 ((7 : Int32)) q7.2 H locs ls hf hP hS (lv_sub hl [0, 1, 2, 3] rfl)
              · replace hf := (if_pos c15).symm.trans hf
                exact j66 q7.2 H locs ls hf hP hS (lv_sub hl [0, 1, 2, 3] rfl)
          · replace hf := (if_neg c13).symm.trans hf
            refine lv_bipush (v := (-2 : Int32)) hx hb dX9_tells_53 (by decide) ?_
            exact w_iret (X := XM Γ) hx hb hr hlocks hK hP hS rfl hf dX9_tells_55
        · replace hf := (if_pos c11).symm.trans hf
          refine lv_bipush (v := (-11 : Int32)) hx hb dX9_tells_39 (by decide) ?_
          exact w_iret (X := XM Γ) hx hb hr hlocks hK hP hS rfl hf dX9_tells_41
      · replace hf := (if_pos c9).symm.trans hf
        refine lv_bipush (v := (-2 : Int32)) hx hb dX9_tells_27 (by decide) ?_
        exact w_iret (X := XM Γ) hx hb hr hlocks hK hP hS rfl hf dX9_tells_29
def f_X9_film_48 (x1 : Int32) (x2 : Int32) (x3 : Int32) : Nat → Int32 → Int32 → Sm → Option (Int32 × Sm)
  | 0, _, _, _ => none
  | n + 1, y4, y5, τ => if x3 ≤ y5 then (f_X9_laysBack τ).bind fun (q15 : Sm) => some (y4, q15) else (f_X9_yieldsOf x2 τ).bind fun (q17 : Int32 × Sm) => if okI (((40 : Int32) * x1) + y5) 160 then (f_X9_passes (upm q17.2 (43) ((((40 : Int32) * x1) + y5)).toNatClampNeg q17.1)).bind fun (q20 : Int32 × Sm) => (f_X9_film_48 x1 x2 x3 n) ((y4 + q17.1)) ((y5 + (1 : Int32))) q20.2 else none
def f_X9_film (x1 : Int32) (x2 : Int32) (x3 : Int32) (σ : Sm) : Option (Int32 × Sm) := (f_X9_isSheet x1 σ).bind fun (q1 : Int32 × Sm) => if q1.1 = 0 then some ((-2 : Int32), q1.2) else (f_X9_isOne x2 q1.2).bind fun (q4 : Int32 × Sm) => if q4.1 = 0 then some ((-2 : Int32), q4.2) else (f_X9_in ((x3).toInt64) (0 : Int64) (20 : Int64) q4.2).bind fun (q7 : Int32 × Sm) => if q7.1 = 0 then some ((-2 : Int32), q7.2) else (f_X9_sheet x1 (0 : Int32) x3 q7.2).bind fun (q10 : Int32 × Sm) => (f_X9_laysAside q10.2).bind fun (q12 : Sm) => f_X9_film_48 x1 x2 x3 5000 ((0 : Int32)) ((0 : Int32)) q12
set_option maxHeartbeats 40000000 in
set_option maxRecDepth 100000 in
theorem c_X9_film (l : Launch) (Γ : Geo) (hG : okM Γ) (x1 : Int32) (x2 : Int32) (x3 : Int32) (σ : Sm) (r : Int32) (σ' : Sm) (hf : f_X9_film x1 x2 x3 σ = some (r, σ')) (sz : Nat) : Met l yX9_film (wz yX9_film cX9_film 7 (some .int)) { frames := 76, cells := 0, slots := 0, locals := 2888 } (va_Pc [.ref (Γ.2.2.1 (0)), .int x1, .int x2, .int x3] (wPre Γ.1 vwCl (tysC Γ) (XM Γ) (alM Γ) Γ.2.2.2 σ sz)) (wQi Γ.1 vwCl (tysC Γ) (XM Γ) (alM Γ) r σ' sz) 0 0 (wA (alM Γ) sz) := by
  refine w_enter (cc := cX9_film) (maxL := 7) (ret := (some .int)) (by decide) rfl (Nat.le_of_ble_eq_true rfl) ?_
  intro p e s m below meth c ls hx hb hr hlocks hml hown hts hsz hP hK hkc hN hl
  subst hsz
  generalize hav : ([.ref (Γ.2.2.1 (0)), .int x1, .int x2, .int x3] : List Value) = av at hl hts ⊢
  have hl : lv_has ls 7 [(0, .ref (Γ.2.2.1 (0))), (1, .int x1), (2, .int x2), (3, .int x3)] := by rw [← hav] at hl; exact hl
  have j48 : ∀ (n48 : Nat), ∀ (y4 : Int32) (y5 : Int32) (τ : Sm) (H : Heap) (locs : List Loc) (ls : Array Slot) (hf : f_X9_film_48 x1 x2 x3 n48 y4 y5 τ = some (r, σ')) (hP : va_P Γ.1 vwCl (XM Γ τ) H) (hS : va_S (wA (alM Γ) s.heap.size) s.heap H locs) (hl : lv_has ls 7 [(0, .ref (Γ.2.2.1 (0))), (1, .int x1), (2, .int x2), (3, .int x3), (4, .int y4), (5, .int y5)]), W p l e { frames := 76, cells := 0, slots := 0, locals := 2888 } s m av.toArray below meth c H locs 0 0 (MQ below (wQi Γ.1 vwCl (tysC Γ) (XM Γ) (alM Γ) r σ' s.heap.size) av.toArray s 0 0 (wA (alM Γ) s.heap.size)) (F0 m 48 ls []) := by
    intro n48
    induction n48 with
    | zero =>
      intro y4 y5 τ H locs ls hf
      exact absurd hf (by intro h; cases h)
    | succ n48 ih48 =>
      intro y4 y5 τ H locs ls hf hP hS hl
      unfold f_X9_film_48 at hf
      refine lv_iload hx hb dX9_film_48 (lv_at hl 5 rfl) ?_
      refine lv_iload_n hx hb dX9_film_50 rfl (lv_at hl 3 rfl) ?_
      refine lv_icmp_ge (tgt := 93) hx hb dX9_film_51 (by decide) (fun c14 => ?_) (fun c14 => ?_)
      · replace hf := (if_pos c14).symm.trans hf
        refine lv_aload_n hx hb dX9_film_93 rfl (lv_at hl 0 rfl) ?_
        obtain ⟨q15, h16, hf⟩ := w_ob hf
        refine w_cv (va_runV (As := []) (rest := []) ⟨hx, hb, hml, hown, hts⟩ (c_X9_laysBack l Γ hG τ q15 h16 H.size) (cwV 0 hts (wzV K721 K718 K719 K720 K5) rfl rfl rfl (by decide +kernel) ⟨(Nat.le_of_ble_eq_true rfl), (Nat.le_of_ble_eq_true rfl)⟩) (w_preV hK hP hkc hN hS (gM_Model Γ τ) rfl) rfl rfl hl.1 rfl (lv_room (Nat.le_of_ble_eq_true rfl)) dX9_film_94 ⟨Nat.le_refl _, Nat.le_refl _⟩) hS (fun H locs hP hS => ?_)
        refine lv_iload hx hb dX9_film_97 (lv_at hl 4 rfl) ?_
        exact w_iret (X := XM Γ) hx hb hr hlocks hK hP hS rfl hf dX9_film_99
      · replace hf := (if_neg c14).symm.trans hf
        refine lv_aload_n hx hb dX9_film_54 rfl (lv_at hl 0 rfl) ?_
        refine lv_iload_n hx hb dX9_film_55 rfl (lv_at hl 2 rfl) ?_
        obtain ⟨q17, h18, hf⟩ := w_ob hf
        refine w_ci (va_runV (As := [.int x2]) (rest := []) ⟨hx, hb, hml, hown, hts⟩ (c_X9_yieldsOf l Γ hG x2 τ q17.1 q17.2 h18 H.size) (cwV 1 hts (wzV K197 K194 K195 K196 K5) rfl rfl rfl (by decide +kernel) ⟨(Nat.le_of_ble_eq_true rfl), (Nat.le_of_ble_eq_true rfl)⟩) (w_preV hK hP hkc hN hS (gM_Model Γ τ) rfl) rfl rfl hl.1 rfl (lv_room (Nat.le_of_ble_eq_true rfl)) dX9_film_56 ⟨Nat.le_refl _, Nat.le_refl _⟩) hS (fun H locs hP hS => ?_)
        refine lv_istore (lv' := [(6, .int q17.1), (0, .ref (Γ.2.2.1 (0))), (1, .int x1), (2, .int x2), (3, .int x3), (4, .int y4), (5, .int y5)]) hx hb dX9_film_59 hl (by decide) rfl (fun ls hl => ?_)
        refine lv_aload_n hx hb dX9_film_61 rfl (lv_at hl 1 rfl) ?_
        refine va_get (D := Γ.1) (ci := 8) (v := .ref (Γ.2.2.1 (17))) (C := RX9) (T := TX9) (N := 44) hx hb hts iX9 hown hK hP (0) (gM_Model Γ q17.2) rfl 43 (by decide) (hts (.fieldLink RX9 67 "OtherHalfOfNightModel" "items" "[I") (wzm K127)) (fun _ h9 => h9) rfl dX9_film_62 ?_
        refine lv_bipush (v := (40 : Int32)) hx hb dX9_film_65 (by decide) ?_
        refine lv_iload_n hx hb dX9_film_67 rfl (lv_at hl 2 rfl) ?_
        refine lv_imul hx hb dX9_film_68 ?_
        refine lv_iload hx hb dX9_film_69 (lv_at hl 6 rfl) ?_
        refine lv_iadd hx hb dX9_film_71 ?_
        refine lv_iload hx hb dX9_film_72 (lv_at hl 0 rfl) ?_
        obtain ⟨g19, hf⟩ := w_oi hf
        refine w_iast (D := Γ.1) (tys := (tysC Γ)) (X := XM Γ) (σ' := (upm q17.2 (43) ((((40 : Int32) * x1) + y5)).toNatClampNeg q17.1)) hx hb hK hP (halM Γ) hG hS (17) 0 (gM_M_items Γ q17.2) rfl g19 dX9_film_74 (sM_M_items Γ q17.2 ((((40 : Int32) * x1) + y5)).toNatClampNeg q17.1) (fun H locs hP hS => ?_)
        refine lv_iload hx hb dX9_film_75 (lv_at hl 5 rfl) ?_
        refine lv_iload hx hb dX9_film_77 (lv_at hl 0 rfl) ?_
        refine lv_iadd hx hb dX9_film_79 ?_
        refine lv_istore (lv' := [(4, .int (y4 + q17.1)), (6, .int q17.1), (0, .ref (Γ.2.2.1 (0))), (1, .int x1), (2, .int x2), (3, .int x3), (5, .int y5)]) hx hb dX9_film_80 hl (by decide) rfl (fun ls hl => ?_)
        refine lv_aload_n hx hb dX9_film_82 rfl (lv_at hl 2 rfl) ?_
        obtain ⟨q20, h21, hf⟩ := w_ob hf
        refine w_ci (va_runV (As := []) (rest := []) ⟨hx, hb, hml, hown, hts⟩ (c_X9_passes l Γ hG (upm q17.2 (43) ((((40 : Int32) * x1) + y5)).toNatClampNeg q17.1) q20.1 q20.2 h21 H.size) (cwV 0 hts (wzV K676 K673 K674 K675 K5) rfl rfl rfl (by decide +kernel) ⟨(Nat.le_of_ble_eq_true rfl), (Nat.le_of_ble_eq_true rfl)⟩) (w_preV hK hP hkc hN hS (gM_Model Γ (upm q17.2 (43) ((((40 : Int32) * x1) + y5)).toNatClampNeg q17.1)) rfl) rfl rfl hl.1 rfl (lv_room (Nat.le_of_ble_eq_true rfl)) dX9_film_83 ⟨Nat.le_refl _, Nat.le_refl _⟩) hS (fun H locs hP hS => ?_)
        refine lv_pop hx hb dX9_film_86 rfl ?_
        refine lv_iinc (v := (y5 + (1 : Int32))) (lv' := [(5, .int (y5 + (1 : Int32))), (4, .int (y4 + q17.1)), (6, .int q17.1), (0, .ref (Γ.2.2.1 (0))), (1, .int x1), (2, .int x2), (3, .int x3)]) hx hb dX9_film_87 hl (k := 6) rfl rfl (by decide) rfl (fun ls hl => ?_)
        refine lv_goto (tgt := 48) hx hb dX9_film_90 (by decide) ?_
        exact ih48 ((y4 + q17.1)) ((y5 + (1 : Int32))) q20.2 H locs ls hf hP hS (lv_sub hl [3, 4, 5, 6, 1, 0] rfl)
  suffices hw : ∀ (H : Heap) (locs : List Loc), va_P Γ.1 vwCl (XM Γ σ) H → va_S (wA (alM Γ) s.heap.size) s.heap H locs → W p l e { frames := 76, cells := 0, slots := 0, locals := 2888 } s m av.toArray below meth c H locs 0 0 (MQ below (wQi Γ.1 vwCl (tysC Γ) (XM Γ) (alM Γ) r σ' s.heap.size) av.toArray s 0 0 (wA (alM Γ) s.heap.size)) (F0 m 0 ls []) from hw _ [] hP va_S.rf
  clear hP
  intro H locs hP hS
  unfold f_X9_film at hf
  refine lv_iload_n hx hb dX9_film_0 rfl (lv_at hl 1 rfl) ?_
  obtain ⟨q1, h2, hf⟩ := w_ob hf
  refine w_ci (va_runS (As := [.int x1]) (rest := []) ⟨hx, hb, hml, hown, hts⟩ (c_X9_isSheet l Γ hG x1 σ q1.1 q1.2 h2 H.size) (cwS 1 hts (wzS K895 K893 K894 K5) rfl rfl rfl (by decide +kernel) ⟨(Nat.le_of_ble_eq_true rfl), (Nat.le_of_ble_eq_true rfl)⟩) (w_pre hK hP hkc hN hS) rfl rfl hl.1 rfl (lv_room (Nat.le_of_ble_eq_true rfl)) dX9_film_1 ⟨Nat.le_refl _, Nat.le_refl _⟩) hS (fun H locs hP hS => ?_)
  refine lv_if_eq (tgt := 27) hx hb dX9_film_4 (by decide) (fun c3 => ?_) (fun c3 => ?_)
  · replace hf := (if_pos c3).symm.trans hf
    refine lv_bipush (v := (-2 : Int32)) hx hb dX9_film_27 (by decide) ?_
    exact w_iret (X := XM Γ) hx hb hr hlocks hK hP hS rfl hf dX9_film_29
  · replace hf := (if_neg c3).symm.trans hf
    refine lv_aload_n hx hb dX9_film_7 rfl (lv_at hl 0 rfl) ?_
    refine lv_iload_n hx hb dX9_film_8 rfl (lv_at hl 2 rfl) ?_
    obtain ⟨q4, h5, hf⟩ := w_ob hf
    refine w_ci (va_runV (As := [.int x2]) (rest := []) ⟨hx, hb, hml, hown, hts⟩ (c_X9_isOne l Γ hG x2 q1.2 q4.1 q4.2 h5 H.size) (cwV 1 hts (wzV K182 K179 K180 K181 K5) rfl rfl rfl (by decide +kernel) ⟨(Nat.le_of_ble_eq_true rfl), (Nat.le_of_ble_eq_true rfl)⟩) (w_preV hK hP hkc hN hS (gM_Model Γ q1.2) rfl) rfl rfl hl.1 rfl (lv_room (Nat.le_of_ble_eq_true rfl)) dX9_film_9 ⟨Nat.le_refl _, Nat.le_refl _⟩) hS (fun H locs hP hS => ?_)
    refine lv_if_eq (tgt := 27) hx hb dX9_film_12 (by decide) (fun c6 => ?_) (fun c6 => ?_)
    · replace hf := (if_pos c6).symm.trans hf
      refine lv_bipush (v := (-2 : Int32)) hx hb dX9_film_27 (by decide) ?_
      exact w_iret (X := XM Γ) hx hb hr hlocks hK hP hS rfl hf dX9_film_29
    · replace hf := (if_neg c6).symm.trans hf
      refine lv_iload_n hx hb dX9_film_15 rfl (lv_at hl 3 rfl) ?_
      refine lv_i2l (v := ((x3).toInt64)) hx hb dX9_film_16 rfl ?_
      refine lv_lconst (v := (0 : Int64)) hx hb dX9_film_17 (by decide) ?_
      refine lv_ldc2 (v := (20 : Int64)) hx hb hown (hts (.constantLong RX9 331 (20)) (wzm K927)) dX9_film_18 ?_
      obtain ⟨q7, h8, hf⟩ := w_ob hf
      refine w_ci (va_runS (As := [.long ((x3).toInt64), .long (0 : Int64), .long (20 : Int64)]) (rest := []) ⟨hx, hb, hml, hown, hts⟩ (c_X9_in l Γ hG ((x3).toInt64) (0 : Int64) (20 : Int64) q4.2 q7.1 q7.2 h8 H.size) (cwS 3 hts (wzS K170 K168 K169 K5) rfl rfl rfl (by decide +kernel) ⟨(Nat.le_of_ble_eq_true rfl), (Nat.le_of_ble_eq_true rfl)⟩) (w_pre hK hP hkc hN hS) rfl rfl hl.1 rfl (lv_room (Nat.le_of_ble_eq_true rfl)) dX9_film_21 ⟨Nat.le_refl _, Nat.le_refl _⟩) hS (fun H locs hP hS => ?_)
      refine lv_if_ne (tgt := 30) hx hb dX9_film_24 (by decide) (fun c9 => ?_) (fun c9 => ?_)
      · replace hf := (if_neg c9).symm.trans hf
        refine lv_aload_n hx hb dX9_film_30 rfl (lv_at hl 0 rfl) ?_
        refine lv_iload_n hx hb dX9_film_31 rfl (lv_at hl 1 rfl) ?_
        refine lv_iconst (v := (0 : Int32)) hx hb dX9_film_32 (by decide) ?_
        refine lv_iload_n hx hb dX9_film_33 rfl (lv_at hl 3 rfl) ?_
        obtain ⟨q10, h11, hf⟩ := w_ob hf
        refine w_ci (va_runV (As := [.int x1, .int (0 : Int32), .int x3]) (rest := []) ⟨hx, hb, hml, hown, hts⟩ (c_X9_sheet l Γ hG x1 (0 : Int32) x3 q7.2 q10.1 q10.2 h11 H.size) (cwV 3 hts (wzV K931 K928 K929 K930 K5) rfl rfl rfl (by decide +kernel) ⟨(Nat.le_of_ble_eq_true rfl), (Nat.le_of_ble_eq_true rfl)⟩) (w_preV hK hP hkc hN hS (gM_Model Γ q7.2) rfl) rfl rfl hl.1 rfl (lv_room (Nat.le_of_ble_eq_true rfl)) dX9_film_34 ⟨Nat.le_refl _, Nat.le_refl _⟩) hS (fun H locs hP hS => ?_)
        refine lv_pop hx hb dX9_film_37 rfl ?_
        refine lv_aload_n hx hb dX9_film_38 rfl (lv_at hl 0 rfl) ?_
        obtain ⟨q12, h13, hf⟩ := w_ob hf
        refine w_cv (va_runV (As := []) (rest := []) ⟨hx, hb, hml, hown, hts⟩ (c_X9_laysAside l Γ hG q10.2 q12 h13 H.size) (cwV 0 hts (wzV K717 K714 K715 K716 K5) rfl rfl rfl (by decide +kernel) ⟨(Nat.le_of_ble_eq_true rfl), (Nat.le_of_ble_eq_true rfl)⟩) (w_preV hK hP hkc hN hS (gM_Model Γ q10.2) rfl) rfl rfl hl.1 rfl (lv_room (Nat.le_of_ble_eq_true rfl)) dX9_film_39 ⟨Nat.le_refl _, Nat.le_refl _⟩) hS (fun H locs hP hS => ?_)
        refine lv_iconst (v := (0 : Int32)) hx hb dX9_film_42 (by decide) ?_
        refine lv_istore (lv' := [(4, .int (0 : Int32)), (0, .ref (Γ.2.2.1 (0))), (1, .int x1), (2, .int x2), (3, .int x3)]) hx hb dX9_film_43 hl (by decide) rfl (fun ls hl => ?_)
        refine lv_iconst (v := (0 : Int32)) hx hb dX9_film_45 (by decide) ?_
        refine lv_istore (lv' := [(5, .int (0 : Int32)), (4, .int (0 : Int32)), (0, .ref (Γ.2.2.1 (0))), (1, .int x1), (2, .int x2), (3, .int x3)]) hx hb dX9_film_46 hl (by decide) rfl (fun ls hl => ?_)
        exact j48 5000 ((0 : Int32)) ((0 : Int32)) q12 H locs ls hf hP hS (lv_sub hl [2, 3, 4, 5, 1, 0] rfl)
      · replace hf := (if_pos c9).symm.trans hf
        refine lv_bipush (v := (-2 : Int32)) hx hb dX9_film_27 (by decide) ?_
        exact w_iret (X := XM Γ) hx hb hr hlocks hK hP hS rfl hf dX9_film_29
def f_X9_pouredDrawn_53 (k12 : Int32 → Int32 → Int32 → Sm → Option (Int32 × Sm)) (x1 : Int32) (x2 : Int32) (y3 : Int32) (y4 : Int32) (y5 : Int32) (τ : Sm) : Option (Int32 × Sm) := (f_X9_passes τ).bind fun (q13 : Int32 × Sm) => k12 (y3) ((y4 + q13.1)) ((y5 + (1 : Int32))) q13.2
def f_X9_pouredDrawn_12 (x1 : Int32) (x2 : Int32) : Nat → Int32 → Int32 → Int32 → Sm → Option (Int32 × Sm)
  | 0, _, _, _, _ => none
  | n + 1, y3, y4, y5, τ => if x2 ≤ y5 then (f_X9_laysBack τ).bind fun (q4 : Sm) => some (y4, q4) else (some ((w_ushr ((y3 * (1103515245 : Int32)) + (12345 : Int32)) (9 : Int32)) - (w_ushr ((y3 * (1103515245 : Int32)) + (12345 : Int32)) (9 : Int32)) / (8 : Int32) * (8 : Int32))).bind fun (v6 : Int32) => (f_X9_isOne v6 τ).bind fun (q8 : Int32 × Sm) => if q8.1 = 0 then f_X9_pouredDrawn_53 (f_X9_pouredDrawn_12 x1 x2 n) x1 x2 (((y3 * (1103515245 : Int32)) + (12345 : Int32))) (y4) (y5) q8.2 else (f_X9_tells1 v6 q8.2).bind fun (q11 : Int32 × Sm) => f_X9_pouredDrawn_53 (f_X9_pouredDrawn_12 x1 x2 n) x1 x2 (((y3 * (1103515245 : Int32)) + (12345 : Int32))) (y4) (y5) q11.2
def f_X9_pouredDrawn (x1 : Int32) (x2 : Int32) (σ : Sm) : Option (Int32 × Sm) := (f_X9_laysAside σ).bind fun (q1 : Sm) => f_X9_pouredDrawn_12 x1 x2 5000 (x1) ((0 : Int32)) ((0 : Int32)) q1
set_option maxHeartbeats 40000000 in
set_option maxRecDepth 100000 in
theorem c_X9_pouredDrawn (l : Launch) (Γ : Geo) (hG : okM Γ) (x1 : Int32) (x2 : Int32) (σ : Sm) (r : Int32) (σ' : Sm) (hf : f_X9_pouredDrawn x1 x2 σ = some (r, σ')) (sz : Nat) : Met l yX9_pouredDrawn (wz yX9_pouredDrawn cX9_pouredDrawn 7 (some .int)) { frames := 76, cells := 0, slots := 0, locals := 2888 } (va_Pc [.ref (Γ.2.2.1 (0)), .int x1, .int x2] (wPre Γ.1 vwCl (tysC Γ) (XM Γ) (alM Γ) Γ.2.2.2 σ sz)) (wQi Γ.1 vwCl (tysC Γ) (XM Γ) (alM Γ) r σ' sz) 0 0 (wA (alM Γ) sz) := by
  refine w_enter (cc := cX9_pouredDrawn) (maxL := 7) (ret := (some .int)) (by decide) rfl (Nat.le_of_ble_eq_true rfl) ?_
  intro p e s m below meth c ls hx hb hr hlocks hml hown hts hsz hP hK hkc hN hl
  subst hsz
  generalize hav : ([.ref (Γ.2.2.1 (0)), .int x1, .int x2] : List Value) = av at hl hts ⊢
  have hl : lv_has ls 7 [(0, .ref (Γ.2.2.1 (0))), (1, .int x1), (2, .int x2)] := by rw [← hav] at hl; exact hl
  have j12 : ∀ (n12 : Nat), ∀ (y3 : Int32) (y4 : Int32) (y5 : Int32) (τ : Sm) (H : Heap) (locs : List Loc) (ls : Array Slot) (hf : f_X9_pouredDrawn_12 x1 x2 n12 y3 y4 y5 τ = some (r, σ')) (hP : va_P Γ.1 vwCl (XM Γ τ) H) (hS : va_S (wA (alM Γ) s.heap.size) s.heap H locs) (hl : lv_has ls 7 [(0, .ref (Γ.2.2.1 (0))), (2, .int x2), (3, .int y3), (4, .int y4), (5, .int y5)]), W p l e { frames := 76, cells := 0, slots := 0, locals := 2888 } s m av.toArray below meth c H locs 0 0 (MQ below (wQi Γ.1 vwCl (tysC Γ) (XM Γ) (alM Γ) r σ' s.heap.size) av.toArray s 0 0 (wA (alM Γ) s.heap.size)) (F0 m 12 ls []) := by
    intro n12
    induction n12 with
    | zero =>
      intro y3 y4 y5 τ H locs ls hf
      exact absurd hf (by intro h; cases h)
    | succ n12 ih12 =>
      have j53 : ∀ (y3 : Int32) (y4 : Int32) (y5 : Int32) (τ : Sm) (H : Heap) (locs : List Loc) (ls : Array Slot) (hf : f_X9_pouredDrawn_53 (f_X9_pouredDrawn_12 x1 x2 n12) x1 x2 y3 y4 y5 τ = some (r, σ')) (hP : va_P Γ.1 vwCl (XM Γ τ) H) (hS : va_S (wA (alM Γ) s.heap.size) s.heap H locs) (hl : lv_has ls 7 [(0, .ref (Γ.2.2.1 (0))), (2, .int x2), (3, .int y3), (4, .int y4), (5, .int y5)]), W p l e { frames := 76, cells := 0, slots := 0, locals := 2888 } s m av.toArray below meth c H locs 0 0 (MQ below (wQi Γ.1 vwCl (tysC Γ) (XM Γ) (alM Γ) r σ' s.heap.size) av.toArray s 0 0 (wA (alM Γ) s.heap.size)) (F0 m 53 ls []) := by
        intro y3 y4 y5 τ H locs ls hf hP hS hl
        unfold f_X9_pouredDrawn_53 at hf
        refine lv_iload hx hb dX9_pouredDrawn_53 (lv_at hl 3 rfl) ?_
        refine lv_aload_n hx hb dX9_pouredDrawn_55 rfl (lv_at hl 0 rfl) ?_
        obtain ⟨q13, h14, hf⟩ := w_ob hf
        refine w_ci (va_runV (As := []) (rest := [.int y4]) ⟨hx, hb, hml, hown, hts⟩ (c_X9_passes l Γ hG τ q13.1 q13.2 h14 H.size) (cwV 0 hts (wzV K676 K673 K674 K675 K5) rfl rfl rfl (by decide +kernel) ⟨(Nat.le_of_ble_eq_true rfl), (Nat.le_of_ble_eq_true rfl)⟩) (w_preV hK hP hkc hN hS (gM_Model Γ τ) rfl) rfl rfl hl.1 rfl (lv_room (Nat.le_of_ble_eq_true rfl)) dX9_pouredDrawn_56 ⟨Nat.le_refl _, Nat.le_refl _⟩) hS (fun H locs hP hS => ?_)
        refine lv_iadd hx hb dX9_pouredDrawn_59 ?_
        refine lv_istore (lv' := [(4, .int (y4 + q13.1)), (0, .ref (Γ.2.2.1 (0))), (2, .int x2), (3, .int y3), (5, .int y5)]) hx hb dX9_pouredDrawn_60 hl (by decide) rfl (fun ls hl => ?_)
        refine lv_iinc (v := (y5 + (1 : Int32))) (lv' := [(5, .int (y5 + (1 : Int32))), (4, .int (y4 + q13.1)), (0, .ref (Γ.2.2.1 (0))), (2, .int x2), (3, .int y3)]) hx hb dX9_pouredDrawn_62 hl (k := 4) rfl rfl (by decide) rfl (fun ls hl => ?_)
        refine lv_goto (tgt := 12) hx hb dX9_pouredDrawn_65 (by decide) ?_
        exact ih12 (y3) ((y4 + q13.1)) ((y5 + (1 : Int32))) q13.2 H locs ls hf hP hS (lv_sub hl [2, 3, 4, 1, 0] rfl)
      intro y3 y4 y5 τ H locs ls hf hP hS hl
      unfold f_X9_pouredDrawn_12 at hf
      refine lv_iload hx hb dX9_pouredDrawn_12 (lv_at hl 4 rfl) ?_
      refine lv_iload_n hx hb dX9_pouredDrawn_14 rfl (lv_at hl 1 rfl) ?_
      refine lv_icmp_ge (tgt := 68) hx hb dX9_pouredDrawn_15 (by decide) (fun c3 => ?_) (fun c3 => ?_)
      · replace hf := (if_pos c3).symm.trans hf
        refine lv_aload_n hx hb dX9_pouredDrawn_68 rfl (lv_at hl 0 rfl) ?_
        obtain ⟨q4, h5, hf⟩ := w_ob hf
        refine w_cv (va_runV (As := []) (rest := []) ⟨hx, hb, hml, hown, hts⟩ (c_X9_laysBack l Γ hG τ q4 h5 H.size) (cwV 0 hts (wzV K721 K718 K719 K720 K5) rfl rfl rfl (by decide +kernel) ⟨(Nat.le_of_ble_eq_true rfl), (Nat.le_of_ble_eq_true rfl)⟩) (w_preV hK hP hkc hN hS (gM_Model Γ τ) rfl) rfl rfl hl.1 rfl (lv_room (Nat.le_of_ble_eq_true rfl)) dX9_pouredDrawn_69 ⟨Nat.le_refl _, Nat.le_refl _⟩) hS (fun H locs hP hS => ?_)
        refine lv_iload hx hb dX9_pouredDrawn_72 (lv_at hl 3 rfl) ?_
        exact w_iret (X := XM Γ) hx hb hr hlocks hK hP hS rfl hf dX9_pouredDrawn_74
      · replace hf := (if_neg c3).symm.trans hf
        refine lv_iload_n hx hb dX9_pouredDrawn_18 rfl (lv_at hl 2 rfl) ?_
        refine lv_ldcw (v := (1103515245 : Int32)) hx hb hown (hts (.constant RX9 336 (1103515245)) (wzm K950)) dX9_pouredDrawn_19 ?_
        refine lv_imul hx hb dX9_pouredDrawn_22 ?_
        refine lv_sipush (v := (12345 : Int32)) hx hb dX9_pouredDrawn_23 (by decide) ?_
        refine lv_iadd hx hb dX9_pouredDrawn_26 ?_
        refine lv_istore_n (lv' := [(3, .int ((y3 * (1103515245 : Int32)) + (12345 : Int32))), (0, .ref (Γ.2.2.1 (0))), (2, .int x2), (4, .int y4), (5, .int y5)]) hx hb dX9_pouredDrawn_27 rfl hl (by decide) rfl (fun ls hl => ?_)
        refine lv_iload_n hx hb dX9_pouredDrawn_28 rfl (lv_at hl 0 rfl) ?_
        refine lv_bipush (v := (9 : Int32)) hx hb dX9_pouredDrawn_29 (by decide) ?_
        refine lv_iushr (v := (w_ushr ((y3 * (1103515245 : Int32)) + (12345 : Int32)) (9 : Int32))) hx hb dX9_pouredDrawn_31 rfl ?_
        refine lv_bipush (v := (8 : Int32)) hx hb dX9_pouredDrawn_32 (by decide) ?_
        refine lv_irem hx hb dX9_pouredDrawn_34 (by decide) ?_
        obtain ⟨v6, e7, hf⟩ := w_ob hf
        replace e7 := Option.some.inj e7
        rw [e7]
        refine lv_istore (lv' := [(6, .int v6), (3, .int ((y3 * (1103515245 : Int32)) + (12345 : Int32))), (0, .ref (Γ.2.2.1 (0))), (2, .int x2), (4, .int y4), (5, .int y5)]) hx hb dX9_pouredDrawn_35 hl (by decide) rfl (fun ls hl => ?_)
        refine lv_aload_n hx hb dX9_pouredDrawn_37 rfl (lv_at hl 2 rfl) ?_
        refine lv_iload hx hb dX9_pouredDrawn_38 (lv_at hl 0 rfl) ?_
        obtain ⟨q8, h9, hf⟩ := w_ob hf
        refine w_ci (va_runV (As := [.int v6]) (rest := []) ⟨hx, hb, hml, hown, hts⟩ (c_X9_isOne l Γ hG v6 τ q8.1 q8.2 h9 H.size) (cwV 1 hts (wzV K182 K179 K180 K181 K5) rfl rfl rfl (by decide +kernel) ⟨(Nat.le_of_ble_eq_true rfl), (Nat.le_of_ble_eq_true rfl)⟩) (w_preV hK hP hkc hN hS (gM_Model Γ τ) rfl) rfl rfl hl.1 rfl (lv_room (Nat.le_of_ble_eq_true rfl)) dX9_pouredDrawn_40 ⟨Nat.le_refl _, Nat.le_refl _⟩) hS (fun H locs hP hS => ?_)
        refine lv_if_eq (tgt := 53) hx hb dX9_pouredDrawn_43 (by decide) (fun c10 => ?_) (fun c10 => ?_)
        · replace hf := (if_pos c10).symm.trans hf
          exact j53 (((y3 * (1103515245 : Int32)) + (12345 : Int32))) (y4) (y5) q8.2 H locs ls hf hP hS (lv_sub hl [2, 3, 1, 4, 5] rfl)
        · replace hf := (if_neg c10).symm.trans hf
          refine lv_aload_n hx hb dX9_pouredDrawn_46 rfl (lv_at hl 2 rfl) ?_
          refine lv_iload hx hb dX9_pouredDrawn_47 (lv_at hl 0 rfl) ?_
          obtain ⟨q11, h12, hf⟩ := w_ob hf
          refine w_ci (va_runV (As := [.int v6]) (rest := []) ⟨hx, hb, hml, hown, hts⟩ (c_X9_tells1 l Γ hG v6 q8.2 q11.1 q11.2 h12 H.size) (cwV 1 hts (wzV K693 K690 K691 K692 K5) rfl rfl rfl (by decide +kernel) ⟨(Nat.le_of_ble_eq_true rfl), (Nat.le_of_ble_eq_true rfl)⟩) (w_preV hK hP hkc hN hS (gM_Model Γ q8.2) rfl) rfl rfl hl.1 rfl (lv_room (Nat.le_of_ble_eq_true rfl)) dX9_pouredDrawn_49 ⟨Nat.le_refl _, Nat.le_refl _⟩) hS (fun H locs hP hS => ?_)
          refine lv_pop hx hb dX9_pouredDrawn_52 rfl ?_
          exact j53 (((y3 * (1103515245 : Int32)) + (12345 : Int32))) (y4) (y5) q11.2 H locs ls hf hP hS (lv_sub hl [2, 3, 1, 4, 5] rfl)
  suffices hw : ∀ (H : Heap) (locs : List Loc), va_P Γ.1 vwCl (XM Γ σ) H → va_S (wA (alM Γ) s.heap.size) s.heap H locs → W p l e { frames := 76, cells := 0, slots := 0, locals := 2888 } s m av.toArray below meth c H locs 0 0 (MQ below (wQi Γ.1 vwCl (tysC Γ) (XM Γ) (alM Γ) r σ' s.heap.size) av.toArray s 0 0 (wA (alM Γ) s.heap.size)) (F0 m 0 ls []) from hw _ [] hP va_S.rf
  clear hP
  intro H locs hP hS
  unfold f_X9_pouredDrawn at hf
  refine lv_aload_n hx hb dX9_pouredDrawn_0 rfl (lv_at hl 0 rfl) ?_
  obtain ⟨q1, h2, hf⟩ := w_ob hf
  refine w_cv (va_runV (As := []) (rest := []) ⟨hx, hb, hml, hown, hts⟩ (c_X9_laysAside l Γ hG σ q1 h2 H.size) (cwV 0 hts (wzV K717 K714 K715 K716 K5) rfl rfl rfl (by decide +kernel) ⟨(Nat.le_of_ble_eq_true rfl), (Nat.le_of_ble_eq_true rfl)⟩) (w_preV hK hP hkc hN hS (gM_Model Γ σ) rfl) rfl rfl hl.1 rfl (lv_room (Nat.le_of_ble_eq_true rfl)) dX9_pouredDrawn_1 ⟨Nat.le_refl _, Nat.le_refl _⟩) hS (fun H locs hP hS => ?_)
  refine lv_iload_n hx hb dX9_pouredDrawn_4 rfl (lv_at hl 1 rfl) ?_
  refine lv_istore_n (lv' := [(3, .int x1), (0, .ref (Γ.2.2.1 (0))), (1, .int x1), (2, .int x2)]) hx hb dX9_pouredDrawn_5 rfl hl (by decide) rfl (fun ls hl => ?_)
  refine lv_iconst (v := (0 : Int32)) hx hb dX9_pouredDrawn_6 (by decide) ?_
  refine lv_istore (lv' := [(4, .int (0 : Int32)), (3, .int x1), (0, .ref (Γ.2.2.1 (0))), (1, .int x1), (2, .int x2)]) hx hb dX9_pouredDrawn_7 hl (by decide) rfl (fun ls hl => ?_)
  refine lv_iconst (v := (0 : Int32)) hx hb dX9_pouredDrawn_9 (by decide) ?_
  refine lv_istore (lv' := [(5, .int (0 : Int32)), (4, .int (0 : Int32)), (3, .int x1), (0, .ref (Γ.2.2.1 (0))), (1, .int x1), (2, .int x2)]) hx hb dX9_pouredDrawn_10 hl (by decide) rfl (fun ls hl => ?_)
  exact j12 5000 (x1) ((0 : Int32)) ((0 : Int32)) q1 H locs ls hf hP hS (lv_sub hl [3, 5, 2, 1, 0] rfl)
def f_X9_drawn (x1 : Int32) (x2 : Int32) (σ : Sm) : Option (Int32 × Sm) := (f_X9_in ((x2).toInt64) (0 : Int64) (40 : Int64) σ).bind fun (q1 : Int32 × Sm) => if q1.1 = 0 then some ((-2 : Int32), q1.2) else (f_X9_pouredDrawn x1 x2 q1.2).bind fun (q4 : Int32 × Sm) => some (q4.1, q4.2)
set_option maxHeartbeats 40000000 in
set_option maxRecDepth 100000 in
theorem c_X9_drawn (l : Launch) (Γ : Geo) (hG : okM Γ) (x1 : Int32) (x2 : Int32) (σ : Sm) (r : Int32) (σ' : Sm) (hf : f_X9_drawn x1 x2 σ = some (r, σ')) (sz : Nat) : Met l yX9_drawn (wz yX9_drawn cX9_drawn 3 (some .int)) { frames := 77, cells := 0, slots := 0, locals := 2914 } (va_Pc [.ref (Γ.2.2.1 (0)), .int x1, .int x2] (wPre Γ.1 vwCl (tysC Γ) (XM Γ) (alM Γ) Γ.2.2.2 σ sz)) (wQi Γ.1 vwCl (tysC Γ) (XM Γ) (alM Γ) r σ' sz) 0 0 (wA (alM Γ) sz) := by
  refine w_enter (cc := cX9_drawn) (maxL := 3) (ret := (some .int)) (by decide) rfl (Nat.le_of_ble_eq_true rfl) ?_
  intro p e s m below meth c ls hx hb hr hlocks hml hown hts hsz hP hK hkc hN hl
  subst hsz
  generalize hav : ([.ref (Γ.2.2.1 (0)), .int x1, .int x2] : List Value) = av at hl hts ⊢
  have hl : lv_has ls 3 [(0, .ref (Γ.2.2.1 (0))), (1, .int x1), (2, .int x2)] := by rw [← hav] at hl; exact hl
  suffices hw : ∀ (H : Heap) (locs : List Loc), va_P Γ.1 vwCl (XM Γ σ) H → va_S (wA (alM Γ) s.heap.size) s.heap H locs → W p l e { frames := 77, cells := 0, slots := 0, locals := 2914 } s m av.toArray below meth c H locs 0 0 (MQ below (wQi Γ.1 vwCl (tysC Γ) (XM Γ) (alM Γ) r σ' s.heap.size) av.toArray s 0 0 (wA (alM Γ) s.heap.size)) (F0 m 0 ls []) from hw _ [] hP va_S.rf
  clear hP
  intro H locs hP hS
  unfold f_X9_drawn at hf
  refine lv_iload_n hx hb dX9_drawn_0 rfl (lv_at hl 2 rfl) ?_
  refine lv_i2l (v := ((x2).toInt64)) hx hb dX9_drawn_1 rfl ?_
  refine lv_lconst (v := (0 : Int64)) hx hb dX9_drawn_2 (by decide) ?_
  refine lv_ldc2 (v := (40 : Int64)) hx hb hown (hts (.constantLong RX9 284 (40)) (wzm K712)) dX9_drawn_3 ?_
  obtain ⟨q1, h2, hf⟩ := w_ob hf
  refine w_ci (va_runS (As := [.long ((x2).toInt64), .long (0 : Int64), .long (40 : Int64)]) (rest := []) ⟨hx, hb, hml, hown, hts⟩ (c_X9_in l Γ hG ((x2).toInt64) (0 : Int64) (40 : Int64) σ q1.1 q1.2 h2 H.size) (cwS 3 hts (wzS K170 K168 K169 K5) rfl rfl rfl (by decide +kernel) ⟨(Nat.le_of_ble_eq_true rfl), (Nat.le_of_ble_eq_true rfl)⟩) (w_pre hK hP hkc hN hS) rfl rfl hl.1 rfl (lv_room (Nat.le_of_ble_eq_true rfl)) dX9_drawn_6 ⟨Nat.le_refl _, Nat.le_refl _⟩) hS (fun H locs hP hS => ?_)
  refine lv_if_eq (tgt := 21) hx hb dX9_drawn_9 (by decide) (fun c3 => ?_) (fun c3 => ?_)
  · replace hf := (if_pos c3).symm.trans hf
    refine lv_bipush (v := (-2 : Int32)) hx hb dX9_drawn_21 (by decide) ?_
    exact w_iret (X := XM Γ) hx hb hr hlocks hK hP hS rfl hf dX9_drawn_23
  · replace hf := (if_neg c3).symm.trans hf
    refine lv_aload_n hx hb dX9_drawn_12 rfl (lv_at hl 0 rfl) ?_
    refine lv_iload_n hx hb dX9_drawn_13 rfl (lv_at hl 1 rfl) ?_
    refine lv_iload_n hx hb dX9_drawn_14 rfl (lv_at hl 2 rfl) ?_
    obtain ⟨q4, h5, hf⟩ := w_ob hf
    refine w_ci (va_runV (As := [.int x1, .int x2]) (rest := []) ⟨hx, hb, hml, hown, hts⟩ (c_X9_pouredDrawn l Γ hG x1 x2 q1.2 q4.1 q4.2 h5 H.size) (cwV 2 hts (wzV K949 K946 K947 K948 K5) rfl rfl rfl (by decide +kernel) ⟨(Nat.le_of_ble_eq_true rfl), (Nat.le_of_ble_eq_true rfl)⟩) (w_preV hK hP hkc hN hS (gM_Model Γ q1.2) rfl) rfl rfl hl.1 rfl (lv_room (Nat.le_of_ble_eq_true rfl)) dX9_drawn_15 ⟨Nat.le_refl _, Nat.le_refl _⟩) hS (fun H locs hP hS => ?_)
    refine lv_goto (tgt := 23) hx hb dX9_drawn_18 (by decide) ?_
    exact w_iret (X := XM Γ) hx hb hr hlocks hK hP hS rfl hf dX9_drawn_23
def f_X9_chance_45 (x1 : Int32) (x2 : Int32) (x3 : Int32) (x4 : Int32) : Nat → Int64 → Int32 → Sm → Option (Int64 × Sm)
  | 0, _, _, _ => none
  | n + 1, y5, y7, τ => if x2 ≤ y7 then (f_X9_lowest y5 ((x2).toInt64) x4 τ).bind fun (q11 : Int64 × Sm) => some (q11.1, q11.2) else (f_X9_pouredDrawn (x1 + y7) (6 : Int32) τ).bind fun (q13 : Int32 × Sm) => if q13.1 < x3 then (f_X9_chance_45 x1 x2 x3 x4 n) ((y5 + (0 : Int64))) ((y7 + (1 : Int32))) q13.2 else (f_X9_chance_45 x1 x2 x3 x4 n) ((y5 + (1 : Int64))) ((y7 + (1 : Int32))) q13.2
def f_X9_chance (x1 : Int32) (x2 : Int32) (x3 : Int32) (x4 : Int32) (σ : Sm) : Option (Int64 × Sm) := (f_X9_in ((x2).toInt64) (1 : Int64) (20 : Int64) σ).bind fun (q1 : Int32 × Sm) => if q1.1 = 0 then some ((-4611686018427387904 : Int64), q1.2) else (f_X9_in ((x3).toInt64) (0 : Int64) (9999 : Int64) q1.2).bind fun (q4 : Int32 × Sm) => if q4.1 = 0 then some ((-4611686018427387904 : Int64), q4.2) else (f_X9_in ((x4).toInt64) (0 : Int64) (1 : Int64) q4.2).bind fun (q7 : Int32 × Sm) => if q7.1 = 0 then some ((-4611686018427387904 : Int64), q7.2) else f_X9_chance_45 x1 x2 x3 x4 5000 ((0 : Int64)) ((0 : Int32)) q7.2
set_option maxHeartbeats 40000000 in
set_option maxRecDepth 100000 in
theorem c_X9_chance (l : Launch) (Γ : Geo) (hG : okM Γ) (x1 : Int32) (x2 : Int32) (x3 : Int32) (x4 : Int32) (σ : Sm) (r : Int64) (σ' : Sm) (hf : f_X9_chance x1 x2 x3 x4 σ = some (r, σ')) (sz : Nat) : Met l yX9_chance (wz yX9_chance cX9_chance 8 (some .long)) { frames := 77, cells := 0, slots := 0, locals := 2914 } (va_Pc [.ref (Γ.2.2.1 (0)), .int x1, .int x2, .int x3, .int x4] (wPre Γ.1 vwCl (tysC Γ) (XM Γ) (alM Γ) Γ.2.2.2 σ sz)) (wQl Γ.1 vwCl (tysC Γ) (XM Γ) (alM Γ) r σ' sz) 0 0 (wA (alM Γ) sz) := by
  refine w_enter (cc := cX9_chance) (maxL := 8) (ret := (some .long)) (by decide) rfl (Nat.le_of_ble_eq_true rfl) ?_
  intro p e s m below meth c ls hx hb hr hlocks hml hown hts hsz hP hK hkc hN hl
  subst hsz
  generalize hav : ([.ref (Γ.2.2.1 (0)), .int x1, .int x2, .int x3, .int x4] : List Value) = av at hl hts ⊢
  have hl : lv_has ls 8 [(0, .ref (Γ.2.2.1 (0))), (1, .int x1), (2, .int x2), (3, .int x3), (4, .int x4)] := by rw [← hav] at hl; exact hl
  have j45 : ∀ (n45 : Nat), ∀ (y5 : Int64) (y7 : Int32) (τ : Sm) (H : Heap) (locs : List Loc) (ls : Array Slot) (hf : f_X9_chance_45 x1 x2 x3 x4 n45 y5 y7 τ = some (r, σ')) (hP : va_P Γ.1 vwCl (XM Γ τ) H) (hS : va_S (wA (alM Γ) s.heap.size) s.heap H locs) (hl : lv_has ls 8 [(0, .ref (Γ.2.2.1 (0))), (1, .int x1), (2, .int x2), (3, .int x3), (4, .int x4), (5, .long y5), (7, .int y7)]), W p l e { frames := 77, cells := 0, slots := 0, locals := 2914 } s m av.toArray below meth c H locs 0 0 (MQ below (wQl Γ.1 vwCl (tysC Γ) (XM Γ) (alM Γ) r σ' s.heap.size) av.toArray s 0 0 (wA (alM Γ) s.heap.size)) (F0 m 45 ls []) := by
    intro n45
    induction n45 with
    | zero =>
      intro y5 y7 τ H locs ls hf
      exact absurd hf (by intro h; cases h)
    | succ n45 ih45 =>
      intro y5 y7 τ H locs ls hf hP hS hl
      unfold f_X9_chance_45 at hf
      refine lv_iload hx hb dX9_chance_45 (lv_at hl 6 rfl) ?_
      refine lv_iload_n hx hb dX9_chance_47 rfl (lv_at hl 2 rfl) ?_
      refine lv_icmp_ge (tgt := 81) hx hb dX9_chance_48 (by decide) (fun c10 => ?_) (fun c10 => ?_)
      · replace hf := (if_pos c10).symm.trans hf
        refine lv_lload hx hb dX9_chance_81 (lv_at hl 5 rfl) ?_
        refine lv_iload_n hx hb dX9_chance_83 rfl (lv_at hl 2 rfl) ?_
        refine lv_i2l (v := ((x2).toInt64)) hx hb dX9_chance_84 rfl ?_
        refine lv_iload hx hb dX9_chance_85 (lv_at hl 4 rfl) ?_
        obtain ⟨q11, h12, hf⟩ := w_ob hf
        refine w_cl (va_runS (As := [.long y5, .long ((x2).toInt64), .int x4]) (rest := []) ⟨hx, hb, hml, hown, hts⟩ (c_X9_lowest l Γ hG y5 ((x2).toInt64) x4 τ q11.1 q11.2 h12 H.size) (cwS 3 hts (wzS K845 K843 K844 K5) rfl rfl rfl (by decide +kernel) ⟨(Nat.le_of_ble_eq_true rfl), (Nat.le_of_ble_eq_true rfl)⟩) (w_pre hK hP hkc hN hS) rfl rfl hl.1 rfl (lv_room (Nat.le_of_ble_eq_true rfl)) dX9_chance_87 ⟨Nat.le_refl _, Nat.le_refl _⟩) hS (fun H locs hP hS => ?_)
        exact w_lret (X := XM Γ) hx hb hr hlocks hK hP hS hf dX9_chance_90
      · replace hf := (if_neg c10).symm.trans hf
        refine lv_lload hx hb dX9_chance_51 (lv_at hl 5 rfl) ?_
        refine lv_aload_n hx hb dX9_chance_53 rfl (lv_at hl 0 rfl) ?_
        refine lv_iload_n hx hb dX9_chance_54 rfl (lv_at hl 1 rfl) ?_
        refine lv_iload hx hb dX9_chance_55 (lv_at hl 6 rfl) ?_
        refine lv_iadd hx hb dX9_chance_57 ?_
        refine lv_bipush (v := (6 : Int32)) hx hb dX9_chance_58 (by decide) ?_
        obtain ⟨q13, h14, hf⟩ := w_ob hf
        refine w_ci (va_runV (As := [.int (x1 + y7), .int (6 : Int32)]) (rest := [.long y5]) ⟨hx, hb, hml, hown, hts⟩ (c_X9_pouredDrawn l Γ hG (x1 + y7) (6 : Int32) τ q13.1 q13.2 h14 H.size) (cwV 2 hts (wzV K949 K946 K947 K948 K5) rfl rfl rfl (by decide +kernel) ⟨(Nat.le_of_ble_eq_true rfl), (Nat.le_of_ble_eq_true rfl)⟩) (w_preV hK hP hkc hN hS (gM_Model Γ τ) rfl) rfl rfl hl.1 rfl (lv_room (Nat.le_of_ble_eq_true rfl)) dX9_chance_60 ⟨Nat.le_refl _, Nat.le_refl _⟩) hS (fun H locs hP hS => ?_)
        refine lv_iload_n hx hb dX9_chance_63 rfl (lv_at hl 3 rfl) ?_
        refine lv_icmp_lt (tgt := 71) hx hb dX9_chance_64 (by decide) (fun c15 => ?_) (fun c15 => ?_)
        · replace hf := (if_pos c15).symm.trans hf
          refine lv_lconst (v := (0 : Int64)) hx hb dX9_chance_71 (by decide) ?_
          refine lv_ladd hx hb dX9_chance_72 ?_
          refine lv_lstore (lv' := [(5, .long (y5 + (0 : Int64))), (0, .ref (Γ.2.2.1 (0))), (1, .int x1), (2, .int x2), (3, .int x3), (4, .int x4), (7, .int y7)]) hx hb dX9_chance_73 hl (by decide) rfl (fun ls hl => ?_)
          refine lv_iinc (v := (y7 + (1 : Int32))) (lv' := [(7, .int (y7 + (1 : Int32))), (5, .long (y5 + (0 : Int64))), (0, .ref (Γ.2.2.1 (0))), (1, .int x1), (2, .int x2), (3, .int x3), (4, .int x4)]) hx hb dX9_chance_75 hl (k := 6) rfl rfl (by decide) rfl (fun ls hl => ?_)
          refine lv_goto (tgt := 45) hx hb dX9_chance_78 (by decide) ?_
          exact ih45 ((y5 + (0 : Int64))) ((y7 + (1 : Int32))) q13.2 H locs ls hf hP hS (lv_sub hl [2, 3, 4, 5, 6, 1, 0] rfl)
        · replace hf := (if_neg c15).symm.trans hf
          refine lv_lconst (v := (1 : Int64)) hx hb dX9_chance_67 (by decide) ?_
          refine lv_goto (tgt := 72) hx hb dX9_chance_68 (by decide) ?_
          refine lv_ladd hx hb dX9_chance_72 ?_
          refine lv_lstore (lv' := [(5, .long (y5 + (1 : Int64))), (0, .ref (Γ.2.2.1 (0))), (1, .int x1), (2, .int x2), (3, .int x3), (4, .int x4), (7, .int y7)]) hx hb dX9_chance_73 hl (by decide) rfl (fun ls hl => ?_)
          refine lv_iinc (v := (y7 + (1 : Int32))) (lv' := [(7, .int (y7 + (1 : Int32))), (5, .long (y5 + (1 : Int64))), (0, .ref (Γ.2.2.1 (0))), (1, .int x1), (2, .int x2), (3, .int x3), (4, .int x4)]) hx hb dX9_chance_75 hl (k := 6) rfl rfl (by decide) rfl (fun ls hl => ?_)
          refine lv_goto (tgt := 45) hx hb dX9_chance_78 (by decide) ?_
          exact ih45 ((y5 + (1 : Int64))) ((y7 + (1 : Int32))) q13.2 H locs ls hf hP hS (lv_sub hl [2, 3, 4, 5, 6, 1, 0] rfl)
  suffices hw : ∀ (H : Heap) (locs : List Loc), va_P Γ.1 vwCl (XM Γ σ) H → va_S (wA (alM Γ) s.heap.size) s.heap H locs → W p l e { frames := 77, cells := 0, slots := 0, locals := 2914 } s m av.toArray below meth c H locs 0 0 (MQ below (wQl Γ.1 vwCl (tysC Γ) (XM Γ) (alM Γ) r σ' s.heap.size) av.toArray s 0 0 (wA (alM Γ) s.heap.size)) (F0 m 0 ls []) from hw _ [] hP va_S.rf
  clear hP
  intro H locs hP hS
  unfold f_X9_chance at hf
  refine lv_iload_n hx hb dX9_chance_0 rfl (lv_at hl 2 rfl) ?_
  refine lv_i2l (v := ((x2).toInt64)) hx hb dX9_chance_1 rfl ?_
  refine lv_lconst (v := (1 : Int64)) hx hb dX9_chance_2 (by decide) ?_
  refine lv_ldc2 (v := (20 : Int64)) hx hb hown (hts (.constantLong RX9 331 (20)) (wzm K927)) dX9_chance_3 ?_
  obtain ⟨q1, h2, hf⟩ := w_ob hf
  refine w_ci (va_runS (As := [.long ((x2).toInt64), .long (1 : Int64), .long (20 : Int64)]) (rest := []) ⟨hx, hb, hml, hown, hts⟩ (c_X9_in l Γ hG ((x2).toInt64) (1 : Int64) (20 : Int64) σ q1.1 q1.2 h2 H.size) (cwS 3 hts (wzS K170 K168 K169 K5) rfl rfl rfl (by decide +kernel) ⟨(Nat.le_of_ble_eq_true rfl), (Nat.le_of_ble_eq_true rfl)⟩) (w_pre hK hP hkc hN hS) rfl rfl hl.1 rfl (lv_room (Nat.le_of_ble_eq_true rfl)) dX9_chance_6 ⟨Nat.le_refl _, Nat.le_refl _⟩) hS (fun H locs hP hS => ?_)
  refine lv_if_eq (tgt := 35) hx hb dX9_chance_9 (by decide) (fun c3 => ?_) (fun c3 => ?_)
  · replace hf := (if_pos c3).symm.trans hf
    refine lv_ldc2 (v := (-4611686018427387904 : Int64)) hx hb hown (hts (.constantLong RX9 314 (-4611686018427387904)) (wzm K842)) dX9_chance_35 ?_
    exact w_lret (X := XM Γ) hx hb hr hlocks hK hP hS hf dX9_chance_38
  · replace hf := (if_neg c3).symm.trans hf
    refine lv_iload_n hx hb dX9_chance_12 rfl (lv_at hl 3 rfl) ?_
    refine lv_i2l (v := ((x3).toInt64)) hx hb dX9_chance_13 rfl ?_
    refine lv_lconst (v := (0 : Int64)) hx hb dX9_chance_14 (by decide) ?_
    refine lv_ldc2 (v := (9999 : Int64)) hx hb hown (hts (.constantLong RX9 340 (9999)) (wzm K959)) dX9_chance_15 ?_
    obtain ⟨q4, h5, hf⟩ := w_ob hf
    refine w_ci (va_runS (As := [.long ((x3).toInt64), .long (0 : Int64), .long (9999 : Int64)]) (rest := []) ⟨hx, hb, hml, hown, hts⟩ (c_X9_in l Γ hG ((x3).toInt64) (0 : Int64) (9999 : Int64) q1.2 q4.1 q4.2 h5 H.size) (cwS 3 hts (wzS K170 K168 K169 K5) rfl rfl rfl (by decide +kernel) ⟨(Nat.le_of_ble_eq_true rfl), (Nat.le_of_ble_eq_true rfl)⟩) (w_pre hK hP hkc hN hS) rfl rfl hl.1 rfl (lv_room (Nat.le_of_ble_eq_true rfl)) dX9_chance_18 ⟨Nat.le_refl _, Nat.le_refl _⟩) hS (fun H locs hP hS => ?_)
    refine lv_if_eq (tgt := 35) hx hb dX9_chance_21 (by decide) (fun c6 => ?_) (fun c6 => ?_)
    · replace hf := (if_pos c6).symm.trans hf
      refine lv_ldc2 (v := (-4611686018427387904 : Int64)) hx hb hown (hts (.constantLong RX9 314 (-4611686018427387904)) (wzm K842)) dX9_chance_35 ?_
      exact w_lret (X := XM Γ) hx hb hr hlocks hK hP hS hf dX9_chance_38
    · replace hf := (if_neg c6).symm.trans hf
      refine lv_iload hx hb dX9_chance_24 (lv_at hl 4 rfl) ?_
      refine lv_i2l (v := ((x4).toInt64)) hx hb dX9_chance_26 rfl ?_
      refine lv_lconst (v := (0 : Int64)) hx hb dX9_chance_27 (by decide) ?_
      refine lv_lconst (v := (1 : Int64)) hx hb dX9_chance_28 (by decide) ?_
      obtain ⟨q7, h8, hf⟩ := w_ob hf
      refine w_ci (va_runS (As := [.long ((x4).toInt64), .long (0 : Int64), .long (1 : Int64)]) (rest := []) ⟨hx, hb, hml, hown, hts⟩ (c_X9_in l Γ hG ((x4).toInt64) (0 : Int64) (1 : Int64) q4.2 q7.1 q7.2 h8 H.size) (cwS 3 hts (wzS K170 K168 K169 K5) rfl rfl rfl (by decide +kernel) ⟨(Nat.le_of_ble_eq_true rfl), (Nat.le_of_ble_eq_true rfl)⟩) (w_pre hK hP hkc hN hS) rfl rfl hl.1 rfl (lv_room (Nat.le_of_ble_eq_true rfl)) dX9_chance_29 ⟨Nat.le_refl _, Nat.le_refl _⟩) hS (fun H locs hP hS => ?_)
      refine lv_if_ne (tgt := 39) hx hb dX9_chance_32 (by decide) (fun c9 => ?_) (fun c9 => ?_)
      · replace hf := (if_neg c9).symm.trans hf
        refine lv_lconst (v := (0 : Int64)) hx hb dX9_chance_39 (by decide) ?_
        refine lv_lstore (lv' := [(5, .long (0 : Int64)), (0, .ref (Γ.2.2.1 (0))), (1, .int x1), (2, .int x2), (3, .int x3), (4, .int x4)]) hx hb dX9_chance_40 hl (by decide) rfl (fun ls hl => ?_)
        refine lv_iconst (v := (0 : Int32)) hx hb dX9_chance_42 (by decide) ?_
        refine lv_istore (lv' := [(7, .int (0 : Int32)), (5, .long (0 : Int64)), (0, .ref (Γ.2.2.1 (0))), (1, .int x1), (2, .int x2), (3, .int x3), (4, .int x4)]) hx hb dX9_chance_43 hl (by decide) rfl (fun ls hl => ?_)
        exact j45 5000 ((0 : Int64)) ((0 : Int32)) q7.2 H locs ls hf hP hS (lv_sub hl [2, 3, 4, 5, 6, 1, 0] rfl)
      · replace hf := (if_pos c9).symm.trans hf
        refine lv_ldc2 (v := (-4611686018427387904 : Int64)) hx hb hown (hts (.constantLong RX9 314 (-4611686018427387904)) (wzm K842)) dX9_chance_35 ?_
        exact w_lret (X := XM Γ) hx hb hr hlocks hK hP hS hf dX9_chance_38
def f_X9_image_28 : Nat → Int32 → Sm → Option (Int32 × Sm)
  | 0, _, _ => none
  | n + 1, y1, τ => if (18 : Int32) ≤ y1 then (some (upm (upm (upm τ (36) 0 (τ.1 (12) 0)) (37) 0 ((upm τ (36) 0 (τ.1 (12) 0)).1 (7) 0)) (38) 0 ((upm (upm τ (36) 0 (τ.1 (12) 0)) (37) 0 ((upm τ (36) 0 (τ.1 (12) 0)).1 (7) 0)).1 (8) 0))).bind fun (τ5 : Sm) => some (((upm τ5 (39) 0 (τ5.1 (4) 0)).1 (12) 0), (upm τ5 (39) 0 (τ5.1 (4) 0))) else if okI y1 18 then if okI y1 18 then (f_X9_image_28 n) ((y1 + (1 : Int32))) (upm τ (35) (y1).toNatClampNeg (τ.1 (11) (y1).toNatClampNeg)) else none else none
def f_X9_image_2 : Nat → Int32 → Sm → Option (Int32 × Sm)
  | 0, _, _ => none
  | n + 1, y1, τ => if (15 : Int32) ≤ y1 then f_X9_image_28 5000 ((0 : Int32)) τ else if okI y1 15 then if okI y1 15 then (f_X9_image_2 n) ((y1 + (1 : Int32))) (upm τ (34) (y1).toNatClampNeg (τ.1 (10) (y1).toNatClampNeg)) else none else none
def f_X9_image (σ : Sm) : Option (Int32 × Sm) := f_X9_image_2 5000 ((0 : Int32)) σ
set_option maxHeartbeats 40000000 in
set_option maxRecDepth 100000 in
theorem c_X9_image (l : Launch) (Γ : Geo) (hG : okM Γ) (σ : Sm) (r : Int32) (σ' : Sm) (hf : f_X9_image σ = some (r, σ')) (sz : Nat) : Met l yX9_image (wz yX9_image cX9_image 2 (some .int)) { frames := 0, cells := 0, slots := 0, locals := 0 } (va_Pc [.ref (Γ.2.2.1 (0))] (wPre Γ.1 vwCl (tysC Γ) (XM Γ) (alM Γ) Γ.2.2.2 σ sz)) (wQi Γ.1 vwCl (tysC Γ) (XM Γ) (alM Γ) r σ' sz) 0 0 (wA (alM Γ) sz) := by
  refine w_enter (cc := cX9_image) (maxL := 2) (ret := (some .int)) (by decide) rfl (Nat.le_of_ble_eq_true rfl) ?_
  intro p e s m below meth c ls hx hb hr hlocks hml hown hts hsz hP hK hkc hN hl
  subst hsz
  generalize hav : ([.ref (Γ.2.2.1 (0))] : List Value) = av at hl hts ⊢
  have hl : lv_has ls 2 [(0, .ref (Γ.2.2.1 (0)))] := by rw [← hav] at hl; exact hl
  have j28 : ∀ (n28 : Nat), ∀ (y1 : Int32) (τ : Sm) (H : Heap) (locs : List Loc) (ls : Array Slot) (hf : f_X9_image_28 n28 y1 τ = some (r, σ')) (hP : va_P Γ.1 vwCl (XM Γ τ) H) (hS : va_S (wA (alM Γ) s.heap.size) s.heap H locs) (hl : lv_has ls 2 [(0, .ref (Γ.2.2.1 (0))), (1, .int y1)]), W p l e { frames := 0, cells := 0, slots := 0, locals := 0 } s m av.toArray below meth c H locs 0 0 (MQ below (wQi Γ.1 vwCl (tysC Γ) (XM Γ) (alM Γ) r σ' s.heap.size) av.toArray s 0 0 (wA (alM Γ) s.heap.size)) (F0 m 28 ls []) := by
    intro n28
    induction n28 with
    | zero =>
      intro y1 τ H locs ls hf
      exact absurd hf (by intro h; cases h)
    | succ n28 ih28 =>
      intro y1 τ H locs ls hf hP hS hl
      unfold f_X9_image_28 at hf
      refine lv_iload_n hx hb dX9_image_28 rfl (lv_at hl 1 rfl) ?_
      refine lv_bipush (v := (18 : Int32)) hx hb dX9_image_29 (by decide) ?_
      refine lv_icmp_ge (tgt := 52) hx hb dX9_image_31 (by decide) (fun c4 => ?_) (fun c4 => ?_)
      · replace hf := (if_pos c4).symm.trans hf
        refine lv_aload_n hx hb dX9_image_52 rfl (lv_at hl 0 rfl) ?_
        refine lv_aload_n hx hb dX9_image_53 rfl (lv_at hl 0 rfl) ?_
        refine va_get (D := Γ.1) (ci := 8) (v := .int (τ.1 (12) 0)) (C := RX9) (T := TX9) (N := 44) hx hb hts iX9 hown hK hP (0) (gM_Model Γ τ) rfl 12 (by decide) (hts (.fieldLink RX9 77 "OtherHalfOfNightModel" "many" "I") (wzm K183)) (fun _ h9 => h9) rfl dX9_image_54 ?_
        refine w_put (X := XM Γ) (σ' := (upm τ (36) 0 (τ.1 (12) 0))) (ci := 8) (C := RX9) (T := TX9) (N := 44) (ty := .int) hx hb hts iX9 tyX9 tyX9_ok nmX9 hown hK hP (halM Γ) hG hS (0) (gM_Model Γ τ) rfl 36 (by decide) (hts (.fieldLink RX9 54 "OtherHalfOfNightModel" "manyKept" "I") (wzm K122)) (fun _ h9 => h9) rfl (by decide +kernel) rfl rfl (Nat.le_of_ble_eq_true rfl) dX9_image_57 (sM_Model_manyKept Γ τ (τ.1 (12) 0)) (fun H locs hP hS => ?_)
        refine lv_aload_n hx hb dX9_image_60 rfl (lv_at hl 0 rfl) ?_
        refine lv_aload_n hx hb dX9_image_61 rfl (lv_at hl 0 rfl) ?_
        refine va_get (D := Γ.1) (ci := 8) (v := .int ((upm τ (36) 0 (τ.1 (12) 0)).1 (7) 0)) (C := RX9) (T := TX9) (N := 44) hx hb hts iX9 hown hK hP (0) (gM_Model Γ (upm τ (36) 0 (τ.1 (12) 0))) rfl 7 (by decide) (hts (.fieldLink RX9 111 "OtherHalfOfNightModel" "nightNow" "I") (wzm K192)) (fun _ h9 => h9) rfl dX9_image_62 ?_
        refine w_put (X := XM Γ) (σ' := (upm (upm τ (36) 0 (τ.1 (12) 0)) (37) 0 ((upm τ (36) 0 (τ.1 (12) 0)).1 (7) 0))) (ci := 8) (C := RX9) (T := TX9) (N := 44) (ty := .int) hx hb hts iX9 tyX9 tyX9_ok nmX9 hown hK hP (halM Γ) hG hS (0) (gM_Model Γ (upm τ (36) 0 (τ.1 (12) 0))) rfl 37 (by decide) (hts (.fieldLink RX9 342 "OtherHalfOfNightModel" "nightKept" "I") (wzm K969)) (fun _ h9 => h9) rfl (by decide +kernel) rfl rfl (Nat.le_of_ble_eq_true rfl) dX9_image_65 (sM_Model_nightKept Γ (upm τ (36) 0 (τ.1 (12) 0)) ((upm τ (36) 0 (τ.1 (12) 0)).1 (7) 0)) (fun H locs hP hS => ?_)
        refine lv_aload_n hx hb dX9_image_68 rfl (lv_at hl 0 rfl) ?_
        refine lv_aload_n hx hb dX9_image_69 rfl (lv_at hl 0 rfl) ?_
        refine va_get (D := Γ.1) (ci := 8) (v := .int ((upm (upm τ (36) 0 (τ.1 (12) 0)) (37) 0 ((upm τ (36) 0 (τ.1 (12) 0)).1 (7) 0)).1 (8) 0)) (C := RX9) (T := TX9) (N := 44) hx hb hts iX9 hown hK hP (0) (gM_Model Γ (upm (upm τ (36) 0 (τ.1 (12) 0)) (37) 0 ((upm τ (36) 0 (τ.1 (12) 0)).1 (7) 0))) rfl 8 (by decide) (hts (.fieldLink RX9 114 "OtherHalfOfNightModel" "hourNow" "I") (wzm K193)) (fun _ h9 => h9) rfl dX9_image_70 ?_
        refine w_put (X := XM Γ) (σ' := (upm (upm (upm τ (36) 0 (τ.1 (12) 0)) (37) 0 ((upm τ (36) 0 (τ.1 (12) 0)).1 (7) 0)) (38) 0 ((upm (upm τ (36) 0 (τ.1 (12) 0)) (37) 0 ((upm τ (36) 0 (τ.1 (12) 0)).1 (7) 0)).1 (8) 0))) (ci := 8) (C := RX9) (T := TX9) (N := 44) (ty := .int) hx hb hts iX9 tyX9 tyX9_ok nmX9 hown hK hP (halM Γ) hG hS (0) (gM_Model Γ (upm (upm τ (36) 0 (τ.1 (12) 0)) (37) 0 ((upm τ (36) 0 (τ.1 (12) 0)).1 (7) 0))) rfl 38 (by decide) (hts (.fieldLink RX9 345 "OtherHalfOfNightModel" "hourKept" "I") (wzm K970)) (fun _ h9 => h9) rfl (by decide +kernel) rfl rfl (Nat.le_of_ble_eq_true rfl) dX9_image_73 (sM_Model_hourKept Γ (upm (upm τ (36) 0 (τ.1 (12) 0)) (37) 0 ((upm τ (36) 0 (τ.1 (12) 0)).1 (7) 0)) ((upm (upm τ (36) 0 (τ.1 (12) 0)) (37) 0 ((upm τ (36) 0 (τ.1 (12) 0)).1 (7) 0)).1 (8) 0)) (fun H locs hP hS => ?_)
        obtain ⟨τ5, e6, hf⟩ := w_ob hf
        replace e6 := Option.some.inj e6
        rw [e6] at hP
        refine lv_aload_n hx hb dX9_image_76 rfl (lv_at hl 0 rfl) ?_
        refine lv_aload_n hx hb dX9_image_77 rfl (lv_at hl 0 rfl) ?_
        refine va_get (D := Γ.1) (ci := 8) (v := .int (τ5.1 (4) 0)) (C := RX9) (T := TX9) (N := 44) hx hb hts iX9 hown hK hP (0) (gM_Model Γ τ5) rfl 4 (by decide) (hts (.fieldLink RX9 117 "OtherHalfOfNightModel" "rule" "I") (wzm K212)) (fun _ h9 => h9) rfl dX9_image_78 ?_
        refine w_put (X := XM Γ) (σ' := (upm τ5 (39) 0 (τ5.1 (4) 0))) (ci := 8) (C := RX9) (T := TX9) (N := 44) (ty := .int) hx hb hts iX9 tyX9 tyX9_ok nmX9 hown hK hP (halM Γ) hG hS (0) (gM_Model Γ τ5) rfl 39 (by decide) (hts (.fieldLink RX9 348 "OtherHalfOfNightModel" "ruleKept" "I") (wzm K971)) (fun _ h9 => h9) rfl (by decide +kernel) rfl rfl (Nat.le_of_ble_eq_true rfl) dX9_image_81 (sM_Model_ruleKept Γ τ5 (τ5.1 (4) 0)) (fun H locs hP hS => ?_)
        refine lv_aload_n hx hb dX9_image_84 rfl (lv_at hl 0 rfl) ?_
        refine va_get (D := Γ.1) (ci := 8) (v := .int ((upm τ5 (39) 0 (τ5.1 (4) 0)).1 (12) 0)) (C := RX9) (T := TX9) (N := 44) hx hb hts iX9 hown hK hP (0) (gM_Model Γ (upm τ5 (39) 0 (τ5.1 (4) 0))) rfl 12 (by decide) (hts (.fieldLink RX9 77 "OtherHalfOfNightModel" "many" "I") (wzm K183)) (fun _ h9 => h9) rfl dX9_image_85 ?_
        exact w_iret (X := XM Γ) hx hb hr hlocks hK hP hS rfl hf dX9_image_88
      · replace hf := (if_neg c4).symm.trans hf
        refine lv_aload_n hx hb dX9_image_34 rfl (lv_at hl 0 rfl) ?_
        refine va_get (D := Γ.1) (ci := 8) (v := .ref (Γ.2.2.1 (13))) (C := RX9) (T := TX9) (N := 44) hx hb hts iX9 hown hK hP (0) (gM_Model Γ τ) rfl 35 (by decide) (hts (.fieldLink RX9 51 "OtherHalfOfNightModel" "cupsKept" "[I") (wzm K121)) (fun _ h9 => h9) rfl dX9_image_35 ?_
        refine lv_iload_n hx hb dX9_image_38 rfl (lv_at hl 1 rfl) ?_
        refine lv_aload_n hx hb dX9_image_39 rfl (lv_at hl 0 rfl) ?_
        refine va_get (D := Γ.1) (ci := 8) (v := .ref (Γ.2.2.1 (6))) (C := RX9) (T := TX9) (N := 44) hx hb hts iX9 hown hK hP (0) (gM_Model Γ τ) rfl 11 (by decide) (hts (.fieldLink RX9 29 "OtherHalfOfNightModel" "cups" "[I") (wzm K113)) (fun _ h9 => h9) rfl dX9_image_40 ?_
        refine lv_iload_n hx hb dX9_image_43 rfl (lv_at hl 1 rfl) ?_
        obtain ⟨g7, hf⟩ := w_oi hf
        refine va_iald (D := Γ.1) (tys := (tysC Γ)) hx hb hK hP (6) 0 (gM_M_cups Γ τ) rfl g7 dX9_image_44 ?_
        obtain ⟨g8, hf⟩ := w_oi hf
        refine w_iast (D := Γ.1) (tys := (tysC Γ)) (X := XM Γ) (σ' := (upm τ (35) (y1).toNatClampNeg (τ.1 (11) (y1).toNatClampNeg))) hx hb hK hP (halM Γ) hG hS (13) 0 (gM_M_cupsKept Γ τ) rfl g8 dX9_image_45 (sM_M_cupsKept Γ τ (y1).toNatClampNeg (τ.1 (11) (y1).toNatClampNeg)) (fun H locs hP hS => ?_)
        refine lv_iinc (v := (y1 + (1 : Int32))) (lv' := [(1, .int (y1 + (1 : Int32))), (0, .ref (Γ.2.2.1 (0)))]) hx hb dX9_image_46 hl (k := 1) rfl rfl (by decide) rfl (fun ls hl => ?_)
        refine lv_goto (tgt := 28) hx hb dX9_image_49 (by decide) ?_
        exact ih28 ((y1 + (1 : Int32))) (upm τ (35) (y1).toNatClampNeg (τ.1 (11) (y1).toNatClampNeg)) H locs ls hf hP hS (lv_sub hl [1, 0] rfl)
  have j2 : ∀ (n2 : Nat), ∀ (y1 : Int32) (τ : Sm) (H : Heap) (locs : List Loc) (ls : Array Slot) (hf : f_X9_image_2 n2 y1 τ = some (r, σ')) (hP : va_P Γ.1 vwCl (XM Γ τ) H) (hS : va_S (wA (alM Γ) s.heap.size) s.heap H locs) (hl : lv_has ls 2 [(0, .ref (Γ.2.2.1 (0))), (1, .int y1)]), W p l e { frames := 0, cells := 0, slots := 0, locals := 0 } s m av.toArray below meth c H locs 0 0 (MQ below (wQi Γ.1 vwCl (tysC Γ) (XM Γ) (alM Γ) r σ' s.heap.size) av.toArray s 0 0 (wA (alM Γ) s.heap.size)) (F0 m 2 ls []) := by
    intro n2
    induction n2 with
    | zero =>
      intro y1 τ H locs ls hf
      exact absurd hf (by intro h; cases h)
    | succ n2 ih2 =>
      intro y1 τ H locs ls hf hP hS hl
      unfold f_X9_image_2 at hf
      refine lv_iload_n hx hb dX9_image_2 rfl (lv_at hl 1 rfl) ?_
      refine lv_bipush (v := (15 : Int32)) hx hb dX9_image_3 (by decide) ?_
      refine lv_icmp_ge (tgt := 26) hx hb dX9_image_5 (by decide) (fun c1 => ?_) (fun c1 => ?_)
      · replace hf := (if_pos c1).symm.trans hf
        refine lv_iconst (v := (0 : Int32)) hx hb dX9_image_26 (by decide) ?_
        refine lv_istore_n (lv' := [(1, .int (0 : Int32)), (0, .ref (Γ.2.2.1 (0)))]) hx hb dX9_image_27 rfl hl (by decide) rfl (fun ls hl => ?_)
        exact j28 5000 ((0 : Int32)) τ H locs ls hf hP hS (lv_sub hl [1, 0] rfl)
      · replace hf := (if_neg c1).symm.trans hf
        refine lv_aload_n hx hb dX9_image_8 rfl (lv_at hl 0 rfl) ?_
        refine va_get (D := Γ.1) (ci := 8) (v := .ref (Γ.2.2.1 (12))) (C := RX9) (T := TX9) (N := 44) hx hb hts iX9 hown hK hP (0) (gM_Model Γ τ) rfl 34 (by decide) (hts (.fieldLink RX9 48 "OtherHalfOfNightModel" "rowsKept" "[I") (wzm K120)) (fun _ h9 => h9) rfl dX9_image_9 ?_
        refine lv_iload_n hx hb dX9_image_12 rfl (lv_at hl 1 rfl) ?_
        refine lv_aload_n hx hb dX9_image_13 rfl (lv_at hl 0 rfl) ?_
        refine va_get (D := Γ.1) (ci := 8) (v := .ref (Γ.2.2.1 (5))) (C := RX9) (T := TX9) (N := 44) hx hb hts iX9 hown hK hP (0) (gM_Model Γ τ) rfl 10 (by decide) (hts (.fieldLink RX9 26 "OtherHalfOfNightModel" "rows" "[I") (wzm K112)) (fun _ h9 => h9) rfl dX9_image_14 ?_
        refine lv_iload_n hx hb dX9_image_17 rfl (lv_at hl 1 rfl) ?_
        obtain ⟨g2, hf⟩ := w_oi hf
        refine va_iald (D := Γ.1) (tys := (tysC Γ)) hx hb hK hP (5) 0 (gM_M_rows Γ τ) rfl g2 dX9_image_18 ?_
        obtain ⟨g3, hf⟩ := w_oi hf
        refine w_iast (D := Γ.1) (tys := (tysC Γ)) (X := XM Γ) (σ' := (upm τ (34) (y1).toNatClampNeg (τ.1 (10) (y1).toNatClampNeg))) hx hb hK hP (halM Γ) hG hS (12) 0 (gM_M_rowsKept Γ τ) rfl g3 dX9_image_19 (sM_M_rowsKept Γ τ (y1).toNatClampNeg (τ.1 (10) (y1).toNatClampNeg)) (fun H locs hP hS => ?_)
        refine lv_iinc (v := (y1 + (1 : Int32))) (lv' := [(1, .int (y1 + (1 : Int32))), (0, .ref (Γ.2.2.1 (0)))]) hx hb dX9_image_20 hl (k := 1) rfl rfl (by decide) rfl (fun ls hl => ?_)
        refine lv_goto (tgt := 2) hx hb dX9_image_23 (by decide) ?_
        exact ih2 ((y1 + (1 : Int32))) (upm τ (34) (y1).toNatClampNeg (τ.1 (10) (y1).toNatClampNeg)) H locs ls hf hP hS (lv_sub hl [1, 0] rfl)
  suffices hw : ∀ (H : Heap) (locs : List Loc), va_P Γ.1 vwCl (XM Γ σ) H → va_S (wA (alM Γ) s.heap.size) s.heap H locs → W p l e { frames := 0, cells := 0, slots := 0, locals := 0 } s m av.toArray below meth c H locs 0 0 (MQ below (wQi Γ.1 vwCl (tysC Γ) (XM Γ) (alM Γ) r σ' s.heap.size) av.toArray s 0 0 (wA (alM Γ) s.heap.size)) (F0 m 0 ls []) from hw _ [] hP va_S.rf
  clear hP
  intro H locs hP hS
  unfold f_X9_image at hf
  refine lv_iconst (v := (0 : Int32)) hx hb dX9_image_0 (by decide) ?_
  refine lv_istore_n (lv' := [(1, .int (0 : Int32)), (0, .ref (Γ.2.2.1 (0)))]) hx hb dX9_image_1 rfl hl (by decide) rfl (fun ls hl => ?_)
  exact j2 5000 ((0 : Int32)) σ H locs ls hf hP hS (lv_sub hl [1, 0] rfl)
def f_X9_back_39 : Nat → Int32 → Sm → Option (Int32 × Sm)
  | 0, _, _ => none
  | n + 1, y1, τ => if (18 : Int32) ≤ y1 then (some (upm (upm (upm τ (12) 0 (τ.1 (36) 0)) (7) 0 ((upm τ (12) 0 (τ.1 (36) 0)).1 (37) 0)) (8) 0 ((upm (upm τ (12) 0 (τ.1 (36) 0)) (7) 0 ((upm τ (12) 0 (τ.1 (36) 0)).1 (37) 0)).1 (38) 0))).bind fun (τ6 : Sm) => some (((upm τ6 (4) 0 (τ6.1 (39) 0)).1 (12) 0), (upm τ6 (4) 0 (τ6.1 (39) 0))) else if okI y1 18 then if okI y1 18 then (f_X9_back_39 n) ((y1 + (1 : Int32))) (upm τ (11) (y1).toNatClampNeg (τ.1 (35) (y1).toNatClampNeg)) else none else none
def f_X9_back_13 : Nat → Int32 → Sm → Option (Int32 × Sm)
  | 0, _, _ => none
  | n + 1, y1, τ => if (15 : Int32) ≤ y1 then f_X9_back_39 5000 ((0 : Int32)) τ else if okI y1 15 then if okI y1 15 then (f_X9_back_13 n) ((y1 + (1 : Int32))) (upm τ (10) (y1).toNatClampNeg (τ.1 (34) (y1).toNatClampNeg)) else none else none
def f_X9_back (σ : Sm) : Option (Int32 × Sm) := if (σ.1 (36) 0) = (-1 : Int32) then some ((-3 : Int32), σ) else f_X9_back_13 5000 ((0 : Int32)) σ
set_option maxHeartbeats 40000000 in
set_option maxRecDepth 100000 in
theorem c_X9_back (l : Launch) (Γ : Geo) (hG : okM Γ) (σ : Sm) (r : Int32) (σ' : Sm) (hf : f_X9_back σ = some (r, σ')) (sz : Nat) : Met l yX9_back (wz yX9_back cX9_back 2 (some .int)) { frames := 0, cells := 0, slots := 0, locals := 0 } (va_Pc [.ref (Γ.2.2.1 (0))] (wPre Γ.1 vwCl (tysC Γ) (XM Γ) (alM Γ) Γ.2.2.2 σ sz)) (wQi Γ.1 vwCl (tysC Γ) (XM Γ) (alM Γ) r σ' sz) 0 0 (wA (alM Γ) sz) := by
  refine w_enter (cc := cX9_back) (maxL := 2) (ret := (some .int)) (by decide) rfl (Nat.le_of_ble_eq_true rfl) ?_
  intro p e s m below meth c ls hx hb hr hlocks hml hown hts hsz hP hK hkc hN hl
  subst hsz
  generalize hav : ([.ref (Γ.2.2.1 (0))] : List Value) = av at hl hts ⊢
  have hl : lv_has ls 2 [(0, .ref (Γ.2.2.1 (0)))] := by rw [← hav] at hl; exact hl
  have j39 : ∀ (n39 : Nat), ∀ (y1 : Int32) (τ : Sm) (H : Heap) (locs : List Loc) (ls : Array Slot) (hf : f_X9_back_39 n39 y1 τ = some (r, σ')) (hP : va_P Γ.1 vwCl (XM Γ τ) H) (hS : va_S (wA (alM Γ) s.heap.size) s.heap H locs) (hl : lv_has ls 2 [(0, .ref (Γ.2.2.1 (0))), (1, .int y1)]), W p l e { frames := 0, cells := 0, slots := 0, locals := 0 } s m av.toArray below meth c H locs 0 0 (MQ below (wQi Γ.1 vwCl (tysC Γ) (XM Γ) (alM Γ) r σ' s.heap.size) av.toArray s 0 0 (wA (alM Γ) s.heap.size)) (F0 m 39 ls []) := by
    intro n39
    induction n39 with
    | zero =>
      intro y1 τ H locs ls hf
      exact absurd hf (by intro h; cases h)
    | succ n39 ih39 =>
      intro y1 τ H locs ls hf hP hS hl
      unfold f_X9_back_39 at hf
      refine lv_iload_n hx hb dX9_back_39 rfl (lv_at hl 1 rfl) ?_
      refine lv_bipush (v := (18 : Int32)) hx hb dX9_back_40 (by decide) ?_
      refine lv_icmp_ge (tgt := 63) hx hb dX9_back_42 (by decide) (fun c5 => ?_) (fun c5 => ?_)
      · replace hf := (if_pos c5).symm.trans hf
        refine lv_aload_n hx hb dX9_back_63 rfl (lv_at hl 0 rfl) ?_
        refine lv_aload_n hx hb dX9_back_64 rfl (lv_at hl 0 rfl) ?_
        refine va_get (D := Γ.1) (ci := 8) (v := .int (τ.1 (36) 0)) (C := RX9) (T := TX9) (N := 44) hx hb hts iX9 hown hK hP (0) (gM_Model Γ τ) rfl 36 (by decide) (hts (.fieldLink RX9 54 "OtherHalfOfNightModel" "manyKept" "I") (wzm K122)) (fun _ h9 => h9) rfl dX9_back_65 ?_
        refine w_put (X := XM Γ) (σ' := (upm τ (12) 0 (τ.1 (36) 0))) (ci := 8) (C := RX9) (T := TX9) (N := 44) (ty := .int) hx hb hts iX9 tyX9 tyX9_ok nmX9 hown hK hP (halM Γ) hG hS (0) (gM_Model Γ τ) rfl 12 (by decide) (hts (.fieldLink RX9 77 "OtherHalfOfNightModel" "many" "I") (wzm K183)) (fun _ h9 => h9) rfl (by decide +kernel) rfl rfl (Nat.le_of_ble_eq_true rfl) dX9_back_68 (sM_Model_many Γ τ (τ.1 (36) 0)) (fun H locs hP hS => ?_)
        refine lv_aload_n hx hb dX9_back_71 rfl (lv_at hl 0 rfl) ?_
        refine lv_aload_n hx hb dX9_back_72 rfl (lv_at hl 0 rfl) ?_
        refine va_get (D := Γ.1) (ci := 8) (v := .int ((upm τ (12) 0 (τ.1 (36) 0)).1 (37) 0)) (C := RX9) (T := TX9) (N := 44) hx hb hts iX9 hown hK hP (0) (gM_Model Γ (upm τ (12) 0 (τ.1 (36) 0))) rfl 37 (by decide) (hts (.fieldLink RX9 342 "OtherHalfOfNightModel" "nightKept" "I") (wzm K969)) (fun _ h9 => h9) rfl dX9_back_73 ?_
        refine w_put (X := XM Γ) (σ' := (upm (upm τ (12) 0 (τ.1 (36) 0)) (7) 0 ((upm τ (12) 0 (τ.1 (36) 0)).1 (37) 0))) (ci := 8) (C := RX9) (T := TX9) (N := 44) (ty := .int) hx hb hts iX9 tyX9 tyX9_ok nmX9 hown hK hP (halM Γ) hG hS (0) (gM_Model Γ (upm τ (12) 0 (τ.1 (36) 0))) rfl 7 (by decide) (hts (.fieldLink RX9 111 "OtherHalfOfNightModel" "nightNow" "I") (wzm K192)) (fun _ h9 => h9) rfl (by decide +kernel) rfl rfl (Nat.le_of_ble_eq_true rfl) dX9_back_76 (sM_Model_nightNow Γ (upm τ (12) 0 (τ.1 (36) 0)) ((upm τ (12) 0 (τ.1 (36) 0)).1 (37) 0)) (fun H locs hP hS => ?_)
        refine lv_aload_n hx hb dX9_back_79 rfl (lv_at hl 0 rfl) ?_
        refine lv_aload_n hx hb dX9_back_80 rfl (lv_at hl 0 rfl) ?_
        refine va_get (D := Γ.1) (ci := 8) (v := .int ((upm (upm τ (12) 0 (τ.1 (36) 0)) (7) 0 ((upm τ (12) 0 (τ.1 (36) 0)).1 (37) 0)).1 (38) 0)) (C := RX9) (T := TX9) (N := 44) hx hb hts iX9 hown hK hP (0) (gM_Model Γ (upm (upm τ (12) 0 (τ.1 (36) 0)) (7) 0 ((upm τ (12) 0 (τ.1 (36) 0)).1 (37) 0))) rfl 38 (by decide) (hts (.fieldLink RX9 345 "OtherHalfOfNightModel" "hourKept" "I") (wzm K970)) (fun _ h9 => h9) rfl dX9_back_81 ?_
        refine w_put (X := XM Γ) (σ' := (upm (upm (upm τ (12) 0 (τ.1 (36) 0)) (7) 0 ((upm τ (12) 0 (τ.1 (36) 0)).1 (37) 0)) (8) 0 ((upm (upm τ (12) 0 (τ.1 (36) 0)) (7) 0 ((upm τ (12) 0 (τ.1 (36) 0)).1 (37) 0)).1 (38) 0))) (ci := 8) (C := RX9) (T := TX9) (N := 44) (ty := .int) hx hb hts iX9 tyX9 tyX9_ok nmX9 hown hK hP (halM Γ) hG hS (0) (gM_Model Γ (upm (upm τ (12) 0 (τ.1 (36) 0)) (7) 0 ((upm τ (12) 0 (τ.1 (36) 0)).1 (37) 0))) rfl 8 (by decide) (hts (.fieldLink RX9 114 "OtherHalfOfNightModel" "hourNow" "I") (wzm K193)) (fun _ h9 => h9) rfl (by decide +kernel) rfl rfl (Nat.le_of_ble_eq_true rfl) dX9_back_84 (sM_Model_hourNow Γ (upm (upm τ (12) 0 (τ.1 (36) 0)) (7) 0 ((upm τ (12) 0 (τ.1 (36) 0)).1 (37) 0)) ((upm (upm τ (12) 0 (τ.1 (36) 0)) (7) 0 ((upm τ (12) 0 (τ.1 (36) 0)).1 (37) 0)).1 (38) 0)) (fun H locs hP hS => ?_)
        obtain ⟨τ6, e7, hf⟩ := w_ob hf
        replace e7 := Option.some.inj e7
        rw [e7] at hP
        refine lv_aload_n hx hb dX9_back_87 rfl (lv_at hl 0 rfl) ?_
        refine lv_aload_n hx hb dX9_back_88 rfl (lv_at hl 0 rfl) ?_
        refine va_get (D := Γ.1) (ci := 8) (v := .int (τ6.1 (39) 0)) (C := RX9) (T := TX9) (N := 44) hx hb hts iX9 hown hK hP (0) (gM_Model Γ τ6) rfl 39 (by decide) (hts (.fieldLink RX9 348 "OtherHalfOfNightModel" "ruleKept" "I") (wzm K971)) (fun _ h9 => h9) rfl dX9_back_89 ?_
        refine w_put (X := XM Γ) (σ' := (upm τ6 (4) 0 (τ6.1 (39) 0))) (ci := 8) (C := RX9) (T := TX9) (N := 44) (ty := .int) hx hb hts iX9 tyX9 tyX9_ok nmX9 hown hK hP (halM Γ) hG hS (0) (gM_Model Γ τ6) rfl 4 (by decide) (hts (.fieldLink RX9 117 "OtherHalfOfNightModel" "rule" "I") (wzm K212)) (fun _ h9 => h9) rfl (by decide +kernel) rfl rfl (Nat.le_of_ble_eq_true rfl) dX9_back_92 (sM_Model_rule Γ τ6 (τ6.1 (39) 0)) (fun H locs hP hS => ?_)
        refine lv_aload_n hx hb dX9_back_95 rfl (lv_at hl 0 rfl) ?_
        refine va_get (D := Γ.1) (ci := 8) (v := .int ((upm τ6 (4) 0 (τ6.1 (39) 0)).1 (12) 0)) (C := RX9) (T := TX9) (N := 44) hx hb hts iX9 hown hK hP (0) (gM_Model Γ (upm τ6 (4) 0 (τ6.1 (39) 0))) rfl 12 (by decide) (hts (.fieldLink RX9 77 "OtherHalfOfNightModel" "many" "I") (wzm K183)) (fun _ h9 => h9) rfl dX9_back_96 ?_
        exact w_iret (X := XM Γ) hx hb hr hlocks hK hP hS rfl hf dX9_back_99
      · replace hf := (if_neg c5).symm.trans hf
        refine lv_aload_n hx hb dX9_back_45 rfl (lv_at hl 0 rfl) ?_
        refine va_get (D := Γ.1) (ci := 8) (v := .ref (Γ.2.2.1 (6))) (C := RX9) (T := TX9) (N := 44) hx hb hts iX9 hown hK hP (0) (gM_Model Γ τ) rfl 11 (by decide) (hts (.fieldLink RX9 29 "OtherHalfOfNightModel" "cups" "[I") (wzm K113)) (fun _ h9 => h9) rfl dX9_back_46 ?_
        refine lv_iload_n hx hb dX9_back_49 rfl (lv_at hl 1 rfl) ?_
        refine lv_aload_n hx hb dX9_back_50 rfl (lv_at hl 0 rfl) ?_
        refine va_get (D := Γ.1) (ci := 8) (v := .ref (Γ.2.2.1 (13))) (C := RX9) (T := TX9) (N := 44) hx hb hts iX9 hown hK hP (0) (gM_Model Γ τ) rfl 35 (by decide) (hts (.fieldLink RX9 51 "OtherHalfOfNightModel" "cupsKept" "[I") (wzm K121)) (fun _ h9 => h9) rfl dX9_back_51 ?_
        refine lv_iload_n hx hb dX9_back_54 rfl (lv_at hl 1 rfl) ?_
        obtain ⟨g8, hf⟩ := w_oi hf
        refine va_iald (D := Γ.1) (tys := (tysC Γ)) hx hb hK hP (13) 0 (gM_M_cupsKept Γ τ) rfl g8 dX9_back_55 ?_
        obtain ⟨g9, hf⟩ := w_oi hf
        refine w_iast (D := Γ.1) (tys := (tysC Γ)) (X := XM Γ) (σ' := (upm τ (11) (y1).toNatClampNeg (τ.1 (35) (y1).toNatClampNeg))) hx hb hK hP (halM Γ) hG hS (6) 0 (gM_M_cups Γ τ) rfl g9 dX9_back_56 (sM_M_cups Γ τ (y1).toNatClampNeg (τ.1 (35) (y1).toNatClampNeg)) (fun H locs hP hS => ?_)
        refine lv_iinc (v := (y1 + (1 : Int32))) (lv' := [(1, .int (y1 + (1 : Int32))), (0, .ref (Γ.2.2.1 (0)))]) hx hb dX9_back_57 hl (k := 1) rfl rfl (by decide) rfl (fun ls hl => ?_)
        refine lv_goto (tgt := 39) hx hb dX9_back_60 (by decide) ?_
        exact ih39 ((y1 + (1 : Int32))) (upm τ (11) (y1).toNatClampNeg (τ.1 (35) (y1).toNatClampNeg)) H locs ls hf hP hS (lv_sub hl [1, 0] rfl)
  have j13 : ∀ (n13 : Nat), ∀ (y1 : Int32) (τ : Sm) (H : Heap) (locs : List Loc) (ls : Array Slot) (hf : f_X9_back_13 n13 y1 τ = some (r, σ')) (hP : va_P Γ.1 vwCl (XM Γ τ) H) (hS : va_S (wA (alM Γ) s.heap.size) s.heap H locs) (hl : lv_has ls 2 [(0, .ref (Γ.2.2.1 (0))), (1, .int y1)]), W p l e { frames := 0, cells := 0, slots := 0, locals := 0 } s m av.toArray below meth c H locs 0 0 (MQ below (wQi Γ.1 vwCl (tysC Γ) (XM Γ) (alM Γ) r σ' s.heap.size) av.toArray s 0 0 (wA (alM Γ) s.heap.size)) (F0 m 13 ls []) := by
    intro n13
    induction n13 with
    | zero =>
      intro y1 τ H locs ls hf
      exact absurd hf (by intro h; cases h)
    | succ n13 ih13 =>
      intro y1 τ H locs ls hf hP hS hl
      unfold f_X9_back_13 at hf
      refine lv_iload_n hx hb dX9_back_13 rfl (lv_at hl 1 rfl) ?_
      refine lv_bipush (v := (15 : Int32)) hx hb dX9_back_14 (by decide) ?_
      refine lv_icmp_ge (tgt := 37) hx hb dX9_back_16 (by decide) (fun c2 => ?_) (fun c2 => ?_)
      · replace hf := (if_pos c2).symm.trans hf
        refine lv_iconst (v := (0 : Int32)) hx hb dX9_back_37 (by decide) ?_
        refine lv_istore_n (lv' := [(1, .int (0 : Int32)), (0, .ref (Γ.2.2.1 (0)))]) hx hb dX9_back_38 rfl hl (by decide) rfl (fun ls hl => ?_)
        exact j39 5000 ((0 : Int32)) τ H locs ls hf hP hS (lv_sub hl [1, 0] rfl)
      · replace hf := (if_neg c2).symm.trans hf
        refine lv_aload_n hx hb dX9_back_19 rfl (lv_at hl 0 rfl) ?_
        refine va_get (D := Γ.1) (ci := 8) (v := .ref (Γ.2.2.1 (5))) (C := RX9) (T := TX9) (N := 44) hx hb hts iX9 hown hK hP (0) (gM_Model Γ τ) rfl 10 (by decide) (hts (.fieldLink RX9 26 "OtherHalfOfNightModel" "rows" "[I") (wzm K112)) (fun _ h9 => h9) rfl dX9_back_20 ?_
        refine lv_iload_n hx hb dX9_back_23 rfl (lv_at hl 1 rfl) ?_
        refine lv_aload_n hx hb dX9_back_24 rfl (lv_at hl 0 rfl) ?_
        refine va_get (D := Γ.1) (ci := 8) (v := .ref (Γ.2.2.1 (12))) (C := RX9) (T := TX9) (N := 44) hx hb hts iX9 hown hK hP (0) (gM_Model Γ τ) rfl 34 (by decide) (hts (.fieldLink RX9 48 "OtherHalfOfNightModel" "rowsKept" "[I") (wzm K120)) (fun _ h9 => h9) rfl dX9_back_25 ?_
        refine lv_iload_n hx hb dX9_back_28 rfl (lv_at hl 1 rfl) ?_
        obtain ⟨g3, hf⟩ := w_oi hf
        refine va_iald (D := Γ.1) (tys := (tysC Γ)) hx hb hK hP (12) 0 (gM_M_rowsKept Γ τ) rfl g3 dX9_back_29 ?_
        obtain ⟨g4, hf⟩ := w_oi hf
        refine w_iast (D := Γ.1) (tys := (tysC Γ)) (X := XM Γ) (σ' := (upm τ (10) (y1).toNatClampNeg (τ.1 (34) (y1).toNatClampNeg))) hx hb hK hP (halM Γ) hG hS (5) 0 (gM_M_rows Γ τ) rfl g4 dX9_back_30 (sM_M_rows Γ τ (y1).toNatClampNeg (τ.1 (34) (y1).toNatClampNeg)) (fun H locs hP hS => ?_)
        refine lv_iinc (v := (y1 + (1 : Int32))) (lv' := [(1, .int (y1 + (1 : Int32))), (0, .ref (Γ.2.2.1 (0)))]) hx hb dX9_back_31 hl (k := 1) rfl rfl (by decide) rfl (fun ls hl => ?_)
        refine lv_goto (tgt := 13) hx hb dX9_back_34 (by decide) ?_
        exact ih13 ((y1 + (1 : Int32))) (upm τ (10) (y1).toNatClampNeg (τ.1 (34) (y1).toNatClampNeg)) H locs ls hf hP hS (lv_sub hl [1, 0] rfl)
  suffices hw : ∀ (H : Heap) (locs : List Loc), va_P Γ.1 vwCl (XM Γ σ) H → va_S (wA (alM Γ) s.heap.size) s.heap H locs → W p l e { frames := 0, cells := 0, slots := 0, locals := 0 } s m av.toArray below meth c H locs 0 0 (MQ below (wQi Γ.1 vwCl (tysC Γ) (XM Γ) (alM Γ) r σ' s.heap.size) av.toArray s 0 0 (wA (alM Γ) s.heap.size)) (F0 m 0 ls []) from hw _ [] hP va_S.rf
  clear hP
  intro H locs hP hS
  unfold f_X9_back at hf
  refine lv_aload_n hx hb dX9_back_0 rfl (lv_at hl 0 rfl) ?_
  refine va_get (D := Γ.1) (ci := 8) (v := .int (σ.1 (36) 0)) (C := RX9) (T := TX9) (N := 44) hx hb hts iX9 hown hK hP (0) (gM_Model Γ σ) rfl 36 (by decide) (hts (.fieldLink RX9 54 "OtherHalfOfNightModel" "manyKept" "I") (wzm K122)) (fun _ h9 => h9) rfl dX9_back_1 ?_
  refine lv_iconst (v := (-1 : Int32)) hx hb dX9_back_4 (by decide) ?_
  refine lv_icmp_ne (tgt := 11) hx hb dX9_back_5 (by decide) (fun c1 => ?_) (fun c1 => ?_)
  · replace hf := (if_neg c1).symm.trans hf
    refine lv_iconst (v := (0 : Int32)) hx hb dX9_back_11 (by decide) ?_
    refine lv_istore_n (lv' := [(1, .int (0 : Int32)), (0, .ref (Γ.2.2.1 (0)))]) hx hb dX9_back_12 rfl hl (by decide) rfl (fun ls hl => ?_)
    exact j13 5000 ((0 : Int32)) σ H locs ls hf hP hS (lv_sub hl [1, 0] rfl)
  · replace hf := (if_pos c1).symm.trans hf
    refine lv_bipush (v := (-3 : Int32)) hx hb dX9_back_8 (by decide) ?_
    exact w_iret (X := XM Γ) hx hb hr hlocks hK hP hS rfl hf dX9_back_10
def f_X9_count_19 (x1 : Int32) : Nat → Int32 → Int32 → Sm → Option (Int32 × Sm)
  | 0, _, _, _ => none
  | n + 1, y2, y3, τ => if (6 : Int32) ≤ y3 then if x1 = 0 then some ((τ.1 (12) 0), τ) else if x1 = (1 : Int32) then some (y2, τ) else if x1 = (2 : Int32) then some ((τ.1 (7) 0), τ) else if x1 = (3 : Int32) then some ((τ.1 (3) 0), τ) else if x1 = (4 : Int32) then some ((τ.1 (6) 0), τ) else some ((τ.1 (4) 0), τ) else if okI (((3 : Int32) * y3) + (2 : Int32)) 18 then (f_X9_count_19 x1 n) ((y2 + (τ.1 (11) ((((3 : Int32) * y3) + (2 : Int32))).toNatClampNeg))) ((y3 + (1 : Int32))) τ else none
def f_X9_count (x1 : Int32) (σ : Sm) : Option (Int32 × Sm) := (f_X9_in ((x1).toInt64) (0 : Int64) (5 : Int64) σ).bind fun (q1 : Int32 × Sm) => if q1.1 = 0 then some ((-2 : Int32), q1.2) else f_X9_count_19 x1 5000 ((0 : Int32)) ((0 : Int32)) q1.2
set_option maxHeartbeats 40000000 in
set_option maxRecDepth 100000 in
theorem c_X9_count (l : Launch) (Γ : Geo) (hG : okM Γ) (x1 : Int32) (σ : Sm) (r : Int32) (σ' : Sm) (hf : f_X9_count x1 σ = some (r, σ')) (sz : Nat) : Met l yX9_count (wz yX9_count cX9_count 4 (some .int)) { frames := 1, cells := 0, slots := 0, locals := 25 } (va_Pc [.ref (Γ.2.2.1 (0)), .int x1] (wPre Γ.1 vwCl (tysC Γ) (XM Γ) (alM Γ) Γ.2.2.2 σ sz)) (wQi Γ.1 vwCl (tysC Γ) (XM Γ) (alM Γ) r σ' sz) 0 0 (wA (alM Γ) sz) := by
  refine w_enter (cc := cX9_count) (maxL := 4) (ret := (some .int)) (by decide) rfl (Nat.le_of_ble_eq_true rfl) ?_
  intro p e s m below meth c ls hx hb hr hlocks hml hown hts hsz hP hK hkc hN hl
  subst hsz
  generalize hav : ([.ref (Γ.2.2.1 (0)), .int x1] : List Value) = av at hl hts ⊢
  have hl : lv_has ls 4 [(0, .ref (Γ.2.2.1 (0))), (1, .int x1)] := by rw [← hav] at hl; exact hl
  have j19 : ∀ (n19 : Nat), ∀ (y2 : Int32) (y3 : Int32) (τ : Sm) (H : Heap) (locs : List Loc) (ls : Array Slot) (hf : f_X9_count_19 x1 n19 y2 y3 τ = some (r, σ')) (hP : va_P Γ.1 vwCl (XM Γ τ) H) (hS : va_S (wA (alM Γ) s.heap.size) s.heap H locs) (hl : lv_has ls 4 [(0, .ref (Γ.2.2.1 (0))), (1, .int x1), (2, .int y2), (3, .int y3)]), W p l e { frames := 1, cells := 0, slots := 0, locals := 25 } s m av.toArray below meth c H locs 0 0 (MQ below (wQi Γ.1 vwCl (tysC Γ) (XM Γ) (alM Γ) r σ' s.heap.size) av.toArray s 0 0 (wA (alM Γ) s.heap.size)) (F0 m 19 ls []) := by
    intro n19
    induction n19 with
    | zero =>
      intro y2 y3 τ H locs ls hf
      exact absurd hf (by intro h; cases h)
    | succ n19 ih19 =>
      intro y2 y3 τ H locs ls hf hP hS hl
      unfold f_X9_count_19 at hf
      refine lv_iload_n hx hb dX9_count_19 rfl (lv_at hl 3 rfl) ?_
      refine lv_bipush (v := (6 : Int32)) hx hb dX9_count_20 (by decide) ?_
      refine lv_icmp_ge (tgt := 44) hx hb dX9_count_22 (by decide) (fun c4 => ?_) (fun c4 => ?_)
      · replace hf := (if_pos c4).symm.trans hf
        refine lv_iload_n hx hb dX9_count_44 rfl (lv_at hl 1 rfl) ?_
        refine lv_if_ne (tgt := 55) hx hb dX9_count_45 (by decide) (fun c5 => ?_) (fun c5 => ?_)
        · replace hf := (if_neg c5).symm.trans hf
          refine lv_iload_n hx hb dX9_count_55 rfl (lv_at hl 1 rfl) ?_
          refine lv_iconst (v := (1 : Int32)) hx hb dX9_count_56 (by decide) ?_
          refine lv_icmp_ne (tgt := 64) hx hb dX9_count_57 (by decide) (fun c6 => ?_) (fun c6 => ?_)
          · replace hf := (if_neg c6).symm.trans hf
            refine lv_iload_n hx hb dX9_count_64 rfl (lv_at hl 1 rfl) ?_
            refine lv_iconst (v := (2 : Int32)) hx hb dX9_count_65 (by decide) ?_
            refine lv_icmp_ne (tgt := 76) hx hb dX9_count_66 (by decide) (fun c7 => ?_) (fun c7 => ?_)
            · replace hf := (if_neg c7).symm.trans hf
              refine lv_iload_n hx hb dX9_count_76 rfl (lv_at hl 1 rfl) ?_
              refine lv_iconst (v := (3 : Int32)) hx hb dX9_count_77 (by decide) ?_
              refine lv_icmp_ne (tgt := 88) hx hb dX9_count_78 (by decide) (fun c8 => ?_) (fun c8 => ?_)
              · replace hf := (if_neg c8).symm.trans hf
                refine lv_iload_n hx hb dX9_count_88 rfl (lv_at hl 1 rfl) ?_
                refine lv_iconst (v := (4 : Int32)) hx hb dX9_count_89 (by decide) ?_
                refine lv_icmp_ne (tgt := 100) hx hb dX9_count_90 (by decide) (fun c9 => ?_) (fun c9 => ?_)
                · replace hf := (if_neg c9).symm.trans hf
                  refine lv_aload_n hx hb dX9_count_100 rfl (lv_at hl 0 rfl) ?_
                  refine va_get (D := Γ.1) (ci := 8) (v := .int (τ.1 (4) 0)) (C := RX9) (T := TX9) (N := 44) hx hb hts iX9 hown hK hP (0) (gM_Model Γ τ) rfl 4 (by decide) (hts (.fieldLink RX9 117 "OtherHalfOfNightModel" "rule" "I") (wzm K212)) (fun _ h9 => h9) rfl dX9_count_101 ?_
                  exact w_iret (X := XM Γ) hx hb hr hlocks hK hP hS rfl hf dX9_count_104
                · replace hf := (if_pos c9).symm.trans hf
                  refine lv_aload_n hx hb dX9_count_93 rfl (lv_at hl 0 rfl) ?_
                  refine va_get (D := Γ.1) (ci := 8) (v := .int (τ.1 (6) 0)) (C := RX9) (T := TX9) (N := 44) hx hb hts iX9 hown hK hP (0) (gM_Model Γ τ) rfl 6 (by decide) (hts (.fieldLink RX9 134 "OtherHalfOfNightModel" "taped" "I") (wzm K431)) (fun _ h9 => h9) rfl dX9_count_94 ?_
                  refine lv_goto (tgt := 104) hx hb dX9_count_97 (by decide) ?_
                  exact w_iret (X := XM Γ) hx hb hr hlocks hK hP hS rfl hf dX9_count_104
              · replace hf := (if_pos c8).symm.trans hf
                refine lv_aload_n hx hb dX9_count_81 rfl (lv_at hl 0 rfl) ?_
                refine va_get (D := Γ.1) (ci := 8) (v := .int (τ.1 (3) 0)) (C := RX9) (T := TX9) (N := 44) hx hb hts iX9 hown hK hP (0) (gM_Model Γ τ) rfl 3 (by decide) (hts (.fieldLink RX9 74 "OtherHalfOfNightModel" "textCount" "I") (wzm K128)) (fun _ h9 => h9) rfl dX9_count_82 ?_
                refine lv_goto (tgt := 104) hx hb dX9_count_85 (by decide) ?_
                exact w_iret (X := XM Γ) hx hb hr hlocks hK hP hS rfl hf dX9_count_104
            · replace hf := (if_pos c7).symm.trans hf
              refine lv_aload_n hx hb dX9_count_69 rfl (lv_at hl 0 rfl) ?_
              refine va_get (D := Γ.1) (ci := 8) (v := .int (τ.1 (7) 0)) (C := RX9) (T := TX9) (N := 44) hx hb hts iX9 hown hK hP (0) (gM_Model Γ τ) rfl 7 (by decide) (hts (.fieldLink RX9 111 "OtherHalfOfNightModel" "nightNow" "I") (wzm K192)) (fun _ h9 => h9) rfl dX9_count_70 ?_
              refine lv_goto (tgt := 104) hx hb dX9_count_73 (by decide) ?_
              exact w_iret (X := XM Γ) hx hb hr hlocks hK hP hS rfl hf dX9_count_104
          · replace hf := (if_pos c6).symm.trans hf
            refine lv_iload_n hx hb dX9_count_60 rfl (lv_at hl 2 rfl) ?_
            refine lv_goto (tgt := 104) hx hb dX9_count_61 (by decide) ?_
            exact w_iret (X := XM Γ) hx hb hr hlocks hK hP hS rfl hf dX9_count_104
        · replace hf := (if_pos c5).symm.trans hf
          refine lv_aload_n hx hb dX9_count_48 rfl (lv_at hl 0 rfl) ?_
          refine va_get (D := Γ.1) (ci := 8) (v := .int (τ.1 (12) 0)) (C := RX9) (T := TX9) (N := 44) hx hb hts iX9 hown hK hP (0) (gM_Model Γ τ) rfl 12 (by decide) (hts (.fieldLink RX9 77 "OtherHalfOfNightModel" "many" "I") (wzm K183)) (fun _ h9 => h9) rfl dX9_count_49 ?_
          refine lv_goto (tgt := 104) hx hb dX9_count_52 (by decide) ?_
          exact w_iret (X := XM Γ) hx hb hr hlocks hK hP hS rfl hf dX9_count_104
      · replace hf := (if_neg c4).symm.trans hf
        refine lv_iload_n hx hb dX9_count_25 rfl (lv_at hl 2 rfl) ?_
        refine lv_aload_n hx hb dX9_count_26 rfl (lv_at hl 0 rfl) ?_
        refine va_get (D := Γ.1) (ci := 8) (v := .ref (Γ.2.2.1 (6))) (C := RX9) (T := TX9) (N := 44) hx hb hts iX9 hown hK hP (0) (gM_Model Γ τ) rfl 11 (by decide) (hts (.fieldLink RX9 29 "OtherHalfOfNightModel" "cups" "[I") (wzm K113)) (fun _ h9 => h9) rfl dX9_count_27 ?_
        refine lv_iconst (v := (3 : Int32)) hx hb dX9_count_30 (by decide) ?_
        refine lv_iload_n hx hb dX9_count_31 rfl (lv_at hl 3 rfl) ?_
        refine lv_imul hx hb dX9_count_32 ?_
        refine lv_iconst (v := (2 : Int32)) hx hb dX9_count_33 (by decide) ?_
        refine lv_iadd hx hb dX9_count_34 ?_
        obtain ⟨g10, hf⟩ := w_oi hf
        refine va_iald (D := Γ.1) (tys := (tysC Γ)) hx hb hK hP (6) 0 (gM_M_cups Γ τ) rfl g10 dX9_count_35 ?_
        refine lv_iadd hx hb dX9_count_36 ?_
        refine lv_istore_n (lv' := [(2, .int (y2 + (τ.1 (11) ((((3 : Int32) * y3) + (2 : Int32))).toNatClampNeg))), (0, .ref (Γ.2.2.1 (0))), (1, .int x1), (3, .int y3)]) hx hb dX9_count_37 rfl hl (by decide) rfl (fun ls hl => ?_)
        refine lv_iinc (v := (y3 + (1 : Int32))) (lv' := [(3, .int (y3 + (1 : Int32))), (2, .int (y2 + (τ.1 (11) ((((3 : Int32) * y3) + (2 : Int32))).toNatClampNeg))), (0, .ref (Γ.2.2.1 (0))), (1, .int x1)]) hx hb dX9_count_38 hl (k := 3) rfl rfl (by decide) rfl (fun ls hl => ?_)
        refine lv_goto (tgt := 19) hx hb dX9_count_41 (by decide) ?_
        exact ih19 ((y2 + (τ.1 (11) ((((3 : Int32) * y3) + (2 : Int32))).toNatClampNeg))) ((y3 + (1 : Int32))) τ H locs ls hf hP hS (lv_sub hl [2, 3, 1, 0] rfl)
  suffices hw : ∀ (H : Heap) (locs : List Loc), va_P Γ.1 vwCl (XM Γ σ) H → va_S (wA (alM Γ) s.heap.size) s.heap H locs → W p l e { frames := 1, cells := 0, slots := 0, locals := 25 } s m av.toArray below meth c H locs 0 0 (MQ below (wQi Γ.1 vwCl (tysC Γ) (XM Γ) (alM Γ) r σ' s.heap.size) av.toArray s 0 0 (wA (alM Γ) s.heap.size)) (F0 m 0 ls []) from hw _ [] hP va_S.rf
  clear hP
  intro H locs hP hS
  unfold f_X9_count at hf
  refine lv_iload_n hx hb dX9_count_0 rfl (lv_at hl 1 rfl) ?_
  refine lv_i2l (v := ((x1).toInt64)) hx hb dX9_count_1 rfl ?_
  refine lv_lconst (v := (0 : Int64)) hx hb dX9_count_2 (by decide) ?_
  refine lv_ldc2 (v := (5 : Int64)) hx hb hown (hts (.constantLong RX9 84 (5)) (wzm K178)) dX9_count_3 ?_
  obtain ⟨q1, h2, hf⟩ := w_ob hf
  refine w_ci (va_runS (As := [.long ((x1).toInt64), .long (0 : Int64), .long (5 : Int64)]) (rest := []) ⟨hx, hb, hml, hown, hts⟩ (c_X9_in l Γ hG ((x1).toInt64) (0 : Int64) (5 : Int64) σ q1.1 q1.2 h2 H.size) (cwS 3 hts (wzS K170 K168 K169 K5) rfl rfl rfl (by decide +kernel) ⟨(Nat.le_of_ble_eq_true rfl), (Nat.le_of_ble_eq_true rfl)⟩) (w_pre hK hP hkc hN hS) rfl rfl hl.1 rfl (lv_room (Nat.le_of_ble_eq_true rfl)) dX9_count_6 ⟨Nat.le_refl _, Nat.le_refl _⟩) hS (fun H locs hP hS => ?_)
  refine lv_if_ne (tgt := 15) hx hb dX9_count_9 (by decide) (fun c3 => ?_) (fun c3 => ?_)
  · replace hf := (if_neg c3).symm.trans hf
    refine lv_iconst (v := (0 : Int32)) hx hb dX9_count_15 (by decide) ?_
    refine lv_istore_n (lv' := [(2, .int (0 : Int32)), (0, .ref (Γ.2.2.1 (0))), (1, .int x1)]) hx hb dX9_count_16 rfl hl (by decide) rfl (fun ls hl => ?_)
    refine lv_iconst (v := (0 : Int32)) hx hb dX9_count_17 (by decide) ?_
    refine lv_istore_n (lv' := [(3, .int (0 : Int32)), (2, .int (0 : Int32)), (0, .ref (Γ.2.2.1 (0))), (1, .int x1)]) hx hb dX9_count_18 rfl hl (by decide) rfl (fun ls hl => ?_)
    exact j19 5000 ((0 : Int32)) ((0 : Int32)) q1.2 H locs ls hf hP hS (lv_sub hl [2, 3, 1, 0] rfl)
  · replace hf := (if_pos c3).symm.trans hf
    refine lv_bipush (v := (-2 : Int32)) hx hb dX9_count_12 (by decide) ?_
    exact w_iret (X := XM Γ) hx hb hr hlocks hK hP hS rfl hf dX9_count_14
def f_X9_cell (x1 : Int32) (x2 : Int32) (x3 : Int32) (σ : Sm) : Option (Int32 × Sm) := (f_X9_isSheet x1 σ).bind fun (q1 : Int32 × Sm) => if q1.1 = 0 then some ((-2 : Int32), q1.2) else if okI x1 4 then if (q1.2.1 (40) (x1).toNatClampNeg) = 0 then some ((-11 : Int32), q1.2) else if okI x1 4 then (f_X9_in ((x2).toInt64) (0 : Int64) ((((q1.2.1 (42) (x1).toNatClampNeg) - (1 : Int32))).toInt64) q1.2).bind fun (q7 : Int32 × Sm) => if q7.1 = 0 then some ((-12 : Int32), q7.2) else if okI x1 4 then if (q7.2.1 (41) (x1).toNatClampNeg) = 0 then if okI (((40 : Int32) * x1) + x2) 160 then some ((1 : Int32), (upm q7.2 (43) ((((40 : Int32) * x1) + x2)).toNatClampNeg ((x3).toInt8.toInt32))) else none else if okI x1 4 then if (q7.2.1 (41) (x1).toNatClampNeg) = (1 : Int32) then if okI (((40 : Int32) * x1) + x2) 160 then some ((1 : Int32), (upm q7.2 (43) ((((40 : Int32) * x1) + x2)).toNatClampNeg ((x3).toInt16.toInt32))) else none else if okI (((40 : Int32) * x1) + x2) 160 then some ((1 : Int32), (upm q7.2 (43) ((((40 : Int32) * x1) + x2)).toNatClampNeg x3)) else none else none else none else none else none
set_option maxHeartbeats 40000000 in
set_option maxRecDepth 100000 in
theorem c_X9_cell (l : Launch) (Γ : Geo) (hG : okM Γ) (x1 : Int32) (x2 : Int32) (x3 : Int32) (σ : Sm) (r : Int32) (σ' : Sm) (hf : f_X9_cell x1 x2 x3 σ = some (r, σ')) (sz : Nat) : Met l yX9_cell (wz yX9_cell cX9_cell 4 (some .int)) { frames := 2, cells := 0, slots := 0, locals := 45 } (va_Pc [.ref (Γ.2.2.1 (0)), .int x1, .int x2, .int x3] (wPre Γ.1 vwCl (tysC Γ) (XM Γ) (alM Γ) Γ.2.2.2 σ sz)) (wQi Γ.1 vwCl (tysC Γ) (XM Γ) (alM Γ) r σ' sz) 0 0 (wA (alM Γ) sz) := by
  refine w_enter (cc := cX9_cell) (maxL := 4) (ret := (some .int)) (by decide) rfl (Nat.le_of_ble_eq_true rfl) ?_
  intro p e s m below meth c ls hx hb hr hlocks hml hown hts hsz hP hK hkc hN hl
  subst hsz
  generalize hav : ([.ref (Γ.2.2.1 (0)), .int x1, .int x2, .int x3] : List Value) = av at hl hts ⊢
  have hl : lv_has ls 4 [(0, .ref (Γ.2.2.1 (0))), (1, .int x1), (2, .int x2), (3, .int x3)] := by rw [← hav] at hl; exact hl
  suffices hw : ∀ (H : Heap) (locs : List Loc), va_P Γ.1 vwCl (XM Γ σ) H → va_S (wA (alM Γ) s.heap.size) s.heap H locs → W p l e { frames := 2, cells := 0, slots := 0, locals := 45 } s m av.toArray below meth c H locs 0 0 (MQ below (wQi Γ.1 vwCl (tysC Γ) (XM Γ) (alM Γ) r σ' s.heap.size) av.toArray s 0 0 (wA (alM Γ) s.heap.size)) (F0 m 0 ls []) from hw _ [] hP va_S.rf
  clear hP
  intro H locs hP hS
  unfold f_X9_cell at hf
  refine lv_iload_n hx hb dX9_cell_0 rfl (lv_at hl 1 rfl) ?_
  obtain ⟨q1, h2, hf⟩ := w_ob hf
  refine w_ci (va_runS (As := [.int x1]) (rest := []) ⟨hx, hb, hml, hown, hts⟩ (c_X9_isSheet l Γ hG x1 σ q1.1 q1.2 h2 H.size) (cwS 1 hts (wzS K895 K893 K894 K5) rfl rfl rfl (by decide +kernel) ⟨(Nat.le_of_ble_eq_true rfl), (Nat.le_of_ble_eq_true rfl)⟩) (w_pre hK hP hkc hN hS) rfl rfl hl.1 rfl (lv_room (Nat.le_of_ble_eq_true rfl)) dX9_cell_1 ⟨Nat.le_refl _, Nat.le_refl _⟩) hS (fun H locs hP hS => ?_)
  refine lv_if_ne (tgt := 10) hx hb dX9_cell_4 (by decide) (fun c3 => ?_) (fun c3 => ?_)
  · replace hf := (if_neg c3).symm.trans hf
    refine lv_aload_n hx hb dX9_cell_10 rfl (lv_at hl 0 rfl) ?_
    refine va_get (D := Γ.1) (ci := 8) (v := .ref (Γ.2.2.1 (14))) (C := RX9) (T := TX9) (N := 44) hx hb hts iX9 hown hK hP (0) (gM_Model Γ q1.2) rfl 40 (by decide) (hts (.fieldLink RX9 57 "OtherHalfOfNightModel" "isThere" "[Z") (wzm K124)) (fun _ h9 => h9) rfl dX9_cell_11 ?_
    refine lv_iload_n hx hb dX9_cell_14 rfl (lv_at hl 1 rfl) ?_
    obtain ⟨g4, hf⟩ := w_oi hf
    refine va_zald (D := Γ.1) (tys := (tysC Γ)) hx hb hK hP (14) 2 (gM_M_isThere Γ q1.2) rfl g4 dX9_cell_15 ?_
    refine lv_if_ne (tgt := 22) hx hb dX9_cell_16 (by decide) (fun c5 => ?_) (fun c5 => ?_)
    · replace hf := (if_neg c5).symm.trans hf
      refine lv_iload_n hx hb dX9_cell_22 rfl (lv_at hl 2 rfl) ?_
      refine lv_i2l (v := ((x2).toInt64)) hx hb dX9_cell_23 rfl ?_
      refine lv_lconst (v := (0 : Int64)) hx hb dX9_cell_24 (by decide) ?_
      refine lv_aload_n hx hb dX9_cell_25 rfl (lv_at hl 0 rfl) ?_
      refine va_get (D := Γ.1) (ci := 8) (v := .ref (Γ.2.2.1 (16))) (C := RX9) (T := TX9) (N := 44) hx hb hts iX9 hown hK hP (0) (gM_Model Γ q1.2) rfl 42 (by decide) (hts (.fieldLink RX9 64 "OtherHalfOfNightModel" "sheetSize" "[I") (wzm K126)) (fun _ h9 => h9) rfl dX9_cell_26 ?_
      refine lv_iload_n hx hb dX9_cell_29 rfl (lv_at hl 1 rfl) ?_
      obtain ⟨g6, hf⟩ := w_oi hf
      refine va_iald (D := Γ.1) (tys := (tysC Γ)) hx hb hK hP (16) 0 (gM_M_sheetSize Γ q1.2) rfl g6 dX9_cell_30 ?_
      refine lv_iconst (v := (1 : Int32)) hx hb dX9_cell_31 (by decide) ?_
      refine lv_isub hx hb dX9_cell_32 ?_
      refine lv_i2l (v := ((((q1.2.1 (42) (x1).toNatClampNeg) - (1 : Int32))).toInt64)) hx hb dX9_cell_33 rfl ?_
      obtain ⟨q7, h8, hf⟩ := w_ob hf
      refine w_ci (va_runS (As := [.long ((x2).toInt64), .long (0 : Int64), .long ((((q1.2.1 (42) (x1).toNatClampNeg) - (1 : Int32))).toInt64)]) (rest := []) ⟨hx, hb, hml, hown, hts⟩ (c_X9_in l Γ hG ((x2).toInt64) (0 : Int64) ((((q1.2.1 (42) (x1).toNatClampNeg) - (1 : Int32))).toInt64) q1.2 q7.1 q7.2 h8 H.size) (cwS 3 hts (wzS K170 K168 K169 K5) rfl rfl rfl (by decide +kernel) ⟨(Nat.le_of_ble_eq_true rfl), (Nat.le_of_ble_eq_true rfl)⟩) (w_pre hK hP hkc hN hS) rfl rfl hl.1 rfl (lv_room (Nat.le_of_ble_eq_true rfl)) dX9_cell_34 ⟨Nat.le_refl _, Nat.le_refl _⟩) hS (fun H locs hP hS => ?_)
      refine lv_if_ne (tgt := 43) hx hb dX9_cell_37 (by decide) (fun c9 => ?_) (fun c9 => ?_)
      · replace hf := (if_neg c9).symm.trans hf
        refine lv_aload_n hx hb dX9_cell_43 rfl (lv_at hl 0 rfl) ?_
        refine va_get (D := Γ.1) (ci := 8) (v := .ref (Γ.2.2.1 (17))) (C := RX9) (T := TX9) (N := 44) hx hb hts iX9 hown hK hP (0) (gM_Model Γ q7.2) rfl 43 (by decide) (hts (.fieldLink RX9 67 "OtherHalfOfNightModel" "items" "[I") (wzm K127)) (fun _ h9 => h9) rfl dX9_cell_44 ?_
        refine lv_bipush (v := (40 : Int32)) hx hb dX9_cell_47 (by decide) ?_
        refine lv_iload_n hx hb dX9_cell_49 rfl (lv_at hl 1 rfl) ?_
        refine lv_imul hx hb dX9_cell_50 ?_
        refine lv_iload_n hx hb dX9_cell_51 rfl (lv_at hl 2 rfl) ?_
        refine lv_iadd hx hb dX9_cell_52 ?_
        refine lv_aload_n hx hb dX9_cell_53 rfl (lv_at hl 0 rfl) ?_
        refine va_get (D := Γ.1) (ci := 8) (v := .ref (Γ.2.2.1 (15))) (C := RX9) (T := TX9) (N := 44) hx hb hts iX9 hown hK hP (0) (gM_Model Γ q7.2) rfl 41 (by decide) (hts (.fieldLink RX9 61 "OtherHalfOfNightModel" "sorts" "[I") (wzm K125)) (fun _ h9 => h9) rfl dX9_cell_54 ?_
        refine lv_iload_n hx hb dX9_cell_57 rfl (lv_at hl 1 rfl) ?_
        obtain ⟨g10, hf⟩ := w_oi hf
        refine va_iald (D := Γ.1) (tys := (tysC Γ)) hx hb hK hP (15) 0 (gM_M_sorts Γ q7.2) rfl g10 dX9_cell_58 ?_
        refine lv_if_ne (tgt := 67) hx hb dX9_cell_59 (by decide) (fun c11 => ?_) (fun c11 => ?_)
        · replace hf := (if_neg c11).symm.trans hf
          refine lv_aload_n hx hb dX9_cell_67 rfl (lv_at hl 0 rfl) ?_
          refine va_get (D := Γ.1) (ci := 8) (v := .ref (Γ.2.2.1 (15))) (C := RX9) (T := TX9) (N := 44) hx hb hts iX9 hown hK hP (0) (gM_Model Γ q7.2) rfl 41 (by decide) (hts (.fieldLink RX9 61 "OtherHalfOfNightModel" "sorts" "[I") (wzm K125)) (fun _ h9 => h9) rfl dX9_cell_68 ?_
          refine lv_iload_n hx hb dX9_cell_71 rfl (lv_at hl 1 rfl) ?_
          obtain ⟨g12, hf⟩ := w_oi hf
          refine va_iald (D := Γ.1) (tys := (tysC Γ)) hx hb hK hP (15) 0 (gM_M_sorts Γ q7.2) rfl g12 dX9_cell_72 ?_
          refine lv_iconst (v := (1 : Int32)) hx hb dX9_cell_73 (by decide) ?_
          refine lv_icmp_ne (tgt := 82) hx hb dX9_cell_74 (by decide) (fun c13 => ?_) (fun c13 => ?_)
          · replace hf := (if_neg c13).symm.trans hf
            refine lv_iload_n hx hb dX9_cell_82 rfl (lv_at hl 3 rfl) ?_
            obtain ⟨g14, hf⟩ := w_oi hf
            refine w_iast (D := Γ.1) (tys := (tysC Γ)) (X := XM Γ) (σ' := (upm q7.2 (43) ((((40 : Int32) * x1) + x2)).toNatClampNeg x3)) hx hb hK hP (halM Γ) hG hS (17) 0 (gM_M_items Γ q7.2) rfl g14 dX9_cell_83 (sM_M_items Γ q7.2 ((((40 : Int32) * x1) + x2)).toNatClampNeg x3) (fun H locs hP hS => ?_)
            refine lv_iconst (v := (1 : Int32)) hx hb dX9_cell_84 (by decide) ?_
            exact w_iret (X := XM Γ) hx hb hr hlocks hK hP hS rfl hf dX9_cell_85
          · replace hf := (if_pos c13).symm.trans hf
            refine lv_iload_n hx hb dX9_cell_77 rfl (lv_at hl 3 rfl) ?_
            refine lv_i2s (v := ((x3).toInt16.toInt32)) hx hb dX9_cell_78 rfl ?_
            refine lv_goto (tgt := 83) hx hb dX9_cell_79 (by decide) ?_
            obtain ⟨g15, hf⟩ := w_oi hf
            refine w_iast (D := Γ.1) (tys := (tysC Γ)) (X := XM Γ) (σ' := (upm q7.2 (43) ((((40 : Int32) * x1) + x2)).toNatClampNeg ((x3).toInt16.toInt32))) hx hb hK hP (halM Γ) hG hS (17) 0 (gM_M_items Γ q7.2) rfl g15 dX9_cell_83 (sM_M_items Γ q7.2 ((((40 : Int32) * x1) + x2)).toNatClampNeg ((x3).toInt16.toInt32)) (fun H locs hP hS => ?_)
            refine lv_iconst (v := (1 : Int32)) hx hb dX9_cell_84 (by decide) ?_
            exact w_iret (X := XM Γ) hx hb hr hlocks hK hP hS rfl hf dX9_cell_85
        · replace hf := (if_pos c11).symm.trans hf
          refine lv_iload_n hx hb dX9_cell_62 rfl (lv_at hl 3 rfl) ?_
          refine lv_i2b (v := ((x3).toInt8.toInt32)) hx hb dX9_cell_63 rfl ?_
          refine lv_goto (tgt := 83) hx hb dX9_cell_64 (by decide) ?_
          obtain ⟨g16, hf⟩ := w_oi hf
          refine w_iast (D := Γ.1) (tys := (tysC Γ)) (X := XM Γ) (σ' := (upm q7.2 (43) ((((40 : Int32) * x1) + x2)).toNatClampNeg ((x3).toInt8.toInt32))) hx hb hK hP (halM Γ) hG hS (17) 0 (gM_M_items Γ q7.2) rfl g16 dX9_cell_83 (sM_M_items Γ q7.2 ((((40 : Int32) * x1) + x2)).toNatClampNeg ((x3).toInt8.toInt32)) (fun H locs hP hS => ?_)
          refine lv_iconst (v := (1 : Int32)) hx hb dX9_cell_84 (by decide) ?_
          exact w_iret (X := XM Γ) hx hb hr hlocks hK hP hS rfl hf dX9_cell_85
      · replace hf := (if_pos c9).symm.trans hf
        refine lv_bipush (v := (-12 : Int32)) hx hb dX9_cell_40 (by decide) ?_
        exact w_iret (X := XM Γ) hx hb hr hlocks hK hP hS rfl hf dX9_cell_42
    · replace hf := (if_pos c5).symm.trans hf
      refine lv_bipush (v := (-11 : Int32)) hx hb dX9_cell_19 (by decide) ?_
      exact w_iret (X := XM Γ) hx hb hr hlocks hK hP hS rfl hf dX9_cell_21
  · replace hf := (if_pos c3).symm.trans hf
    refine lv_bipush (v := (-2 : Int32)) hx hb dX9_cell_7 (by decide) ?_
    exact w_iret (X := XM Γ) hx hb hr hlocks hK hP hS rfl hf dX9_cell_9
def f_X9_copy_145 (k121 : Int32 → Int32 → Sm → Option (Int32 × Sm)) (x1 : Int32) (x2 : Int32) (x3 : Int32) (x4 : Int32) (x5 : Int32) (y6 : Int32) (y7 : Int32) (z0 : Int32) (τ : Sm) : Option (Int32 × Sm) := if okI ((((40 : Int32) * x1) + x2) + z0) 160 then if okI ((((40 : Int32) * x3) + x4) + z0) 160 then k121 (y6) ((y7 + (1 : Int32))) (upm τ (43) (((((40 : Int32) * x3) + x4) + z0)).toNatClampNeg (τ.1 (43) (((((40 : Int32) * x1) + x2) + z0)).toNatClampNeg)) else none else none
def f_X9_copy_121 (x1 : Int32) (x2 : Int32) (x3 : Int32) (x4 : Int32) (x5 : Int32) : Nat → Int32 → Int32 → Sm → Option (Int32 × Sm)
  | 0, _, _, _ => none
  | n + 1, y6, y7, τ => if x5 ≤ y7 then some (x5, τ) else if y6 = 0 then f_X9_copy_145 (f_X9_copy_121 x1 x2 x3 x4 x5 n) x1 x2 x3 x4 x5 (y6) (y7) (y7) τ else f_X9_copy_145 (f_X9_copy_121 x1 x2 x3 x4 x5 n) x1 x2 x3 x4 x5 (y6) (y7) (((x5 - (1 : Int32)) - y7)) τ
def f_X9_copy (x1 : Int32) (x2 : Int32) (x3 : Int32) (x4 : Int32) (x5 : Int32) (σ : Sm) : Option (Int32 × Sm) := (f_X9_isSheet x1 σ).bind fun (q1 : Int32 × Sm) => if q1.1 = 0 then some ((-2 : Int32), q1.2) else (f_X9_isSheet x3 q1.2).bind fun (q4 : Int32 × Sm) => if q4.1 = 0 then some ((-2 : Int32), q4.2) else if okI x1 4 then if (q4.2.1 (40) (x1).toNatClampNeg) = 0 then some ((-11 : Int32), q4.2) else if okI x3 4 then if (q4.2.1 (40) (x3).toNatClampNeg) = 0 then some ((-11 : Int32), q4.2) else if okI x1 4 then if okI x3 4 then if (q4.2.1 (41) (x1).toNatClampNeg) = (q4.2.1 (41) (x3).toNatClampNeg) then if x5 < 0 then some ((-12 : Int32), q4.2) else if x2 < 0 then some ((-12 : Int32), q4.2) else if x4 < 0 then some ((-12 : Int32), q4.2) else if okI x1 4 then if ((q4.2.1 (42) (x1).toNatClampNeg) - x5) < x2 then some ((-12 : Int32), q4.2) else if okI x3 4 then if x4 ≤ ((q4.2.1 (42) (x3).toNatClampNeg) - x5) then if x1 = x3 then if x4 ≤ x2 then f_X9_copy_121 x1 x2 x3 x4 x5 5000 ((0 : Int32)) ((0 : Int32)) q4.2 else f_X9_copy_121 x1 x2 x3 x4 x5 5000 ((1 : Int32)) ((0 : Int32)) q4.2 else f_X9_copy_121 x1 x2 x3 x4 x5 5000 ((0 : Int32)) ((0 : Int32)) q4.2 else some ((-12 : Int32), q4.2) else none else none else some ((-13 : Int32), q4.2) else none else none else none else none
set_option maxHeartbeats 40000000 in
set_option maxRecDepth 100000 in
theorem c_X9_copy (l : Launch) (Γ : Geo) (hG : okM Γ) (x1 : Int32) (x2 : Int32) (x3 : Int32) (x4 : Int32) (x5 : Int32) (σ : Sm) (r : Int32) (σ' : Sm) (hf : f_X9_copy x1 x2 x3 x4 x5 σ = some (r, σ')) (sz : Nat) : Met l yX9_copy (wz yX9_copy cX9_copy 9 (some .int)) { frames := 2, cells := 0, slots := 0, locals := 45 } (va_Pc [.ref (Γ.2.2.1 (0)), .int x1, .int x2, .int x3, .int x4, .int x5] (wPre Γ.1 vwCl (tysC Γ) (XM Γ) (alM Γ) Γ.2.2.2 σ sz)) (wQi Γ.1 vwCl (tysC Γ) (XM Γ) (alM Γ) r σ' sz) 0 0 (wA (alM Γ) sz) := by
  refine w_enter (cc := cX9_copy) (maxL := 9) (ret := (some .int)) (by decide) rfl (Nat.le_of_ble_eq_true rfl) ?_
  intro p e s m below meth c ls hx hb hr hlocks hml hown hts hsz hP hK hkc hN hl
  subst hsz
  generalize hav : ([.ref (Γ.2.2.1 (0)), .int x1, .int x2, .int x3, .int x4, .int x5] : List Value) = av at hl hts ⊢
  have hl : lv_has ls 9 [(0, .ref (Γ.2.2.1 (0))), (1, .int x1), (2, .int x2), (3, .int x3), (4, .int x4), (5, .int x5)] := by rw [← hav] at hl; exact hl
  have j121 : ∀ (n121 : Nat), ∀ (y6 : Int32) (y7 : Int32) (τ : Sm) (H : Heap) (locs : List Loc) (ls : Array Slot) (hf : f_X9_copy_121 x1 x2 x3 x4 x5 n121 y6 y7 τ = some (r, σ')) (hP : va_P Γ.1 vwCl (XM Γ τ) H) (hS : va_S (wA (alM Γ) s.heap.size) s.heap H locs) (hl : lv_has ls 9 [(0, .ref (Γ.2.2.1 (0))), (1, .int x1), (2, .int x2), (3, .int x3), (4, .int x4), (5, .int x5), (6, .int y6), (7, .int y7)]), W p l e { frames := 2, cells := 0, slots := 0, locals := 45 } s m av.toArray below meth c H locs 0 0 (MQ below (wQi Γ.1 vwCl (tysC Γ) (XM Γ) (alM Γ) r σ' s.heap.size) av.toArray s 0 0 (wA (alM Γ) s.heap.size)) (F0 m 121 ls []) := by
    intro n121
    induction n121 with
    | zero =>
      intro y6 y7 τ H locs ls hf
      exact absurd hf (by intro h; cases h)
    | succ n121 ih121 =>
      have j145 : ∀ (y6 : Int32) (y7 : Int32) (z0 : Int32) (τ : Sm) (H : Heap) (locs : List Loc) (ls : Array Slot) (hf : f_X9_copy_145 (f_X9_copy_121 x1 x2 x3 x4 x5 n121) x1 x2 x3 x4 x5 y6 y7 z0 τ = some (r, σ')) (hP : va_P Γ.1 vwCl (XM Γ τ) H) (hS : va_S (wA (alM Γ) s.heap.size) s.heap H locs) (hl : lv_has ls 9 [(0, .ref (Γ.2.2.1 (0))), (1, .int x1), (2, .int x2), (3, .int x3), (4, .int x4), (5, .int x5), (6, .int y6), (7, .int y7)]), W p l e { frames := 2, cells := 0, slots := 0, locals := 45 } s m av.toArray below meth c H locs 0 0 (MQ below (wQi Γ.1 vwCl (tysC Γ) (XM Γ) (alM Γ) r σ' s.heap.size) av.toArray s 0 0 (wA (alM Γ) s.heap.size)) (F0 m 145 ls [.int z0]) := by
        intro y6 y7 z0 τ H locs ls hf hP hS hl
        unfold f_X9_copy_145 at hf
        refine lv_istore (lv' := [(8, .int z0), (0, .ref (Γ.2.2.1 (0))), (1, .int x1), (2, .int x2), (3, .int x3), (4, .int x4), (5, .int x5), (6, .int y6), (7, .int y7)]) hx hb dX9_copy_145 hl (by decide) rfl (fun ls hl => ?_)
        refine lv_aload_n hx hb dX9_copy_147 rfl (lv_at hl 1 rfl) ?_
        refine va_get (D := Γ.1) (ci := 8) (v := .ref (Γ.2.2.1 (17))) (C := RX9) (T := TX9) (N := 44) hx hb hts iX9 hown hK hP (0) (gM_Model Γ τ) rfl 43 (by decide) (hts (.fieldLink RX9 67 "OtherHalfOfNightModel" "items" "[I") (wzm K127)) (fun _ h9 => h9) rfl dX9_copy_148 ?_
        refine lv_bipush (v := (40 : Int32)) hx hb dX9_copy_151 (by decide) ?_
        refine lv_iload_n hx hb dX9_copy_153 rfl (lv_at hl 4 rfl) ?_
        refine lv_imul hx hb dX9_copy_154 ?_
        refine lv_iload hx hb dX9_copy_155 (lv_at hl 5 rfl) ?_
        refine lv_iadd hx hb dX9_copy_157 ?_
        refine lv_iload hx hb dX9_copy_158 (lv_at hl 0 rfl) ?_
        refine lv_iadd hx hb dX9_copy_160 ?_
        refine lv_aload_n hx hb dX9_copy_161 rfl (lv_at hl 1 rfl) ?_
        refine va_get (D := Γ.1) (ci := 8) (v := .ref (Γ.2.2.1 (17))) (C := RX9) (T := TX9) (N := 44) hx hb hts iX9 hown hK hP (0) (gM_Model Γ τ) rfl 43 (by decide) (hts (.fieldLink RX9 67 "OtherHalfOfNightModel" "items" "[I") (wzm K127)) (fun _ h9 => h9) rfl dX9_copy_162 ?_
        refine lv_bipush (v := (40 : Int32)) hx hb dX9_copy_165 (by decide) ?_
        refine lv_iload_n hx hb dX9_copy_167 rfl (lv_at hl 2 rfl) ?_
        refine lv_imul hx hb dX9_copy_168 ?_
        refine lv_iload_n hx hb dX9_copy_169 rfl (lv_at hl 3 rfl) ?_
        refine lv_iadd hx hb dX9_copy_170 ?_
        refine lv_iload hx hb dX9_copy_171 (lv_at hl 0 rfl) ?_
        refine lv_iadd hx hb dX9_copy_173 ?_
        obtain ⟨g25, hf⟩ := w_oi hf
        refine va_iald (D := Γ.1) (tys := (tysC Γ)) hx hb hK hP (17) 0 (gM_M_items Γ τ) rfl g25 dX9_copy_174 ?_
        obtain ⟨g26, hf⟩ := w_oi hf
        refine w_iast (D := Γ.1) (tys := (tysC Γ)) (X := XM Γ) (σ' := (upm τ (43) (((((40 : Int32) * x3) + x4) + z0)).toNatClampNeg (τ.1 (43) (((((40 : Int32) * x1) + x2) + z0)).toNatClampNeg))) hx hb hK hP (halM Γ) hG hS (17) 0 (gM_M_items Γ τ) rfl g26 dX9_copy_175 (sM_M_items Γ τ (((((40 : Int32) * x3) + x4) + z0)).toNatClampNeg (τ.1 (43) (((((40 : Int32) * x1) + x2) + z0)).toNatClampNeg)) (fun H locs hP hS => ?_)
        refine lv_iinc (v := (y7 + (1 : Int32))) (lv' := [(7, .int (y7 + (1 : Int32))), (8, .int z0), (0, .ref (Γ.2.2.1 (0))), (1, .int x1), (2, .int x2), (3, .int x3), (4, .int x4), (5, .int x5), (6, .int y6)]) hx hb dX9_copy_176 hl (k := 8) rfl rfl (by decide) rfl (fun ls hl => ?_)
        refine lv_goto (tgt := 121) hx hb dX9_copy_179 (by decide) ?_
        exact ih121 (y6) ((y7 + (1 : Int32))) (upm τ (43) (((((40 : Int32) * x3) + x4) + z0)).toNatClampNeg (τ.1 (43) (((((40 : Int32) * x1) + x2) + z0)).toNatClampNeg)) H locs ls hf hP hS (lv_sub hl [2, 3, 4, 5, 6, 7, 8, 0] rfl)
      intro y6 y7 τ H locs ls hf hP hS hl
      unfold f_X9_copy_121 at hf
      refine lv_iload hx hb dX9_copy_121 (lv_at hl 7 rfl) ?_
      refine lv_iload hx hb dX9_copy_123 (lv_at hl 5 rfl) ?_
      refine lv_icmp_ge (tgt := 182) hx hb dX9_copy_125 (by decide) (fun c23 => ?_) (fun c23 => ?_)
      · replace hf := (if_pos c23).symm.trans hf
        refine lv_iload hx hb dX9_copy_182 (lv_at hl 5 rfl) ?_
        exact w_iret (X := XM Γ) hx hb hr hlocks hK hP hS rfl hf dX9_copy_184
      · replace hf := (if_neg c23).symm.trans hf
        refine lv_iload hx hb dX9_copy_128 (lv_at hl 6 rfl) ?_
        refine lv_if_eq (tgt := 143) hx hb dX9_copy_130 (by decide) (fun c24 => ?_) (fun c24 => ?_)
        · replace hf := (if_pos c24).symm.trans hf
          refine lv_iload hx hb dX9_copy_143 (lv_at hl 7 rfl) ?_
          exact j145 (y6) (y7) (y7) τ H locs ls hf hP hS (lv_sub hl [0, 1, 2, 3, 4, 5, 6, 7] rfl)
        · replace hf := (if_neg c24).symm.trans hf
          refine lv_iload hx hb dX9_copy_133 (lv_at hl 5 rfl) ?_
          refine lv_iconst (v := (1 : Int32)) hx hb dX9_copy_135 (by decide) ?_
          refine lv_isub hx hb dX9_copy_136 ?_
          refine lv_iload hx hb dX9_copy_137 (lv_at hl 7 rfl) ?_
          refine lv_isub hx hb dX9_copy_139 ?_
          refine lv_goto (tgt := 145) hx hb dX9_copy_140 (by decide) ?_
          exact j145 (y6) (y7) (((x5 - (1 : Int32)) - y7)) τ H locs ls hf hP hS (lv_sub hl [0, 1, 2, 3, 4, 5, 6, 7] rfl)
  suffices hw : ∀ (H : Heap) (locs : List Loc), va_P Γ.1 vwCl (XM Γ σ) H → va_S (wA (alM Γ) s.heap.size) s.heap H locs → W p l e { frames := 2, cells := 0, slots := 0, locals := 45 } s m av.toArray below meth c H locs 0 0 (MQ below (wQi Γ.1 vwCl (tysC Γ) (XM Γ) (alM Γ) r σ' s.heap.size) av.toArray s 0 0 (wA (alM Γ) s.heap.size)) (F0 m 0 ls []) from hw _ [] hP va_S.rf
  clear hP
  intro H locs hP hS
  unfold f_X9_copy at hf
  refine lv_iload_n hx hb dX9_copy_0 rfl (lv_at hl 1 rfl) ?_
  obtain ⟨q1, h2, hf⟩ := w_ob hf
  refine w_ci (va_runS (As := [.int x1]) (rest := []) ⟨hx, hb, hml, hown, hts⟩ (c_X9_isSheet l Γ hG x1 σ q1.1 q1.2 h2 H.size) (cwS 1 hts (wzS K895 K893 K894 K5) rfl rfl rfl (by decide +kernel) ⟨(Nat.le_of_ble_eq_true rfl), (Nat.le_of_ble_eq_true rfl)⟩) (w_pre hK hP hkc hN hS) rfl rfl hl.1 rfl (lv_room (Nat.le_of_ble_eq_true rfl)) dX9_copy_1 ⟨Nat.le_refl _, Nat.le_refl _⟩) hS (fun H locs hP hS => ?_)
  refine lv_if_eq (tgt := 14) hx hb dX9_copy_4 (by decide) (fun c3 => ?_) (fun c3 => ?_)
  · replace hf := (if_pos c3).symm.trans hf
    refine lv_bipush (v := (-2 : Int32)) hx hb dX9_copy_14 (by decide) ?_
    exact w_iret (X := XM Γ) hx hb hr hlocks hK hP hS rfl hf dX9_copy_16
  · replace hf := (if_neg c3).symm.trans hf
    refine lv_iload_n hx hb dX9_copy_7 rfl (lv_at hl 3 rfl) ?_
    obtain ⟨q4, h5, hf⟩ := w_ob hf
    refine w_ci (va_runS (As := [.int x3]) (rest := []) ⟨hx, hb, hml, hown, hts⟩ (c_X9_isSheet l Γ hG x3 q1.2 q4.1 q4.2 h5 H.size) (cwS 1 hts (wzS K895 K893 K894 K5) rfl rfl rfl (by decide +kernel) ⟨(Nat.le_of_ble_eq_true rfl), (Nat.le_of_ble_eq_true rfl)⟩) (w_pre hK hP hkc hN hS) rfl rfl hl.1 rfl (lv_room (Nat.le_of_ble_eq_true rfl)) dX9_copy_8 ⟨Nat.le_refl _, Nat.le_refl _⟩) hS (fun H locs hP hS => ?_)
    refine lv_if_ne (tgt := 17) hx hb dX9_copy_11 (by decide) (fun c6 => ?_) (fun c6 => ?_)
    · replace hf := (if_neg c6).symm.trans hf
      refine lv_aload_n hx hb dX9_copy_17 rfl (lv_at hl 0 rfl) ?_
      refine va_get (D := Γ.1) (ci := 8) (v := .ref (Γ.2.2.1 (14))) (C := RX9) (T := TX9) (N := 44) hx hb hts iX9 hown hK hP (0) (gM_Model Γ q4.2) rfl 40 (by decide) (hts (.fieldLink RX9 57 "OtherHalfOfNightModel" "isThere" "[Z") (wzm K124)) (fun _ h9 => h9) rfl dX9_copy_18 ?_
      refine lv_iload_n hx hb dX9_copy_21 rfl (lv_at hl 1 rfl) ?_
      obtain ⟨g7, hf⟩ := w_oi hf
      refine va_zald (D := Γ.1) (tys := (tysC Γ)) hx hb hK hP (14) 2 (gM_M_isThere Γ q4.2) rfl g7 dX9_copy_22 ?_
      refine lv_if_eq (tgt := 35) hx hb dX9_copy_23 (by decide) (fun c8 => ?_) (fun c8 => ?_)
      · replace hf := (if_pos c8).symm.trans hf
        refine lv_bipush (v := (-11 : Int32)) hx hb dX9_copy_35 (by decide) ?_
        exact w_iret (X := XM Γ) hx hb hr hlocks hK hP hS rfl hf dX9_copy_37
      · replace hf := (if_neg c8).symm.trans hf
        refine lv_aload_n hx hb dX9_copy_26 rfl (lv_at hl 0 rfl) ?_
        refine va_get (D := Γ.1) (ci := 8) (v := .ref (Γ.2.2.1 (14))) (C := RX9) (T := TX9) (N := 44) hx hb hts iX9 hown hK hP (0) (gM_Model Γ q4.2) rfl 40 (by decide) (hts (.fieldLink RX9 57 "OtherHalfOfNightModel" "isThere" "[Z") (wzm K124)) (fun _ h9 => h9) rfl dX9_copy_27 ?_
        refine lv_iload_n hx hb dX9_copy_30 rfl (lv_at hl 3 rfl) ?_
        obtain ⟨g9, hf⟩ := w_oi hf
        refine va_zald (D := Γ.1) (tys := (tysC Γ)) hx hb hK hP (14) 2 (gM_M_isThere Γ q4.2) rfl g9 dX9_copy_31 ?_
        refine lv_if_ne (tgt := 38) hx hb dX9_copy_32 (by decide) (fun c10 => ?_) (fun c10 => ?_)
        · replace hf := (if_neg c10).symm.trans hf
          refine lv_aload_n hx hb dX9_copy_38 rfl (lv_at hl 0 rfl) ?_
          refine va_get (D := Γ.1) (ci := 8) (v := .ref (Γ.2.2.1 (15))) (C := RX9) (T := TX9) (N := 44) hx hb hts iX9 hown hK hP (0) (gM_Model Γ q4.2) rfl 41 (by decide) (hts (.fieldLink RX9 61 "OtherHalfOfNightModel" "sorts" "[I") (wzm K125)) (fun _ h9 => h9) rfl dX9_copy_39 ?_
          refine lv_iload_n hx hb dX9_copy_42 rfl (lv_at hl 1 rfl) ?_
          obtain ⟨g11, hf⟩ := w_oi hf
          refine va_iald (D := Γ.1) (tys := (tysC Γ)) hx hb hK hP (15) 0 (gM_M_sorts Γ q4.2) rfl g11 dX9_copy_43 ?_
          refine lv_aload_n hx hb dX9_copy_44 rfl (lv_at hl 0 rfl) ?_
          refine va_get (D := Γ.1) (ci := 8) (v := .ref (Γ.2.2.1 (15))) (C := RX9) (T := TX9) (N := 44) hx hb hts iX9 hown hK hP (0) (gM_Model Γ q4.2) rfl 41 (by decide) (hts (.fieldLink RX9 61 "OtherHalfOfNightModel" "sorts" "[I") (wzm K125)) (fun _ h9 => h9) rfl dX9_copy_45 ?_
          refine lv_iload_n hx hb dX9_copy_48 rfl (lv_at hl 3 rfl) ?_
          obtain ⟨g12, hf⟩ := w_oi hf
          refine va_iald (D := Γ.1) (tys := (tysC Γ)) hx hb hK hP (15) 0 (gM_M_sorts Γ q4.2) rfl g12 dX9_copy_49 ?_
          refine lv_icmp_eq (tgt := 56) hx hb dX9_copy_50 (by decide) (fun c13 => ?_) (fun c13 => ?_)
          · replace hf := (if_pos c13).symm.trans hf
            refine lv_iload hx hb dX9_copy_56 (lv_at hl 5 rfl) ?_
            refine lv_if_lt (tgt := 97) hx hb dX9_copy_58 (by decide) (fun c14 => ?_) (fun c14 => ?_)
            · replace hf := (if_pos c14).symm.trans hf
              refine lv_bipush (v := (-12 : Int32)) hx hb dX9_copy_97 (by decide) ?_
              exact w_iret (X := XM Γ) hx hb hr hlocks hK hP hS rfl hf dX9_copy_99
            · replace hf := (if_neg c14).symm.trans hf
              refine lv_iload_n hx hb dX9_copy_61 rfl (lv_at hl 2 rfl) ?_
              refine lv_if_lt (tgt := 97) hx hb dX9_copy_62 (by decide) (fun c15 => ?_) (fun c15 => ?_)
              · replace hf := (if_pos c15).symm.trans hf
                refine lv_bipush (v := (-12 : Int32)) hx hb dX9_copy_97 (by decide) ?_
                exact w_iret (X := XM Γ) hx hb hr hlocks hK hP hS rfl hf dX9_copy_99
              · replace hf := (if_neg c15).symm.trans hf
                refine lv_iload hx hb dX9_copy_65 (lv_at hl 4 rfl) ?_
                refine lv_if_lt (tgt := 97) hx hb dX9_copy_67 (by decide) (fun c16 => ?_) (fun c16 => ?_)
                · replace hf := (if_pos c16).symm.trans hf
                  refine lv_bipush (v := (-12 : Int32)) hx hb dX9_copy_97 (by decide) ?_
                  exact w_iret (X := XM Γ) hx hb hr hlocks hK hP hS rfl hf dX9_copy_99
                · replace hf := (if_neg c16).symm.trans hf
                  refine lv_iload_n hx hb dX9_copy_70 rfl (lv_at hl 2 rfl) ?_
                  refine lv_aload_n hx hb dX9_copy_71 rfl (lv_at hl 0 rfl) ?_
                  refine va_get (D := Γ.1) (ci := 8) (v := .ref (Γ.2.2.1 (16))) (C := RX9) (T := TX9) (N := 44) hx hb hts iX9 hown hK hP (0) (gM_Model Γ q4.2) rfl 42 (by decide) (hts (.fieldLink RX9 64 "OtherHalfOfNightModel" "sheetSize" "[I") (wzm K126)) (fun _ h9 => h9) rfl dX9_copy_72 ?_
                  refine lv_iload_n hx hb dX9_copy_75 rfl (lv_at hl 1 rfl) ?_
                  obtain ⟨g17, hf⟩ := w_oi hf
                  refine va_iald (D := Γ.1) (tys := (tysC Γ)) hx hb hK hP (16) 0 (gM_M_sheetSize Γ q4.2) rfl g17 dX9_copy_76 ?_
                  refine lv_iload hx hb dX9_copy_77 (lv_at hl 5 rfl) ?_
                  refine lv_isub hx hb dX9_copy_79 ?_
                  refine lv_icmp_gt (tgt := 97) hx hb dX9_copy_80 (by decide) (fun c18 => ?_) (fun c18 => ?_)
                  · replace hf := (if_pos c18).symm.trans hf
                    refine lv_bipush (v := (-12 : Int32)) hx hb dX9_copy_97 (by decide) ?_
                    exact w_iret (X := XM Γ) hx hb hr hlocks hK hP hS rfl hf dX9_copy_99
                  · replace hf := (if_neg c18).symm.trans hf
                    refine lv_iload hx hb dX9_copy_83 (lv_at hl 4 rfl) ?_
                    refine lv_aload_n hx hb dX9_copy_85 rfl (lv_at hl 0 rfl) ?_
                    refine va_get (D := Γ.1) (ci := 8) (v := .ref (Γ.2.2.1 (16))) (C := RX9) (T := TX9) (N := 44) hx hb hts iX9 hown hK hP (0) (gM_Model Γ q4.2) rfl 42 (by decide) (hts (.fieldLink RX9 64 "OtherHalfOfNightModel" "sheetSize" "[I") (wzm K126)) (fun _ h9 => h9) rfl dX9_copy_86 ?_
                    refine lv_iload_n hx hb dX9_copy_89 rfl (lv_at hl 3 rfl) ?_
                    obtain ⟨g19, hf⟩ := w_oi hf
                    refine va_iald (D := Γ.1) (tys := (tysC Γ)) hx hb hK hP (16) 0 (gM_M_sheetSize Γ q4.2) rfl g19 dX9_copy_90 ?_
                    refine lv_iload hx hb dX9_copy_91 (lv_at hl 5 rfl) ?_
                    refine lv_isub hx hb dX9_copy_93 ?_
                    refine lv_icmp_le (tgt := 100) hx hb dX9_copy_94 (by decide) (fun c20 => ?_) (fun c20 => ?_)
                    · replace hf := (if_pos c20).symm.trans hf
                      refine lv_iload_n hx hb dX9_copy_100 rfl (lv_at hl 1 rfl) ?_
                      refine lv_iload_n hx hb dX9_copy_101 rfl (lv_at hl 3 rfl) ?_
                      refine lv_icmp_ne (tgt := 115) hx hb dX9_copy_102 (by decide) (fun c21 => ?_) (fun c21 => ?_)
                      · replace hf := (if_neg c21).symm.trans hf
                        refine lv_iconst (v := (0 : Int32)) hx hb dX9_copy_115 (by decide) ?_
                        refine lv_istore (lv' := [(6, .int (0 : Int32)), (0, .ref (Γ.2.2.1 (0))), (1, .int x1), (2, .int x2), (3, .int x3), (4, .int x4), (5, .int x5)]) hx hb dX9_copy_116 hl (by decide) rfl (fun ls hl => ?_)
                        refine lv_iconst (v := (0 : Int32)) hx hb dX9_copy_118 (by decide) ?_
                        refine lv_istore (lv' := [(7, .int (0 : Int32)), (6, .int (0 : Int32)), (0, .ref (Γ.2.2.1 (0))), (1, .int x1), (2, .int x2), (3, .int x3), (4, .int x4), (5, .int x5)]) hx hb dX9_copy_119 hl (by decide) rfl (fun ls hl => ?_)
                        exact j121 5000 ((0 : Int32)) ((0 : Int32)) q4.2 H locs ls hf hP hS (lv_sub hl [2, 3, 4, 5, 6, 7, 1, 0] rfl)
                      · replace hf := (if_pos c21).symm.trans hf
                        refine lv_iload_n hx hb dX9_copy_105 rfl (lv_at hl 2 rfl) ?_
                        refine lv_iload hx hb dX9_copy_106 (lv_at hl 4 rfl) ?_
                        refine lv_icmp_ge (tgt := 115) hx hb dX9_copy_108 (by decide) (fun c22 => ?_) (fun c22 => ?_)
                        · replace hf := (if_pos c22).symm.trans hf
                          refine lv_iconst (v := (0 : Int32)) hx hb dX9_copy_115 (by decide) ?_
                          refine lv_istore (lv' := [(6, .int (0 : Int32)), (0, .ref (Γ.2.2.1 (0))), (1, .int x1), (2, .int x2), (3, .int x3), (4, .int x4), (5, .int x5)]) hx hb dX9_copy_116 hl (by decide) rfl (fun ls hl => ?_)
                          refine lv_iconst (v := (0 : Int32)) hx hb dX9_copy_118 (by decide) ?_
                          refine lv_istore (lv' := [(7, .int (0 : Int32)), (6, .int (0 : Int32)), (0, .ref (Γ.2.2.1 (0))), (1, .int x1), (2, .int x2), (3, .int x3), (4, .int x4), (5, .int x5)]) hx hb dX9_copy_119 hl (by decide) rfl (fun ls hl => ?_)
                          exact j121 5000 ((0 : Int32)) ((0 : Int32)) q4.2 H locs ls hf hP hS (lv_sub hl [2, 3, 4, 5, 6, 7, 1, 0] rfl)
                        · replace hf := (if_neg c22).symm.trans hf
                          refine lv_iconst (v := (1 : Int32)) hx hb dX9_copy_111 (by decide) ?_
                          refine lv_goto (tgt := 116) hx hb dX9_copy_112 (by decide) ?_
                          refine lv_istore (lv' := [(6, .int (1 : Int32)), (0, .ref (Γ.2.2.1 (0))), (1, .int x1), (2, .int x2), (3, .int x3), (4, .int x4), (5, .int x5)]) hx hb dX9_copy_116 hl (by decide) rfl (fun ls hl => ?_)
                          refine lv_iconst (v := (0 : Int32)) hx hb dX9_copy_118 (by decide) ?_
                          refine lv_istore (lv' := [(7, .int (0 : Int32)), (6, .int (1 : Int32)), (0, .ref (Γ.2.2.1 (0))), (1, .int x1), (2, .int x2), (3, .int x3), (4, .int x4), (5, .int x5)]) hx hb dX9_copy_119 hl (by decide) rfl (fun ls hl => ?_)
                          exact j121 5000 ((1 : Int32)) ((0 : Int32)) q4.2 H locs ls hf hP hS (lv_sub hl [2, 3, 4, 5, 6, 7, 1, 0] rfl)
                    · replace hf := (if_neg c20).symm.trans hf
                      refine lv_bipush (v := (-12 : Int32)) hx hb dX9_copy_97 (by decide) ?_
                      exact w_iret (X := XM Γ) hx hb hr hlocks hK hP hS rfl hf dX9_copy_99
          · replace hf := (if_neg c13).symm.trans hf
            refine lv_bipush (v := (-13 : Int32)) hx hb dX9_copy_53 (by decide) ?_
            exact w_iret (X := XM Γ) hx hb hr hlocks hK hP hS rfl hf dX9_copy_55
        · replace hf := (if_pos c10).symm.trans hf
          refine lv_bipush (v := (-11 : Int32)) hx hb dX9_copy_35 (by decide) ?_
          exact w_iret (X := XM Γ) hx hb hr hlocks hK hP hS rfl hf dX9_copy_37
    · replace hf := (if_pos c6).symm.trans hf
      refine lv_bipush (v := (-2 : Int32)) hx hb dX9_copy_14 (by decide) ?_
      exact w_iret (X := XM Γ) hx hb hr hlocks hK hP hS rfl hf dX9_copy_16
def f_X9_wakes (x1 : Int32) (x2 : Int32) (x3 : Int32) (σ : Sm) : Option (Int32 × Sm) := (f_X9_in ((x1).toInt64) (0 : Int64) (5 : Int64) σ).bind fun (q1 : Int32 × Sm) => if q1.1 = 0 then some ((-2 : Int32), q1.2) else (f_X9_in ((x2).toInt64) (0 : Int64) (9 : Int64) q1.2).bind fun (q4 : Int32 × Sm) => if q4.1 = 0 then some ((-2 : Int32), q4.2) else (f_X9_in ((x3).toInt64) (0 : Int64) (99 : Int64) q4.2).bind fun (q7 : Int32 × Sm) => if q7.1 = 0 then some ((-2 : Int32), q7.2) else if (q7.2.1 (12) 0) = (5 : Int32) then some ((-4 : Int32), q7.2) else if okI (q7.2.1 (12) 0) 5 then if okI ((3 : Int32) * ((upm q7.2 (9) ((q7.2.1 (12) 0)).toNatClampNeg x1).1 (12) 0)) 15 then (some (upm (upm q7.2 (9) ((q7.2.1 (12) 0)).toNatClampNeg x1) (10) (((3 : Int32) * ((upm q7.2 (9) ((q7.2.1 (12) 0)).toNatClampNeg x1).1 (12) 0))).toNatClampNeg x2)).bind fun (τ13 : Sm) => if okI (((3 : Int32) * (τ13.1 (12) 0)) + (1 : Int32)) 15 then if okI (((3 : Int32) * ((upm τ13 (10) ((((3 : Int32) * (τ13.1 (12) 0)) + (1 : Int32))).toNatClampNeg x3).1 (12) 0)) + (2 : Int32)) 15 then (some (upm (upm τ13 (10) ((((3 : Int32) * (τ13.1 (12) 0)) + (1 : Int32))).toNatClampNeg x3) (10) ((((3 : Int32) * ((upm τ13 (10) ((((3 : Int32) * (τ13.1 (12) 0)) + (1 : Int32))).toNatClampNeg x3).1 (12) 0)) + (2 : Int32))).toNatClampNeg (0 : Int32))).bind fun (τ17 : Sm) => some ((((upm τ17 (12) 0 ((τ17.1 (12) 0) + (1 : Int32))).1 (12) 0) - (1 : Int32)), (upm τ17 (12) 0 ((τ17.1 (12) 0) + (1 : Int32)))) else none else none else none else none
set_option maxHeartbeats 40000000 in
set_option maxRecDepth 100000 in
theorem c_X9_wakes (l : Launch) (Γ : Geo) (hG : okM Γ) (x1 : Int32) (x2 : Int32) (x3 : Int32) (σ : Sm) (r : Int32) (σ' : Sm) (hf : f_X9_wakes x1 x2 x3 σ = some (r, σ')) (sz : Nat) : Met l yX9_wakes (wz yX9_wakes cX9_wakes 4 (some .int)) { frames := 1, cells := 0, slots := 0, locals := 25 } (va_Pc [.ref (Γ.2.2.1 (0)), .int x1, .int x2, .int x3] (wPre Γ.1 vwCl (tysC Γ) (XM Γ) (alM Γ) Γ.2.2.2 σ sz)) (wQi Γ.1 vwCl (tysC Γ) (XM Γ) (alM Γ) r σ' sz) 0 0 (wA (alM Γ) sz) := by
  refine w_enter (cc := cX9_wakes) (maxL := 4) (ret := (some .int)) (by decide) rfl (Nat.le_of_ble_eq_true rfl) ?_
  intro p e s m below meth c ls hx hb hr hlocks hml hown hts hsz hP hK hkc hN hl
  subst hsz
  generalize hav : ([.ref (Γ.2.2.1 (0)), .int x1, .int x2, .int x3] : List Value) = av at hl hts ⊢
  have hl : lv_has ls 4 [(0, .ref (Γ.2.2.1 (0))), (1, .int x1), (2, .int x2), (3, .int x3)] := by rw [← hav] at hl; exact hl
  suffices hw : ∀ (H : Heap) (locs : List Loc), va_P Γ.1 vwCl (XM Γ σ) H → va_S (wA (alM Γ) s.heap.size) s.heap H locs → W p l e { frames := 1, cells := 0, slots := 0, locals := 25 } s m av.toArray below meth c H locs 0 0 (MQ below (wQi Γ.1 vwCl (tysC Γ) (XM Γ) (alM Γ) r σ' s.heap.size) av.toArray s 0 0 (wA (alM Γ) s.heap.size)) (F0 m 0 ls []) from hw _ [] hP va_S.rf
  clear hP
  intro H locs hP hS
  unfold f_X9_wakes at hf
  refine lv_iload_n hx hb dX9_wakes_0 rfl (lv_at hl 1 rfl) ?_
  refine lv_i2l (v := ((x1).toInt64)) hx hb dX9_wakes_1 rfl ?_
  refine lv_lconst (v := (0 : Int64)) hx hb dX9_wakes_2 (by decide) ?_
  refine lv_ldc2 (v := (5 : Int64)) hx hb hown (hts (.constantLong RX9 84 (5)) (wzm K178)) dX9_wakes_3 ?_
  obtain ⟨q1, h2, hf⟩ := w_ob hf
  refine w_ci (va_runS (As := [.long ((x1).toInt64), .long (0 : Int64), .long (5 : Int64)]) (rest := []) ⟨hx, hb, hml, hown, hts⟩ (c_X9_in l Γ hG ((x1).toInt64) (0 : Int64) (5 : Int64) σ q1.1 q1.2 h2 H.size) (cwS 3 hts (wzS K170 K168 K169 K5) rfl rfl rfl (by decide +kernel) ⟨(Nat.le_of_ble_eq_true rfl), (Nat.le_of_ble_eq_true rfl)⟩) (w_pre hK hP hkc hN hS) rfl rfl hl.1 rfl (lv_room (Nat.le_of_ble_eq_true rfl)) dX9_wakes_6 ⟨Nat.le_refl _, Nat.le_refl _⟩) hS (fun H locs hP hS => ?_)
  refine lv_if_eq (tgt := 36) hx hb dX9_wakes_9 (by decide) (fun c3 => ?_) (fun c3 => ?_)
  · replace hf := (if_pos c3).symm.trans hf
    refine lv_bipush (v := (-2 : Int32)) hx hb dX9_wakes_36 (by decide) ?_
    exact w_iret (X := XM Γ) hx hb hr hlocks hK hP hS rfl hf dX9_wakes_38
  · replace hf := (if_neg c3).symm.trans hf
    refine lv_iload_n hx hb dX9_wakes_12 rfl (lv_at hl 2 rfl) ?_
    refine lv_i2l (v := ((x2).toInt64)) hx hb dX9_wakes_13 rfl ?_
    refine lv_lconst (v := (0 : Int64)) hx hb dX9_wakes_14 (by decide) ?_
    refine lv_ldc2 (v := (9 : Int64)) hx hb hown (hts (.constantLong RX9 120 (9)) (wzm K326)) dX9_wakes_15 ?_
    obtain ⟨q4, h5, hf⟩ := w_ob hf
    refine w_ci (va_runS (As := [.long ((x2).toInt64), .long (0 : Int64), .long (9 : Int64)]) (rest := []) ⟨hx, hb, hml, hown, hts⟩ (c_X9_in l Γ hG ((x2).toInt64) (0 : Int64) (9 : Int64) q1.2 q4.1 q4.2 h5 H.size) (cwS 3 hts (wzS K170 K168 K169 K5) rfl rfl rfl (by decide +kernel) ⟨(Nat.le_of_ble_eq_true rfl), (Nat.le_of_ble_eq_true rfl)⟩) (w_pre hK hP hkc hN hS) rfl rfl hl.1 rfl (lv_room (Nat.le_of_ble_eq_true rfl)) dX9_wakes_18 ⟨Nat.le_refl _, Nat.le_refl _⟩) hS (fun H locs hP hS => ?_)
    refine lv_if_eq (tgt := 36) hx hb dX9_wakes_21 (by decide) (fun c6 => ?_) (fun c6 => ?_)
    · replace hf := (if_pos c6).symm.trans hf
      refine lv_bipush (v := (-2 : Int32)) hx hb dX9_wakes_36 (by decide) ?_
      exact w_iret (X := XM Γ) hx hb hr hlocks hK hP hS rfl hf dX9_wakes_38
    · replace hf := (if_neg c6).symm.trans hf
      refine lv_iload_n hx hb dX9_wakes_24 rfl (lv_at hl 3 rfl) ?_
      refine lv_i2l (v := ((x3).toInt64)) hx hb dX9_wakes_25 rfl ?_
      refine lv_lconst (v := (0 : Int64)) hx hb dX9_wakes_26 (by decide) ?_
      refine lv_ldc2 (v := (99 : Int64)) hx hb hown (hts (.constantLong RX9 122 (99)) (wzm K327)) dX9_wakes_27 ?_
      obtain ⟨q7, h8, hf⟩ := w_ob hf
      refine w_ci (va_runS (As := [.long ((x3).toInt64), .long (0 : Int64), .long (99 : Int64)]) (rest := []) ⟨hx, hb, hml, hown, hts⟩ (c_X9_in l Γ hG ((x3).toInt64) (0 : Int64) (99 : Int64) q4.2 q7.1 q7.2 h8 H.size) (cwS 3 hts (wzS K170 K168 K169 K5) rfl rfl rfl (by decide +kernel) ⟨(Nat.le_of_ble_eq_true rfl), (Nat.le_of_ble_eq_true rfl)⟩) (w_pre hK hP hkc hN hS) rfl rfl hl.1 rfl (lv_room (Nat.le_of_ble_eq_true rfl)) dX9_wakes_30 ⟨Nat.le_refl _, Nat.le_refl _⟩) hS (fun H locs hP hS => ?_)
      refine lv_if_ne (tgt := 39) hx hb dX9_wakes_33 (by decide) (fun c9 => ?_) (fun c9 => ?_)
      · replace hf := (if_neg c9).symm.trans hf
        refine lv_aload_n hx hb dX9_wakes_39 rfl (lv_at hl 0 rfl) ?_
        refine va_get (D := Γ.1) (ci := 8) (v := .int (q7.2.1 (12) 0)) (C := RX9) (T := TX9) (N := 44) hx hb hts iX9 hown hK hP (0) (gM_Model Γ q7.2) rfl 12 (by decide) (hts (.fieldLink RX9 77 "OtherHalfOfNightModel" "many" "I") (wzm K183)) (fun _ h9 => h9) rfl dX9_wakes_40 ?_
        refine lv_iconst (v := (5 : Int32)) hx hb dX9_wakes_43 (by decide) ?_
        refine lv_icmp_ne (tgt := 50) hx hb dX9_wakes_44 (by decide) (fun c10 => ?_) (fun c10 => ?_)
        · replace hf := (if_neg c10).symm.trans hf
          refine lv_aload_n hx hb dX9_wakes_50 rfl (lv_at hl 0 rfl) ?_
          refine va_get (D := Γ.1) (ci := 8) (v := .ref (Γ.2.2.1 (4))) (C := RX9) (T := TX9) (N := 44) hx hb hts iX9 hown hK hP (0) (gM_Model Γ q7.2) rfl 9 (by decide) (hts (.fieldLink RX9 23 "OtherHalfOfNightModel" "kinds" "[I") (wzm K111)) (fun _ h9 => h9) rfl dX9_wakes_51 ?_
          refine lv_aload_n hx hb dX9_wakes_54 rfl (lv_at hl 0 rfl) ?_
          refine va_get (D := Γ.1) (ci := 8) (v := .int (q7.2.1 (12) 0)) (C := RX9) (T := TX9) (N := 44) hx hb hts iX9 hown hK hP (0) (gM_Model Γ q7.2) rfl 12 (by decide) (hts (.fieldLink RX9 77 "OtherHalfOfNightModel" "many" "I") (wzm K183)) (fun _ h9 => h9) rfl dX9_wakes_55 ?_
          refine lv_iload_n hx hb dX9_wakes_58 rfl (lv_at hl 1 rfl) ?_
          obtain ⟨g11, hf⟩ := w_oi hf
          refine w_iast (D := Γ.1) (tys := (tysC Γ)) (X := XM Γ) (σ' := (upm q7.2 (9) ((q7.2.1 (12) 0)).toNatClampNeg x1)) hx hb hK hP (halM Γ) hG hS (4) 0 (gM_M_kinds Γ q7.2) rfl g11 dX9_wakes_59 (sM_M_kinds Γ q7.2 ((q7.2.1 (12) 0)).toNatClampNeg x1) (fun H locs hP hS => ?_)
          refine lv_aload_n hx hb dX9_wakes_60 rfl (lv_at hl 0 rfl) ?_
          refine va_get (D := Γ.1) (ci := 8) (v := .ref (Γ.2.2.1 (5))) (C := RX9) (T := TX9) (N := 44) hx hb hts iX9 hown hK hP (0) (gM_Model Γ (upm q7.2 (9) ((q7.2.1 (12) 0)).toNatClampNeg x1)) rfl 10 (by decide) (hts (.fieldLink RX9 26 "OtherHalfOfNightModel" "rows" "[I") (wzm K112)) (fun _ h9 => h9) rfl dX9_wakes_61 ?_
          refine lv_iconst (v := (3 : Int32)) hx hb dX9_wakes_64 (by decide) ?_
          refine lv_aload_n hx hb dX9_wakes_65 rfl (lv_at hl 0 rfl) ?_
          refine va_get (D := Γ.1) (ci := 8) (v := .int ((upm q7.2 (9) ((q7.2.1 (12) 0)).toNatClampNeg x1).1 (12) 0)) (C := RX9) (T := TX9) (N := 44) hx hb hts iX9 hown hK hP (0) (gM_Model Γ (upm q7.2 (9) ((q7.2.1 (12) 0)).toNatClampNeg x1)) rfl 12 (by decide) (hts (.fieldLink RX9 77 "OtherHalfOfNightModel" "many" "I") (wzm K183)) (fun _ h9 => h9) rfl dX9_wakes_66 ?_
          refine lv_imul hx hb dX9_wakes_69 ?_
          refine lv_iload_n hx hb dX9_wakes_70 rfl (lv_at hl 2 rfl) ?_
          obtain ⟨g12, hf⟩ := w_oi hf
          refine w_iast (D := Γ.1) (tys := (tysC Γ)) (X := XM Γ) (σ' := (upm (upm q7.2 (9) ((q7.2.1 (12) 0)).toNatClampNeg x1) (10) (((3 : Int32) * ((upm q7.2 (9) ((q7.2.1 (12) 0)).toNatClampNeg x1).1 (12) 0))).toNatClampNeg x2)) hx hb hK hP (halM Γ) hG hS (5) 0 (gM_M_rows Γ (upm q7.2 (9) ((q7.2.1 (12) 0)).toNatClampNeg x1)) rfl g12 dX9_wakes_71 (sM_M_rows Γ (upm q7.2 (9) ((q7.2.1 (12) 0)).toNatClampNeg x1) (((3 : Int32) * ((upm q7.2 (9) ((q7.2.1 (12) 0)).toNatClampNeg x1).1 (12) 0))).toNatClampNeg x2) (fun H locs hP hS => ?_)
          obtain ⟨τ13, e14, hf⟩ := w_ob hf
          replace e14 := Option.some.inj e14
          rw [e14] at hP
          refine lv_aload_n hx hb dX9_wakes_72 rfl (lv_at hl 0 rfl) ?_
          refine va_get (D := Γ.1) (ci := 8) (v := .ref (Γ.2.2.1 (5))) (C := RX9) (T := TX9) (N := 44) hx hb hts iX9 hown hK hP (0) (gM_Model Γ τ13) rfl 10 (by decide) (hts (.fieldLink RX9 26 "OtherHalfOfNightModel" "rows" "[I") (wzm K112)) (fun _ h9 => h9) rfl dX9_wakes_73 ?_
          refine lv_iconst (v := (3 : Int32)) hx hb dX9_wakes_76 (by decide) ?_
          refine lv_aload_n hx hb dX9_wakes_77 rfl (lv_at hl 0 rfl) ?_
          refine va_get (D := Γ.1) (ci := 8) (v := .int (τ13.1 (12) 0)) (C := RX9) (T := TX9) (N := 44) hx hb hts iX9 hown hK hP (0) (gM_Model Γ τ13) rfl 12 (by decide) (hts (.fieldLink RX9 77 "OtherHalfOfNightModel" "many" "I") (wzm K183)) (fun _ h9 => h9) rfl dX9_wakes_78 ?_
          refine lv_imul hx hb dX9_wakes_81 ?_
          refine lv_iconst (v := (1 : Int32)) hx hb dX9_wakes_82 (by decide) ?_
          refine lv_iadd hx hb dX9_wakes_83 ?_
          refine lv_iload_n hx hb dX9_wakes_84 rfl (lv_at hl 3 rfl) ?_
          obtain ⟨g15, hf⟩ := w_oi hf
          refine w_iast (D := Γ.1) (tys := (tysC Γ)) (X := XM Γ) (σ' := (upm τ13 (10) ((((3 : Int32) * (τ13.1 (12) 0)) + (1 : Int32))).toNatClampNeg x3)) hx hb hK hP (halM Γ) hG hS (5) 0 (gM_M_rows Γ τ13) rfl g15 dX9_wakes_85 (sM_M_rows Γ τ13 ((((3 : Int32) * (τ13.1 (12) 0)) + (1 : Int32))).toNatClampNeg x3) (fun H locs hP hS => ?_)
          refine lv_aload_n hx hb dX9_wakes_86 rfl (lv_at hl 0 rfl) ?_
          refine va_get (D := Γ.1) (ci := 8) (v := .ref (Γ.2.2.1 (5))) (C := RX9) (T := TX9) (N := 44) hx hb hts iX9 hown hK hP (0) (gM_Model Γ (upm τ13 (10) ((((3 : Int32) * (τ13.1 (12) 0)) + (1 : Int32))).toNatClampNeg x3)) rfl 10 (by decide) (hts (.fieldLink RX9 26 "OtherHalfOfNightModel" "rows" "[I") (wzm K112)) (fun _ h9 => h9) rfl dX9_wakes_87 ?_
          refine lv_iconst (v := (3 : Int32)) hx hb dX9_wakes_90 (by decide) ?_
          refine lv_aload_n hx hb dX9_wakes_91 rfl (lv_at hl 0 rfl) ?_
          refine va_get (D := Γ.1) (ci := 8) (v := .int ((upm τ13 (10) ((((3 : Int32) * (τ13.1 (12) 0)) + (1 : Int32))).toNatClampNeg x3).1 (12) 0)) (C := RX9) (T := TX9) (N := 44) hx hb hts iX9 hown hK hP (0) (gM_Model Γ (upm τ13 (10) ((((3 : Int32) * (τ13.1 (12) 0)) + (1 : Int32))).toNatClampNeg x3)) rfl 12 (by decide) (hts (.fieldLink RX9 77 "OtherHalfOfNightModel" "many" "I") (wzm K183)) (fun _ h9 => h9) rfl dX9_wakes_92 ?_
          refine lv_imul hx hb dX9_wakes_95 ?_
          refine lv_iconst (v := (2 : Int32)) hx hb dX9_wakes_96 (by decide) ?_
          refine lv_iadd hx hb dX9_wakes_97 ?_
          refine lv_iconst (v := (0 : Int32)) hx hb dX9_wakes_98 (by decide) ?_
          obtain ⟨g16, hf⟩ := w_oi hf
          refine w_iast (D := Γ.1) (tys := (tysC Γ)) (X := XM Γ) (σ' := (upm (upm τ13 (10) ((((3 : Int32) * (τ13.1 (12) 0)) + (1 : Int32))).toNatClampNeg x3) (10) ((((3 : Int32) * ((upm τ13 (10) ((((3 : Int32) * (τ13.1 (12) 0)) + (1 : Int32))).toNatClampNeg x3).1 (12) 0)) + (2 : Int32))).toNatClampNeg (0 : Int32))) hx hb hK hP (halM Γ) hG hS (5) 0 (gM_M_rows Γ (upm τ13 (10) ((((3 : Int32) * (τ13.1 (12) 0)) + (1 : Int32))).toNatClampNeg x3)) rfl g16 dX9_wakes_99 (sM_M_rows Γ (upm τ13 (10) ((((3 : Int32) * (τ13.1 (12) 0)) + (1 : Int32))).toNatClampNeg x3) ((((3 : Int32) * ((upm τ13 (10) ((((3 : Int32) * (τ13.1 (12) 0)) + (1 : Int32))).toNatClampNeg x3).1 (12) 0)) + (2 : Int32))).toNatClampNeg (0 : Int32)) (fun H locs hP hS => ?_)
          obtain ⟨τ17, e18, hf⟩ := w_ob hf
          replace e18 := Option.some.inj e18
          rw [e18] at hP
          refine lv_aload_n hx hb dX9_wakes_100 rfl (lv_at hl 0 rfl) ?_
          refine lv_dup hx hb dX9_wakes_101 rfl ?_
          refine va_get (D := Γ.1) (ci := 8) (v := .int (τ17.1 (12) 0)) (C := RX9) (T := TX9) (N := 44) hx hb hts iX9 hown hK hP (0) (gM_Model Γ τ17) rfl 12 (by decide) (hts (.fieldLink RX9 77 "OtherHalfOfNightModel" "many" "I") (wzm K183)) (fun _ h9 => h9) rfl dX9_wakes_102 ?_
          refine lv_iconst (v := (1 : Int32)) hx hb dX9_wakes_105 (by decide) ?_
          refine lv_iadd hx hb dX9_wakes_106 ?_
          refine w_put (X := XM Γ) (σ' := (upm τ17 (12) 0 ((τ17.1 (12) 0) + (1 : Int32)))) (ci := 8) (C := RX9) (T := TX9) (N := 44) (ty := .int) hx hb hts iX9 tyX9 tyX9_ok nmX9 hown hK hP (halM Γ) hG hS (0) (gM_Model Γ τ17) rfl 12 (by decide) (hts (.fieldLink RX9 77 "OtherHalfOfNightModel" "many" "I") (wzm K183)) (fun _ h9 => h9) rfl (by decide +kernel) rfl rfl (Nat.le_of_ble_eq_true rfl) dX9_wakes_107 (sM_Model_many Γ τ17 ((τ17.1 (12) 0) + (1 : Int32))) (fun H locs hP hS => ?_)
          refine lv_aload_n hx hb dX9_wakes_110 rfl (lv_at hl 0 rfl) ?_
          refine va_get (D := Γ.1) (ci := 8) (v := .int ((upm τ17 (12) 0 ((τ17.1 (12) 0) + (1 : Int32))).1 (12) 0)) (C := RX9) (T := TX9) (N := 44) hx hb hts iX9 hown hK hP (0) (gM_Model Γ (upm τ17 (12) 0 ((τ17.1 (12) 0) + (1 : Int32)))) rfl 12 (by decide) (hts (.fieldLink RX9 77 "OtherHalfOfNightModel" "many" "I") (wzm K183)) (fun _ h9 => h9) rfl dX9_wakes_111 ?_
          refine lv_iconst (v := (1 : Int32)) hx hb dX9_wakes_114 (by decide) ?_
          refine lv_isub hx hb dX9_wakes_115 ?_
          exact w_iret (X := XM Γ) hx hb hr hlocks hK hP hS rfl hf dX9_wakes_116
        · replace hf := (if_pos c10).symm.trans hf
          refine lv_bipush (v := (-4 : Int32)) hx hb dX9_wakes_47 (by decide) ?_
          exact w_iret (X := XM Γ) hx hb hr hlocks hK hP hS rfl hf dX9_wakes_49
      · replace hf := (if_pos c9).symm.trans hf
        refine lv_bipush (v := (-2 : Int32)) hx hb dX9_wakes_36 (by decide) ?_
        exact w_iret (X := XM Γ) hx hb hr hlocks hK hP hS rfl hf dX9_wakes_38
def f_X9_house_75 (x1 : Int32) (x2 : Int32) (x3 : Int32) (x4 : Int32) : Nat → Int32 → Int32 → Sm → Option (Int32 × Sm)
  | 0, _, _, _ => none
  | n + 1, y5, y6, τ => if x4 ≤ y6 then some (y5, τ) else if x3 < 0 then some ((-12 : Int32), τ) else if okI x1 4 then if x3 ≤ (((τ.1 (42) (x1).toNatClampNeg) - ((3 : Int32) * y6)) - (3 : Int32)) then if okI ((((40 : Int32) * x1) + x3) + ((3 : Int32) * y6)) 160 then if okI (((((40 : Int32) * x1) + x3) + ((3 : Int32) * y6)) + (1 : Int32)) 160 then if okI (((((40 : Int32) * x1) + x3) + ((3 : Int32) * y6)) + (2 : Int32)) 160 then (f_X9_wakes (τ.1 (43) (((((40 : Int32) * x1) + x3) + ((3 : Int32) * y6))).toNatClampNeg) (τ.1 (43) ((((((40 : Int32) * x1) + x3) + ((3 : Int32) * y6)) + (1 : Int32))).toNatClampNeg) (τ.1 (43) ((((((40 : Int32) * x1) + x3) + ((3 : Int32) * y6)) + (2 : Int32))).toNatClampNeg) τ).bind fun (q23 : Int32 × Sm) => if q23.1 < 0 then (f_X9_house_75 x1 x2 x3 x4 n) ((y5 + (0 : Int32))) ((y6 + (1 : Int32))) q23.2 else (f_X9_house_75 x1 x2 x3 x4 n) ((y5 + (1 : Int32))) ((y6 + (1 : Int32))) q23.2 else none else none else none else some ((-12 : Int32), τ) else none
def f_X9_house_57 (x1 : Int32) (x2 : Int32) (x3 : Int32) (x4 : Int32) (τ : Sm) : Option (Int32 × Sm) := if okI x1 4 then if (τ.1 (40) (x1).toNatClampNeg) = 0 then some ((-11 : Int32), τ) else f_X9_house_75 x1 x2 x3 x4 5000 ((0 : Int32)) ((0 : Int32)) τ else none
def f_X9_house (x1 : Int32) (x2 : Int32) (x3 : Int32) (x4 : Int32) (σ : Sm) : Option (Int32 × Sm) := (f_X9_isSheet x1 σ).bind fun (q1 : Int32 × Sm) => if q1.1 = 0 then some ((-2 : Int32), q1.2) else (f_X9_in ((x2).toInt64) (0 : Int64) (2 : Int64) q1.2).bind fun (q4 : Int32 × Sm) => if q4.1 = 0 then some ((-2 : Int32), q4.2) else (f_X9_in ((x4).toInt64) (0 : Int64) (5 : Int64) q4.2).bind fun (q7 : Int32 × Sm) => if q7.1 = 0 then some ((-2 : Int32), q7.2) else if okI x1 4 then if (q7.2.1 (40) (x1).toNatClampNeg) = 0 then f_X9_house_57 x1 x2 x3 x4 q7.2 else if okI x1 4 then if (q7.2.1 (41) (x1).toNatClampNeg) = x2 then f_X9_house_57 x1 x2 x3 x4 q7.2 else some ((-13 : Int32), q7.2) else none else none
set_option maxHeartbeats 40000000 in
set_option maxRecDepth 100000 in
theorem c_X9_house (l : Launch) (Γ : Geo) (hG : okM Γ) (x1 : Int32) (x2 : Int32) (x3 : Int32) (x4 : Int32) (σ : Sm) (r : Int32) (σ' : Sm) (hf : f_X9_house x1 x2 x3 x4 σ = some (r, σ')) (sz : Nat) : Met l yX9_house (wz yX9_house cX9_house 8 (some .int)) { frames := 2, cells := 0, slots := 0, locals := 48 } (va_Pc [.ref (Γ.2.2.1 (0)), .int x1, .int x2, .int x3, .int x4] (wPre Γ.1 vwCl (tysC Γ) (XM Γ) (alM Γ) Γ.2.2.2 σ sz)) (wQi Γ.1 vwCl (tysC Γ) (XM Γ) (alM Γ) r σ' sz) 0 0 (wA (alM Γ) sz) := by
  refine w_enter (cc := cX9_house) (maxL := 8) (ret := (some .int)) (by decide) rfl (Nat.le_of_ble_eq_true rfl) ?_
  intro p e s m below meth c ls hx hb hr hlocks hml hown hts hsz hP hK hkc hN hl
  subst hsz
  generalize hav : ([.ref (Γ.2.2.1 (0)), .int x1, .int x2, .int x3, .int x4] : List Value) = av at hl hts ⊢
  have hl : lv_has ls 8 [(0, .ref (Γ.2.2.1 (0))), (1, .int x1), (2, .int x2), (3, .int x3), (4, .int x4)] := by rw [← hav] at hl; exact hl
  have j75 : ∀ (n75 : Nat), ∀ (y5 : Int32) (y6 : Int32) (τ : Sm) (H : Heap) (locs : List Loc) (ls : Array Slot) (hf : f_X9_house_75 x1 x2 x3 x4 n75 y5 y6 τ = some (r, σ')) (hP : va_P Γ.1 vwCl (XM Γ τ) H) (hS : va_S (wA (alM Γ) s.heap.size) s.heap H locs) (hl : lv_has ls 8 [(0, .ref (Γ.2.2.1 (0))), (1, .int x1), (3, .int x3), (4, .int x4), (5, .int y5), (6, .int y6)]), W p l e { frames := 2, cells := 0, slots := 0, locals := 48 } s m av.toArray below meth c H locs 0 0 (MQ below (wQi Γ.1 vwCl (tysC Γ) (XM Γ) (alM Γ) r σ' s.heap.size) av.toArray s 0 0 (wA (alM Γ) s.heap.size)) (F0 m 75 ls []) := by
    intro n75
    induction n75 with
    | zero =>
      intro y5 y6 τ H locs ls hf
      exact absurd hf (by intro h; cases h)
    | succ n75 ih75 =>
      intro y5 y6 τ H locs ls hf hP hS hl
      unfold f_X9_house_75 at hf
      refine lv_iload hx hb dX9_house_75 (lv_at hl 5 rfl) ?_
      refine lv_iload hx hb dX9_house_77 (lv_at hl 3 rfl) ?_
      refine lv_icmp_ge (tgt := 167) hx hb dX9_house_79 (by decide) (fun c16 => ?_) (fun c16 => ?_)
      · replace hf := (if_pos c16).symm.trans hf
        refine lv_iload hx hb dX9_house_167 (lv_at hl 4 rfl) ?_
        exact w_iret (X := XM Γ) hx hb hr hlocks hK hP hS rfl hf dX9_house_169
      · replace hf := (if_neg c16).symm.trans hf
        refine lv_iload_n hx hb dX9_house_82 rfl (lv_at hl 2 rfl) ?_
        refine lv_if_lt (tgt := 103) hx hb dX9_house_83 (by decide) (fun c17 => ?_) (fun c17 => ?_)
        · replace hf := (if_pos c17).symm.trans hf
          refine lv_bipush (v := (-12 : Int32)) hx hb dX9_house_103 (by decide) ?_
          exact w_iret (X := XM Γ) hx hb hr hlocks hK hP hS rfl hf dX9_house_105
        · replace hf := (if_neg c17).symm.trans hf
          refine lv_iload_n hx hb dX9_house_86 rfl (lv_at hl 2 rfl) ?_
          refine lv_aload_n hx hb dX9_house_87 rfl (lv_at hl 0 rfl) ?_
          refine va_get (D := Γ.1) (ci := 8) (v := .ref (Γ.2.2.1 (16))) (C := RX9) (T := TX9) (N := 44) hx hb hts iX9 hown hK hP (0) (gM_Model Γ τ) rfl 42 (by decide) (hts (.fieldLink RX9 64 "OtherHalfOfNightModel" "sheetSize" "[I") (wzm K126)) (fun _ h9 => h9) rfl dX9_house_88 ?_
          refine lv_iload_n hx hb dX9_house_91 rfl (lv_at hl 1 rfl) ?_
          obtain ⟨g18, hf⟩ := w_oi hf
          refine va_iald (D := Γ.1) (tys := (tysC Γ)) hx hb hK hP (16) 0 (gM_M_sheetSize Γ τ) rfl g18 dX9_house_92 ?_
          refine lv_iconst (v := (3 : Int32)) hx hb dX9_house_93 (by decide) ?_
          refine lv_iload hx hb dX9_house_94 (lv_at hl 5 rfl) ?_
          refine lv_imul hx hb dX9_house_96 ?_
          refine lv_isub hx hb dX9_house_97 ?_
          refine lv_iconst (v := (3 : Int32)) hx hb dX9_house_98 (by decide) ?_
          refine lv_isub hx hb dX9_house_99 ?_
          refine lv_icmp_le (tgt := 106) hx hb dX9_house_100 (by decide) (fun c19 => ?_) (fun c19 => ?_)
          · replace hf := (if_pos c19).symm.trans hf
            refine lv_bipush (v := (40 : Int32)) hx hb dX9_house_106 (by decide) ?_
            refine lv_iload_n hx hb dX9_house_108 rfl (lv_at hl 1 rfl) ?_
            refine lv_imul hx hb dX9_house_109 ?_
            refine lv_iload_n hx hb dX9_house_110 rfl (lv_at hl 2 rfl) ?_
            refine lv_iadd hx hb dX9_house_111 ?_
            refine lv_iconst (v := (3 : Int32)) hx hb dX9_house_112 (by decide) ?_
            refine lv_iload hx hb dX9_house_113 (lv_at hl 5 rfl) ?_
            refine lv_imul hx hb dX9_house_115 ?_
            refine lv_iadd hx hb dX9_house_116 ?_
            refine lv_istore (lv' := [(7, .int ((((40 : Int32) * x1) + x3) + ((3 : Int32) * y6))), (0, .ref (Γ.2.2.1 (0))), (1, .int x1), (3, .int x3), (4, .int x4), (5, .int y5), (6, .int y6)]) hx hb dX9_house_117 hl (by decide) rfl (fun ls hl => ?_)
            refine lv_iload hx hb dX9_house_119 (lv_at hl 5 rfl) ?_
            refine lv_aload_n hx hb dX9_house_121 rfl (lv_at hl 1 rfl) ?_
            refine lv_aload_n hx hb dX9_house_122 rfl (lv_at hl 1 rfl) ?_
            refine va_get (D := Γ.1) (ci := 8) (v := .ref (Γ.2.2.1 (17))) (C := RX9) (T := TX9) (N := 44) hx hb hts iX9 hown hK hP (0) (gM_Model Γ τ) rfl 43 (by decide) (hts (.fieldLink RX9 67 "OtherHalfOfNightModel" "items" "[I") (wzm K127)) (fun _ h9 => h9) rfl dX9_house_123 ?_
            refine lv_iload hx hb dX9_house_126 (lv_at hl 0 rfl) ?_
            obtain ⟨g20, hf⟩ := w_oi hf
            refine va_iald (D := Γ.1) (tys := (tysC Γ)) hx hb hK hP (17) 0 (gM_M_items Γ τ) rfl g20 dX9_house_128 ?_
            refine lv_aload_n hx hb dX9_house_129 rfl (lv_at hl 1 rfl) ?_
            refine va_get (D := Γ.1) (ci := 8) (v := .ref (Γ.2.2.1 (17))) (C := RX9) (T := TX9) (N := 44) hx hb hts iX9 hown hK hP (0) (gM_Model Γ τ) rfl 43 (by decide) (hts (.fieldLink RX9 67 "OtherHalfOfNightModel" "items" "[I") (wzm K127)) (fun _ h9 => h9) rfl dX9_house_130 ?_
            refine lv_iload hx hb dX9_house_133 (lv_at hl 0 rfl) ?_
            refine lv_iconst (v := (1 : Int32)) hx hb dX9_house_135 (by decide) ?_
            refine lv_iadd hx hb dX9_house_136 ?_
            obtain ⟨g21, hf⟩ := w_oi hf
            refine va_iald (D := Γ.1) (tys := (tysC Γ)) hx hb hK hP (17) 0 (gM_M_items Γ τ) rfl g21 dX9_house_137 ?_
            refine lv_aload_n hx hb dX9_house_138 rfl (lv_at hl 1 rfl) ?_
            refine va_get (D := Γ.1) (ci := 8) (v := .ref (Γ.2.2.1 (17))) (C := RX9) (T := TX9) (N := 44) hx hb hts iX9 hown hK hP (0) (gM_Model Γ τ) rfl 43 (by decide) (hts (.fieldLink RX9 67 "OtherHalfOfNightModel" "items" "[I") (wzm K127)) (fun _ h9 => h9) rfl dX9_house_139 ?_
            refine lv_iload hx hb dX9_house_142 (lv_at hl 0 rfl) ?_
            refine lv_iconst (v := (2 : Int32)) hx hb dX9_house_144 (by decide) ?_
            refine lv_iadd hx hb dX9_house_145 ?_
            obtain ⟨g22, hf⟩ := w_oi hf
            refine va_iald (D := Γ.1) (tys := (tysC Γ)) hx hb hK hP (17) 0 (gM_M_items Γ τ) rfl g22 dX9_house_146 ?_
            obtain ⟨q23, h24, hf⟩ := w_ob hf
            refine w_ci (va_runV (As := [.int (τ.1 (43) (((((40 : Int32) * x1) + x3) + ((3 : Int32) * y6))).toNatClampNeg), .int (τ.1 (43) ((((((40 : Int32) * x1) + x3) + ((3 : Int32) * y6)) + (1 : Int32))).toNatClampNeg), .int (τ.1 (43) ((((((40 : Int32) * x1) + x3) + ((3 : Int32) * y6)) + (2 : Int32))).toNatClampNeg)]) (rest := [.int y5]) ⟨hx, hb, hml, hown, hts⟩ (c_X9_wakes l Γ hG (τ.1 (43) (((((40 : Int32) * x1) + x3) + ((3 : Int32) * y6))).toNatClampNeg) (τ.1 (43) ((((((40 : Int32) * x1) + x3) + ((3 : Int32) * y6)) + (1 : Int32))).toNatClampNeg) (τ.1 (43) ((((((40 : Int32) * x1) + x3) + ((3 : Int32) * y6)) + (2 : Int32))).toNatClampNeg) τ q23.1 q23.2 h24 H.size) (cwV 3 hts (wzV K325 K1024 K323 K324 K5) rfl rfl rfl (by decide +kernel) ⟨(Nat.le_of_ble_eq_true rfl), (Nat.le_of_ble_eq_true rfl)⟩) (w_preV hK hP hkc hN hS (gM_Model Γ τ) rfl) rfl rfl hl.1 rfl (lv_room (Nat.le_of_ble_eq_true rfl)) dX9_house_147 ⟨Nat.le_refl _, Nat.le_refl _⟩) hS (fun H locs hP hS => ?_)
            refine lv_if_lt (tgt := 157) hx hb dX9_house_150 (by decide) (fun c25 => ?_) (fun c25 => ?_)
            · replace hf := (if_pos c25).symm.trans hf
              refine lv_iconst (v := (0 : Int32)) hx hb dX9_house_157 (by decide) ?_
              refine lv_iadd hx hb dX9_house_158 ?_
              refine lv_istore (lv' := [(5, .int (y5 + (0 : Int32))), (7, .int ((((40 : Int32) * x1) + x3) + ((3 : Int32) * y6))), (0, .ref (Γ.2.2.1 (0))), (1, .int x1), (3, .int x3), (4, .int x4), (6, .int y6)]) hx hb dX9_house_159 hl (by decide) rfl (fun ls hl => ?_)
              refine lv_iinc (v := (y6 + (1 : Int32))) (lv' := [(6, .int (y6 + (1 : Int32))), (5, .int (y5 + (0 : Int32))), (7, .int ((((40 : Int32) * x1) + x3) + ((3 : Int32) * y6))), (0, .ref (Γ.2.2.1 (0))), (1, .int x1), (3, .int x3), (4, .int x4)]) hx hb dX9_house_161 hl (k := 6) rfl rfl (by decide) rfl (fun ls hl => ?_)
              refine lv_goto (tgt := 75) hx hb dX9_house_164 (by decide) ?_
              exact ih75 ((y5 + (0 : Int32))) ((y6 + (1 : Int32))) q23.2 H locs ls hf hP hS (lv_sub hl [3, 4, 5, 6, 1, 0] rfl)
            · replace hf := (if_neg c25).symm.trans hf
              refine lv_iconst (v := (1 : Int32)) hx hb dX9_house_153 (by decide) ?_
              refine lv_goto (tgt := 158) hx hb dX9_house_154 (by decide) ?_
              refine lv_iadd hx hb dX9_house_158 ?_
              refine lv_istore (lv' := [(5, .int (y5 + (1 : Int32))), (7, .int ((((40 : Int32) * x1) + x3) + ((3 : Int32) * y6))), (0, .ref (Γ.2.2.1 (0))), (1, .int x1), (3, .int x3), (4, .int x4), (6, .int y6)]) hx hb dX9_house_159 hl (by decide) rfl (fun ls hl => ?_)
              refine lv_iinc (v := (y6 + (1 : Int32))) (lv' := [(6, .int (y6 + (1 : Int32))), (5, .int (y5 + (1 : Int32))), (7, .int ((((40 : Int32) * x1) + x3) + ((3 : Int32) * y6))), (0, .ref (Γ.2.2.1 (0))), (1, .int x1), (3, .int x3), (4, .int x4)]) hx hb dX9_house_161 hl (k := 6) rfl rfl (by decide) rfl (fun ls hl => ?_)
              refine lv_goto (tgt := 75) hx hb dX9_house_164 (by decide) ?_
              exact ih75 ((y5 + (1 : Int32))) ((y6 + (1 : Int32))) q23.2 H locs ls hf hP hS (lv_sub hl [3, 4, 5, 6, 1, 0] rfl)
          · replace hf := (if_neg c19).symm.trans hf
            refine lv_bipush (v := (-12 : Int32)) hx hb dX9_house_103 (by decide) ?_
            exact w_iret (X := XM Γ) hx hb hr hlocks hK hP hS rfl hf dX9_house_105
  have j57 : ∀ (τ : Sm) (H : Heap) (locs : List Loc) (ls : Array Slot) (hf : f_X9_house_57 x1 x2 x3 x4 τ = some (r, σ')) (hP : va_P Γ.1 vwCl (XM Γ τ) H) (hS : va_S (wA (alM Γ) s.heap.size) s.heap H locs) (hl : lv_has ls 8 [(0, .ref (Γ.2.2.1 (0))), (1, .int x1), (3, .int x3), (4, .int x4)]), W p l e { frames := 2, cells := 0, slots := 0, locals := 48 } s m av.toArray below meth c H locs 0 0 (MQ below (wQi Γ.1 vwCl (tysC Γ) (XM Γ) (alM Γ) r σ' s.heap.size) av.toArray s 0 0 (wA (alM Γ) s.heap.size)) (F0 m 57 ls []) := by
    intro τ H locs ls hf hP hS hl
    unfold f_X9_house_57 at hf
    refine lv_aload_n hx hb dX9_house_57 rfl (lv_at hl 0 rfl) ?_
    refine va_get (D := Γ.1) (ci := 8) (v := .ref (Γ.2.2.1 (14))) (C := RX9) (T := TX9) (N := 44) hx hb hts iX9 hown hK hP (0) (gM_Model Γ τ) rfl 40 (by decide) (hts (.fieldLink RX9 57 "OtherHalfOfNightModel" "isThere" "[Z") (wzm K124)) (fun _ h9 => h9) rfl dX9_house_58 ?_
    refine lv_iload_n hx hb dX9_house_61 rfl (lv_at hl 1 rfl) ?_
    obtain ⟨g14, hf⟩ := w_oi hf
    refine va_zald (D := Γ.1) (tys := (tysC Γ)) hx hb hK hP (14) 2 (gM_M_isThere Γ τ) rfl g14 dX9_house_62 ?_
    refine lv_if_ne (tgt := 69) hx hb dX9_house_63 (by decide) (fun c15 => ?_) (fun c15 => ?_)
    · replace hf := (if_neg c15).symm.trans hf
      refine lv_iconst (v := (0 : Int32)) hx hb dX9_house_69 (by decide) ?_
      refine lv_istore (lv' := [(5, .int (0 : Int32)), (0, .ref (Γ.2.2.1 (0))), (1, .int x1), (3, .int x3), (4, .int x4)]) hx hb dX9_house_70 hl (by decide) rfl (fun ls hl => ?_)
      refine lv_iconst (v := (0 : Int32)) hx hb dX9_house_72 (by decide) ?_
      refine lv_istore (lv' := [(6, .int (0 : Int32)), (5, .int (0 : Int32)), (0, .ref (Γ.2.2.1 (0))), (1, .int x1), (3, .int x3), (4, .int x4)]) hx hb dX9_house_73 hl (by decide) rfl (fun ls hl => ?_)
      exact j75 5000 ((0 : Int32)) ((0 : Int32)) τ H locs ls hf hP hS (lv_sub hl [2, 3, 4, 5, 1, 0] rfl)
    · replace hf := (if_pos c15).symm.trans hf
      refine lv_bipush (v := (-11 : Int32)) hx hb dX9_house_66 (by decide) ?_
      exact w_iret (X := XM Γ) hx hb hr hlocks hK hP hS rfl hf dX9_house_68
  suffices hw : ∀ (H : Heap) (locs : List Loc), va_P Γ.1 vwCl (XM Γ σ) H → va_S (wA (alM Γ) s.heap.size) s.heap H locs → W p l e { frames := 2, cells := 0, slots := 0, locals := 48 } s m av.toArray below meth c H locs 0 0 (MQ below (wQi Γ.1 vwCl (tysC Γ) (XM Γ) (alM Γ) r σ' s.heap.size) av.toArray s 0 0 (wA (alM Γ) s.heap.size)) (F0 m 0 ls []) from hw _ [] hP va_S.rf
  clear hP
  intro H locs hP hS
  unfold f_X9_house at hf
  refine lv_iload_n hx hb dX9_house_0 rfl (lv_at hl 1 rfl) ?_
  obtain ⟨q1, h2, hf⟩ := w_ob hf
  refine w_ci (va_runS (As := [.int x1]) (rest := []) ⟨hx, hb, hml, hown, hts⟩ (c_X9_isSheet l Γ hG x1 σ q1.1 q1.2 h2 H.size) (cwS 1 hts (wzS K895 K893 K894 K5) rfl rfl rfl (by decide +kernel) ⟨(Nat.le_of_ble_eq_true rfl), (Nat.le_of_ble_eq_true rfl)⟩) (w_pre hK hP hkc hN hS) rfl rfl hl.1 rfl (lv_room (Nat.le_of_ble_eq_true rfl)) dX9_house_1 ⟨Nat.le_refl _, Nat.le_refl _⟩) hS (fun H locs hP hS => ?_)
  refine lv_if_eq (tgt := 32) hx hb dX9_house_4 (by decide) (fun c3 => ?_) (fun c3 => ?_)
  · replace hf := (if_pos c3).symm.trans hf
    refine lv_bipush (v := (-2 : Int32)) hx hb dX9_house_32 (by decide) ?_
    exact w_iret (X := XM Γ) hx hb hr hlocks hK hP hS rfl hf dX9_house_34
  · replace hf := (if_neg c3).symm.trans hf
    refine lv_iload_n hx hb dX9_house_7 rfl (lv_at hl 2 rfl) ?_
    refine lv_i2l (v := ((x2).toInt64)) hx hb dX9_house_8 rfl ?_
    refine lv_lconst (v := (0 : Int64)) hx hb dX9_house_9 (by decide) ?_
    refine lv_ldc2 (v := (2 : Int64)) hx hb hown (hts (.constantLong RX9 286 (2)) (wzm K713)) dX9_house_10 ?_
    obtain ⟨q4, h5, hf⟩ := w_ob hf
    refine w_ci (va_runS (As := [.long ((x2).toInt64), .long (0 : Int64), .long (2 : Int64)]) (rest := []) ⟨hx, hb, hml, hown, hts⟩ (c_X9_in l Γ hG ((x2).toInt64) (0 : Int64) (2 : Int64) q1.2 q4.1 q4.2 h5 H.size) (cwS 3 hts (wzS K170 K168 K169 K5) rfl rfl rfl (by decide +kernel) ⟨(Nat.le_of_ble_eq_true rfl), (Nat.le_of_ble_eq_true rfl)⟩) (w_pre hK hP hkc hN hS) rfl rfl hl.1 rfl (lv_room (Nat.le_of_ble_eq_true rfl)) dX9_house_13 ⟨Nat.le_refl _, Nat.le_refl _⟩) hS (fun H locs hP hS => ?_)
    refine lv_if_eq (tgt := 32) hx hb dX9_house_16 (by decide) (fun c6 => ?_) (fun c6 => ?_)
    · replace hf := (if_pos c6).symm.trans hf
      refine lv_bipush (v := (-2 : Int32)) hx hb dX9_house_32 (by decide) ?_
      exact w_iret (X := XM Γ) hx hb hr hlocks hK hP hS rfl hf dX9_house_34
    · replace hf := (if_neg c6).symm.trans hf
      refine lv_iload hx hb dX9_house_19 (lv_at hl 4 rfl) ?_
      refine lv_i2l (v := ((x4).toInt64)) hx hb dX9_house_21 rfl ?_
      refine lv_lconst (v := (0 : Int64)) hx hb dX9_house_22 (by decide) ?_
      refine lv_ldc2 (v := (5 : Int64)) hx hb hown (hts (.constantLong RX9 84 (5)) (wzm K178)) dX9_house_23 ?_
      obtain ⟨q7, h8, hf⟩ := w_ob hf
      refine w_ci (va_runS (As := [.long ((x4).toInt64), .long (0 : Int64), .long (5 : Int64)]) (rest := []) ⟨hx, hb, hml, hown, hts⟩ (c_X9_in l Γ hG ((x4).toInt64) (0 : Int64) (5 : Int64) q4.2 q7.1 q7.2 h8 H.size) (cwS 3 hts (wzS K170 K168 K169 K5) rfl rfl rfl (by decide +kernel) ⟨(Nat.le_of_ble_eq_true rfl), (Nat.le_of_ble_eq_true rfl)⟩) (w_pre hK hP hkc hN hS) rfl rfl hl.1 rfl (lv_room (Nat.le_of_ble_eq_true rfl)) dX9_house_26 ⟨Nat.le_refl _, Nat.le_refl _⟩) hS (fun H locs hP hS => ?_)
      refine lv_if_ne (tgt := 35) hx hb dX9_house_29 (by decide) (fun c9 => ?_) (fun c9 => ?_)
      · replace hf := (if_neg c9).symm.trans hf
        refine lv_aload_n hx hb dX9_house_35 rfl (lv_at hl 0 rfl) ?_
        refine va_get (D := Γ.1) (ci := 8) (v := .ref (Γ.2.2.1 (14))) (C := RX9) (T := TX9) (N := 44) hx hb hts iX9 hown hK hP (0) (gM_Model Γ q7.2) rfl 40 (by decide) (hts (.fieldLink RX9 57 "OtherHalfOfNightModel" "isThere" "[Z") (wzm K124)) (fun _ h9 => h9) rfl dX9_house_36 ?_
        refine lv_iload_n hx hb dX9_house_39 rfl (lv_at hl 1 rfl) ?_
        obtain ⟨g10, hf⟩ := w_oi hf
        refine va_zald (D := Γ.1) (tys := (tysC Γ)) hx hb hK hP (14) 2 (gM_M_isThere Γ q7.2) rfl g10 dX9_house_40 ?_
        refine lv_if_eq (tgt := 57) hx hb dX9_house_41 (by decide) (fun c11 => ?_) (fun c11 => ?_)
        · replace hf := (if_pos c11).symm.trans hf
          exact j57 q7.2 H locs ls hf hP hS (lv_sub hl [0, 1, 3, 4] rfl)
        · replace hf := (if_neg c11).symm.trans hf
          refine lv_aload_n hx hb dX9_house_44 rfl (lv_at hl 0 rfl) ?_
          refine va_get (D := Γ.1) (ci := 8) (v := .ref (Γ.2.2.1 (15))) (C := RX9) (T := TX9) (N := 44) hx hb hts iX9 hown hK hP (0) (gM_Model Γ q7.2) rfl 41 (by decide) (hts (.fieldLink RX9 61 "OtherHalfOfNightModel" "sorts" "[I") (wzm K125)) (fun _ h9 => h9) rfl dX9_house_45 ?_
          refine lv_iload_n hx hb dX9_house_48 rfl (lv_at hl 1 rfl) ?_
          obtain ⟨g12, hf⟩ := w_oi hf
          refine va_iald (D := Γ.1) (tys := (tysC Γ)) hx hb hK hP (15) 0 (gM_M_sorts Γ q7.2) rfl g12 dX9_house_49 ?_
          refine lv_iload_n hx hb dX9_house_50 rfl (lv_at hl 2 rfl) ?_
          refine lv_icmp_eq (tgt := 57) hx hb dX9_house_51 (by decide) (fun c13 => ?_) (fun c13 => ?_)
          · replace hf := (if_pos c13).symm.trans hf
            exact j57 q7.2 H locs ls hf hP hS (lv_sub hl [0, 1, 3, 4] rfl)
          · replace hf := (if_neg c13).symm.trans hf
            refine lv_bipush (v := (-13 : Int32)) hx hb dX9_house_54 (by decide) ?_
            exact w_iret (X := XM Γ) hx hb hr hlocks hK hP hS rfl hf dX9_house_56
      · replace hf := (if_pos c9).symm.trans hf
        refine lv_bipush (v := (-2 : Int32)) hx hb dX9_house_32 (by decide) ?_
        exact w_iret (X := XM Γ) hx hb hr hlocks hK hP hS rfl hf dX9_house_34
def f_X9_over (x0 : Int32) (σ : Sm) : Option (Int32 × Sm) := if x0 = 0 then some ((-1 : Int32), σ) else if x0 = (3 : Int32) then some ((1 : Int32), σ) else if x0 = (4 : Int32) then some ((2 : Int32), σ) else some ((0 : Int32), σ)
set_option maxHeartbeats 40000000 in
set_option maxRecDepth 100000 in
theorem c_X9_over (l : Launch) (Γ : Geo) (hG : okM Γ) (x0 : Int32) (σ : Sm) (r : Int32) (σ' : Sm) (hf : f_X9_over x0 σ = some (r, σ')) (sz : Nat) : Met l yX9_over (wz yX9_over cX9_over 1 (some .int)) { frames := 0, cells := 0, slots := 0, locals := 0 } (va_Pc [.int x0] (wPre Γ.1 vwCl (tysC Γ) (XM Γ) (alM Γ) Γ.2.2.2 σ sz)) (wQi Γ.1 vwCl (tysC Γ) (XM Γ) (alM Γ) r σ' sz) 0 0 (wA (alM Γ) sz) := by
  refine w_enter (cc := cX9_over) (maxL := 1) (ret := (some .int)) (by decide) rfl (Nat.le_of_ble_eq_true rfl) ?_
  intro p e s m below meth c ls hx hb hr hlocks hml hown hts hsz hP hK hkc hN hl
  subst hsz
  generalize hav : ([.int x0] : List Value) = av at hl hts ⊢
  have hl : lv_has ls 1 [(0, .int x0)] := by rw [← hav] at hl; exact hl
  suffices hw : ∀ (H : Heap) (locs : List Loc), va_P Γ.1 vwCl (XM Γ σ) H → va_S (wA (alM Γ) s.heap.size) s.heap H locs → W p l e { frames := 0, cells := 0, slots := 0, locals := 0 } s m av.toArray below meth c H locs 0 0 (MQ below (wQi Γ.1 vwCl (tysC Γ) (XM Γ) (alM Γ) r σ' s.heap.size) av.toArray s 0 0 (wA (alM Γ) s.heap.size)) (F0 m 0 ls []) from hw _ [] hP va_S.rf
  clear hP
  intro H locs hP hS
  unfold f_X9_over at hf
  refine lv_iload_n hx hb dX9_over_0 rfl (lv_at hl 0 rfl) ?_
  refine lv_if_ne (tgt := 8) hx hb dX9_over_1 (by decide) (fun c1 => ?_) (fun c1 => ?_)
  · replace hf := (if_neg c1).symm.trans hf
    refine lv_iload_n hx hb dX9_over_8 rfl (lv_at hl 0 rfl) ?_
    refine lv_iconst (v := (3 : Int32)) hx hb dX9_over_9 (by decide) ?_
    refine lv_icmp_ne (tgt := 17) hx hb dX9_over_10 (by decide) (fun c2 => ?_) (fun c2 => ?_)
    · replace hf := (if_neg c2).symm.trans hf
      refine lv_iload_n hx hb dX9_over_17 rfl (lv_at hl 0 rfl) ?_
      refine lv_iconst (v := (4 : Int32)) hx hb dX9_over_18 (by decide) ?_
      refine lv_icmp_ne (tgt := 26) hx hb dX9_over_19 (by decide) (fun c3 => ?_) (fun c3 => ?_)
      · replace hf := (if_neg c3).symm.trans hf
        refine lv_iconst (v := (0 : Int32)) hx hb dX9_over_26 (by decide) ?_
        exact w_iret (X := XM Γ) hx hb hr hlocks hK hP hS rfl hf dX9_over_27
      · replace hf := (if_pos c3).symm.trans hf
        refine lv_iconst (v := (2 : Int32)) hx hb dX9_over_22 (by decide) ?_
        refine lv_goto (tgt := 27) hx hb dX9_over_23 (by decide) ?_
        exact w_iret (X := XM Γ) hx hb hr hlocks hK hP hS rfl hf dX9_over_27
    · replace hf := (if_pos c2).symm.trans hf
      refine lv_iconst (v := (1 : Int32)) hx hb dX9_over_13 (by decide) ?_
      refine lv_goto (tgt := 27) hx hb dX9_over_14 (by decide) ?_
      exact w_iret (X := XM Γ) hx hb hr hlocks hK hP hS rfl hf dX9_over_27
  · replace hf := (if_pos c1).symm.trans hf
    refine lv_iconst (v := (-1 : Int32)) hx hb dX9_over_4 (by decide) ?_
    refine lv_goto (tgt := 27) hx hb dX9_over_5 (by decide) ?_
    exact w_iret (X := XM Γ) hx hb hr hlocks hK hP hS rfl hf dX9_over_27
def f_X9_taken_51 (x1 : Int32) (x2 : Int32) (y3 : Int32) (τ : Sm) : Option (Int32 × Sm) := if y3 = x2 then if okI ((3 : Int32) * x1) 15 then some ((τ.1 (10) (((3 : Int32) * x1)).toNatClampNeg), τ) else none else some ((-13 : Int32), τ)
def f_X9_taken_33 (x1 : Int32) (x2 : Int32) : Nat → Int32 → Sm → Option (Int32 × Sm)
  | 0, _, _ => none
  | n + 1, y3, τ => if y3 = (-1 : Int32) then f_X9_taken_51 x1 x2 (y3) τ else if y3 = x2 then f_X9_taken_51 x1 x2 (y3) τ else (f_X9_over y3 τ).bind fun (q10 : Int32 × Sm) => (f_X9_taken_33 x1 x2 n) (q10.1) q10.2
def f_X9_taken (x1 : Int32) (x2 : Int32) (σ : Sm) : Option (Int32 × Sm) := (f_X9_in ((x2).toInt64) (0 : Int64) (5 : Int64) σ).bind fun (q1 : Int32 × Sm) => if q1.1 = 0 then some ((-2 : Int32), q1.2) else (f_X9_isOne x1 q1.2).bind fun (q4 : Int32 × Sm) => if q4.1 = 0 then some ((-11 : Int32), q4.2) else if okI x1 5 then f_X9_taken_33 x1 x2 5000 ((q4.2.1 (9) (x1).toNatClampNeg)) q4.2 else none
set_option maxHeartbeats 40000000 in
set_option maxRecDepth 100000 in
theorem c_X9_taken (l : Launch) (Γ : Geo) (hG : okM Γ) (x1 : Int32) (x2 : Int32) (σ : Sm) (r : Int32) (σ' : Sm) (hf : f_X9_taken x1 x2 σ = some (r, σ')) (sz : Nat) : Met l yX9_taken (wz yX9_taken cX9_taken 4 (some .int)) { frames := 2, cells := 0, slots := 0, locals := 46 } (va_Pc [.ref (Γ.2.2.1 (0)), .int x1, .int x2] (wPre Γ.1 vwCl (tysC Γ) (XM Γ) (alM Γ) Γ.2.2.2 σ sz)) (wQi Γ.1 vwCl (tysC Γ) (XM Γ) (alM Γ) r σ' sz) 0 0 (wA (alM Γ) sz) := by
  refine w_enter (cc := cX9_taken) (maxL := 4) (ret := (some .int)) (by decide) rfl (Nat.le_of_ble_eq_true rfl) ?_
  intro p e s m below meth c ls hx hb hr hlocks hml hown hts hsz hP hK hkc hN hl
  subst hsz
  generalize hav : ([.ref (Γ.2.2.1 (0)), .int x1, .int x2] : List Value) = av at hl hts ⊢
  have hl : lv_has ls 4 [(0, .ref (Γ.2.2.1 (0))), (1, .int x1), (2, .int x2)] := by rw [← hav] at hl; exact hl
  have j51 : ∀ (y3 : Int32) (τ : Sm) (H : Heap) (locs : List Loc) (ls : Array Slot) (hf : f_X9_taken_51 x1 x2 y3 τ = some (r, σ')) (hP : va_P Γ.1 vwCl (XM Γ τ) H) (hS : va_S (wA (alM Γ) s.heap.size) s.heap H locs) (hl : lv_has ls 4 [(0, .ref (Γ.2.2.1 (0))), (1, .int x1), (2, .int x2), (3, .int y3)]), W p l e { frames := 2, cells := 0, slots := 0, locals := 46 } s m av.toArray below meth c H locs 0 0 (MQ below (wQi Γ.1 vwCl (tysC Γ) (XM Γ) (alM Γ) r σ' s.heap.size) av.toArray s 0 0 (wA (alM Γ) s.heap.size)) (F0 m 51 ls []) := by
    intro y3 τ H locs ls hf hP hS hl
    unfold f_X9_taken_51 at hf
    refine lv_iload_n hx hb dX9_taken_51 rfl (lv_at hl 3 rfl) ?_
    refine lv_iload_n hx hb dX9_taken_52 rfl (lv_at hl 2 rfl) ?_
    refine lv_icmp_ne (tgt := 67) hx hb dX9_taken_53 (by decide) (fun c12 => ?_) (fun c12 => ?_)
    · replace hf := (if_neg c12).symm.trans hf
      refine lv_bipush (v := (-13 : Int32)) hx hb dX9_taken_67 (by decide) ?_
      exact w_iret (X := XM Γ) hx hb hr hlocks hK hP hS rfl hf dX9_taken_69
    · replace hf := (if_pos c12).symm.trans hf
      refine lv_aload_n hx hb dX9_taken_56 rfl (lv_at hl 0 rfl) ?_
      refine va_get (D := Γ.1) (ci := 8) (v := .ref (Γ.2.2.1 (5))) (C := RX9) (T := TX9) (N := 44) hx hb hts iX9 hown hK hP (0) (gM_Model Γ τ) rfl 10 (by decide) (hts (.fieldLink RX9 26 "OtherHalfOfNightModel" "rows" "[I") (wzm K112)) (fun _ h9 => h9) rfl dX9_taken_57 ?_
      refine lv_iconst (v := (3 : Int32)) hx hb dX9_taken_60 (by decide) ?_
      refine lv_iload_n hx hb dX9_taken_61 rfl (lv_at hl 1 rfl) ?_
      refine lv_imul hx hb dX9_taken_62 ?_
      obtain ⟨g13, hf⟩ := w_oi hf
      refine va_iald (D := Γ.1) (tys := (tysC Γ)) hx hb hK hP (5) 0 (gM_M_rows Γ τ) rfl g13 dX9_taken_63 ?_
      refine lv_goto (tgt := 69) hx hb dX9_taken_64 (by decide) ?_
      exact w_iret (X := XM Γ) hx hb hr hlocks hK hP hS rfl hf dX9_taken_69
  have j33 : ∀ (n33 : Nat), ∀ (y3 : Int32) (τ : Sm) (H : Heap) (locs : List Loc) (ls : Array Slot) (hf : f_X9_taken_33 x1 x2 n33 y3 τ = some (r, σ')) (hP : va_P Γ.1 vwCl (XM Γ τ) H) (hS : va_S (wA (alM Γ) s.heap.size) s.heap H locs) (hl : lv_has ls 4 [(0, .ref (Γ.2.2.1 (0))), (1, .int x1), (2, .int x2), (3, .int y3)]), W p l e { frames := 2, cells := 0, slots := 0, locals := 46 } s m av.toArray below meth c H locs 0 0 (MQ below (wQi Γ.1 vwCl (tysC Γ) (XM Γ) (alM Γ) r σ' s.heap.size) av.toArray s 0 0 (wA (alM Γ) s.heap.size)) (F0 m 33 ls []) := by
    intro n33
    induction n33 with
    | zero =>
      intro y3 τ H locs ls hf
      exact absurd hf (by intro h; cases h)
    | succ n33 ih33 =>
      intro y3 τ H locs ls hf hP hS hl
      unfold f_X9_taken_33 at hf
      refine lv_iload_n hx hb dX9_taken_33 rfl (lv_at hl 3 rfl) ?_
      refine lv_iconst (v := (-1 : Int32)) hx hb dX9_taken_34 (by decide) ?_
      refine lv_icmp_eq (tgt := 51) hx hb dX9_taken_35 (by decide) (fun c8 => ?_) (fun c8 => ?_)
      · replace hf := (if_pos c8).symm.trans hf
        exact j51 (y3) τ H locs ls hf hP hS (lv_sub hl [0, 1, 2, 3] rfl)
      · replace hf := (if_neg c8).symm.trans hf
        refine lv_iload_n hx hb dX9_taken_38 rfl (lv_at hl 3 rfl) ?_
        refine lv_iload_n hx hb dX9_taken_39 rfl (lv_at hl 2 rfl) ?_
        refine lv_icmp_eq (tgt := 51) hx hb dX9_taken_40 (by decide) (fun c9 => ?_) (fun c9 => ?_)
        · replace hf := (if_pos c9).symm.trans hf
          exact j51 (y3) τ H locs ls hf hP hS (lv_sub hl [0, 1, 2, 3] rfl)
        · replace hf := (if_neg c9).symm.trans hf
          refine lv_iload_n hx hb dX9_taken_43 rfl (lv_at hl 3 rfl) ?_
          obtain ⟨q10, h11, hf⟩ := w_ob hf
          refine w_ci (va_runS (As := [.int y3]) (rest := []) ⟨hx, hb, hml, hown, hts⟩ (c_X9_over l Γ hG y3 τ q10.1 q10.2 h11 H.size) (cwS 1 hts (wzS K1040 K1038 K1039 K5) rfl rfl rfl (by decide +kernel) ⟨(Nat.le_of_ble_eq_true rfl), (Nat.le_of_ble_eq_true rfl)⟩) (w_pre hK hP hkc hN hS) rfl rfl hl.1 rfl (lv_room (Nat.le_of_ble_eq_true rfl)) dX9_taken_44 ⟨Nat.le_refl _, Nat.le_refl _⟩) hS (fun H locs hP hS => ?_)
          refine lv_istore_n (lv' := [(3, .int q10.1), (0, .ref (Γ.2.2.1 (0))), (1, .int x1), (2, .int x2)]) hx hb dX9_taken_47 rfl hl (by decide) rfl (fun ls hl => ?_)
          refine lv_goto (tgt := 33) hx hb dX9_taken_48 (by decide) ?_
          exact ih33 (q10.1) q10.2 H locs ls hf hP hS (lv_sub hl [1, 2, 3, 0] rfl)
  suffices hw : ∀ (H : Heap) (locs : List Loc), va_P Γ.1 vwCl (XM Γ σ) H → va_S (wA (alM Γ) s.heap.size) s.heap H locs → W p l e { frames := 2, cells := 0, slots := 0, locals := 46 } s m av.toArray below meth c H locs 0 0 (MQ below (wQi Γ.1 vwCl (tysC Γ) (XM Γ) (alM Γ) r σ' s.heap.size) av.toArray s 0 0 (wA (alM Γ) s.heap.size)) (F0 m 0 ls []) from hw _ [] hP va_S.rf
  clear hP
  intro H locs hP hS
  unfold f_X9_taken at hf
  refine lv_iload_n hx hb dX9_taken_0 rfl (lv_at hl 2 rfl) ?_
  refine lv_i2l (v := ((x2).toInt64)) hx hb dX9_taken_1 rfl ?_
  refine lv_lconst (v := (0 : Int64)) hx hb dX9_taken_2 (by decide) ?_
  refine lv_ldc2 (v := (5 : Int64)) hx hb hown (hts (.constantLong RX9 84 (5)) (wzm K178)) dX9_taken_3 ?_
  obtain ⟨q1, h2, hf⟩ := w_ob hf
  refine w_ci (va_runS (As := [.long ((x2).toInt64), .long (0 : Int64), .long (5 : Int64)]) (rest := []) ⟨hx, hb, hml, hown, hts⟩ (c_X9_in l Γ hG ((x2).toInt64) (0 : Int64) (5 : Int64) σ q1.1 q1.2 h2 H.size) (cwS 3 hts (wzS K170 K168 K169 K5) rfl rfl rfl (by decide +kernel) ⟨(Nat.le_of_ble_eq_true rfl), (Nat.le_of_ble_eq_true rfl)⟩) (w_pre hK hP hkc hN hS) rfl rfl hl.1 rfl (lv_room (Nat.le_of_ble_eq_true rfl)) dX9_taken_6 ⟨Nat.le_refl _, Nat.le_refl _⟩) hS (fun H locs hP hS => ?_)
  refine lv_if_ne (tgt := 15) hx hb dX9_taken_9 (by decide) (fun c3 => ?_) (fun c3 => ?_)
  · replace hf := (if_neg c3).symm.trans hf
    refine lv_aload_n hx hb dX9_taken_15 rfl (lv_at hl 0 rfl) ?_
    refine lv_iload_n hx hb dX9_taken_16 rfl (lv_at hl 1 rfl) ?_
    obtain ⟨q4, h5, hf⟩ := w_ob hf
    refine w_ci (va_runV (As := [.int x1]) (rest := []) ⟨hx, hb, hml, hown, hts⟩ (c_X9_isOne l Γ hG x1 q1.2 q4.1 q4.2 h5 H.size) (cwV 1 hts (wzV K182 K179 K180 K181 K5) rfl rfl rfl (by decide +kernel) ⟨(Nat.le_of_ble_eq_true rfl), (Nat.le_of_ble_eq_true rfl)⟩) (w_preV hK hP hkc hN hS (gM_Model Γ q1.2) rfl) rfl rfl hl.1 rfl (lv_room (Nat.le_of_ble_eq_true rfl)) dX9_taken_17 ⟨Nat.le_refl _, Nat.le_refl _⟩) hS (fun H locs hP hS => ?_)
    refine lv_if_ne (tgt := 26) hx hb dX9_taken_20 (by decide) (fun c6 => ?_) (fun c6 => ?_)
    · replace hf := (if_neg c6).symm.trans hf
      refine lv_aload_n hx hb dX9_taken_26 rfl (lv_at hl 0 rfl) ?_
      refine va_get (D := Γ.1) (ci := 8) (v := .ref (Γ.2.2.1 (4))) (C := RX9) (T := TX9) (N := 44) hx hb hts iX9 hown hK hP (0) (gM_Model Γ q4.2) rfl 9 (by decide) (hts (.fieldLink RX9 23 "OtherHalfOfNightModel" "kinds" "[I") (wzm K111)) (fun _ h9 => h9) rfl dX9_taken_27 ?_
      refine lv_iload_n hx hb dX9_taken_30 rfl (lv_at hl 1 rfl) ?_
      obtain ⟨g7, hf⟩ := w_oi hf
      refine va_iald (D := Γ.1) (tys := (tysC Γ)) hx hb hK hP (4) 0 (gM_M_kinds Γ q4.2) rfl g7 dX9_taken_31 ?_
      refine lv_istore_n (lv' := [(3, .int (q4.2.1 (9) (x1).toNatClampNeg)), (0, .ref (Γ.2.2.1 (0))), (1, .int x1), (2, .int x2)]) hx hb dX9_taken_32 rfl hl (by decide) rfl (fun ls hl => ?_)
      exact j33 5000 ((q4.2.1 (9) (x1).toNatClampNeg)) q4.2 H locs ls hf hP hS (lv_sub hl [1, 2, 3, 0] rfl)
    · replace hf := (if_pos c6).symm.trans hf
      refine lv_bipush (v := (-11 : Int32)) hx hb dX9_taken_23 (by decide) ?_
      exact w_iret (X := XM Γ) hx hb hr hlocks hK hP hS rfl hf dX9_taken_25
  · replace hf := (if_pos c3).symm.trans hf
    refine lv_bipush (v := (-2 : Int32)) hx hb dX9_taken_12 (by decide) ?_
    exact w_iret (X := XM Γ) hx hb hr hlocks hK hP hS rfl hf dX9_taken_14
def f_X9_feed (x1 : Int32) (σ : Sm) : Option (Int32 × Sm) := (f_X9_in ((x1).toInt64) (0 : Int64) (255 : Int64) σ).bind fun (q1 : Int32 × Sm) => if q1.1 = 0 then some ((-2 : Int32), q1.2) else if (q1.2.1 (6) 0) = (160 : Int32) then some ((-4 : Int32), q1.2) else if okI (q1.2.1 (6) 0) 160 then some (((upm (upm q1.2 (5) ((q1.2.1 (6) 0)).toNatClampNeg x1) (6) 0 (((upm q1.2 (5) ((q1.2.1 (6) 0)).toNatClampNeg x1).1 (6) 0) + (1 : Int32))).1 (6) 0), (upm (upm q1.2 (5) ((q1.2.1 (6) 0)).toNatClampNeg x1) (6) 0 (((upm q1.2 (5) ((q1.2.1 (6) 0)).toNatClampNeg x1).1 (6) 0) + (1 : Int32)))) else none
set_option maxHeartbeats 40000000 in
set_option maxRecDepth 100000 in
theorem c_X9_feed (l : Launch) (Γ : Geo) (hG : okM Γ) (x1 : Int32) (σ : Sm) (r : Int32) (σ' : Sm) (hf : f_X9_feed x1 σ = some (r, σ')) (sz : Nat) : Met l yX9_feed (wz yX9_feed cX9_feed 2 (some .int)) { frames := 1, cells := 0, slots := 0, locals := 25 } (va_Pc [.ref (Γ.2.2.1 (0)), .int x1] (wPre Γ.1 vwCl (tysC Γ) (XM Γ) (alM Γ) Γ.2.2.2 σ sz)) (wQi Γ.1 vwCl (tysC Γ) (XM Γ) (alM Γ) r σ' sz) 0 0 (wA (alM Γ) sz) := by
  refine w_enter (cc := cX9_feed) (maxL := 2) (ret := (some .int)) (by decide) rfl (Nat.le_of_ble_eq_true rfl) ?_
  intro p e s m below meth c ls hx hb hr hlocks hml hown hts hsz hP hK hkc hN hl
  subst hsz
  generalize hav : ([.ref (Γ.2.2.1 (0)), .int x1] : List Value) = av at hl hts ⊢
  have hl : lv_has ls 2 [(0, .ref (Γ.2.2.1 (0))), (1, .int x1)] := by rw [← hav] at hl; exact hl
  suffices hw : ∀ (H : Heap) (locs : List Loc), va_P Γ.1 vwCl (XM Γ σ) H → va_S (wA (alM Γ) s.heap.size) s.heap H locs → W p l e { frames := 1, cells := 0, slots := 0, locals := 25 } s m av.toArray below meth c H locs 0 0 (MQ below (wQi Γ.1 vwCl (tysC Γ) (XM Γ) (alM Γ) r σ' s.heap.size) av.toArray s 0 0 (wA (alM Γ) s.heap.size)) (F0 m 0 ls []) from hw _ [] hP va_S.rf
  clear hP
  intro H locs hP hS
  unfold f_X9_feed at hf
  refine lv_iload_n hx hb dX9_feed_0 rfl (lv_at hl 1 rfl) ?_
  refine lv_i2l (v := ((x1).toInt64)) hx hb dX9_feed_1 rfl ?_
  refine lv_lconst (v := (0 : Int64)) hx hb dX9_feed_2 (by decide) ?_
  refine lv_ldc2 (v := (255 : Int64)) hx hb hown (hts (.constantLong RX9 132 (255)) (wzm K430)) dX9_feed_3 ?_
  obtain ⟨q1, h2, hf⟩ := w_ob hf
  refine w_ci (va_runS (As := [.long ((x1).toInt64), .long (0 : Int64), .long (255 : Int64)]) (rest := []) ⟨hx, hb, hml, hown, hts⟩ (c_X9_in l Γ hG ((x1).toInt64) (0 : Int64) (255 : Int64) σ q1.1 q1.2 h2 H.size) (cwS 3 hts (wzS K170 K168 K169 K5) rfl rfl rfl (by decide +kernel) ⟨(Nat.le_of_ble_eq_true rfl), (Nat.le_of_ble_eq_true rfl)⟩) (w_pre hK hP hkc hN hS) rfl rfl hl.1 rfl (lv_room (Nat.le_of_ble_eq_true rfl)) dX9_feed_6 ⟨Nat.le_refl _, Nat.le_refl _⟩) hS (fun H locs hP hS => ?_)
  refine lv_if_ne (tgt := 15) hx hb dX9_feed_9 (by decide) (fun c3 => ?_) (fun c3 => ?_)
  · replace hf := (if_neg c3).symm.trans hf
    refine lv_aload_n hx hb dX9_feed_15 rfl (lv_at hl 0 rfl) ?_
    refine va_get (D := Γ.1) (ci := 8) (v := .int (q1.2.1 (6) 0)) (C := RX9) (T := TX9) (N := 44) hx hb hts iX9 hown hK hP (0) (gM_Model Γ q1.2) rfl 6 (by decide) (hts (.fieldLink RX9 134 "OtherHalfOfNightModel" "taped" "I") (wzm K431)) (fun _ h9 => h9) rfl dX9_feed_16 ?_
    refine lv_sipush (v := (160 : Int32)) hx hb dX9_feed_19 (by decide) ?_
    refine lv_icmp_ne (tgt := 28) hx hb dX9_feed_22 (by decide) (fun c4 => ?_) (fun c4 => ?_)
    · replace hf := (if_neg c4).symm.trans hf
      refine lv_aload_n hx hb dX9_feed_28 rfl (lv_at hl 0 rfl) ?_
      refine va_get (D := Γ.1) (ci := 8) (v := .ref (Γ.2.2.1 (3))) (C := RX9) (T := TX9) (N := 44) hx hb hts iX9 hown hK hP (0) (gM_Model Γ q1.2) rfl 5 (by decide) (hts (.fieldLink RX9 20 "OtherHalfOfNightModel" "tape" "[I") (wzm K110)) (fun _ h9 => h9) rfl dX9_feed_29 ?_
      refine lv_aload_n hx hb dX9_feed_32 rfl (lv_at hl 0 rfl) ?_
      refine va_get (D := Γ.1) (ci := 8) (v := .int (q1.2.1 (6) 0)) (C := RX9) (T := TX9) (N := 44) hx hb hts iX9 hown hK hP (0) (gM_Model Γ q1.2) rfl 6 (by decide) (hts (.fieldLink RX9 134 "OtherHalfOfNightModel" "taped" "I") (wzm K431)) (fun _ h9 => h9) rfl dX9_feed_33 ?_
      refine lv_iload_n hx hb dX9_feed_36 rfl (lv_at hl 1 rfl) ?_
      obtain ⟨g5, hf⟩ := w_oi hf
      refine w_iast (D := Γ.1) (tys := (tysC Γ)) (X := XM Γ) (σ' := (upm q1.2 (5) ((q1.2.1 (6) 0)).toNatClampNeg x1)) hx hb hK hP (halM Γ) hG hS (3) 0 (gM_M_tape Γ q1.2) rfl g5 dX9_feed_37 (sM_M_tape Γ q1.2 ((q1.2.1 (6) 0)).toNatClampNeg x1) (fun H locs hP hS => ?_)
      refine lv_aload_n hx hb dX9_feed_38 rfl (lv_at hl 0 rfl) ?_
      refine lv_dup hx hb dX9_feed_39 rfl ?_
      refine va_get (D := Γ.1) (ci := 8) (v := .int ((upm q1.2 (5) ((q1.2.1 (6) 0)).toNatClampNeg x1).1 (6) 0)) (C := RX9) (T := TX9) (N := 44) hx hb hts iX9 hown hK hP (0) (gM_Model Γ (upm q1.2 (5) ((q1.2.1 (6) 0)).toNatClampNeg x1)) rfl 6 (by decide) (hts (.fieldLink RX9 134 "OtherHalfOfNightModel" "taped" "I") (wzm K431)) (fun _ h9 => h9) rfl dX9_feed_40 ?_
      refine lv_iconst (v := (1 : Int32)) hx hb dX9_feed_43 (by decide) ?_
      refine lv_iadd hx hb dX9_feed_44 ?_
      refine w_put (X := XM Γ) (σ' := (upm (upm q1.2 (5) ((q1.2.1 (6) 0)).toNatClampNeg x1) (6) 0 (((upm q1.2 (5) ((q1.2.1 (6) 0)).toNatClampNeg x1).1 (6) 0) + (1 : Int32)))) (ci := 8) (C := RX9) (T := TX9) (N := 44) (ty := .int) hx hb hts iX9 tyX9 tyX9_ok nmX9 hown hK hP (halM Γ) hG hS (0) (gM_Model Γ (upm q1.2 (5) ((q1.2.1 (6) 0)).toNatClampNeg x1)) rfl 6 (by decide) (hts (.fieldLink RX9 134 "OtherHalfOfNightModel" "taped" "I") (wzm K431)) (fun _ h9 => h9) rfl (by decide +kernel) rfl rfl (Nat.le_of_ble_eq_true rfl) dX9_feed_45 (sM_Model_taped Γ (upm q1.2 (5) ((q1.2.1 (6) 0)).toNatClampNeg x1) (((upm q1.2 (5) ((q1.2.1 (6) 0)).toNatClampNeg x1).1 (6) 0) + (1 : Int32))) (fun H locs hP hS => ?_)
      refine lv_aload_n hx hb dX9_feed_48 rfl (lv_at hl 0 rfl) ?_
      refine va_get (D := Γ.1) (ci := 8) (v := .int ((upm (upm q1.2 (5) ((q1.2.1 (6) 0)).toNatClampNeg x1) (6) 0 (((upm q1.2 (5) ((q1.2.1 (6) 0)).toNatClampNeg x1).1 (6) 0) + (1 : Int32))).1 (6) 0)) (C := RX9) (T := TX9) (N := 44) hx hb hts iX9 hown hK hP (0) (gM_Model Γ (upm (upm q1.2 (5) ((q1.2.1 (6) 0)).toNatClampNeg x1) (6) 0 (((upm q1.2 (5) ((q1.2.1 (6) 0)).toNatClampNeg x1).1 (6) 0) + (1 : Int32)))) rfl 6 (by decide) (hts (.fieldLink RX9 134 "OtherHalfOfNightModel" "taped" "I") (wzm K431)) (fun _ h9 => h9) rfl dX9_feed_49 ?_
      exact w_iret (X := XM Γ) hx hb hr hlocks hK hP hS rfl hf dX9_feed_52
    · replace hf := (if_pos c4).symm.trans hf
      refine lv_bipush (v := (-4 : Int32)) hx hb dX9_feed_25 (by decide) ?_
      exact w_iret (X := XM Γ) hx hb hr hlocks hK hP hS rfl hf dX9_feed_27
  · replace hf := (if_pos c3).symm.trans hf
    refine lv_bipush (v := (-2 : Int32)) hx hb dX9_feed_12 (by decide) ?_
    exact w_iret (X := XM Γ) hx hb hr hlocks hK hP hS rfl hf dX9_feed_14
