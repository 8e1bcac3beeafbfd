def f_X9_laysAside_28 : Nat → Int32 → Sm → Option Sm
  | 0, _, _ => none
  | n + 1, y1, τ => if (18 : Int32) ≤ y1 then some (upm τ (32) ((33 : Int32)).toNatClampNeg (τ.1 (7) 0)) else if okI y1 18 then if okI ((15 : Int32) + y1) 34 then (f_X9_laysAside_28 n) ((y1 + (1 : Int32))) (upm τ (32) (((15 : Int32) + y1)).toNatClampNeg (τ.1 (11) (y1).toNatClampNeg)) else none else none
def f_X9_laysAside_2 : Nat → Int32 → Sm → Option Sm
  | 0, _, _ => none
  | n + 1, y1, τ => if (15 : Int32) ≤ y1 then f_X9_laysAside_28 5000 ((0 : Int32)) τ else if okI y1 15 then if okI y1 34 then (f_X9_laysAside_2 n) ((y1 + (1 : Int32))) (upm τ (32) (y1).toNatClampNeg (τ.1 (10) (y1).toNatClampNeg)) else none else none
def f_X9_laysAside (σ : Sm) : Option Sm := f_X9_laysAside_2 5000 ((0 : Int32)) σ
set_option maxHeartbeats 40000000 in
set_option maxRecDepth 100000 in
theorem c_X9_laysAside (l : Launch) (Γ : Geo) (hG : okM Γ) (σ : Sm) (σ' : Sm) (hf : f_X9_laysAside σ = some σ') (sz : Nat) : Met l yX9_laysAside (wz yX9_laysAside cX9_laysAside 2 none) { frames := 0, cells := 0, slots := 0, locals := 0 } (va_Pc [.ref (Γ.2.2.1 (0))] (wPre Γ.1 vwCl (tysC Γ) (XM Γ) (alM Γ) Γ.2.2.2 σ sz)) (wQv Γ.1 vwCl (tysC Γ) (XM Γ) (alM Γ) σ' sz) 0 0 (wA (alM Γ) sz) := by
  refine w_enter (cc := cX9_laysAside) (maxL := 2) (ret := none) (by decide) rfl (Nat.le_of_ble_eq_true rfl) ?_
  intro p e s m below meth c ls hx hb hr hlocks hml hown hts hsz hP hK hkc hN hl
  subst hsz
  generalize hav : ([.ref (Γ.2.2.1 (0))] : List Value) = av at hl hts ⊢
  have hl : lv_has ls 2 [(0, .ref (Γ.2.2.1 (0)))] := by rw [← hav] at hl; exact hl
  have j28 : ∀ (n28 : Nat), ∀ (y1 : Int32) (τ : Sm) (H : Heap) (locs : List Loc) (ls : Array Slot) (hf : f_X9_laysAside_28 n28 y1 τ = some σ') (hP : va_P Γ.1 vwCl (XM Γ τ) H) (hS : va_S (wA (alM Γ) s.heap.size) s.heap H locs) (hl : lv_has ls 2 [(0, .ref (Γ.2.2.1 (0))), (1, .int y1)]), W p l e { frames := 0, cells := 0, slots := 0, locals := 0 } s m av.toArray below meth c H locs 0 0 (MQ below (wQv Γ.1 vwCl (tysC Γ) (XM Γ) (alM Γ) σ' s.heap.size) av.toArray s 0 0 (wA (alM Γ) s.heap.size)) (F0 m 28 ls []) := by
    intro n28
    induction n28 with
    | zero =>
      intro y1 τ H locs ls hf
      exact absurd hf (by intro h; cases h)
    | succ n28 ih28 =>
      intro y1 τ H locs ls hf hP hS hl
      unfold f_X9_laysAside_28 at hf
      refine lv_iload_n hx hb dX9_laysAside_28 rfl (lv_at hl 1 rfl) ?_
      refine lv_bipush (v := (18 : Int32)) hx hb dX9_laysAside_29 (by decide) ?_
      refine lv_icmp_ge (tgt := 55) hx hb dX9_laysAside_31 (by decide) (fun c4 => ?_) (fun c4 => ?_)
      · replace hf := (if_pos c4).symm.trans hf
        refine lv_aload_n hx hb dX9_laysAside_55 rfl (lv_at hl 0 rfl) ?_
        refine va_get (D := Γ.1) (ci := 8) (v := .ref (Γ.2.2.1 (11))) (C := RX9) (T := TX9) (N := 44) hx hb hts iX9 hown hK hP (0) (gM_Model Γ τ) rfl 32 (by decide) (hts (.fieldLink RX9 45 "OtherHalfOfNightModel" "was" "[I") (wzm K119)) (fun _ h9 => h9) rfl dX9_laysAside_56 ?_
        refine lv_bipush (v := (33 : Int32)) hx hb dX9_laysAside_59 (by decide) ?_
        refine lv_aload_n hx hb dX9_laysAside_61 rfl (lv_at hl 0 rfl) ?_
        refine va_get (D := Γ.1) (ci := 8) (v := .int (τ.1 (7) 0)) (C := RX9) (T := TX9) (N := 44) hx hb hts iX9 hown hK hP (0) (gM_Model Γ τ) rfl 7 (by decide) (hts (.fieldLink RX9 111 "OtherHalfOfNightModel" "nightNow" "I") (wzm K192)) (fun _ h9 => h9) rfl dX9_laysAside_62 ?_
        refine w_iast (D := Γ.1) (tys := (tysC Γ)) (X := XM Γ) (σ' := (upm τ (32) ((33 : Int32)).toNatClampNeg (τ.1 (7) 0))) hx hb hK hP (halM Γ) hG hS (11) 0 (gM_M_was Γ τ) rfl (show okI (33 : Int32) 34 by decide) dX9_laysAside_65 (sM_M_was Γ τ ((33 : Int32)).toNatClampNeg (τ.1 (7) 0)) (fun H locs hP hS => ?_)
        exact w_vret (X := XM Γ) hx hb hr hlocks hK hP hS hf dX9_laysAside_66
      · replace hf := (if_neg c4).symm.trans hf
        refine lv_aload_n hx hb dX9_laysAside_34 rfl (lv_at hl 0 rfl) ?_
        refine va_get (D := Γ.1) (ci := 8) (v := .ref (Γ.2.2.1 (11))) (C := RX9) (T := TX9) (N := 44) hx hb hts iX9 hown hK hP (0) (gM_Model Γ τ) rfl 32 (by decide) (hts (.fieldLink RX9 45 "OtherHalfOfNightModel" "was" "[I") (wzm K119)) (fun _ h9 => h9) rfl dX9_laysAside_35 ?_
        refine lv_bipush (v := (15 : Int32)) hx hb dX9_laysAside_38 (by decide) ?_
        refine lv_iload_n hx hb dX9_laysAside_40 rfl (lv_at hl 1 rfl) ?_
        refine lv_iadd hx hb dX9_laysAside_41 ?_
        refine lv_aload_n hx hb dX9_laysAside_42 rfl (lv_at hl 0 rfl) ?_
        refine va_get (D := Γ.1) (ci := 8) (v := .ref (Γ.2.2.1 (6))) (C := RX9) (T := TX9) (N := 44) hx hb hts iX9 hown hK hP (0) (gM_Model Γ τ) rfl 11 (by decide) (hts (.fieldLink RX9 29 "OtherHalfOfNightModel" "cups" "[I") (wzm K113)) (fun _ h9 => h9) rfl dX9_laysAside_43 ?_
        refine lv_iload_n hx hb dX9_laysAside_46 rfl (lv_at hl 1 rfl) ?_
        obtain ⟨g5, hf⟩ := w_oi hf
        refine va_iald (D := Γ.1) (tys := (tysC Γ)) hx hb hK hP (6) 0 (gM_M_cups Γ τ) rfl g5 dX9_laysAside_47 ?_
        obtain ⟨g6, hf⟩ := w_oi hf
        refine w_iast (D := Γ.1) (tys := (tysC Γ)) (X := XM Γ) (σ' := (upm τ (32) (((15 : Int32) + y1)).toNatClampNeg (τ.1 (11) (y1).toNatClampNeg))) hx hb hK hP (halM Γ) hG hS (11) 0 (gM_M_was Γ τ) rfl g6 dX9_laysAside_48 (sM_M_was Γ τ (((15 : Int32) + y1)).toNatClampNeg (τ.1 (11) (y1).toNatClampNeg)) (fun H locs hP hS => ?_)
        refine lv_iinc (v := (y1 + (1 : Int32))) (lv' := [(1, .int (y1 + (1 : Int32))), (0, .ref (Γ.2.2.1 (0)))]) hx hb dX9_laysAside_49 hl (k := 1) rfl rfl (by decide) rfl (fun ls hl => ?_)
        refine lv_goto (tgt := 28) hx hb dX9_laysAside_52 (by decide) ?_
        exact ih28 ((y1 + (1 : Int32))) (upm τ (32) (((15 : Int32) + y1)).toNatClampNeg (τ.1 (11) (y1).toNatClampNeg)) H locs ls hf hP hS (lv_sub hl [1, 0] rfl)
  have j2 : ∀ (n2 : Nat), ∀ (y1 : Int32) (τ : Sm) (H : Heap) (locs : List Loc) (ls : Array Slot) (hf : f_X9_laysAside_2 n2 y1 τ = some σ') (hP : va_P Γ.1 vwCl (XM Γ τ) H) (hS : va_S (wA (alM Γ) s.heap.size) s.heap H locs) (hl : lv_has ls 2 [(0, .ref (Γ.2.2.1 (0))), (1, .int y1)]), W p l e { frames := 0, cells := 0, slots := 0, locals := 0 } s m av.toArray below meth c H locs 0 0 (MQ below (wQv Γ.1 vwCl (tysC Γ) (XM Γ) (alM Γ) σ' s.heap.size) av.toArray s 0 0 (wA (alM Γ) s.heap.size)) (F0 m 2 ls []) := by
    intro n2
    induction n2 with
    | zero =>
      intro y1 τ H locs ls hf
      exact absurd hf (by intro h; cases h)
    | succ n2 ih2 =>
      intro y1 τ H locs ls hf hP hS hl
      unfold f_X9_laysAside_2 at hf
      refine lv_iload_n hx hb dX9_laysAside_2 rfl (lv_at hl 1 rfl) ?_
      refine lv_bipush (v := (15 : Int32)) hx hb dX9_laysAside_3 (by decide) ?_
      refine lv_icmp_ge (tgt := 26) hx hb dX9_laysAside_5 (by decide) (fun c1 => ?_) (fun c1 => ?_)
      · replace hf := (if_pos c1).symm.trans hf
        refine lv_iconst (v := (0 : Int32)) hx hb dX9_laysAside_26 (by decide) ?_
        refine lv_istore_n (lv' := [(1, .int (0 : Int32)), (0, .ref (Γ.2.2.1 (0)))]) hx hb dX9_laysAside_27 rfl hl (by decide) rfl (fun ls hl => ?_)
        exact j28 5000 ((0 : Int32)) τ H locs ls hf hP hS (lv_sub hl [1, 0] rfl)
      · replace hf := (if_neg c1).symm.trans hf
        refine lv_aload_n hx hb dX9_laysAside_8 rfl (lv_at hl 0 rfl) ?_
        refine va_get (D := Γ.1) (ci := 8) (v := .ref (Γ.2.2.1 (11))) (C := RX9) (T := TX9) (N := 44) hx hb hts iX9 hown hK hP (0) (gM_Model Γ τ) rfl 32 (by decide) (hts (.fieldLink RX9 45 "OtherHalfOfNightModel" "was" "[I") (wzm K119)) (fun _ h9 => h9) rfl dX9_laysAside_9 ?_
        refine lv_iload_n hx hb dX9_laysAside_12 rfl (lv_at hl 1 rfl) ?_
        refine lv_aload_n hx hb dX9_laysAside_13 rfl (lv_at hl 0 rfl) ?_
        refine va_get (D := Γ.1) (ci := 8) (v := .ref (Γ.2.2.1 (5))) (C := RX9) (T := TX9) (N := 44) hx hb hts iX9 hown hK hP (0) (gM_Model Γ τ) rfl 10 (by decide) (hts (.fieldLink RX9 26 "OtherHalfOfNightModel" "rows" "[I") (wzm K112)) (fun _ h9 => h9) rfl dX9_laysAside_14 ?_
        refine lv_iload_n hx hb dX9_laysAside_17 rfl (lv_at hl 1 rfl) ?_
        obtain ⟨g2, hf⟩ := w_oi hf
        refine va_iald (D := Γ.1) (tys := (tysC Γ)) hx hb hK hP (5) 0 (gM_M_rows Γ τ) rfl g2 dX9_laysAside_18 ?_
        obtain ⟨g3, hf⟩ := w_oi hf
        refine w_iast (D := Γ.1) (tys := (tysC Γ)) (X := XM Γ) (σ' := (upm τ (32) (y1).toNatClampNeg (τ.1 (10) (y1).toNatClampNeg))) hx hb hK hP (halM Γ) hG hS (11) 0 (gM_M_was Γ τ) rfl g3 dX9_laysAside_19 (sM_M_was Γ τ (y1).toNatClampNeg (τ.1 (10) (y1).toNatClampNeg)) (fun H locs hP hS => ?_)
        refine lv_iinc (v := (y1 + (1 : Int32))) (lv' := [(1, .int (y1 + (1 : Int32))), (0, .ref (Γ.2.2.1 (0)))]) hx hb dX9_laysAside_20 hl (k := 1) rfl rfl (by decide) rfl (fun ls hl => ?_)
        refine lv_goto (tgt := 2) hx hb dX9_laysAside_23 (by decide) ?_
        exact ih2 ((y1 + (1 : Int32))) (upm τ (32) (y1).toNatClampNeg (τ.1 (10) (y1).toNatClampNeg)) H locs ls hf hP hS (lv_sub hl [1, 0] rfl)
  suffices hw : ∀ (H : Heap) (locs : List Loc), va_P Γ.1 vwCl (XM Γ σ) H → va_S (wA (alM Γ) s.heap.size) s.heap H locs → W p l e { frames := 0, cells := 0, slots := 0, locals := 0 } s m av.toArray below meth c H locs 0 0 (MQ below (wQv Γ.1 vwCl (tysC Γ) (XM Γ) (alM Γ) σ' s.heap.size) av.toArray s 0 0 (wA (alM Γ) s.heap.size)) (F0 m 0 ls []) from hw _ [] hP va_S.rf
  clear hP
  intro H locs hP hS
  unfold f_X9_laysAside at hf
  refine lv_iconst (v := (0 : Int32)) hx hb dX9_laysAside_0 (by decide) ?_
  refine lv_istore_n (lv' := [(1, .int (0 : Int32)), (0, .ref (Γ.2.2.1 (0)))]) hx hb dX9_laysAside_1 rfl hl (by decide) rfl (fun ls hl => ?_)
  exact j2 5000 ((0 : Int32)) σ H locs ls hf hP hS (lv_sub hl [1, 0] rfl)
def f_X9_laysBack_28 : Nat → Int32 → Sm → Option Sm
  | 0, _, _ => none
  | n + 1, y1, τ => if (18 : Int32) ≤ y1 then some (upm τ (7) 0 (τ.1 (32) ((33 : Int32)).toNatClampNeg)) else if okI ((15 : Int32) + y1) 34 then if okI y1 18 then (f_X9_laysBack_28 n) ((y1 + (1 : Int32))) (upm τ (11) (y1).toNatClampNeg (τ.1 (32) (((15 : Int32) + y1)).toNatClampNeg)) else none else none
def f_X9_laysBack_2 : Nat → Int32 → Sm → Option Sm
  | 0, _, _ => none
  | n + 1, y1, τ => if (15 : Int32) ≤ y1 then f_X9_laysBack_28 5000 ((0 : Int32)) τ else if okI y1 34 then if okI y1 15 then (f_X9_laysBack_2 n) ((y1 + (1 : Int32))) (upm τ (10) (y1).toNatClampNeg (τ.1 (32) (y1).toNatClampNeg)) else none else none
def f_X9_laysBack (σ : Sm) : Option Sm := f_X9_laysBack_2 5000 ((0 : Int32)) σ
set_option maxHeartbeats 40000000 in
set_option maxRecDepth 100000 in
theorem c_X9_laysBack (l : Launch) (Γ : Geo) (hG : okM Γ) (σ : Sm) (σ' : Sm) (hf : f_X9_laysBack σ = some σ') (sz : Nat) : Met l yX9_laysBack (wz yX9_laysBack cX9_laysBack 2 none) { frames := 0, cells := 0, slots := 0, locals := 0 } (va_Pc [.ref (Γ.2.2.1 (0))] (wPre Γ.1 vwCl (tysC Γ) (XM Γ) (alM Γ) Γ.2.2.2 σ sz)) (wQv Γ.1 vwCl (tysC Γ) (XM Γ) (alM Γ) σ' sz) 0 0 (wA (alM Γ) sz) := by
  refine w_enter (cc := cX9_laysBack) (maxL := 2) (ret := none) (by decide) rfl (Nat.le_of_ble_eq_true rfl) ?_
  intro p e s m below meth c ls hx hb hr hlocks hml hown hts hsz hP hK hkc hN hl
  subst hsz
  generalize hav : ([.ref (Γ.2.2.1 (0))] : List Value) = av at hl hts ⊢
  have hl : lv_has ls 2 [(0, .ref (Γ.2.2.1 (0)))] := by rw [← hav] at hl; exact hl
  have j28 : ∀ (n28 : Nat), ∀ (y1 : Int32) (τ : Sm) (H : Heap) (locs : List Loc) (ls : Array Slot) (hf : f_X9_laysBack_28 n28 y1 τ = some σ') (hP : va_P Γ.1 vwCl (XM Γ τ) H) (hS : va_S (wA (alM Γ) s.heap.size) s.heap H locs) (hl : lv_has ls 2 [(0, .ref (Γ.2.2.1 (0))), (1, .int y1)]), W p l e { frames := 0, cells := 0, slots := 0, locals := 0 } s m av.toArray below meth c H locs 0 0 (MQ below (wQv Γ.1 vwCl (tysC Γ) (XM Γ) (alM Γ) σ' s.heap.size) av.toArray s 0 0 (wA (alM Γ) s.heap.size)) (F0 m 28 ls []) := by
    intro n28
    induction n28 with
    | zero =>
      intro y1 τ H locs ls hf
      exact absurd hf (by intro h; cases h)
    | succ n28 ih28 =>
      intro y1 τ H locs ls hf hP hS hl
      unfold f_X9_laysBack_28 at hf
      refine lv_iload_n hx hb dX9_laysBack_28 rfl (lv_at hl 1 rfl) ?_
      refine lv_bipush (v := (18 : Int32)) hx hb dX9_laysBack_29 (by decide) ?_
      refine lv_icmp_ge (tgt := 55) hx hb dX9_laysBack_31 (by decide) (fun c4 => ?_) (fun c4 => ?_)
      · replace hf := (if_pos c4).symm.trans hf
        refine lv_aload_n hx hb dX9_laysBack_55 rfl (lv_at hl 0 rfl) ?_
        refine lv_aload_n hx hb dX9_laysBack_56 rfl (lv_at hl 0 rfl) ?_
        refine va_get (D := Γ.1) (ci := 8) (v := .ref (Γ.2.2.1 (11))) (C := RX9) (T := TX9) (N := 44) hx hb hts iX9 hown hK hP (0) (gM_Model Γ τ) rfl 32 (by decide) (hts (.fieldLink RX9 45 "OtherHalfOfNightModel" "was" "[I") (wzm K119)) (fun _ h9 => h9) rfl dX9_laysBack_57 ?_
        refine lv_bipush (v := (33 : Int32)) hx hb dX9_laysBack_60 (by decide) ?_
        refine va_iald (D := Γ.1) (tys := (tysC Γ)) hx hb hK hP (11) 0 (gM_M_was Γ τ) rfl (show okI (33 : Int32) 34 by decide) dX9_laysBack_62 ?_
        refine w_put (X := XM Γ) (σ' := (upm τ (7) 0 (τ.1 (32) ((33 : Int32)).toNatClampNeg))) (ci := 8) (C := RX9) (T := TX9) (N := 44) (ty := .int) hx hb hts iX9 tyX9 tyX9_ok nmX9 hown hK hP (halM Γ) hG hS (0) (gM_Model Γ τ) rfl 7 (by decide) (hts (.fieldLink RX9 111 "OtherHalfOfNightModel" "nightNow" "I") (wzm K192)) (fun _ h9 => h9) rfl (by decide +kernel) rfl rfl (Nat.le_of_ble_eq_true rfl) dX9_laysBack_63 (sM_Model_nightNow Γ τ (τ.1 (32) ((33 : Int32)).toNatClampNeg)) (fun H locs hP hS => ?_)
        exact w_vret (X := XM Γ) hx hb hr hlocks hK hP hS hf dX9_laysBack_66
      · replace hf := (if_neg c4).symm.trans hf
        refine lv_aload_n hx hb dX9_laysBack_34 rfl (lv_at hl 0 rfl) ?_
        refine va_get (D := Γ.1) (ci := 8) (v := .ref (Γ.2.2.1 (6))) (C := RX9) (T := TX9) (N := 44) hx hb hts iX9 hown hK hP (0) (gM_Model Γ τ) rfl 11 (by decide) (hts (.fieldLink RX9 29 "OtherHalfOfNightModel" "cups" "[I") (wzm K113)) (fun _ h9 => h9) rfl dX9_laysBack_35 ?_
        refine lv_iload_n hx hb dX9_laysBack_38 rfl (lv_at hl 1 rfl) ?_
        refine lv_aload_n hx hb dX9_laysBack_39 rfl (lv_at hl 0 rfl) ?_
        refine va_get (D := Γ.1) (ci := 8) (v := .ref (Γ.2.2.1 (11))) (C := RX9) (T := TX9) (N := 44) hx hb hts iX9 hown hK hP (0) (gM_Model Γ τ) rfl 32 (by decide) (hts (.fieldLink RX9 45 "OtherHalfOfNightModel" "was" "[I") (wzm K119)) (fun _ h9 => h9) rfl dX9_laysBack_40 ?_
        refine lv_bipush (v := (15 : Int32)) hx hb dX9_laysBack_43 (by decide) ?_
        refine lv_iload_n hx hb dX9_laysBack_45 rfl (lv_at hl 1 rfl) ?_
        refine lv_iadd hx hb dX9_laysBack_46 ?_
        obtain ⟨g5, hf⟩ := w_oi hf
        refine va_iald (D := Γ.1) (tys := (tysC Γ)) hx hb hK hP (11) 0 (gM_M_was Γ τ) rfl g5 dX9_laysBack_47 ?_
        obtain ⟨g6, hf⟩ := w_oi hf
        refine w_iast (D := Γ.1) (tys := (tysC Γ)) (X := XM Γ) (σ' := (upm τ (11) (y1).toNatClampNeg (τ.1 (32) (((15 : Int32) + y1)).toNatClampNeg))) hx hb hK hP (halM Γ) hG hS (6) 0 (gM_M_cups Γ τ) rfl g6 dX9_laysBack_48 (sM_M_cups Γ τ (y1).toNatClampNeg (τ.1 (32) (((15 : Int32) + y1)).toNatClampNeg)) (fun H locs hP hS => ?_)
        refine lv_iinc (v := (y1 + (1 : Int32))) (lv' := [(1, .int (y1 + (1 : Int32))), (0, .ref (Γ.2.2.1 (0)))]) hx hb dX9_laysBack_49 hl (k := 1) rfl rfl (by decide) rfl (fun ls hl => ?_)
        refine lv_goto (tgt := 28) hx hb dX9_laysBack_52 (by decide) ?_
        exact ih28 ((y1 + (1 : Int32))) (upm τ (11) (y1).toNatClampNeg (τ.1 (32) (((15 : Int32) + y1)).toNatClampNeg)) H locs ls hf hP hS (lv_sub hl [1, 0] rfl)
  have j2 : ∀ (n2 : Nat), ∀ (y1 : Int32) (τ : Sm) (H : Heap) (locs : List Loc) (ls : Array Slot) (hf : f_X9_laysBack_2 n2 y1 τ = some σ') (hP : va_P Γ.1 vwCl (XM Γ τ) H) (hS : va_S (wA (alM Γ) s.heap.size) s.heap H locs) (hl : lv_has ls 2 [(0, .ref (Γ.2.2.1 (0))), (1, .int y1)]), W p l e { frames := 0, cells := 0, slots := 0, locals := 0 } s m av.toArray below meth c H locs 0 0 (MQ below (wQv Γ.1 vwCl (tysC Γ) (XM Γ) (alM Γ) σ' s.heap.size) av.toArray s 0 0 (wA (alM Γ) s.heap.size)) (F0 m 2 ls []) := by
    intro n2
    induction n2 with
    | zero =>
      intro y1 τ H locs ls hf
      exact absurd hf (by intro h; cases h)
    | succ n2 ih2 =>
      intro y1 τ H locs ls hf hP hS hl
      unfold f_X9_laysBack_2 at hf
      refine lv_iload_n hx hb dX9_laysBack_2 rfl (lv_at hl 1 rfl) ?_
      refine lv_bipush (v := (15 : Int32)) hx hb dX9_laysBack_3 (by decide) ?_
      refine lv_icmp_ge (tgt := 26) hx hb dX9_laysBack_5 (by decide) (fun c1 => ?_) (fun c1 => ?_)
      · replace hf := (if_pos c1).symm.trans hf
        refine lv_iconst (v := (0 : Int32)) hx hb dX9_laysBack_26 (by decide) ?_
        refine lv_istore_n (lv' := [(1, .int (0 : Int32)), (0, .ref (Γ.2.2.1 (0)))]) hx hb dX9_laysBack_27 rfl hl (by decide) rfl (fun ls hl => ?_)
        exact j28 5000 ((0 : Int32)) τ H locs ls hf hP hS (lv_sub hl [1, 0] rfl)
      · replace hf := (if_neg c1).symm.trans hf
        refine lv_aload_n hx hb dX9_laysBack_8 rfl (lv_at hl 0 rfl) ?_
        refine va_get (D := Γ.1) (ci := 8) (v := .ref (Γ.2.2.1 (5))) (C := RX9) (T := TX9) (N := 44) hx hb hts iX9 hown hK hP (0) (gM_Model Γ τ) rfl 10 (by decide) (hts (.fieldLink RX9 26 "OtherHalfOfNightModel" "rows" "[I") (wzm K112)) (fun _ h9 => h9) rfl dX9_laysBack_9 ?_
        refine lv_iload_n hx hb dX9_laysBack_12 rfl (lv_at hl 1 rfl) ?_
        refine lv_aload_n hx hb dX9_laysBack_13 rfl (lv_at hl 0 rfl) ?_
        refine va_get (D := Γ.1) (ci := 8) (v := .ref (Γ.2.2.1 (11))) (C := RX9) (T := TX9) (N := 44) hx hb hts iX9 hown hK hP (0) (gM_Model Γ τ) rfl 32 (by decide) (hts (.fieldLink RX9 45 "OtherHalfOfNightModel" "was" "[I") (wzm K119)) (fun _ h9 => h9) rfl dX9_laysBack_14 ?_
        refine lv_iload_n hx hb dX9_laysBack_17 rfl (lv_at hl 1 rfl) ?_
        obtain ⟨g2, hf⟩ := w_oi hf
        refine va_iald (D := Γ.1) (tys := (tysC Γ)) hx hb hK hP (11) 0 (gM_M_was Γ τ) rfl g2 dX9_laysBack_18 ?_
        obtain ⟨g3, hf⟩ := w_oi hf
        refine w_iast (D := Γ.1) (tys := (tysC Γ)) (X := XM Γ) (σ' := (upm τ (10) (y1).toNatClampNeg (τ.1 (32) (y1).toNatClampNeg))) hx hb hK hP (halM Γ) hG hS (5) 0 (gM_M_rows Γ τ) rfl g3 dX9_laysBack_19 (sM_M_rows Γ τ (y1).toNatClampNeg (τ.1 (32) (y1).toNatClampNeg)) (fun H locs hP hS => ?_)
        refine lv_iinc (v := (y1 + (1 : Int32))) (lv' := [(1, .int (y1 + (1 : Int32))), (0, .ref (Γ.2.2.1 (0)))]) hx hb dX9_laysBack_20 hl (k := 1) rfl rfl (by decide) rfl (fun ls hl => ?_)
        refine lv_goto (tgt := 2) hx hb dX9_laysBack_23 (by decide) ?_
        exact ih2 ((y1 + (1 : Int32))) (upm τ (10) (y1).toNatClampNeg (τ.1 (32) (y1).toNatClampNeg)) H locs ls hf hP hS (lv_sub hl [1, 0] rfl)
  suffices hw : ∀ (H : Heap) (locs : List Loc), va_P Γ.1 vwCl (XM Γ σ) H → va_S (wA (alM Γ) s.heap.size) s.heap H locs → W p l e { frames := 0, cells := 0, slots := 0, locals := 0 } s m av.toArray below meth c H locs 0 0 (MQ below (wQv Γ.1 vwCl (tysC Γ) (XM Γ) (alM Γ) σ' s.heap.size) av.toArray s 0 0 (wA (alM Γ) s.heap.size)) (F0 m 0 ls []) from hw _ [] hP va_S.rf
  clear hP
  intro H locs hP hS
  unfold f_X9_laysBack at hf
  refine lv_iconst (v := (0 : Int32)) hx hb dX9_laysBack_0 (by decide) ?_
  refine lv_istore_n (lv' := [(1, .int (0 : Int32)), (0, .ref (Γ.2.2.1 (0)))]) hx hb dX9_laysBack_1 rfl hl (by decide) rfl (fun ls hl => ?_)
  exact j2 5000 ((0 : Int32)) σ H locs ls hf hP hS (lv_sub hl [1, 0] rfl)
def f_X9_run_53 (x1 : Int32) (x2 : Int32) (x3 : Int32) (x4 : Int32) : Nat → Int32 → Int32 → Sm → Option (Int32 × Sm)
  | 0, _, _, _ => none
  | n + 1, y5, y6, τ => if x3 ≤ y6 then if x4 = 0 then if okI (((3 : Int32) * x1) + (1 : Int32)) 15 then (f_X9_laysBack τ).bind fun (q24 : Sm) => some ((τ.1 (10) ((((3 : Int32) * x1) + (1 : Int32))).toNatClampNeg), q24) else none else if x4 = (1 : Int32) then (f_X9_laysBack τ).bind fun (q21 : Sm) => some (y5, q21) else if okI (((3 : Int32) * x2) + (2 : Int32)) 18 then (f_X9_laysBack τ).bind fun (q19 : Sm) => some ((τ.1 (11) ((((3 : Int32) * x2) + (2 : Int32))).toNatClampNeg), q19) else none else (f_X9_passes τ).bind fun (q26 : Int32 × Sm) => (f_X9_run_53 x1 x2 x3 x4 n) ((y5 + q26.1)) ((y6 + (1 : Int32))) q26.2
def f_X9_run (x1 : Int32) (x2 : Int32) (x3 : Int32) (x4 : Int32) (σ : Sm) : Option (Int32 × Sm) := (f_X9_isOne x1 σ).bind fun (q1 : Int32 × Sm) => if q1.1 = 0 then some ((-2 : Int32), q1.2) else (f_X9_isCup x2 q1.2).bind fun (q4 : Int32 × Sm) => if q4.1 = 0 then some ((-2 : Int32), q4.2) else (f_X9_in ((x3).toInt64) (0 : Int64) (40 : Int64) q4.2).bind fun (q7 : Int32 × Sm) => if q7.1 = 0 then some ((-2 : Int32), q7.2) else (f_X9_in ((x4).toInt64) (0 : Int64) (2 : Int64) q7.2).bind fun (q10 : Int32 × Sm) => if q10.1 = 0 then some ((-2 : Int32), q10.2) else (f_X9_laysAside q10.2).bind fun (q13 : Sm) => f_X9_run_53 x1 x2 x3 x4 5000 ((0 : Int32)) ((0 : Int32)) q13
set_option maxHeartbeats 40000000 in
set_option maxRecDepth 100000 in
theorem c_X9_run (l : Launch) (Γ : Geo) (hG : okM Γ) (x1 : Int32) (x2 : Int32) (x3 : Int32) (x4 : Int32) (σ : Sm) (r : Int32) (σ' : Sm) (hf : f_X9_run x1 x2 x3 x4 σ = some (r, σ')) (sz : Nat) : Met l yX9_run (wz yX9_run cX9_run 7 (some .int)) { frames := 76, cells := 0, slots := 0, locals := 2888 } (va_Pc [.ref (Γ.2.2.1 (0)), .int x1, .int x2, .int x3, .int x4] (wPre Γ.1 vwCl (tysC Γ) (XM Γ) (alM Γ) Γ.2.2.2 σ sz)) (wQi Γ.1 vwCl (tysC Γ) (XM Γ) (alM Γ) r σ' sz) 0 0 (wA (alM Γ) sz) := by
  refine w_enter (cc := cX9_run) (maxL := 7) (ret := (some .int)) (by decide) rfl (Nat.le_of_ble_eq_true rfl) ?_
  intro p e s m below meth c ls hx hb hr hlocks hml hown hts hsz hP hK hkc hN hl
  subst hsz
  generalize hav : ([.ref (Γ.2.2.1 (0)), .int x1, .int x2, .int x3, .int x4] : List Value) = av at hl hts ⊢
  have hl : lv_has ls 7 [(0, .ref (Γ.2.2.1 (0))), (1, .int x1), (2, .int x2), (3, .int x3), (4, .int x4)] := by rw [← hav] at hl; exact hl
  have j53 : ∀ (n53 : Nat), ∀ (y5 : Int32) (y6 : Int32) (τ : Sm) (H : Heap) (locs : List Loc) (ls : Array Slot) (hf : f_X9_run_53 x1 x2 x3 x4 n53 y5 y6 τ = some (r, σ')) (hP : va_P Γ.1 vwCl (XM Γ τ) H) (hS : va_S (wA (alM Γ) s.heap.size) s.heap H locs) (hl : lv_has ls 7 [(0, .ref (Γ.2.2.1 (0))), (1, .int x1), (2, .int x2), (3, .int x3), (4, .int x4), (5, .int y5), (6, .int y6)]), W p l e { frames := 76, cells := 0, slots := 0, locals := 2888 } s m av.toArray below meth c H locs 0 0 (MQ below (wQi Γ.1 vwCl (tysC Γ) (XM Γ) (alM Γ) r σ' s.heap.size) av.toArray s 0 0 (wA (alM Γ) s.heap.size)) (F0 m 53 ls []) := by
    intro n53
    induction n53 with
    | zero =>
      intro y5 y6 τ H locs ls hf
      exact absurd hf (by intro h; cases h)
    | succ n53 ih53 =>
      intro y5 y6 τ H locs ls hf hP hS hl
      unfold f_X9_run_53 at hf
      refine lv_iload hx hb dX9_run_53 (lv_at hl 6 rfl) ?_
      refine lv_iload_n hx hb dX9_run_55 rfl (lv_at hl 3 rfl) ?_
      refine lv_icmp_ge (tgt := 74) hx hb dX9_run_56 (by decide) (fun c15 => ?_) (fun c15 => ?_)
      · replace hf := (if_pos c15).symm.trans hf
        refine lv_iload hx hb dX9_run_74 (lv_at hl 4 rfl) ?_
        refine lv_if_ne (tgt := 92) hx hb dX9_run_76 (by decide) (fun c16 => ?_) (fun c16 => ?_)
        · replace hf := (if_neg c16).symm.trans hf
          refine lv_iload hx hb dX9_run_92 (lv_at hl 4 rfl) ?_
          refine lv_iconst (v := (1 : Int32)) hx hb dX9_run_94 (by decide) ?_
          refine lv_icmp_ne (tgt := 103) hx hb dX9_run_95 (by decide) (fun c17 => ?_) (fun c17 => ?_)
          · replace hf := (if_neg c17).symm.trans hf
            refine lv_aload_n hx hb dX9_run_103 rfl (lv_at hl 0 rfl) ?_
            refine va_get (D := Γ.1) (ci := 8) (v := .ref (Γ.2.2.1 (6))) (C := RX9) (T := TX9) (N := 44) hx hb hts iX9 hown hK hP (0) (gM_Model Γ τ) rfl 11 (by decide) (hts (.fieldLink RX9 29 "OtherHalfOfNightModel" "cups" "[I") (wzm K113)) (fun _ h9 => h9) rfl dX9_run_104 ?_
            refine lv_iconst (v := (3 : Int32)) hx hb dX9_run_107 (by decide) ?_
            refine lv_iload_n hx hb dX9_run_108 rfl (lv_at hl 2 rfl) ?_
            refine lv_imul hx hb dX9_run_109 ?_
            refine lv_iconst (v := (2 : Int32)) hx hb dX9_run_110 (by decide) ?_
            refine lv_iadd hx hb dX9_run_111 ?_
            obtain ⟨g18, hf⟩ := w_oi hf
            refine va_iald (D := Γ.1) (tys := (tysC Γ)) hx hb hK hP (6) 0 (gM_M_cups Γ τ) rfl g18 dX9_run_112 ?_
            refine lv_istore (lv' := [(6, .int (τ.1 (11) ((((3 : Int32) * x2) + (2 : Int32))).toNatClampNeg)), (0, .ref (Γ.2.2.1 (0))), (1, .int x1), (2, .int x2), (3, .int x3), (4, .int x4), (5, .int y5)]) hx hb dX9_run_113 hl (by decide) rfl (fun ls hl => ?_)
            refine lv_aload_n hx hb dX9_run_115 rfl (lv_at hl 1 rfl) ?_
            obtain ⟨q19, h20, hf⟩ := w_ob hf
            refine w_cv (va_runV (As := []) (rest := []) ⟨hx, hb, hml, hown, hts⟩ (c_X9_laysBack l Γ hG τ q19 h20 H.size) (cwV 0 hts (wzV K721 K718 K719 K720 K5) rfl rfl rfl (by decide +kernel) ⟨(Nat.le_of_ble_eq_true rfl), (Nat.le_of_ble_eq_true rfl)⟩) (w_preV hK hP hkc hN hS (gM_Model Γ τ) rfl) rfl rfl hl.1 rfl (lv_room (Nat.le_of_ble_eq_true rfl)) dX9_run_116 ⟨Nat.le_refl _, Nat.le_refl _⟩) hS (fun H locs hP hS => ?_)
            refine lv_iload hx hb dX9_run_119 (lv_at hl 0 rfl) ?_
            exact w_iret (X := XM Γ) hx hb hr hlocks hK hP hS rfl hf dX9_run_121
          · replace hf := (if_pos c17).symm.trans hf
            refine lv_iload hx hb dX9_run_98 (lv_at hl 5 rfl) ?_
            refine lv_goto (tgt := 113) hx hb dX9_run_100 (by decide) ?_
            refine lv_istore (lv' := [(6, .int y5), (0, .ref (Γ.2.2.1 (0))), (1, .int x1), (2, .int x2), (3, .int x3), (4, .int x4), (5, .int y5)]) hx hb dX9_run_113 hl (by decide) rfl (fun ls hl => ?_)
            refine lv_aload_n hx hb dX9_run_115 rfl (lv_at hl 1 rfl) ?_
            obtain ⟨q21, h22, hf⟩ := w_ob hf
            refine w_cv (va_runV (As := []) (rest := []) ⟨hx, hb, hml, hown, hts⟩ (c_X9_laysBack l Γ hG τ q21 h22 H.size) (cwV 0 hts (wzV K721 K718 K719 K720 K5) rfl rfl rfl (by decide +kernel) ⟨(Nat.le_of_ble_eq_true rfl), (Nat.le_of_ble_eq_true rfl)⟩) (w_preV hK hP hkc hN hS (gM_Model Γ τ) rfl) rfl rfl hl.1 rfl (lv_room (Nat.le_of_ble_eq_true rfl)) dX9_run_116 ⟨Nat.le_refl _, Nat.le_refl _⟩) hS (fun H locs hP hS => ?_)
            refine lv_iload hx hb dX9_run_119 (lv_at hl 0 rfl) ?_
            exact w_iret (X := XM Γ) hx hb hr hlocks hK hP hS rfl hf dX9_run_121
        · replace hf := (if_pos c16).symm.trans hf
          refine lv_aload_n hx hb dX9_run_79 rfl (lv_at hl 0 rfl) ?_
          refine va_get (D := Γ.1) (ci := 8) (v := .ref (Γ.2.2.1 (5))) (C := RX9) (T := TX9) (N := 44) hx hb hts iX9 hown hK hP (0) (gM_Model Γ τ) rfl 10 (by decide) (hts (.fieldLink RX9 26 "OtherHalfOfNightModel" "rows" "[I") (wzm K112)) (fun _ h9 => h9) rfl dX9_run_80 ?_
          refine lv_iconst (v := (3 : Int32)) hx hb dX9_run_83 (by decide) ?_
          refine lv_iload_n hx hb dX9_run_84 rfl (lv_at hl 1 rfl) ?_
          refine lv_imul hx hb dX9_run_85 ?_
          refine lv_iconst (v := (1 : Int32)) hx hb dX9_run_86 (by decide) ?_
          refine lv_iadd hx hb dX9_run_87 ?_
          obtain ⟨g23, hf⟩ := w_oi hf
          refine va_iald (D := Γ.1) (tys := (tysC Γ)) hx hb hK hP (5) 0 (gM_M_rows Γ τ) rfl g23 dX9_run_88 ?_
          refine lv_goto (tgt := 113) hx hb dX9_run_89 (by decide) ?_
          refine lv_istore (lv' := [(6, .int (τ.1 (10) ((((3 : Int32) * x1) + (1 : Int32))).toNatClampNeg)), (0, .ref (Γ.2.2.1 (0))), (1, .int x1), (2, .int x2), (3, .int x3), (4, .int x4), (5, .int y5)]) hx hb dX9_run_113 hl (by decide) rfl (fun ls hl => ?_)
          refine lv_aload_n hx hb dX9_run_115 rfl (lv_at hl 1 rfl) ?_
          obtain ⟨q24, h25, hf⟩ := w_ob hf
          refine w_cv (va_runV (As := []) (rest := []) ⟨hx, hb, hml, hown, hts⟩ (c_X9_laysBack l Γ hG τ q24 h25 H.size) (cwV 0 hts (wzV K721 K718 K719 K720 K5) rfl rfl rfl (by decide +kernel) ⟨(Nat.le_of_ble_eq_true rfl), (Nat.le_of_ble_eq_true rfl)⟩) (w_preV hK hP hkc hN hS (gM_Model Γ τ) rfl) rfl rfl hl.1 rfl (lv_room (Nat.le_of_ble_eq_true rfl)) dX9_run_116 ⟨Nat.le_refl _, Nat.le_refl _⟩) hS (fun H locs hP hS => ?_)
          refine lv_iload hx hb dX9_run_119 (lv_at hl 0 rfl) ?_
          exact w_iret (X := XM Γ) hx hb hr hlocks hK hP hS rfl hf dX9_run_121
      · replace hf := (if_neg c15).symm.trans hf
        refine lv_iload hx hb dX9_run_59 (lv_at hl 5 rfl) ?_
        refine lv_aload_n hx hb dX9_run_61 rfl (lv_at hl 0 rfl) ?_
        obtain ⟨q26, h27, hf⟩ := w_ob hf
        refine w_ci (va_runV (As := []) (rest := [.int y5]) ⟨hx, hb, hml, hown, hts⟩ (c_X9_passes l Γ hG τ q26.1 q26.2 h27 H.size) (cwV 0 hts (wzV K676 K673 K674 K675 K5) rfl rfl rfl (by decide +kernel) ⟨(Nat.le_of_ble_eq_true rfl), (Nat.le_of_ble_eq_true rfl)⟩) (w_preV hK hP hkc hN hS (gM_Model Γ τ) rfl) rfl rfl hl.1 rfl (lv_room (Nat.le_of_ble_eq_true rfl)) dX9_run_62 ⟨Nat.le_refl _, Nat.le_refl _⟩) hS (fun H locs hP hS => ?_)
        refine lv_iadd hx hb dX9_run_65 ?_
        refine lv_istore (lv' := [(5, .int (y5 + q26.1)), (0, .ref (Γ.2.2.1 (0))), (1, .int x1), (2, .int x2), (3, .int x3), (4, .int x4), (6, .int y6)]) hx hb dX9_run_66 hl (by decide) rfl (fun ls hl => ?_)
        refine lv_iinc (v := (y6 + (1 : Int32))) (lv' := [(6, .int (y6 + (1 : Int32))), (5, .int (y5 + q26.1)), (0, .ref (Γ.2.2.1 (0))), (1, .int x1), (2, .int x2), (3, .int x3), (4, .int x4)]) hx hb dX9_run_68 hl (k := 6) rfl rfl (by decide) rfl (fun ls hl => ?_)
        refine lv_goto (tgt := 53) hx hb dX9_run_71 (by decide) ?_
        exact ih53 ((y5 + q26.1)) ((y6 + (1 : Int32))) q26.2 H locs ls hf hP hS (lv_sub hl [2, 3, 4, 5, 6, 1, 0] rfl)
  suffices hw : ∀ (H : Heap) (locs : List Loc), va_P Γ.1 vwCl (XM Γ σ) H → va_S (wA (alM Γ) s.heap.size) s.heap H locs → W p l e { frames := 76, cells := 0, slots := 0, locals := 2888 } s m av.toArray below meth c H locs 0 0 (MQ below (wQi Γ.1 vwCl (tysC Γ) (XM Γ) (alM Γ) r σ' s.heap.size) av.toArray s 0 0 (wA (alM Γ) s.heap.size)) (F0 m 0 ls []) from hw _ [] hP va_S.rf
  clear hP
  intro H locs hP hS
  unfold f_X9_run at hf
  refine lv_aload_n hx hb dX9_run_0 rfl (lv_at hl 0 rfl) ?_
  refine lv_iload_n hx hb dX9_run_1 rfl (lv_at hl 1 rfl) ?_
  obtain ⟨q1, h2, hf⟩ := w_ob hf
  refine w_ci (va_runV (As := [.int x1]) (rest := []) ⟨hx, hb, hml, hown, hts⟩ (c_X9_isOne l Γ hG x1 σ q1.1 q1.2 h2 H.size) (cwV 1 hts (wzV K182 K179 K180 K181 K5) rfl rfl rfl (by decide +kernel) ⟨(Nat.le_of_ble_eq_true rfl), (Nat.le_of_ble_eq_true rfl)⟩) (w_preV hK hP hkc hN hS (gM_Model Γ σ) rfl) rfl rfl hl.1 rfl (lv_room (Nat.le_of_ble_eq_true rfl)) dX9_run_2 ⟨Nat.le_refl _, Nat.le_refl _⟩) hS (fun H locs hP hS => ?_)
  refine lv_if_eq (tgt := 40) hx hb dX9_run_5 (by decide) (fun c3 => ?_) (fun c3 => ?_)
  · replace hf := (if_pos c3).symm.trans hf
    refine lv_bipush (v := (-2 : Int32)) hx hb dX9_run_40 (by decide) ?_
    exact w_iret (X := XM Γ) hx hb hr hlocks hK hP hS rfl hf dX9_run_42
  · replace hf := (if_neg c3).symm.trans hf
    refine lv_iload_n hx hb dX9_run_8 rfl (lv_at hl 2 rfl) ?_
    obtain ⟨q4, h5, hf⟩ := w_ob hf
    refine w_ci (va_runS (As := [.int x2]) (rest := []) ⟨hx, hb, hml, hown, hts⟩ (c_X9_isCup l Γ hG x2 q1.2 q4.1 q4.2 h5 H.size) (cwS 1 hts (wzS K177 K175 K176 K5) rfl rfl rfl (by decide +kernel) ⟨(Nat.le_of_ble_eq_true rfl), (Nat.le_of_ble_eq_true rfl)⟩) (w_pre hK hP hkc hN hS) rfl rfl hl.1 rfl (lv_room (Nat.le_of_ble_eq_true rfl)) dX9_run_9 ⟨Nat.le_refl _, Nat.le_refl _⟩) hS (fun H locs hP hS => ?_)
    refine lv_if_eq (tgt := 40) hx hb dX9_run_12 (by decide) (fun c6 => ?_) (fun c6 => ?_)
    · replace hf := (if_pos c6).symm.trans hf
      refine lv_bipush (v := (-2 : Int32)) hx hb dX9_run_40 (by decide) ?_
      exact w_iret (X := XM Γ) hx hb hr hlocks hK hP hS rfl hf dX9_run_42
    · replace hf := (if_neg c6).symm.trans hf
      refine lv_iload_n hx hb dX9_run_15 rfl (lv_at hl 3 rfl) ?_
      refine lv_i2l (v := ((x3).toInt64)) hx hb dX9_run_16 rfl ?_
      refine lv_lconst (v := (0 : Int64)) hx hb dX9_run_17 (by decide) ?_
      refine lv_ldc2 (v := (40 : Int64)) hx hb hown (hts (.constantLong RX9 284 (40)) (wzm K712)) dX9_run_18 ?_
      obtain ⟨q7, h8, hf⟩ := w_ob hf
      refine w_ci (va_runS (As := [.long ((x3).toInt64), .long (0 : Int64), .long (40 : Int64)]) (rest := []) ⟨hx, hb, hml, hown, hts⟩ (c_X9_in l Γ hG ((x3).toInt64) (0 : Int64) (40 : Int64) q4.2 q7.1 q7.2 h8 H.size) (cwS 3 hts (wzS K170 K168 K169 K5) rfl rfl rfl (by decide +kernel) ⟨(Nat.le_of_ble_eq_true rfl), (Nat.le_of_ble_eq_true rfl)⟩) (w_pre hK hP hkc hN hS) rfl rfl hl.1 rfl (lv_room (Nat.le_of_ble_eq_true rfl)) dX9_run_21 ⟨Nat.le_refl _, Nat.le_refl _⟩) hS (fun H locs hP hS => ?_)
      refine lv_if_eq (tgt := 40) hx hb dX9_run_24 (by decide) (fun c9 => ?_) (fun c9 => ?_)
      · replace hf := (if_pos c9).symm.trans hf
        refine lv_bipush (v := (-2 : Int32)) hx hb dX9_run_40 (by decide) ?_
        exact w_iret (X := XM Γ) hx hb hr hlocks hK hP hS rfl hf dX9_run_42
      · replace hf := (if_neg c9).symm.trans hf
        refine lv_iload hx hb dX9_run_27 (lv_at hl 4 rfl) ?_
        refine lv_i2l (v := ((x4).toInt64)) hx hb dX9_run_29 rfl ?_
        refine lv_lconst (v := (0 : Int64)) hx hb dX9_run_30 (by decide) ?_
        refine lv_ldc2 (v := (2 : Int64)) hx hb hown (hts (.constantLong RX9 286 (2)) (wzm K713)) dX9_run_31 ?_
        obtain ⟨q10, h11, hf⟩ := w_ob hf
        refine w_ci (va_runS (As := [.long ((x4).toInt64), .long (0 : Int64), .long (2 : Int64)]) (rest := []) ⟨hx, hb, hml, hown, hts⟩ (c_X9_in l Γ hG ((x4).toInt64) (0 : Int64) (2 : Int64) q7.2 q10.1 q10.2 h11 H.size) (cwS 3 hts (wzS K170 K168 K169 K5) rfl rfl rfl (by decide +kernel) ⟨(Nat.le_of_ble_eq_true rfl), (Nat.le_of_ble_eq_true rfl)⟩) (w_pre hK hP hkc hN hS) rfl rfl hl.1 rfl (lv_room (Nat.le_of_ble_eq_true rfl)) dX9_run_34 ⟨Nat.le_refl _, Nat.le_refl _⟩) hS (fun H locs hP hS => ?_)
        refine lv_if_ne (tgt := 43) hx hb dX9_run_37 (by decide) (fun c12 => ?_) (fun c12 => ?_)
        · replace hf := (if_neg c12).symm.trans hf
          refine lv_aload_n hx hb dX9_run_43 rfl (lv_at hl 0 rfl) ?_
          obtain ⟨q13, h14, hf⟩ := w_ob hf
          refine w_cv (va_runV (As := []) (rest := []) ⟨hx, hb, hml, hown, hts⟩ (c_X9_laysAside l Γ hG q10.2 q13 h14 H.size) (cwV 0 hts (wzV K717 K714 K715 K716 K5) rfl rfl rfl (by decide +kernel) ⟨(Nat.le_of_ble_eq_true rfl), (Nat.le_of_ble_eq_true rfl)⟩) (w_preV hK hP hkc hN hS (gM_Model Γ q10.2) rfl) rfl rfl hl.1 rfl (lv_room (Nat.le_of_ble_eq_true rfl)) dX9_run_44 ⟨Nat.le_refl _, Nat.le_refl _⟩) hS (fun H locs hP hS => ?_)
          refine lv_iconst (v := (0 : Int32)) hx hb dX9_run_47 (by decide) ?_
          refine lv_istore (lv' := [(5, .int (0 : Int32)), (0, .ref (Γ.2.2.1 (0))), (1, .int x1), (2, .int x2), (3, .int x3), (4, .int x4)]) hx hb dX9_run_48 hl (by decide) rfl (fun ls hl => ?_)
          refine lv_iconst (v := (0 : Int32)) hx hb dX9_run_50 (by decide) ?_
          refine lv_istore (lv' := [(6, .int (0 : Int32)), (5, .int (0 : Int32)), (0, .ref (Γ.2.2.1 (0))), (1, .int x1), (2, .int x2), (3, .int x3), (4, .int x4)]) hx hb dX9_run_51 hl (by decide) rfl (fun ls hl => ?_)
          exact j53 5000 ((0 : Int32)) ((0 : Int32)) q13 H locs ls hf hP hS (lv_sub hl [2, 3, 4, 5, 6, 1, 0] rfl)
        · replace hf := (if_pos c12).symm.trans hf
          refine lv_bipush (v := (-2 : Int32)) hx hb dX9_run_40 (by decide) ?_
          exact w_iret (X := XM Γ) hx hb hr hlocks hK hP hS rfl hf dX9_run_42
def f_X9_sleeps_47 (x1 : Int32) (y2 : Int32) (τ : Sm) : Option (Int32 × Sm) := (f_X9_laysBack τ).bind fun (q11 : Sm) => if y2 ≤ (60 : Int32) then some (y2, q11) else some ((-1 : Int32), q11)
def f_X9_sleeps_17 (x1 : Int32) : Nat → Int32 → Sm → Option (Int32 × Sm)
  | 0, _, _ => none
  | n + 1, y2, τ => if (60 : Int32) < y2 then f_X9_sleeps_47 x1 (y2) τ else if okI (((3 : Int32) * x1) + (1 : Int32)) 15 then if (τ.1 (10) ((((3 : Int32) * x1) + (1 : Int32))).toNatClampNeg) = 0 then f_X9_sleeps_47 x1 (y2) τ else (f_X9_passes τ).bind fun (q9 : Int32 × Sm) => (f_X9_sleeps_17 x1 n) ((y2 + (1 : Int32))) q9.2 else none
def f_X9_sleeps (x1 : Int32) (σ : Sm) : Option (Int32 × Sm) := (f_X9_isOne x1 σ).bind fun (q1 : Int32 × Sm) => if q1.1 = 0 then some ((-2 : Int32), q1.2) else (f_X9_laysAside q1.2).bind fun (q4 : Sm) => f_X9_sleeps_17 x1 5000 ((0 : Int32)) q4
set_option maxHeartbeats 40000000 in
set_option maxRecDepth 100000 in
theorem c_X9_sleeps (l : Launch) (Γ : Geo) (hG : okM Γ) (x1 : Int32) (σ : Sm) (r : Int32) (σ' : Sm) (hf : f_X9_sleeps x1 σ = some (r, σ')) (sz : Nat) : Met l yX9_sleeps (wz yX9_sleeps cX9_sleeps 3 (some .int)) { frames := 76, cells := 0, slots := 0, locals := 2888 } (va_Pc [.ref (Γ.2.2.1 (0)), .int x1] (wPre Γ.1 vwCl (tysC Γ) (XM Γ) (alM Γ) Γ.2.2.2 σ sz)) (wQi Γ.1 vwCl (tysC Γ) (XM Γ) (alM Γ) r σ' sz) 0 0 (wA (alM Γ) sz) := by
  refine w_enter (cc := cX9_sleeps) (maxL := 3) (ret := (some .int)) (by decide) rfl (Nat.le_of_ble_eq_true rfl) ?_
  intro p e s m below meth c ls hx hb hr hlocks hml hown hts hsz hP hK hkc hN hl
  subst hsz
  generalize hav : ([.ref (Γ.2.2.1 (0)), .int x1] : List Value) = av at hl hts ⊢
  have hl : lv_has ls 3 [(0, .ref (Γ.2.2.1 (0))), (1, .int x1)] := by rw [← hav] at hl; exact hl
  have j47 : ∀ (y2 : Int32) (τ : Sm) (H : Heap) (locs : List Loc) (ls : Array Slot) (hf : f_X9_sleeps_47 x1 y2 τ = some (r, σ')) (hP : va_P Γ.1 vwCl (XM Γ τ) H) (hS : va_S (wA (alM Γ) s.heap.size) s.heap H locs) (hl : lv_has ls 3 [(0, .ref (Γ.2.2.1 (0))), (2, .int y2)]), W p l e { frames := 76, cells := 0, slots := 0, locals := 2888 } s m av.toArray below meth c H locs 0 0 (MQ below (wQi Γ.1 vwCl (tysC Γ) (XM Γ) (alM Γ) r σ' s.heap.size) av.toArray s 0 0 (wA (alM Γ) s.heap.size)) (F0 m 47 ls []) := by
    intro y2 τ H locs ls hf hP hS hl
    unfold f_X9_sleeps_47 at hf
    refine lv_aload_n hx hb dX9_sleeps_47 rfl (lv_at hl 0 rfl) ?_
    obtain ⟨q11, h12, hf⟩ := w_ob hf
    refine w_cv (va_runV (As := []) (rest := []) ⟨hx, hb, hml, hown, hts⟩ (c_X9_laysBack l Γ hG τ q11 h12 H.size) (cwV 0 hts (wzV K721 K718 K719 K720 K5) rfl rfl rfl (by decide +kernel) ⟨(Nat.le_of_ble_eq_true rfl), (Nat.le_of_ble_eq_true rfl)⟩) (w_preV hK hP hkc hN hS (gM_Model Γ τ) rfl) rfl rfl hl.1 rfl (lv_room (Nat.le_of_ble_eq_true rfl)) dX9_sleeps_48 ⟨Nat.le_refl _, Nat.le_refl _⟩) hS (fun H locs hP hS => ?_)
    refine lv_iload_n hx hb dX9_sleeps_51 rfl (lv_at hl 1 rfl) ?_
    refine lv_bipush (v := (60 : Int32)) hx hb dX9_sleeps_52 (by decide) ?_
    refine lv_icmp_le (tgt := 61) hx hb dX9_sleeps_54 (by decide) (fun c13 => ?_) (fun c13 => ?_)
    · replace hf := (if_pos c13).symm.trans hf
      refine lv_iload_n hx hb dX9_sleeps_61 rfl (lv_at hl 1 rfl) ?_
      exact w_iret (X := XM Γ) hx hb hr hlocks hK hP hS rfl hf dX9_sleeps_62
    · replace hf := (if_neg c13).symm.trans hf
      refine lv_iconst (v := (-1 : Int32)) hx hb dX9_sleeps_57 (by decide) ?_
      refine lv_goto (tgt := 62) hx hb dX9_sleeps_58 (by decide) ?_
      exact w_iret (X := XM Γ) hx hb hr hlocks hK hP hS rfl hf dX9_sleeps_62
  have j17 : ∀ (n17 : Nat), ∀ (y2 : Int32) (τ : Sm) (H : Heap) (locs : List Loc) (ls : Array Slot) (hf : f_X9_sleeps_17 x1 n17 y2 τ = some (r, σ')) (hP : va_P Γ.1 vwCl (XM Γ τ) H) (hS : va_S (wA (alM Γ) s.heap.size) s.heap H locs) (hl : lv_has ls 3 [(0, .ref (Γ.2.2.1 (0))), (1, .int x1), (2, .int y2)]), W p l e { frames := 76, cells := 0, slots := 0, locals := 2888 } s m av.toArray below meth c H locs 0 0 (MQ below (wQi Γ.1 vwCl (tysC Γ) (XM Γ) (alM Γ) r σ' s.heap.size) av.toArray s 0 0 (wA (alM Γ) s.heap.size)) (F0 m 17 ls []) := by
    intro n17
    induction n17 with
    | zero =>
      intro y2 τ H locs ls hf
      exact absurd hf (by intro h; cases h)
    | succ n17 ih17 =>
      intro y2 τ H locs ls hf hP hS hl
      unfold f_X9_sleeps_17 at hf
      refine lv_iload_n hx hb dX9_sleeps_17 rfl (lv_at hl 2 rfl) ?_
      refine lv_bipush (v := (60 : Int32)) hx hb dX9_sleeps_18 (by decide) ?_
      refine lv_icmp_gt (tgt := 47) hx hb dX9_sleeps_20 (by decide) (fun c6 => ?_) (fun c6 => ?_)
      · replace hf := (if_pos c6).symm.trans hf
        exact j47 (y2) τ H locs ls hf hP hS (lv_sub hl [0, 2] rfl)
      · replace hf := (if_neg c6).symm.trans hf
        refine lv_aload_n hx hb dX9_sleeps_23 rfl (lv_at hl 0 rfl) ?_
        refine va_get (D := Γ.1) (ci := 8) (v := .ref (Γ.2.2.1 (5))) (C := RX9) (T := TX9) (N := 44) hx hb hts iX9 hown hK hP (0) (gM_Model Γ τ) rfl 10 (by decide) (hts (.fieldLink RX9 26 "OtherHalfOfNightModel" "rows" "[I") (wzm K112)) (fun _ h9 => h9) rfl dX9_sleeps_24 ?_
        refine lv_iconst (v := (3 : Int32)) hx hb dX9_sleeps_27 (by decide) ?_
        refine lv_iload_n hx hb dX9_sleeps_28 rfl (lv_at hl 1 rfl) ?_
        refine lv_imul hx hb dX9_sleeps_29 ?_
        refine lv_iconst (v := (1 : Int32)) hx hb dX9_sleeps_30 (by decide) ?_
        refine lv_iadd hx hb dX9_sleeps_31 ?_
        obtain ⟨g7, hf⟩ := w_oi hf
        refine va_iald (D := Γ.1) (tys := (tysC Γ)) hx hb hK hP (5) 0 (gM_M_rows Γ τ) rfl g7 dX9_sleeps_32 ?_
        refine lv_if_eq (tgt := 47) hx hb dX9_sleeps_33 (by decide) (fun c8 => ?_) (fun c8 => ?_)
        · replace hf := (if_pos c8).symm.trans hf
          exact j47 (y2) τ H locs ls hf hP hS (lv_sub hl [0, 2] rfl)
        · replace hf := (if_neg c8).symm.trans hf
          refine lv_aload_n hx hb dX9_sleeps_36 rfl (lv_at hl 0 rfl) ?_
          obtain ⟨q9, h10, hf⟩ := w_ob hf
          refine w_ci (va_runV (As := []) (rest := []) ⟨hx, hb, hml, hown, hts⟩ (c_X9_passes l Γ hG τ q9.1 q9.2 h10 H.size) (cwV 0 hts (wzV K676 K673 K674 K675 K5) rfl rfl rfl (by decide +kernel) ⟨(Nat.le_of_ble_eq_true rfl), (Nat.le_of_ble_eq_true rfl)⟩) (w_preV hK hP hkc hN hS (gM_Model Γ τ) rfl) rfl rfl hl.1 rfl (lv_room (Nat.le_of_ble_eq_true rfl)) dX9_sleeps_37 ⟨Nat.le_refl _, Nat.le_refl _⟩) hS (fun H locs hP hS => ?_)
          refine lv_pop hx hb dX9_sleeps_40 rfl ?_
          refine lv_iinc (v := (y2 + (1 : Int32))) (lv' := [(2, .int (y2 + (1 : Int32))), (0, .ref (Γ.2.2.1 (0))), (1, .int x1)]) hx hb dX9_sleeps_41 hl (k := 2) rfl rfl (by decide) rfl (fun ls hl => ?_)
          refine lv_goto (tgt := 17) hx hb dX9_sleeps_44 (by decide) ?_
          exact ih17 ((y2 + (1 : Int32))) q9.2 H locs ls hf hP hS (lv_sub hl [1, 2, 0] rfl)
  suffices hw : ∀ (H : Heap) (locs : List Loc), va_P Γ.1 vwCl (XM Γ σ) H → va_S (wA (alM Γ) s.heap.size) s.heap H locs → W p l e { frames := 76, cells := 0, slots := 0, locals := 2888 } s m av.toArray below meth c H locs 0 0 (MQ below (wQi Γ.1 vwCl (tysC Γ) (XM Γ) (alM Γ) r σ' s.heap.size) av.toArray s 0 0 (wA (alM Γ) s.heap.size)) (F0 m 0 ls []) from hw _ [] hP va_S.rf
  clear hP
  intro H locs hP hS
  unfold f_X9_sleeps at hf
  refine lv_aload_n hx hb dX9_sleeps_0 rfl (lv_at hl 0 rfl) ?_
  refine lv_iload_n hx hb dX9_sleeps_1 rfl (lv_at hl 1 rfl) ?_
  obtain ⟨q1, h2, hf⟩ := w_ob hf
  refine w_ci (va_runV (As := [.int x1]) (rest := []) ⟨hx, hb, hml, hown, hts⟩ (c_X9_isOne l Γ hG x1 σ q1.1 q1.2 h2 H.size) (cwV 1 hts (wzV K182 K179 K180 K181 K5) rfl rfl rfl (by decide +kernel) ⟨(Nat.le_of_ble_eq_true rfl), (Nat.le_of_ble_eq_true rfl)⟩) (w_preV hK hP hkc hN hS (gM_Model Γ σ) rfl) rfl rfl hl.1 rfl (lv_room (Nat.le_of_ble_eq_true rfl)) dX9_sleeps_2 ⟨Nat.le_refl _, Nat.le_refl _⟩) hS (fun H locs hP hS => ?_)
  refine lv_if_ne (tgt := 11) hx hb dX9_sleeps_5 (by decide) (fun c3 => ?_) (fun c3 => ?_)
  · replace hf := (if_neg c3).symm.trans hf
    refine lv_aload_n hx hb dX9_sleeps_11 rfl (lv_at hl 0 rfl) ?_
    obtain ⟨q4, h5, hf⟩ := w_ob hf
    refine w_cv (va_runV (As := []) (rest := []) ⟨hx, hb, hml, hown, hts⟩ (c_X9_laysAside l Γ hG q1.2 q4 h5 H.size) (cwV 0 hts (wzV K717 K714 K715 K716 K5) rfl rfl rfl (by decide +kernel) ⟨(Nat.le_of_ble_eq_true rfl), (Nat.le_of_ble_eq_true rfl)⟩) (w_preV hK hP hkc hN hS (gM_Model Γ q1.2) rfl) rfl rfl hl.1 rfl (lv_room (Nat.le_of_ble_eq_true rfl)) dX9_sleeps_12 ⟨Nat.le_refl _, Nat.le_refl _⟩) hS (fun H locs hP hS => ?_)
    refine lv_iconst (v := (0 : Int32)) hx hb dX9_sleeps_15 (by decide) ?_
    refine lv_istore_n (lv' := [(2, .int (0 : Int32)), (0, .ref (Γ.2.2.1 (0))), (1, .int x1)]) hx hb dX9_sleeps_16 rfl hl (by decide) rfl (fun ls hl => ?_)
    exact j17 5000 ((0 : Int32)) q4 H locs ls hf hP hS (lv_sub hl [1, 2, 0] rfl)
  · replace hf := (if_pos c3).symm.trans hf
    refine lv_bipush (v := (-2 : Int32)) hx hb dX9_sleeps_8 (by decide) ?_
    exact w_iret (X := XM Γ) hx hb hr hlocks hK hP hS rfl hf dX9_sleeps_10
def f_X9_cutOf_125 (k72 : Int32 → Int32 → Int32 → Sm → Option (Int32 × Sm)) (x1 : Int32) (x2 : Int32) (x3 : Int32) (x4 : Int32) (y5 : Int32) (y6 : Int32) (y7 : Int32) (z0 : Int32) (τ : Sm) : Option (Int32 × Sm) := if ((y6 >>> (y7 &&& 31)) &&& (1 : Int32)) = (1 : Int32) then k72 ((y5 + z0)) (y6) ((y7 + (1 : Int32))) τ else k72 ((y5 + (0 : Int32))) (y6) ((y7 + (1 : Int32))) τ
def f_X9_cutOf_72 (x1 : Int32) (x2 : Int32) (x3 : Int32) (x4 : Int32) : Nat → Int32 → Int32 → Int32 → Sm → Option (Int32 × Sm)
  | 0, _, _, _, _ => none
  | n + 1, y5, y6, y7, τ => if (6 : Int32) ≤ y7 then some (y5, τ) else if y7 = x3 then f_X9_cutOf_125 (f_X9_cutOf_72 x1 x2 x3 x4 n) x1 x2 x3 x4 (y5) (y6) (y7) ((0 : Int32)) τ else if y7 = x4 then if okI ((3 : Int32) * y7) 18 then (f_X9_within ((τ.1 (11) (((3 : Int32) * y7)).toNatClampNeg) + (1 : Int32)) (0 : Int32) (99 : Int32) τ).bind fun (q13 : Int32 × Sm) => f_X9_cutOf_125 (f_X9_cutOf_72 x1 x2 x3 x4 n) x1 x2 x3 x4 (y5) (y6) (y7) (q13.1) q13.2 else none else if okI ((3 : Int32) * y7) 18 then f_X9_cutOf_125 (f_X9_cutOf_72 x1 x2 x3 x4 n) x1 x2 x3 x4 (y5) (y6) (y7) ((τ.1 (11) (((3 : Int32) * y7)).toNatClampNeg)) τ else none
def f_X9_cutOf_9 (x1 : Int32) (x2 : Int32) (x3 : Int32) (x4 : Int32) : Nat → Int32 → Int32 → Int32 → Sm → Option (Int32 × Sm)
  | 0, _, _, _, _ => none
  | n + 1, y5, y6, y7, τ => if (τ.1 (12) 0) ≤ y7 then f_X9_cutOf_72 x1 x2 x3 x4 5000 (y5) (y6) ((0 : Int32)) τ else if ((x1 >>> (y7 &&& 31)) &&& (1 : Int32)) = (1 : Int32) then (f_X9_suitSet y7 τ).bind fun (q6 : Int32 × Sm) => (f_X9_cutOf_9 x1 x2 x3 x4 n) (y5) ((y6 ||| q6.1)) ((y7 + (1 : Int32))) q6.2 else if y7 = x2 then (f_X9_cutOf_9 x1 x2 x3 x4 n) ((y5 + (0 : Int32))) (y6) ((y7 + (1 : Int32))) τ else (f_X9_yieldsOf y7 τ).bind fun (q4 : Int32 × Sm) => (f_X9_cutOf_9 x1 x2 x3 x4 n) ((y5 + q4.1)) (y6) ((y7 + (1 : Int32))) q4.2
def f_X9_cutOf (x1 : Int32) (x2 : Int32) (x3 : Int32) (x4 : Int32) (σ : Sm) : Option (Int32 × Sm) := f_X9_cutOf_9 x1 x2 x3 x4 5000 ((0 : Int32)) ((0 : Int32)) ((0 : Int32)) σ
set_option maxHeartbeats 40000000 in
set_option maxRecDepth 100000 in
theorem c_X9_cutOf (l : Launch) (Γ : Geo) (hG : okM Γ) (x1 : Int32) (x2 : Int32) (x3 : Int32) (x4 : Int32) (σ : Sm) (r : Int32) (σ' : Sm) (hf : f_X9_cutOf x1 x2 x3 x4 σ = some (r, σ')) (sz : Nat) : Met l yX9_cutOf (wz yX9_cutOf cX9_cutOf 9 (some .int)) { frames := 76, cells := 0, slots := 0, locals := 2886 } (va_Pc [.ref (Γ.2.2.1 (0)), .int x1, .int x2, .int x3, .int x4] (wPre Γ.1 vwCl (tysC Γ) (XM Γ) (alM Γ) Γ.2.2.2 σ sz)) (wQi Γ.1 vwCl (tysC Γ) (XM Γ) (alM Γ) r σ' sz) 0 0 (wA (alM Γ) sz) := by
  refine w_enter (cc := cX9_cutOf) (maxL := 9) (ret := (some .int)) (by decide) rfl (Nat.le_of_ble_eq_true rfl) ?_
  intro p e s m below meth c ls hx hb hr hlocks hml hown hts hsz hP hK hkc hN hl
  subst hsz
  generalize hav : ([.ref (Γ.2.2.1 (0)), .int x1, .int x2, .int x3, .int x4] : List Value) = av at hl hts ⊢
  have hl : lv_has ls 9 [(0, .ref (Γ.2.2.1 (0))), (1, .int x1), (2, .int x2), (3, .int x3), (4, .int x4)] := by rw [← hav] at hl; exact hl
  have j72 : ∀ (n72 : Nat), ∀ (y5 : Int32) (y6 : Int32) (y7 : Int32) (τ : Sm) (H : Heap) (locs : List Loc) (ls : Array Slot) (hf : f_X9_cutOf_72 x1 x2 x3 x4 n72 y5 y6 y7 τ = some (r, σ')) (hP : va_P Γ.1 vwCl (XM Γ τ) H) (hS : va_S (wA (alM Γ) s.heap.size) s.heap H locs) (hl : lv_has ls 9 [(0, .ref (Γ.2.2.1 (0))), (3, .int x3), (4, .int x4), (5, .int y5), (6, .int y6), (7, .int y7)]), W p l e { frames := 76, cells := 0, slots := 0, locals := 2886 } s m av.toArray below meth c H locs 0 0 (MQ below (wQi Γ.1 vwCl (tysC Γ) (XM Γ) (alM Γ) r σ' s.heap.size) av.toArray s 0 0 (wA (alM Γ) s.heap.size)) (F0 m 72 ls []) := by
    intro n72
    induction n72 with
    | zero =>
      intro y5 y6 y7 τ H locs ls hf
      exact absurd hf (by intro h; cases h)
    | succ n72 ih72 =>
      have j125 : ∀ (y5 : Int32) (y6 : Int32) (y7 : Int32) (z0 : Int32) (τ : Sm) (H : Heap) (locs : List Loc) (ls : Array Slot) (hf : f_X9_cutOf_125 (f_X9_cutOf_72 x1 x2 x3 x4 n72) x1 x2 x3 x4 y5 y6 y7 z0 τ = some (r, σ')) (hP : va_P Γ.1 vwCl (XM Γ τ) H) (hS : va_S (wA (alM Γ) s.heap.size) s.heap H locs) (hl : lv_has ls 9 [(0, .ref (Γ.2.2.1 (0))), (3, .int x3), (4, .int x4), (5, .int y5), (6, .int y6), (7, .int y7)]), W p l e { frames := 76, cells := 0, slots := 0, locals := 2886 } s m av.toArray below meth c H locs 0 0 (MQ below (wQi Γ.1 vwCl (tysC Γ) (XM Γ) (alM Γ) r σ' s.heap.size) av.toArray s 0 0 (wA (alM Γ) s.heap.size)) (F0 m 125 ls [.int z0]) := by
        intro y5 y6 y7 z0 τ H locs ls hf hP hS hl
        unfold f_X9_cutOf_125 at hf
        refine lv_istore (lv' := [(8, .int z0), (0, .ref (Γ.2.2.1 (0))), (3, .int x3), (4, .int x4), (5, .int y5), (6, .int y6), (7, .int y7)]) hx hb dX9_cutOf_125 hl (by decide) rfl (fun ls hl => ?_)
        refine lv_iload hx hb dX9_cutOf_127 (lv_at hl 4 rfl) ?_
        refine lv_iload hx hb dX9_cutOf_129 (lv_at hl 5 rfl) ?_
        refine lv_iload hx hb dX9_cutOf_131 (lv_at hl 6 rfl) ?_
        refine lv_ishr hx hb dX9_cutOf_133 ?_
        refine lv_iconst (v := (1 : Int32)) hx hb dX9_cutOf_134 (by decide) ?_
        refine lv_iand hx hb dX9_cutOf_135 ?_
        refine lv_iconst (v := (1 : Int32)) hx hb dX9_cutOf_136 (by decide) ?_
        refine lv_icmp_ne (tgt := 145) hx hb dX9_cutOf_137 (by decide) (fun c15 => ?_) (fun c15 => ?_)
        · replace hf := (if_neg c15).symm.trans hf
          refine lv_iconst (v := (0 : Int32)) hx hb dX9_cutOf_145 (by decide) ?_
          refine lv_iadd hx hb dX9_cutOf_146 ?_
          refine lv_istore (lv' := [(5, .int (y5 + (0 : Int32))), (8, .int z0), (0, .ref (Γ.2.2.1 (0))), (3, .int x3), (4, .int x4), (6, .int y6), (7, .int y7)]) hx hb dX9_cutOf_147 hl (by decide) rfl (fun ls hl => ?_)
          refine lv_iinc (v := (y7 + (1 : Int32))) (lv' := [(7, .int (y7 + (1 : Int32))), (5, .int (y5 + (0 : Int32))), (8, .int z0), (0, .ref (Γ.2.2.1 (0))), (3, .int x3), (4, .int x4), (6, .int y6)]) hx hb dX9_cutOf_149 hl (k := 6) rfl rfl (by decide) rfl (fun ls hl => ?_)
          refine lv_goto (tgt := 72) hx hb dX9_cutOf_152 (by decide) ?_
          exact ih72 ((y5 + (0 : Int32))) (y6) ((y7 + (1 : Int32))) τ H locs ls hf hP hS (lv_sub hl [3, 4, 5, 1, 6, 0] rfl)
        · replace hf := (if_pos c15).symm.trans hf
          refine lv_iload hx hb dX9_cutOf_140 (lv_at hl 0 rfl) ?_
          refine lv_goto (tgt := 146) hx hb dX9_cutOf_142 (by decide) ?_
          refine lv_iadd hx hb dX9_cutOf_146 ?_
          refine lv_istore (lv' := [(5, .int (y5 + z0)), (8, .int z0), (0, .ref (Γ.2.2.1 (0))), (3, .int x3), (4, .int x4), (6, .int y6), (7, .int y7)]) hx hb dX9_cutOf_147 hl (by decide) rfl (fun ls hl => ?_)
          refine lv_iinc (v := (y7 + (1 : Int32))) (lv' := [(7, .int (y7 + (1 : Int32))), (5, .int (y5 + z0)), (8, .int z0), (0, .ref (Γ.2.2.1 (0))), (3, .int x3), (4, .int x4), (6, .int y6)]) hx hb dX9_cutOf_149 hl (k := 6) rfl rfl (by decide) rfl (fun ls hl => ?_)
          refine lv_goto (tgt := 72) hx hb dX9_cutOf_152 (by decide) ?_
          exact ih72 ((y5 + z0)) (y6) ((y7 + (1 : Int32))) τ H locs ls hf hP hS (lv_sub hl [3, 4, 5, 1, 6, 0] rfl)
      intro y5 y6 y7 τ H locs ls hf hP hS hl
      unfold f_X9_cutOf_72 at hf
      refine lv_iload hx hb dX9_cutOf_72 (lv_at hl 5 rfl) ?_
      refine lv_bipush (v := (6 : Int32)) hx hb dX9_cutOf_74 (by decide) ?_
      refine lv_icmp_ge (tgt := 155) hx hb dX9_cutOf_76 (by decide) (fun c8 => ?_) (fun c8 => ?_)
      · replace hf := (if_pos c8).symm.trans hf
        refine lv_iload hx hb dX9_cutOf_155 (lv_at hl 3 rfl) ?_
        exact w_iret (X := XM Γ) hx hb hr hlocks hK hP hS rfl hf dX9_cutOf_157
      · replace hf := (if_neg c8).symm.trans hf
        refine lv_iload hx hb dX9_cutOf_79 (lv_at hl 5 rfl) ?_
        refine lv_iload_n hx hb dX9_cutOf_81 rfl (lv_at hl 1 rfl) ?_
        refine lv_icmp_ne (tgt := 89) hx hb dX9_cutOf_82 (by decide) (fun c9 => ?_) (fun c9 => ?_)
        · replace hf := (if_neg c9).symm.trans hf
          refine lv_iload hx hb dX9_cutOf_89 (lv_at hl 5 rfl) ?_
          refine lv_iload hx hb dX9_cutOf_91 (lv_at hl 2 rfl) ?_
          refine lv_icmp_ne (tgt := 116) hx hb dX9_cutOf_93 (by decide) (fun c10 => ?_) (fun c10 => ?_)
          · replace hf := (if_neg c10).symm.trans hf
            refine lv_aload_n hx hb dX9_cutOf_116 rfl (lv_at hl 0 rfl) ?_
            refine va_get (D := Γ.1) (ci := 8) (v := .ref (Γ.2.2.1 (6))) (C := RX9) (T := TX9) (N := 44) hx hb hts iX9 hown hK hP (0) (gM_Model Γ τ) rfl 11 (by decide) (hts (.fieldLink RX9 29 "OtherHalfOfNightModel" "cups" "[I") (wzm K113)) (fun _ h9 => h9) rfl dX9_cutOf_117 ?_
            refine lv_iconst (v := (3 : Int32)) hx hb dX9_cutOf_120 (by decide) ?_
            refine lv_iload hx hb dX9_cutOf_121 (lv_at hl 5 rfl) ?_
            refine lv_imul hx hb dX9_cutOf_123 ?_
            obtain ⟨g11, hf⟩ := w_oi hf
            refine va_iald (D := Γ.1) (tys := (tysC Γ)) hx hb hK hP (6) 0 (gM_M_cups Γ τ) rfl g11 dX9_cutOf_124 ?_
            exact j125 (y5) (y6) (y7) ((τ.1 (11) (((3 : Int32) * y7)).toNatClampNeg)) τ H locs ls hf hP hS (lv_sub hl [0, 1, 2, 3, 4, 5] rfl)
          · replace hf := (if_pos c10).symm.trans hf
            refine lv_aload_n hx hb dX9_cutOf_96 rfl (lv_at hl 0 rfl) ?_
            refine va_get (D := Γ.1) (ci := 8) (v := .ref (Γ.2.2.1 (6))) (C := RX9) (T := TX9) (N := 44) hx hb hts iX9 hown hK hP (0) (gM_Model Γ τ) rfl 11 (by decide) (hts (.fieldLink RX9 29 "OtherHalfOfNightModel" "cups" "[I") (wzm K113)) (fun _ h9 => h9) rfl dX9_cutOf_97 ?_
            refine lv_iconst (v := (3 : Int32)) hx hb dX9_cutOf_100 (by decide) ?_
            refine lv_iload hx hb dX9_cutOf_101 (lv_at hl 5 rfl) ?_
            refine lv_imul hx hb dX9_cutOf_103 ?_
            obtain ⟨g12, hf⟩ := w_oi hf
            refine va_iald (D := Γ.1) (tys := (tysC Γ)) hx hb hK hP (6) 0 (gM_M_cups Γ τ) rfl g12 dX9_cutOf_104 ?_
            refine lv_iconst (v := (1 : Int32)) hx hb dX9_cutOf_105 (by decide) ?_
            refine lv_iadd hx hb dX9_cutOf_106 ?_
            refine lv_iconst (v := (0 : Int32)) hx hb dX9_cutOf_107 (by decide) ?_
            refine lv_bipush (v := (99 : Int32)) hx hb dX9_cutOf_108 (by decide) ?_
            obtain ⟨q13, h14, hf⟩ := w_ob hf
            refine w_ci (va_runS (As := [.int ((τ.1 (11) (((3 : Int32) * y7)).toNatClampNeg) + (1 : Int32)), .int (0 : Int32), .int (99 : Int32)]) (rest := []) ⟨hx, hb, hml, hown, hts⟩ (c_X9_within l Γ hG ((τ.1 (11) (((3 : Int32) * y7)).toNatClampNeg) + (1 : Int32)) (0 : Int32) (99 : Int32) τ q13.1 q13.2 h14 H.size) (cwS 3 hts (wzS K301 K299 K300 K5) rfl rfl rfl (by decide +kernel) ⟨(Nat.le_of_ble_eq_true rfl), (Nat.le_of_ble_eq_true rfl)⟩) (w_pre hK hP hkc hN hS) rfl rfl hl.1 rfl (lv_room (Nat.le_of_ble_eq_true rfl)) dX9_cutOf_110 ⟨Nat.le_refl _, Nat.le_refl _⟩) hS (fun H locs hP hS => ?_)
            refine lv_goto (tgt := 125) hx hb dX9_cutOf_113 (by decide) ?_
            exact j125 (y5) (y6) (y7) (q13.1) q13.2 H locs ls hf hP hS (lv_sub hl [0, 1, 2, 3, 4, 5] rfl)
        · replace hf := (if_pos c9).symm.trans hf
          refine lv_iconst (v := (0 : Int32)) hx hb dX9_cutOf_85 (by decide) ?_
          refine lv_goto (tgt := 125) hx hb dX9_cutOf_86 (by decide) ?_
          exact j125 (y5) (y6) (y7) ((0 : Int32)) τ H locs ls hf hP hS (lv_sub hl [0, 1, 2, 3, 4, 5] rfl)
  have j9 : ∀ (n9 : Nat), ∀ (y5 : Int32) (y6 : Int32) (y7 : Int32) (τ : Sm) (H : Heap) (locs : List Loc) (ls : Array Slot) (hf : f_X9_cutOf_9 x1 x2 x3 x4 n9 y5 y6 y7 τ = some (r, σ')) (hP : va_P Γ.1 vwCl (XM Γ τ) H) (hS : va_S (wA (alM Γ) s.heap.size) s.heap H locs) (hl : lv_has ls 9 [(0, .ref (Γ.2.2.1 (0))), (1, .int x1), (2, .int x2), (3, .int x3), (4, .int x4), (5, .int y5), (6, .int y6), (7, .int y7)]), W p l e { frames := 76, cells := 0, slots := 0, locals := 2886 } s m av.toArray below meth c H locs 0 0 (MQ below (wQi Γ.1 vwCl (tysC Γ) (XM Γ) (alM Γ) r σ' s.heap.size) av.toArray s 0 0 (wA (alM Γ) s.heap.size)) (F0 m 9 ls []) := by
    intro n9
    induction n9 with
    | zero =>
      intro y5 y6 y7 τ H locs ls hf
      exact absurd hf (by intro h; cases h)
    | succ n9 ih9 =>
      intro y5 y6 y7 τ H locs ls hf hP hS hl
      unfold f_X9_cutOf_9 at hf
      refine lv_iload hx hb dX9_cutOf_9 (lv_at hl 7 rfl) ?_
      refine lv_aload_n hx hb dX9_cutOf_11 rfl (lv_at hl 0 rfl) ?_
      refine va_get (D := Γ.1) (ci := 8) (v := .int (τ.1 (12) 0)) (C := RX9) (T := TX9) (N := 44) hx hb hts iX9 hown hK hP (0) (gM_Model Γ τ) rfl 12 (by decide) (hts (.fieldLink RX9 77 "OtherHalfOfNightModel" "many" "I") (wzm K183)) (fun _ h9 => h9) rfl dX9_cutOf_12 ?_
      refine lv_icmp_ge (tgt := 69) hx hb dX9_cutOf_15 (by decide) (fun c1 => ?_) (fun c1 => ?_)
      · replace hf := (if_pos c1).symm.trans hf
        refine lv_iconst (v := (0 : Int32)) hx hb dX9_cutOf_69 (by decide) ?_
        refine lv_istore (lv' := [(7, .int (0 : Int32)), (0, .ref (Γ.2.2.1 (0))), (1, .int x1), (2, .int x2), (3, .int x3), (4, .int x4), (5, .int y5), (6, .int y6)]) hx hb dX9_cutOf_70 hl (by decide) rfl (fun ls hl => ?_)
        exact j72 5000 (y5) (y6) ((0 : Int32)) τ H locs ls hf hP hS (lv_sub hl [1, 4, 5, 6, 7, 0] rfl)
      · replace hf := (if_neg c1).symm.trans hf
        refine lv_iload_n hx hb dX9_cutOf_18 rfl (lv_at hl 1 rfl) ?_
        refine lv_iload hx hb dX9_cutOf_19 (lv_at hl 7 rfl) ?_
        refine lv_ishr hx hb dX9_cutOf_21 ?_
        refine lv_iconst (v := (1 : Int32)) hx hb dX9_cutOf_22 (by decide) ?_
        refine lv_iand hx hb dX9_cutOf_23 ?_
        refine lv_iconst (v := (1 : Int32)) hx hb dX9_cutOf_24 (by decide) ?_
        refine lv_icmp_ne (tgt := 42) hx hb dX9_cutOf_25 (by decide) (fun c2 => ?_) (fun c2 => ?_)
        · replace hf := (if_neg c2).symm.trans hf
          refine lv_iload hx hb dX9_cutOf_42 (lv_at hl 5 rfl) ?_
          refine lv_iload hx hb dX9_cutOf_44 (lv_at hl 7 rfl) ?_
          refine lv_iload_n hx hb dX9_cutOf_46 rfl (lv_at hl 2 rfl) ?_
          refine lv_icmp_ne (tgt := 54) hx hb dX9_cutOf_47 (by decide) (fun c3 => ?_) (fun c3 => ?_)
          · replace hf := (if_neg c3).symm.trans hf
            refine lv_aload_n hx hb dX9_cutOf_54 rfl (lv_at hl 0 rfl) ?_
            refine lv_iload hx hb dX9_cutOf_55 (lv_at hl 7 rfl) ?_
            obtain ⟨q4, h5, hf⟩ := w_ob hf
            refine w_ci (va_runV (As := [.int y7]) (rest := [.int y5]) ⟨hx, hb, hml, hown, hts⟩ (c_X9_yieldsOf l Γ hG y7 τ q4.1 q4.2 h5 H.size) (cwV 1 hts (wzV K197 K194 K195 K196 K5) rfl rfl rfl (by decide +kernel) ⟨(Nat.le_of_ble_eq_true rfl), (Nat.le_of_ble_eq_true rfl)⟩) (w_preV hK hP hkc hN hS (gM_Model Γ τ) rfl) rfl rfl hl.1 rfl (lv_room (Nat.le_of_ble_eq_true rfl)) dX9_cutOf_57 ⟨Nat.le_refl _, Nat.le_refl _⟩) hS (fun H locs hP hS => ?_)
            refine lv_iadd hx hb dX9_cutOf_60 ?_
            refine lv_istore (lv' := [(5, .int (y5 + q4.1)), (0, .ref (Γ.2.2.1 (0))), (1, .int x1), (2, .int x2), (3, .int x3), (4, .int x4), (6, .int y6), (7, .int y7)]) hx hb dX9_cutOf_61 hl (by decide) rfl (fun ls hl => ?_)
            refine lv_iinc (v := (y7 + (1 : Int32))) (lv' := [(7, .int (y7 + (1 : Int32))), (5, .int (y5 + q4.1)), (0, .ref (Γ.2.2.1 (0))), (1, .int x1), (2, .int x2), (3, .int x3), (4, .int x4), (6, .int y6)]) hx hb dX9_cutOf_63 hl (k := 7) rfl rfl (by decide) rfl (fun ls hl => ?_)
            refine lv_goto (tgt := 9) hx hb dX9_cutOf_66 (by decide) ?_
            exact ih9 ((y5 + q4.1)) (y6) ((y7 + (1 : Int32))) q4.2 H locs ls hf hP hS (lv_sub hl [2, 3, 4, 5, 6, 1, 7, 0] rfl)
          · replace hf := (if_pos c3).symm.trans hf
            refine lv_iconst (v := (0 : Int32)) hx hb dX9_cutOf_50 (by decide) ?_
            refine lv_goto (tgt := 60) hx hb dX9_cutOf_51 (by decide) ?_
            refine lv_iadd hx hb dX9_cutOf_60 ?_
            refine lv_istore (lv' := [(5, .int (y5 + (0 : Int32))), (0, .ref (Γ.2.2.1 (0))), (1, .int x1), (2, .int x2), (3, .int x3), (4, .int x4), (6, .int y6), (7, .int y7)]) hx hb dX9_cutOf_61 hl (by decide) rfl (fun ls hl => ?_)
            refine lv_iinc (v := (y7 + (1 : Int32))) (lv' := [(7, .int (y7 + (1 : Int32))), (5, .int (y5 + (0 : Int32))), (0, .ref (Γ.2.2.1 (0))), (1, .int x1), (2, .int x2), (3, .int x3), (4, .int x4), (6, .int y6)]) hx hb dX9_cutOf_63 hl (k := 7) rfl rfl (by decide) rfl (fun ls hl => ?_)
            refine lv_goto (tgt := 9) hx hb dX9_cutOf_66 (by decide) ?_
            exact ih9 ((y5 + (0 : Int32))) (y6) ((y7 + (1 : Int32))) τ H locs ls hf hP hS (lv_sub hl [2, 3, 4, 5, 6, 1, 7, 0] rfl)
        · replace hf := (if_pos c2).symm.trans hf
          refine lv_iload hx hb dX9_cutOf_28 (lv_at hl 6 rfl) ?_
          refine lv_aload_n hx hb dX9_cutOf_30 rfl (lv_at hl 0 rfl) ?_
          refine lv_iload hx hb dX9_cutOf_31 (lv_at hl 7 rfl) ?_
          obtain ⟨q6, h7, hf⟩ := w_ob hf
          refine w_ci (va_runV (As := [.int y7]) (rest := [.int y6]) ⟨hx, hb, hml, hown, hts⟩ (c_X9_suitSet l Γ hG y7 τ q6.1 q6.2 h7 H.size) (cwV 1 hts (wzV K305 K302 K303 K304 K5) rfl rfl rfl (by decide +kernel) ⟨(Nat.le_of_ble_eq_true rfl), (Nat.le_of_ble_eq_true rfl)⟩) (w_preV hK hP hkc hN hS (gM_Model Γ τ) rfl) rfl rfl hl.1 rfl (lv_room (Nat.le_of_ble_eq_true rfl)) dX9_cutOf_33 ⟨Nat.le_refl _, Nat.le_refl _⟩) hS (fun H locs hP hS => ?_)
          refine lv_ior hx hb dX9_cutOf_36 ?_
          refine lv_istore (lv' := [(6, .int (y6 ||| q6.1)), (0, .ref (Γ.2.2.1 (0))), (1, .int x1), (2, .int x2), (3, .int x3), (4, .int x4), (5, .int y5), (7, .int y7)]) hx hb dX9_cutOf_37 hl (by decide) rfl (fun ls hl => ?_)
          refine lv_goto (tgt := 63) hx hb dX9_cutOf_39 (by decide) ?_
          refine lv_iinc (v := (y7 + (1 : Int32))) (lv' := [(7, .int (y7 + (1 : Int32))), (6, .int (y6 ||| q6.1)), (0, .ref (Γ.2.2.1 (0))), (1, .int x1), (2, .int x2), (3, .int x3), (4, .int x4), (5, .int y5)]) hx hb dX9_cutOf_63 hl (k := 7) rfl rfl (by decide) rfl (fun ls hl => ?_)
          refine lv_goto (tgt := 9) hx hb dX9_cutOf_66 (by decide) ?_
          exact ih9 (y5) ((y6 ||| q6.1)) ((y7 + (1 : Int32))) q6.2 H locs ls hf hP hS (lv_sub hl [2, 3, 4, 5, 6, 7, 1, 0] rfl)
  suffices hw : ∀ (H : Heap) (locs : List Loc), va_P Γ.1 vwCl (XM Γ σ) H → va_S (wA (alM Γ) s.heap.size) s.heap H locs → W p l e { frames := 76, cells := 0, slots := 0, locals := 2886 } s m av.toArray below meth c H locs 0 0 (MQ below (wQi Γ.1 vwCl (tysC Γ) (XM Γ) (alM Γ) r σ' s.heap.size) av.toArray s 0 0 (wA (alM Γ) s.heap.size)) (F0 m 0 ls []) from hw _ [] hP va_S.rf
  clear hP
  intro H locs hP hS
  unfold f_X9_cutOf at hf
  refine lv_iconst (v := (0 : Int32)) hx hb dX9_cutOf_0 (by decide) ?_
  refine lv_istore (lv' := [(5, .int (0 : Int32)), (0, .ref (Γ.2.2.1 (0))), (1, .int x1), (2, .int x2), (3, .int x3), (4, .int x4)]) hx hb dX9_cutOf_1 hl (by decide) rfl (fun ls hl => ?_)
  refine lv_iconst (v := (0 : Int32)) hx hb dX9_cutOf_3 (by decide) ?_
  refine lv_istore (lv' := [(6, .int (0 : Int32)), (5, .int (0 : Int32)), (0, .ref (Γ.2.2.1 (0))), (1, .int x1), (2, .int x2), (3, .int x3), (4, .int x4)]) hx hb dX9_cutOf_4 hl (by decide) rfl (fun ls hl => ?_)
  refine lv_iconst (v := (0 : Int32)) hx hb dX9_cutOf_6 (by decide) ?_
  refine lv_istore (lv' := [(7, .int (0 : Int32)), (6, .int (0 : Int32)), (5, .int (0 : Int32)), (0, .ref (Γ.2.2.1 (0))), (1, .int x1), (2, .int x2), (3, .int x3), (4, .int x4)]) hx hb dX9_cutOf_7 hl (by decide) rfl (fun ls hl => ?_)
  exact j9 5000 ((0 : Int32)) ((0 : Int32)) ((0 : Int32)) σ H locs ls hf hP hS (lv_sub hl [3, 4, 5, 6, 7, 2, 1, 0] rfl)
def f_X9_mostBut_8 (x1 : Int32) (x2 : Int32) (x3 : Int32) : Nat → Int32 → Int32 → Sm → Option (Int32 × Sm)
  | 0, _, _, _ => none
  | n + 1, y4, y5, τ => if ((1 : Int32) <<< ((τ.1 (12) 0) &&& 31)) ≤ y5 then some (y4, τ) else (f_X9_cutOf y5 x1 x2 x3 τ).bind fun (q2 : Int32 × Sm) => if y4 ≤ q2.1 then (f_X9_mostBut_8 x1 x2 x3 n) (y4) ((y5 + (1 : Int32))) q2.2 else (f_X9_mostBut_8 x1 x2 x3 n) (q2.1) ((y5 + (1 : Int32))) (upm q2.2 (33) 0 y5)
def f_X9_mostBut (x1 : Int32) (x2 : Int32) (x3 : Int32) (σ : Sm) : Option (Int32 × Sm) := f_X9_mostBut_8 x1 x2 x3 5000 ((1000000 : Int32)) ((0 : Int32)) σ
set_option maxHeartbeats 40000000 in
set_option maxRecDepth 100000 in
theorem c_X9_mostBut (l : Launch) (Γ : Geo) (hG : okM Γ) (x1 : Int32) (x2 : Int32) (x3 : Int32) (σ : Sm) (r : Int32) (σ' : Sm) (hf : f_X9_mostBut x1 x2 x3 σ = some (r, σ')) (sz : Nat) : Met l yX9_mostBut (wz yX9_mostBut cX9_mostBut 7 (some .int)) { frames := 77, cells := 0, slots := 0, locals := 2914 } (va_Pc [.ref (Γ.2.2.1 (0)), .int x1, .int x2, .int x3] (wPre Γ.1 vwCl (tysC Γ) (XM Γ) (alM Γ) Γ.2.2.2 σ sz)) (wQi Γ.1 vwCl (tysC Γ) (XM Γ) (alM Γ) r σ' sz) 0 0 (wA (alM Γ) sz) := by
  refine w_enter (cc := cX9_mostBut) (maxL := 7) (ret := (some .int)) (by decide) rfl (Nat.le_of_ble_eq_true rfl) ?_
  intro p e s m below meth c ls hx hb hr hlocks hml hown hts hsz hP hK hkc hN hl
  subst hsz
  generalize hav : ([.ref (Γ.2.2.1 (0)), .int x1, .int x2, .int x3] : List Value) = av at hl hts ⊢
  have hl : lv_has ls 7 [(0, .ref (Γ.2.2.1 (0))), (1, .int x1), (2, .int x2), (3, .int x3)] := by rw [← hav] at hl; exact hl
  have j8 : ∀ (n8 : Nat), ∀ (y4 : Int32) (y5 : Int32) (τ : Sm) (H : Heap) (locs : List Loc) (ls : Array Slot) (hf : f_X9_mostBut_8 x1 x2 x3 n8 y4 y5 τ = some (r, σ')) (hP : va_P Γ.1 vwCl (XM Γ τ) H) (hS : va_S (wA (alM Γ) s.heap.size) s.heap H locs) (hl : lv_has ls 7 [(0, .ref (Γ.2.2.1 (0))), (1, .int x1), (2, .int x2), (3, .int x3), (4, .int y4), (5, .int y5)]), W p l e { frames := 77, cells := 0, slots := 0, locals := 2914 } s m av.toArray below meth c H locs 0 0 (MQ below (wQi Γ.1 vwCl (tysC Γ) (XM Γ) (alM Γ) r σ' s.heap.size) av.toArray s 0 0 (wA (alM Γ) s.heap.size)) (F0 m 8 ls []) := by
    intro n8
    induction n8 with
    | zero =>
      intro y4 y5 τ H locs ls hf
      exact absurd hf (by intro h; cases h)
    | succ n8 ih8 =>
      intro y4 y5 τ H locs ls hf hP hS hl
      unfold f_X9_mostBut_8 at hf
      refine lv_iload hx hb dX9_mostBut_8 (lv_at hl 5 rfl) ?_
      refine lv_iconst (v := (1 : Int32)) hx hb dX9_mostBut_10 (by decide) ?_
      refine lv_aload_n hx hb dX9_mostBut_11 rfl (lv_at hl 0 rfl) ?_
      refine va_get (D := Γ.1) (ci := 8) (v := .int (τ.1 (12) 0)) (C := RX9) (T := TX9) (N := 44) hx hb hts iX9 hown hK hP (0) (gM_Model Γ τ) rfl 12 (by decide) (hts (.fieldLink RX9 77 "OtherHalfOfNightModel" "many" "I") (wzm K183)) (fun _ h9 => h9) rfl dX9_mostBut_12 ?_
      refine lv_ishl hx hb dX9_mostBut_15 ?_
      refine lv_icmp_ge (tgt := 53) hx hb dX9_mostBut_16 (by decide) (fun c1 => ?_) (fun c1 => ?_)
      · replace hf := (if_pos c1).symm.trans hf
        refine lv_iload hx hb dX9_mostBut_53 (lv_at hl 4 rfl) ?_
        exact w_iret (X := XM Γ) hx hb hr hlocks hK hP hS rfl hf dX9_mostBut_55
      · replace hf := (if_neg c1).symm.trans hf
        refine lv_aload_n hx hb dX9_mostBut_19 rfl (lv_at hl 0 rfl) ?_
        refine lv_iload hx hb dX9_mostBut_20 (lv_at hl 5 rfl) ?_
        refine lv_iload_n hx hb dX9_mostBut_22 rfl (lv_at hl 1 rfl) ?_
        refine lv_iload_n hx hb dX9_mostBut_23 rfl (lv_at hl 2 rfl) ?_
        refine lv_iload_n hx hb dX9_mostBut_24 rfl (lv_at hl 3 rfl) ?_
        obtain ⟨q2, h3, hf⟩ := w_ob hf
        refine w_ci (va_runV (As := [.int y5, .int x1, .int x2, .int x3]) (rest := []) ⟨hx, hb, hml, hown, hts⟩ (c_X9_cutOf l Γ hG y5 x1 x2 x3 τ q2.1 q2.2 h3 H.size) (cwV 4 hts (wzV K785 K782 K783 K784 K5) rfl rfl rfl (by decide +kernel) ⟨(Nat.le_of_ble_eq_true rfl), (Nat.le_of_ble_eq_true rfl)⟩) (w_preV hK hP hkc hN hS (gM_Model Γ τ) rfl) rfl rfl hl.1 rfl (lv_room (Nat.le_of_ble_eq_true rfl)) dX9_mostBut_25 ⟨Nat.le_refl _, Nat.le_refl _⟩) hS (fun H locs hP hS => ?_)
        refine lv_istore (lv' := [(6, .int q2.1), (0, .ref (Γ.2.2.1 (0))), (1, .int x1), (2, .int x2), (3, .int x3), (4, .int y4), (5, .int y5)]) hx hb dX9_mostBut_28 hl (by decide) rfl (fun ls hl => ?_)
        refine lv_iload hx hb dX9_mostBut_30 (lv_at hl 0 rfl) ?_
        refine lv_iload hx hb dX9_mostBut_32 (lv_at hl 5 rfl) ?_
        refine lv_icmp_ge (tgt := 47) hx hb dX9_mostBut_34 (by decide) (fun c4 => ?_) (fun c4 => ?_)
        · replace hf := (if_pos c4).symm.trans hf
          refine lv_iinc (v := (y5 + (1 : Int32))) (lv' := [(5, .int (y5 + (1 : Int32))), (6, .int q2.1), (0, .ref (Γ.2.2.1 (0))), (1, .int x1), (2, .int x2), (3, .int x3), (4, .int y4)]) hx hb dX9_mostBut_47 hl (k := 6) rfl rfl (by decide) rfl (fun ls hl => ?_)
          refine lv_goto (tgt := 8) hx hb dX9_mostBut_50 (by decide) ?_
          exact ih8 (y4) ((y5 + (1 : Int32))) q2.2 H locs ls hf hP hS (lv_sub hl [2, 3, 4, 5, 6, 0] rfl)
        · replace hf := (if_neg c4).symm.trans hf
          refine lv_aload_n hx hb dX9_mostBut_37 rfl (lv_at hl 1 rfl) ?_
          refine lv_iload hx hb dX9_mostBut_38 (lv_at hl 6 rfl) ?_
          refine w_put (X := XM Γ) (σ' := (upm q2.2 (33) 0 y5)) (ci := 8) (C := RX9) (T := TX9) (N := 44) (ty := .int) hx hb hts iX9 tyX9 tyX9_ok nmX9 hown hK hP (halM Γ) hG hS (0) (gM_Model Γ q2.2) rfl 33 (by decide) (hts (.fieldLink RX9 299 "OtherHalfOfNightModel" "cutSet" "I") (wzm K772)) (fun _ h9 => h9) rfl (by decide +kernel) rfl rfl (Nat.le_of_ble_eq_true rfl) dX9_mostBut_40 (sM_Model_cutSet Γ q2.2 y5) (fun H locs hP hS => ?_)
          refine lv_iload hx hb dX9_mostBut_43 (lv_at hl 0 rfl) ?_
          refine lv_istore (lv' := [(4, .int q2.1), (6, .int q2.1), (0, .ref (Γ.2.2.1 (0))), (1, .int x1), (2, .int x2), (3, .int x3), (5, .int y5)]) hx hb dX9_mostBut_45 hl (by decide) rfl (fun ls hl => ?_)
          refine lv_iinc (v := (y5 + (1 : Int32))) (lv' := [(5, .int (y5 + (1 : Int32))), (4, .int q2.1), (6, .int q2.1), (0, .ref (Γ.2.2.1 (0))), (1, .int x1), (2, .int x2), (3, .int x3)]) hx hb dX9_mostBut_47 hl (k := 6) rfl rfl (by decide) rfl (fun ls hl => ?_)
          refine lv_goto (tgt := 8) hx hb dX9_mostBut_50 (by decide) ?_
          exact ih8 (q2.1) ((y5 + (1 : Int32))) (upm q2.2 (33) 0 y5) H locs ls hf hP hS (lv_sub hl [3, 4, 5, 6, 1, 0] rfl)
  suffices hw : ∀ (H : Heap) (locs : List Loc), va_P Γ.1 vwCl (XM Γ σ) H → va_S (wA (alM Γ) s.heap.size) s.heap H locs → W p l e { frames := 77, cells := 0, slots := 0, locals := 2914 } s m av.toArray below meth c H locs 0 0 (MQ below (wQi Γ.1 vwCl (tysC Γ) (XM Γ) (alM Γ) r σ' s.heap.size) av.toArray s 0 0 (wA (alM Γ) s.heap.size)) (F0 m 0 ls []) from hw _ [] hP va_S.rf
  clear hP
  intro H locs hP hS
  unfold f_X9_mostBut at hf
  refine lv_ldcw (v := (1000000 : Int32)) hx hb hown (hts (.constant RX9 294 (1000000)) (wzm K781)) dX9_mostBut_0 ?_
  refine lv_istore (lv' := [(4, .int (1000000 : Int32)), (0, .ref (Γ.2.2.1 (0))), (1, .int x1), (2, .int x2), (3, .int x3)]) hx hb dX9_mostBut_3 hl (by decide) rfl (fun ls hl => ?_)
  refine lv_iconst (v := (0 : Int32)) hx hb dX9_mostBut_5 (by decide) ?_
  refine lv_istore (lv' := [(5, .int (0 : Int32)), (4, .int (1000000 : Int32)), (0, .ref (Γ.2.2.1 (0))), (1, .int x1), (2, .int x2), (3, .int x3)]) hx hb dX9_mostBut_6 hl (by decide) rfl (fun ls hl => ?_)
  exact j8 5000 ((1000000 : Int32)) ((0 : Int32)) σ H locs ls hf hP hS (lv_sub hl [2, 3, 4, 5, 1, 0] rfl)
def f_X9_mostNow (σ : Sm) : Option (Int32 × Sm) := (f_X9_mostBut (-1 : Int32) (-1 : Int32) (-1 : Int32) σ).bind fun (q1 : Int32 × Sm) => some (q1.1, q1.2)
set_option maxHeartbeats 40000000 in
set_option maxRecDepth 100000 in
theorem c_X9_mostNow (l : Launch) (Γ : Geo) (hG : okM Γ) (σ : Sm) (r : Int32) (σ' : Sm) (hf : f_X9_mostNow σ = some (r, σ')) (sz : Nat) : Met l yX9_mostNow (wz yX9_mostNow cX9_mostNow 1 (some .int)) { frames := 78, cells := 0, slots := 0, locals := 2940 } (va_Pc [.ref (Γ.2.2.1 (0))] (wPre Γ.1 vwCl (tysC Γ) (XM Γ) (alM Γ) Γ.2.2.2 σ sz)) (wQi Γ.1 vwCl (tysC Γ) (XM Γ) (alM Γ) r σ' sz) 0 0 (wA (alM Γ) sz) := by
  refine w_enter (cc := cX9_mostNow) (maxL := 1) (ret := (some .int)) (by decide) rfl (Nat.le_of_ble_eq_true rfl) ?_
  intro p e s m below meth c ls hx hb hr hlocks hml hown hts hsz hP hK hkc hN hl
  subst hsz
  generalize hav : ([.ref (Γ.2.2.1 (0))] : List Value) = av at hl hts ⊢
  have hl : lv_has ls 1 [(0, .ref (Γ.2.2.1 (0)))] := by rw [← hav] at hl; exact hl
  suffices hw : ∀ (H : Heap) (locs : List Loc), va_P Γ.1 vwCl (XM Γ σ) H → va_S (wA (alM Γ) s.heap.size) s.heap H locs → W p l e { frames := 78, cells := 0, slots := 0, locals := 2940 } s m av.toArray below meth c H locs 0 0 (MQ below (wQi Γ.1 vwCl (tysC Γ) (XM Γ) (alM Γ) r σ' s.heap.size) av.toArray s 0 0 (wA (alM Γ) s.heap.size)) (F0 m 0 ls []) from hw _ [] hP va_S.rf
  clear hP
  intro H locs hP hS
  unfold f_X9_mostNow at hf
  refine lv_aload_n hx hb dX9_mostNow_0 rfl (lv_at hl 0 rfl) ?_
  refine lv_iconst (v := (-1 : Int32)) hx hb dX9_mostNow_1 (by decide) ?_
  refine lv_iconst (v := (-1 : Int32)) hx hb dX9_mostNow_2 (by decide) ?_
  refine lv_iconst (v := (-1 : Int32)) hx hb dX9_mostNow_3 (by decide) ?_
  obtain ⟨q1, h2, hf⟩ := w_ob hf
  refine w_ci (va_runV (As := [.int (-1 : Int32), .int (-1 : Int32), .int (-1 : Int32)]) (rest := []) ⟨hx, hb, hml, hown, hts⟩ (c_X9_mostBut l Γ hG (-1 : Int32) (-1 : Int32) (-1 : Int32) σ q1.1 q1.2 h2 H.size) (cwV 3 hts (wzV K780 K777 K778 K779 K5) rfl rfl rfl (by decide +kernel) ⟨(Nat.le_of_ble_eq_true rfl), (Nat.le_of_ble_eq_true rfl)⟩) (w_preV hK hP hkc hN hS (gM_Model Γ σ) rfl) rfl rfl hl.1 rfl (lv_room (Nat.le_of_ble_eq_true rfl)) dX9_mostNow_4 ⟨Nat.le_refl _, Nat.le_refl _⟩) hS (fun H locs hP hS => ?_)
  exact w_iret (X := XM Γ) hx hb hr hlocks hK hP hS rfl hf dX9_mostNow_7
def f_X9_pouredNow_50 (k14 : Int32 → Int32 → Int32 → Sm → Option (Int32 × Sm)) (x1 : Int32) (y2 : Int32) (y4 : Int32) (z0 : Int32) (z1 : Int32) (τ : Sm) : Option (Int32 × Sm) := k14 (y2) ((z0 ||| (z1 <<< (y4 &&& 31)))) ((y4 + (1 : Int32))) τ
def f_X9_pouredNow_14 (x1 : Int32) : Nat → Int32 → Int32 → Int32 → Sm → Option (Int32 × Sm)
  | 0, _, _, _, _ => none
  | n + 1, y2, y3, y4, τ => if (6 : Int32) ≤ y4 then (f_X9_laysBack τ).bind fun (q6 : Sm) => if x1 = (4 : Int32) then some (y3, q6) else some (y2, q6) else if okI (((3 : Int32) * y4) + (2 : Int32)) 18 then if okI ((3 : Int32) * y4) 18 then if (τ.1 (11) ((((3 : Int32) * y4) + (2 : Int32))).toNatClampNeg) = (τ.1 (11) (((3 : Int32) * y4)).toNatClampNeg) then f_X9_pouredNow_50 (f_X9_pouredNow_14 x1 n) x1 (y2) (y4) (y3) ((1 : Int32)) τ else f_X9_pouredNow_50 (f_X9_pouredNow_14 x1 n) x1 (y2) (y4) (y3) ((0 : Int32)) τ else none else none
def f_X9_pouredNow (x1 : Int32) (σ : Sm) : Option (Int32 × Sm) := (f_X9_laysAside σ).bind fun (q1 : Sm) => (f_X9_passes q1).bind fun (q3 : Int32 × Sm) => f_X9_pouredNow_14 x1 5000 (q3.1) ((0 : Int32)) ((0 : Int32)) q3.2
set_option maxHeartbeats 40000000 in
set_option maxRecDepth 100000 in
theorem c_X9_pouredNow (l : Launch) (Γ : Geo) (hG : okM Γ) (x1 : Int32) (σ : Sm) (r : Int32) (σ' : Sm) (hf : f_X9_pouredNow x1 σ = some (r, σ')) (sz : Nat) : Met l yX9_pouredNow (wz yX9_pouredNow cX9_pouredNow 5 (some .int)) { frames := 76, cells := 0, slots := 0, locals := 2888 } (va_Pc [.ref (Γ.2.2.1 (0)), .int x1] (wPre Γ.1 vwCl (tysC Γ) (XM Γ) (alM Γ) Γ.2.2.2 σ sz)) (wQi Γ.1 vwCl (tysC Γ) (XM Γ) (alM Γ) r σ' sz) 0 0 (wA (alM Γ) sz) := by
  refine w_enter (cc := cX9_pouredNow) (maxL := 5) (ret := (some .int)) (by decide) rfl (Nat.le_of_ble_eq_true rfl) ?_
  intro p e s m below meth c ls hx hb hr hlocks hml hown hts hsz hP hK hkc hN hl
  subst hsz
  generalize hav : ([.ref (Γ.2.2.1 (0)), .int x1] : List Value) = av at hl hts ⊢
  have hl : lv_has ls 5 [(0, .ref (Γ.2.2.1 (0))), (1, .int x1)] := by rw [← hav] at hl; exact hl
  have j14 : ∀ (n14 : Nat), ∀ (y2 : Int32) (y3 : Int32) (y4 : Int32) (τ : Sm) (H : Heap) (locs : List Loc) (ls : Array Slot) (hf : f_X9_pouredNow_14 x1 n14 y2 y3 y4 τ = some (r, σ')) (hP : va_P Γ.1 vwCl (XM Γ τ) H) (hS : va_S (wA (alM Γ) s.heap.size) s.heap H locs) (hl : lv_has ls 5 [(0, .ref (Γ.2.2.1 (0))), (1, .int x1), (2, .int y2), (3, .int y3), (4, .int y4)]), W p l e { frames := 76, cells := 0, slots := 0, locals := 2888 } s m av.toArray below meth c H locs 0 0 (MQ below (wQi Γ.1 vwCl (tysC Γ) (XM Γ) (alM Γ) r σ' s.heap.size) av.toArray s 0 0 (wA (alM Γ) s.heap.size)) (F0 m 14 ls []) := by
    intro n14
    induction n14 with
    | zero =>
      intro y2 y3 y4 τ H locs ls hf
      exact absurd hf (by intro h; cases h)
    | succ n14 ih14 =>
      have j50 : ∀ (y2 : Int32) (y4 : Int32) (z0 : Int32) (z1 : Int32) (τ : Sm) (H : Heap) (locs : List Loc) (ls : Array Slot) (hf : f_X9_pouredNow_50 (f_X9_pouredNow_14 x1 n14) x1 y2 y4 z0 z1 τ = some (r, σ')) (hP : va_P Γ.1 vwCl (XM Γ τ) H) (hS : va_S (wA (alM Γ) s.heap.size) s.heap H locs) (hl : lv_has ls 5 [(0, .ref (Γ.2.2.1 (0))), (1, .int x1), (2, .int y2), (4, .int y4)]), W p l e { frames := 76, cells := 0, slots := 0, locals := 2888 } s m av.toArray below meth c H locs 0 0 (MQ below (wQi Γ.1 vwCl (tysC Γ) (XM Γ) (alM Γ) r σ' s.heap.size) av.toArray s 0 0 (wA (alM Γ) s.heap.size)) (F0 m 50 ls [.int z1, .int z0]) := by
        intro y2 y4 z0 z1 τ H locs ls hf hP hS hl
        unfold f_X9_pouredNow_50 at hf
        refine lv_iload hx hb dX9_pouredNow_50 (lv_at hl 3 rfl) ?_
        refine lv_ishl hx hb dX9_pouredNow_52 ?_
        refine lv_ior hx hb dX9_pouredNow_53 ?_
        refine lv_istore_n (lv' := [(3, .int (z0 ||| (z1 <<< (y4 &&& 31)))), (0, .ref (Γ.2.2.1 (0))), (1, .int x1), (2, .int y2), (4, .int y4)]) hx hb dX9_pouredNow_54 rfl hl (by decide) rfl (fun ls hl => ?_)
        refine lv_iinc (v := (y4 + (1 : Int32))) (lv' := [(4, .int (y4 + (1 : Int32))), (3, .int (z0 ||| (z1 <<< (y4 &&& 31)))), (0, .ref (Γ.2.2.1 (0))), (1, .int x1), (2, .int y2)]) hx hb dX9_pouredNow_55 hl (k := 4) rfl rfl (by decide) rfl (fun ls hl => ?_)
        refine lv_goto (tgt := 14) hx hb dX9_pouredNow_58 (by decide) ?_
        exact ih14 (y2) ((z0 ||| (z1 <<< (y4 &&& 31)))) ((y4 + (1 : Int32))) τ H locs ls hf hP hS (lv_sub hl [2, 3, 4, 1, 0] rfl)
      intro y2 y3 y4 τ H locs ls hf hP hS hl
      unfold f_X9_pouredNow_14 at hf
      refine lv_iload hx hb dX9_pouredNow_14 (lv_at hl 4 rfl) ?_
      refine lv_bipush (v := (6 : Int32)) hx hb dX9_pouredNow_16 (by decide) ?_
      refine lv_icmp_ge (tgt := 61) hx hb dX9_pouredNow_18 (by decide) (fun c5 => ?_) (fun c5 => ?_)
      · replace hf := (if_pos c5).symm.trans hf
        refine lv_aload_n hx hb dX9_pouredNow_61 rfl (lv_at hl 0 rfl) ?_
        obtain ⟨q6, h7, hf⟩ := w_ob hf
        refine w_cv (va_runV (As := []) (rest := []) ⟨hx, hb, hml, hown, hts⟩ (c_X9_laysBack l Γ hG τ q6 h7 H.size) (cwV 0 hts (wzV K721 K718 K719 K720 K5) rfl rfl rfl (by decide +kernel) ⟨(Nat.le_of_ble_eq_true rfl), (Nat.le_of_ble_eq_true rfl)⟩) (w_preV hK hP hkc hN hS (gM_Model Γ τ) rfl) rfl rfl hl.1 rfl (lv_room (Nat.le_of_ble_eq_true rfl)) dX9_pouredNow_62 ⟨Nat.le_refl _, Nat.le_refl _⟩) hS (fun H locs hP hS => ?_)
        refine lv_iload_n hx hb dX9_pouredNow_65 rfl (lv_at hl 1 rfl) ?_
        refine lv_iconst (v := (4 : Int32)) hx hb dX9_pouredNow_66 (by decide) ?_
        refine lv_icmp_ne (tgt := 74) hx hb dX9_pouredNow_67 (by decide) (fun c8 => ?_) (fun c8 => ?_)
        · replace hf := (if_neg c8).symm.trans hf
          refine lv_iload_n hx hb dX9_pouredNow_74 rfl (lv_at hl 2 rfl) ?_
          exact w_iret (X := XM Γ) hx hb hr hlocks hK hP hS rfl hf dX9_pouredNow_75
        · replace hf := (if_pos c8).symm.trans hf
          refine lv_iload_n hx hb dX9_pouredNow_70 rfl (lv_at hl 3 rfl) ?_
          refine lv_goto (tgt := 75) hx hb dX9_pouredNow_71 (by decide) ?_
          exact w_iret (X := XM Γ) hx hb hr hlocks hK hP hS rfl hf dX9_pouredNow_75
      · replace hf := (if_neg c5).symm.trans hf
        refine lv_iload_n hx hb dX9_pouredNow_21 rfl (lv_at hl 3 rfl) ?_
        refine lv_aload_n hx hb dX9_pouredNow_22 rfl (lv_at hl 0 rfl) ?_
        refine va_get (D := Γ.1) (ci := 8) (v := .ref (Γ.2.2.1 (6))) (C := RX9) (T := TX9) (N := 44) hx hb hts iX9 hown hK hP (0) (gM_Model Γ τ) rfl 11 (by decide) (hts (.fieldLink RX9 29 "OtherHalfOfNightModel" "cups" "[I") (wzm K113)) (fun _ h9 => h9) rfl dX9_pouredNow_23 ?_
        refine lv_iconst (v := (3 : Int32)) hx hb dX9_pouredNow_26 (by decide) ?_
        refine lv_iload hx hb dX9_pouredNow_27 (lv_at hl 4 rfl) ?_
        refine lv_imul hx hb dX9_pouredNow_29 ?_
        refine lv_iconst (v := (2 : Int32)) hx hb dX9_pouredNow_30 (by decide) ?_
        refine lv_iadd hx hb dX9_pouredNow_31 ?_
        obtain ⟨g9, hf⟩ := w_oi hf
        refine va_iald (D := Γ.1) (tys := (tysC Γ)) hx hb hK hP (6) 0 (gM_M_cups Γ τ) rfl g9 dX9_pouredNow_32 ?_
        refine lv_aload_n hx hb dX9_pouredNow_33 rfl (lv_at hl 0 rfl) ?_
        refine va_get (D := Γ.1) (ci := 8) (v := .ref (Γ.2.2.1 (6))) (C := RX9) (T := TX9) (N := 44) hx hb hts iX9 hown hK hP (0) (gM_Model Γ τ) rfl 11 (by decide) (hts (.fieldLink RX9 29 "OtherHalfOfNightModel" "cups" "[I") (wzm K113)) (fun _ h9 => h9) rfl dX9_pouredNow_34 ?_
        refine lv_iconst (v := (3 : Int32)) hx hb dX9_pouredNow_37 (by decide) ?_
        refine lv_iload hx hb dX9_pouredNow_38 (lv_at hl 4 rfl) ?_
        refine lv_imul hx hb dX9_pouredNow_40 ?_
        obtain ⟨g10, hf⟩ := w_oi hf
        refine va_iald (D := Γ.1) (tys := (tysC Γ)) hx hb hK hP (6) 0 (gM_M_cups Γ τ) rfl g10 dX9_pouredNow_41 ?_
        refine lv_icmp_ne (tgt := 49) hx hb dX9_pouredNow_42 (by decide) (fun c11 => ?_) (fun c11 => ?_)
        · replace hf := (if_neg c11).symm.trans hf
          refine lv_iconst (v := (0 : Int32)) hx hb dX9_pouredNow_49 (by decide) ?_
          exact j50 (y2) (y4) (y3) ((0 : Int32)) τ H locs ls hf hP hS (lv_sub hl [0, 1, 2, 4] rfl)
        · replace hf := (if_pos c11).symm.trans hf
          refine lv_iconst (v := (1 : Int32)) hx hb dX9_pouredNow_45 (by decide) ?_
          refine lv_goto (tgt := 50) hx hb dX9_pouredNow_46 (by decide) ?_
          exact j50 (y2) (y4) (y3) ((1 : Int32)) τ H locs ls hf hP hS (lv_sub hl [0, 1, 2, 4] rfl)
  suffices hw : ∀ (H : Heap) (locs : List Loc), va_P Γ.1 vwCl (XM Γ σ) H → va_S (wA (alM Γ) s.heap.size) s.heap H locs → W p l e { frames := 76, cells := 0, slots := 0, locals := 2888 } s m av.toArray below meth c H locs 0 0 (MQ below (wQi Γ.1 vwCl (tysC Γ) (XM Γ) (alM Γ) r σ' s.heap.size) av.toArray s 0 0 (wA (alM Γ) s.heap.size)) (F0 m 0 ls []) from hw _ [] hP va_S.rf
  clear hP
  intro H locs hP hS
  unfold f_X9_pouredNow at hf
  refine lv_aload_n hx hb dX9_pouredNow_0 rfl (lv_at hl 0 rfl) ?_
  obtain ⟨q1, h2, hf⟩ := w_ob hf
  refine w_cv (va_runV (As := []) (rest := []) ⟨hx, hb, hml, hown, hts⟩ (c_X9_laysAside l Γ hG σ q1 h2 H.size) (cwV 0 hts (wzV K717 K714 K715 K716 K5) rfl rfl rfl (by decide +kernel) ⟨(Nat.le_of_ble_eq_true rfl), (Nat.le_of_ble_eq_true rfl)⟩) (w_preV hK hP hkc hN hS (gM_Model Γ σ) rfl) rfl rfl hl.1 rfl (lv_room (Nat.le_of_ble_eq_true rfl)) dX9_pouredNow_1 ⟨Nat.le_refl _, Nat.le_refl _⟩) hS (fun H locs hP hS => ?_)
  refine lv_aload_n hx hb dX9_pouredNow_4 rfl (lv_at hl 0 rfl) ?_
  obtain ⟨q3, h4, hf⟩ := w_ob hf
  refine w_ci (va_runV (As := []) (rest := []) ⟨hx, hb, hml, hown, hts⟩ (c_X9_passes l Γ hG q1 q3.1 q3.2 h4 H.size) (cwV 0 hts (wzV K676 K673 K674 K675 K5) rfl rfl rfl (by decide +kernel) ⟨(Nat.le_of_ble_eq_true rfl), (Nat.le_of_ble_eq_true rfl)⟩) (w_preV hK hP hkc hN hS (gM_Model Γ q1) rfl) rfl rfl hl.1 rfl (lv_room (Nat.le_of_ble_eq_true rfl)) dX9_pouredNow_5 ⟨Nat.le_refl _, Nat.le_refl _⟩) hS (fun H locs hP hS => ?_)
  refine lv_istore_n (lv' := [(2, .int q3.1), (0, .ref (Γ.2.2.1 (0))), (1, .int x1)]) hx hb dX9_pouredNow_8 rfl hl (by decide) rfl (fun ls hl => ?_)
  refine lv_iconst (v := (0 : Int32)) hx hb dX9_pouredNow_9 (by decide) ?_
  refine lv_istore_n (lv' := [(3, .int (0 : Int32)), (2, .int q3.1), (0, .ref (Γ.2.2.1 (0))), (1, .int x1)]) hx hb dX9_pouredNow_10 rfl hl (by decide) rfl (fun ls hl => ?_)
  refine lv_iconst (v := (0 : Int32)) hx hb dX9_pouredNow_11 (by decide) ?_
  refine lv_istore (lv' := [(4, .int (0 : Int32)), (3, .int (0 : Int32)), (2, .int q3.1), (0, .ref (Γ.2.2.1 (0))), (1, .int x1)]) hx hb dX9_pouredNow_12 hl (by decide) rfl (fun ls hl => ?_)
  exact j14 5000 (q3.1) ((0 : Int32)) ((0 : Int32)) q3.2 H locs ls hf hP hS (lv_sub hl [3, 4, 2, 1, 0] rfl)
def f_X9_starved_5 : Nat → Int32 → Int32 → Sm → Option (Int32 × Sm)
  | 0, _, _, _ => none
  | n + 1, y1, y2, τ => if (τ.1 (12) 0) ≤ y2 then some (y1, τ) else (f_X9_yieldsOf y2 τ).bind fun (q2 : Int32 × Sm) => if q2.1 ≤ 0 then (f_X9_starved_5 n) ((y1 &&& y1)) ((y2 + (1 : Int32))) q2.2 else (f_X9_suitSet y2 q2.2).bind fun (q5 : Int32 × Sm) => (f_X9_starved_5 n) ((y1 &&& (q5.1 ^^^ (-1 : Int32)))) ((y2 + (1 : Int32))) q5.2
def f_X9_starved (σ : Sm) : Option (Int32 × Sm) := f_X9_starved_5 5000 ((63 : Int32)) ((0 : Int32)) σ
set_option maxHeartbeats 40000000 in
set_option maxRecDepth 100000 in
theorem c_X9_starved (l : Launch) (Γ : Geo) (hG : okM Γ) (σ : Sm) (r : Int32) (σ' : Sm) (hf : f_X9_starved σ = some (r, σ')) (sz : Nat) : Met l yX9_starved (wz yX9_starved cX9_starved 3 (some .int)) { frames := 76, cells := 0, slots := 0, locals := 2886 } (va_Pc [.ref (Γ.2.2.1 (0))] (wPre Γ.1 vwCl (tysC Γ) (XM Γ) (alM Γ) Γ.2.2.2 σ sz)) (wQi Γ.1 vwCl (tysC Γ) (XM Γ) (alM Γ) r σ' sz) 0 0 (wA (alM Γ) sz) := by
  refine w_enter (cc := cX9_starved) (maxL := 3) (ret := (some .int)) (by decide) rfl (Nat.le_of_ble_eq_true rfl) ?_
  intro p e s m below meth c ls hx hb hr hlocks hml hown hts hsz hP hK hkc hN hl
  subst hsz
  generalize hav : ([.ref (Γ.2.2.1 (0))] : List Value) = av at hl hts ⊢
  have hl : lv_has ls 3 [(0, .ref (Γ.2.2.1 (0)))] := by rw [← hav] at hl; exact hl
  have j5 : ∀ (n5 : Nat), ∀ (y1 : Int32) (y2 : Int32) (τ : Sm) (H : Heap) (locs : List Loc) (ls : Array Slot) (hf : f_X9_starved_5 n5 y1 y2 τ = some (r, σ')) (hP : va_P Γ.1 vwCl (XM Γ τ) H) (hS : va_S (wA (alM Γ) s.heap.size) s.heap H locs) (hl : lv_has ls 3 [(0, .ref (Γ.2.2.1 (0))), (1, .int y1), (2, .int y2)]), W p l e { frames := 76, cells := 0, slots := 0, locals := 2886 } s m av.toArray below meth c H locs 0 0 (MQ below (wQi Γ.1 vwCl (tysC Γ) (XM Γ) (alM Γ) r σ' s.heap.size) av.toArray s 0 0 (wA (alM Γ) s.heap.size)) (F0 m 5 ls []) := by
    intro n5
    induction n5 with
    | zero =>
      intro y1 y2 τ H locs ls hf
      exact absurd hf (by intro h; cases h)
    | succ n5 ih5 =>
      intro y1 y2 τ H locs ls hf hP hS hl
      unfold f_X9_starved_5 at hf
      refine lv_iload_n hx hb dX9_starved_5 rfl (lv_at hl 2 rfl) ?_
      refine lv_aload_n hx hb dX9_starved_6 rfl (lv_at hl 0 rfl) ?_
      refine va_get (D := Γ.1) (ci := 8) (v := .int (τ.1 (12) 0)) (C := RX9) (T := TX9) (N := 44) hx hb hts iX9 hown hK hP (0) (gM_Model Γ τ) rfl 12 (by decide) (hts (.fieldLink RX9 77 "OtherHalfOfNightModel" "many" "I") (wzm K183)) (fun _ h9 => h9) rfl dX9_starved_7 ?_
      refine lv_icmp_ge (tgt := 41) hx hb dX9_starved_10 (by decide) (fun c1 => ?_) (fun c1 => ?_)
      · replace hf := (if_pos c1).symm.trans hf
        refine lv_iload_n hx hb dX9_starved_41 rfl (lv_at hl 1 rfl) ?_
        exact w_iret (X := XM Γ) hx hb hr hlocks hK hP hS rfl hf dX9_starved_42
      · replace hf := (if_neg c1).symm.trans hf
        refine lv_iload_n hx hb dX9_starved_13 rfl (lv_at hl 1 rfl) ?_
        refine lv_aload_n hx hb dX9_starved_14 rfl (lv_at hl 0 rfl) ?_
        refine lv_iload_n hx hb dX9_starved_15 rfl (lv_at hl 2 rfl) ?_
        obtain ⟨q2, h3, hf⟩ := w_ob hf
        refine w_ci (va_runV (As := [.int y2]) (rest := [.int y1]) ⟨hx, hb, hml, hown, hts⟩ (c_X9_yieldsOf l Γ hG y2 τ q2.1 q2.2 h3 H.size) (cwV 1 hts (wzV K197 K194 K195 K196 K5) rfl rfl rfl (by decide +kernel) ⟨(Nat.le_of_ble_eq_true rfl), (Nat.le_of_ble_eq_true rfl)⟩) (w_preV hK hP hkc hN hS (gM_Model Γ τ) rfl) rfl rfl hl.1 rfl (lv_room (Nat.le_of_ble_eq_true rfl)) dX9_starved_16 ⟨Nat.le_refl _, Nat.le_refl _⟩) hS (fun H locs hP hS => ?_)
        refine lv_if_le (tgt := 32) hx hb dX9_starved_19 (by decide) (fun c4 => ?_) (fun c4 => ?_)
        · replace hf := (if_pos c4).symm.trans hf
          refine lv_iload_n hx hb dX9_starved_32 rfl (lv_at hl 1 rfl) ?_
          refine lv_iand hx hb dX9_starved_33 ?_
          refine lv_istore_n (lv' := [(1, .int (y1 &&& y1)), (0, .ref (Γ.2.2.1 (0))), (2, .int y2)]) hx hb dX9_starved_34 rfl hl (by decide) rfl (fun ls hl => ?_)
          refine lv_iinc (v := (y2 + (1 : Int32))) (lv' := [(2, .int (y2 + (1 : Int32))), (1, .int (y1 &&& y1)), (0, .ref (Γ.2.2.1 (0)))]) hx hb dX9_starved_35 hl (k := 2) rfl rfl (by decide) rfl (fun ls hl => ?_)
          refine lv_goto (tgt := 5) hx hb dX9_starved_38 (by decide) ?_
          exact ih5 ((y1 &&& y1)) ((y2 + (1 : Int32))) q2.2 H locs ls hf hP hS (lv_sub hl [2, 1, 0] rfl)
        · replace hf := (if_neg c4).symm.trans hf
          refine lv_aload_n hx hb dX9_starved_22 rfl (lv_at hl 0 rfl) ?_
          refine lv_iload_n hx hb dX9_starved_23 rfl (lv_at hl 2 rfl) ?_
          obtain ⟨q5, h6, hf⟩ := w_ob hf
          refine w_ci (va_runV (As := [.int y2]) (rest := [.int y1]) ⟨hx, hb, hml, hown, hts⟩ (c_X9_suitSet l Γ hG y2 q2.2 q5.1 q5.2 h6 H.size) (cwV 1 hts (wzV K305 K302 K303 K304 K5) rfl rfl rfl (by decide +kernel) ⟨(Nat.le_of_ble_eq_true rfl), (Nat.le_of_ble_eq_true rfl)⟩) (w_preV hK hP hkc hN hS (gM_Model Γ q2.2) rfl) rfl rfl hl.1 rfl (lv_room (Nat.le_of_ble_eq_true rfl)) dX9_starved_24 ⟨Nat.le_refl _, Nat.le_refl _⟩) hS (fun H locs hP hS => ?_)
          refine lv_iconst (v := (-1 : Int32)) hx hb dX9_starved_27 (by decide) ?_
          refine lv_ixor hx hb dX9_starved_28 ?_
          refine lv_goto (tgt := 33) hx hb dX9_starved_29 (by decide) ?_
          refine lv_iand hx hb dX9_starved_33 ?_
          refine lv_istore_n (lv' := [(1, .int (y1 &&& (q5.1 ^^^ (-1 : Int32)))), (0, .ref (Γ.2.2.1 (0))), (2, .int y2)]) hx hb dX9_starved_34 rfl hl (by decide) rfl (fun ls hl => ?_)
          refine lv_iinc (v := (y2 + (1 : Int32))) (lv' := [(2, .int (y2 + (1 : Int32))), (1, .int (y1 &&& (q5.1 ^^^ (-1 : Int32)))), (0, .ref (Γ.2.2.1 (0)))]) hx hb dX9_starved_35 hl (k := 2) rfl rfl (by decide) rfl (fun ls hl => ?_)
          refine lv_goto (tgt := 5) hx hb dX9_starved_38 (by decide) ?_
          exact ih5 ((y1 &&& (q5.1 ^^^ (-1 : Int32)))) ((y2 + (1 : Int32))) q5.2 H locs ls hf hP hS (lv_sub hl [2, 1, 0] rfl)
  suffices hw : ∀ (H : Heap) (locs : List Loc), va_P Γ.1 vwCl (XM Γ σ) H → va_S (wA (alM Γ) s.heap.size) s.heap H locs → W p l e { frames := 76, cells := 0, slots := 0, locals := 2886 } s m av.toArray below meth c H locs 0 0 (MQ below (wQi Γ.1 vwCl (tysC Γ) (XM Γ) (alM Γ) r σ' s.heap.size) av.toArray s 0 0 (wA (alM Γ) s.heap.size)) (F0 m 0 ls []) from hw _ [] hP va_S.rf
  clear hP
  intro H locs hP hS
  unfold f_X9_starved at hf
  refine lv_bipush (v := (63 : Int32)) hx hb dX9_starved_0 (by decide) ?_
  refine lv_istore_n (lv' := [(1, .int (63 : Int32)), (0, .ref (Γ.2.2.1 (0)))]) hx hb dX9_starved_2 rfl hl (by decide) rfl (fun ls hl => ?_)
  refine lv_iconst (v := (0 : Int32)) hx hb dX9_starved_3 (by decide) ?_
  refine lv_istore_n (lv' := [(2, .int (0 : Int32)), (1, .int (63 : Int32)), (0, .ref (Γ.2.2.1 (0)))]) hx hb dX9_starved_4 rfl hl (by decide) rfl (fun ls hl => ?_)
  exact j5 5000 ((63 : Int32)) ((0 : Int32)) σ H locs ls hf hP hS (lv_sub hl [2, 1, 0] rfl)
def f_X9_pour (x1 : Int32) (σ : Sm) : Option (Int32 × Sm) := (f_X9_in ((x1).toInt64) (0 : Int64) (5 : Int64) σ).bind fun (q1 : Int32 × Sm) => if q1.1 = 0 then some ((-2 : Int32), q1.2) else (f_X9_mostNow q1.2).bind fun (q4 : Int32 × Sm) => if (3 : Int32) ≤ x1 then if x1 = (5 : Int32) then (f_X9_starved q4.2).bind fun (q10 : Int32 × Sm) => some (q10.1, q10.2) else (f_X9_pouredNow x1 q4.2).bind fun (q8 : Int32 × Sm) => some (q8.1, q8.2) else if x1 = 0 then some (q4.1, q4.2) else if x1 = (1 : Int32) then some ((q4.2.1 (33) 0), q4.2) else (f_X9_pouredNow (3 : Int32) q4.2).bind fun (q14 : Int32 × Sm) => some ((q4.1 - q14.1), q14.2)
set_option maxHeartbeats 40000000 in
set_option maxRecDepth 100000 in
theorem c_X9_pour (l : Launch) (Γ : Geo) (hG : okM Γ) (x1 : Int32) (σ : Sm) (r : Int32) (σ' : Sm) (hf : f_X9_pour x1 σ = some (r, σ')) (sz : Nat) : Met l yX9_pour (wz yX9_pour cX9_pour 3 (some .int)) { frames := 79, cells := 0, slots := 0, locals := 2960 } (va_Pc [.ref (Γ.2.2.1 (0)), .int x1] (wPre Γ.1 vwCl (tysC Γ) (XM Γ) (alM Γ) Γ.2.2.2 σ sz)) (wQi Γ.1 vwCl (tysC Γ) (XM Γ) (alM Γ) r σ' sz) 0 0 (wA (alM Γ) sz) := by
  refine w_enter (cc := cX9_pour) (maxL := 3) (ret := (some .int)) (by decide) rfl (Nat.le_of_ble_eq_true rfl) ?_
  intro p e s m below meth c ls hx hb hr hlocks hml hown hts hsz hP hK hkc hN hl
  subst hsz
  generalize hav : ([.ref (Γ.2.2.1 (0)), .int x1] : List Value) = av at hl hts ⊢
  have hl : lv_has ls 3 [(0, .ref (Γ.2.2.1 (0))), (1, .int x1)] := by rw [← hav] at hl; exact hl
  suffices hw : ∀ (H : Heap) (locs : List Loc), va_P Γ.1 vwCl (XM Γ σ) H → va_S (wA (alM Γ) s.heap.size) s.heap H locs → W p l e { frames := 79, cells := 0, slots := 0, locals := 2960 } s m av.toArray below meth c H locs 0 0 (MQ below (wQi Γ.1 vwCl (tysC Γ) (XM Γ) (alM Γ) r σ' s.heap.size) av.toArray s 0 0 (wA (alM Γ) s.heap.size)) (F0 m 0 ls []) from hw _ [] hP va_S.rf
  clear hP
  intro H locs hP hS
  unfold f_X9_pour at hf
  refine lv_iload_n hx hb dX9_pour_0 rfl (lv_at hl 1 rfl) ?_
  refine lv_i2l (v := ((x1).toInt64)) hx hb dX9_pour_1 rfl ?_
  refine lv_lconst (v := (0 : Int64)) hx hb dX9_pour_2 (by decide) ?_
  refine lv_ldc2 (v := (5 : Int64)) hx hb hown (hts (.constantLong RX9 84 (5)) (wzm K178)) dX9_pour_3 ?_
  obtain ⟨q1, h2, hf⟩ := w_ob hf
  refine w_ci (va_runS (As := [.long ((x1).toInt64), .long (0 : Int64), .long (5 : Int64)]) (rest := []) ⟨hx, hb, hml, hown, hts⟩ (c_X9_in l Γ hG ((x1).toInt64) (0 : Int64) (5 : Int64) σ q1.1 q1.2 h2 H.size) (cwS 3 hts (wzS K170 K168 K169 K5) rfl rfl rfl (by decide +kernel) ⟨(Nat.le_of_ble_eq_true rfl), (Nat.le_of_ble_eq_true rfl)⟩) (w_pre hK hP hkc hN hS) rfl rfl hl.1 rfl (lv_room (Nat.le_of_ble_eq_true rfl)) dX9_pour_6 ⟨Nat.le_refl _, Nat.le_refl _⟩) hS (fun H locs hP hS => ?_)
  refine lv_if_ne (tgt := 15) hx hb dX9_pour_9 (by decide) (fun c3 => ?_) (fun c3 => ?_)
  · replace hf := (if_neg c3).symm.trans hf
    refine lv_aload_n hx hb dX9_pour_15 rfl (lv_at hl 0 rfl) ?_
    obtain ⟨q4, h5, hf⟩ := w_ob hf
    refine w_ci (va_runV (As := []) (rest := []) ⟨hx, hb, hml, hown, hts⟩ (c_X9_mostNow l Γ hG q1.2 q4.1 q4.2 h5 H.size) (cwV 0 hts (wzV K776 K773 K774 K775 K5) rfl rfl rfl (by decide +kernel) ⟨(Nat.le_of_ble_eq_true rfl), (Nat.le_of_ble_eq_true rfl)⟩) (w_preV hK hP hkc hN hS (gM_Model Γ q1.2) rfl) rfl rfl hl.1 rfl (lv_room (Nat.le_of_ble_eq_true rfl)) dX9_pour_16 ⟨Nat.le_refl _, Nat.le_refl _⟩) hS (fun H locs hP hS => ?_)
    refine lv_istore_n (lv' := [(2, .int q4.1), (0, .ref (Γ.2.2.1 (0))), (1, .int x1)]) hx hb dX9_pour_19 rfl hl (by decide) rfl (fun ls hl => ?_)
    refine lv_iload_n hx hb dX9_pour_20 rfl (lv_at hl 2 rfl) ?_
    refine lv_iconst (v := (3 : Int32)) hx hb dX9_pour_21 (by decide) ?_
    refine lv_icmp_ge (tgt := 53) hx hb dX9_pour_22 (by decide) (fun c6 => ?_) (fun c6 => ?_)
    · replace hf := (if_pos c6).symm.trans hf
      refine lv_iload_n hx hb dX9_pour_53 rfl (lv_at hl 2 rfl) ?_
      refine lv_iconst (v := (5 : Int32)) hx hb dX9_pour_54 (by decide) ?_
      refine lv_icmp_ne (tgt := 65) hx hb dX9_pour_55 (by decide) (fun c7 => ?_) (fun c7 => ?_)
      · replace hf := (if_neg c7).symm.trans hf
        refine lv_aload_n hx hb dX9_pour_65 rfl (lv_at hl 1 rfl) ?_
        refine lv_iload_n hx hb dX9_pour_66 rfl (lv_at hl 2 rfl) ?_
        obtain ⟨q8, h9, hf⟩ := w_ob hf
        refine w_ci (va_runV (As := [.int x1]) (rest := []) ⟨hx, hb, hml, hown, hts⟩ (c_X9_pouredNow l Γ hG x1 q4.2 q8.1 q8.2 h9 H.size) (cwV 1 hts (wzV K789 K786 K787 K788 K5) rfl rfl rfl (by decide +kernel) ⟨(Nat.le_of_ble_eq_true rfl), (Nat.le_of_ble_eq_true rfl)⟩) (w_preV hK hP hkc hN hS (gM_Model Γ q4.2) rfl) rfl rfl hl.1 rfl (lv_room (Nat.le_of_ble_eq_true rfl)) dX9_pour_67 ⟨Nat.le_refl _, Nat.le_refl _⟩) hS (fun H locs hP hS => ?_)
        exact w_iret (X := XM Γ) hx hb hr hlocks hK hP hS rfl hf dX9_pour_70
      · replace hf := (if_pos c7).symm.trans hf
        refine lv_aload_n hx hb dX9_pour_58 rfl (lv_at hl 1 rfl) ?_
        obtain ⟨q10, h11, hf⟩ := w_ob hf
        refine w_ci (va_runV (As := []) (rest := []) ⟨hx, hb, hml, hown, hts⟩ (c_X9_starved l Γ hG q4.2 q10.1 q10.2 h11 H.size) (cwV 0 hts (wzV K793 K790 K791 K792 K5) rfl rfl rfl (by decide +kernel) ⟨(Nat.le_of_ble_eq_true rfl), (Nat.le_of_ble_eq_true rfl)⟩) (w_preV hK hP hkc hN hS (gM_Model Γ q4.2) rfl) rfl rfl hl.1 rfl (lv_room (Nat.le_of_ble_eq_true rfl)) dX9_pour_59 ⟨Nat.le_refl _, Nat.le_refl _⟩) hS (fun H locs hP hS => ?_)
        refine lv_goto (tgt := 70) hx hb dX9_pour_62 (by decide) ?_
        exact w_iret (X := XM Γ) hx hb hr hlocks hK hP hS rfl hf dX9_pour_70
    · replace hf := (if_neg c6).symm.trans hf
      refine lv_iload_n hx hb dX9_pour_25 rfl (lv_at hl 2 rfl) ?_
      refine lv_if_ne (tgt := 33) hx hb dX9_pour_26 (by decide) (fun c12 => ?_) (fun c12 => ?_)
      · replace hf := (if_neg c12).symm.trans hf
        refine lv_iload_n hx hb dX9_pour_33 rfl (lv_at hl 2 rfl) ?_
        refine lv_iconst (v := (1 : Int32)) hx hb dX9_pour_34 (by decide) ?_
        refine lv_icmp_ne (tgt := 45) hx hb dX9_pour_35 (by decide) (fun c13 => ?_) (fun c13 => ?_)
        · replace hf := (if_neg c13).symm.trans hf
          refine lv_iload_n hx hb dX9_pour_45 rfl (lv_at hl 0 rfl) ?_
          refine lv_aload_n hx hb dX9_pour_46 rfl (lv_at hl 1 rfl) ?_
          refine lv_iconst (v := (3 : Int32)) hx hb dX9_pour_47 (by decide) ?_
          obtain ⟨q14, h15, hf⟩ := w_ob hf
          refine w_ci (va_runV (As := [.int (3 : Int32)]) (rest := [.int q4.1]) ⟨hx, hb, hml, hown, hts⟩ (c_X9_pouredNow l Γ hG (3 : Int32) q4.2 q14.1 q14.2 h15 H.size) (cwV 1 hts (wzV K789 K786 K787 K788 K5) rfl rfl rfl (by decide +kernel) ⟨(Nat.le_of_ble_eq_true rfl), (Nat.le_of_ble_eq_true rfl)⟩) (w_preV hK hP hkc hN hS (gM_Model Γ q4.2) rfl) rfl rfl hl.1 rfl (lv_room (Nat.le_of_ble_eq_true rfl)) dX9_pour_48 ⟨Nat.le_refl _, Nat.le_refl _⟩) hS (fun H locs hP hS => ?_)
          refine lv_isub hx hb dX9_pour_51 ?_
          exact w_iret (X := XM Γ) hx hb hr hlocks hK hP hS rfl hf dX9_pour_52
        · replace hf := (if_pos c13).symm.trans hf
          refine lv_aload_n hx hb dX9_pour_38 rfl (lv_at hl 1 rfl) ?_
          refine va_get (D := Γ.1) (ci := 8) (v := .int (q4.2.1 (33) 0)) (C := RX9) (T := TX9) (N := 44) hx hb hts iX9 hown hK hP (0) (gM_Model Γ q4.2) rfl 33 (by decide) (hts (.fieldLink RX9 299 "OtherHalfOfNightModel" "cutSet" "I") (wzm K772)) (fun _ h9 => h9) rfl dX9_pour_39 ?_
          refine lv_goto (tgt := 52) hx hb dX9_pour_42 (by decide) ?_
          exact w_iret (X := XM Γ) hx hb hr hlocks hK hP hS rfl hf dX9_pour_52
      · replace hf := (if_pos c12).symm.trans hf
        refine lv_iload_n hx hb dX9_pour_29 rfl (lv_at hl 0 rfl) ?_
        refine lv_goto (tgt := 52) hx hb dX9_pour_30 (by decide) ?_
        exact w_iret (X := XM Γ) hx hb hr hlocks hK hP hS rfl hf dX9_pour_52
  · replace hf := (if_pos c3).symm.trans hf
    refine lv_bipush (v := (-2 : Int32)) hx hb dX9_pour_12 (by decide) ?_
    exact w_iret (X := XM Γ) hx hb hr hlocks hK hP hS rfl hf dX9_pour_14
def f_X9_best_98 (k38 : Int32 → Int32 → Int32 → Int32 → Sm → Option (Int32 × Sm)) (x1 : Int32) (y4 : Int32) (y5 : Int32) (y6 : Int32) (τ : Sm) : Option (Int32 × Sm) := k38 (y5) (y6) (y4) ((y5 + (1 : Int32))) τ
def f_X9_best_85 (k38 : Int32 → Int32 → Int32 → Int32 → Sm → Option (Int32 × Sm)) (x1 : Int32) (y2 : Int32) (y3 : Int32) (y4 : Int32) (y5 : Int32) (z0 : Int32) (τ : Sm) : Option (Int32 × Sm) := if y2 = (-1 : Int32) then f_X9_best_98 k38 x1 (y4) (y5) (z0) τ else if z0 ≤ y3 then k38 (y2) (y3) (y4) ((y5 + (1 : Int32))) τ else f_X9_best_98 k38 x1 (y4) (y5) (z0) τ
def f_X9_best_38 (x1 : Int32) : Nat → Int32 → Int32 → Int32 → Int32 → Sm → Option (Int32 × Sm)
  | 0, _, _, _, _, _ => none
  | n + 1, y2, y3, y4, y5, τ => if y4 ≤ y5 then if (x1 - x1 / (2 : Int32) * (2 : Int32)) = 0 then some (y2, τ) else some (y3, τ) else if (2 : Int32) ≤ x1 then if (4 : Int32) ≤ x1 then (f_X9_mostBut (-1 : Int32) (-1 : Int32) y5 τ).bind fun (q9 : Int32 × Sm) => f_X9_best_85 (f_X9_best_38 x1 n) x1 (y2) (y3) (y4) (y5) (q9.1) q9.2 else (f_X9_mostBut (-1 : Int32) y5 (-1 : Int32) τ).bind fun (q11 : Int32 × Sm) => f_X9_best_85 (f_X9_best_38 x1 n) x1 (y2) (y3) (y4) (y5) (q11.1) q11.2 else (f_X9_mostBut y5 (-1 : Int32) (-1 : Int32) τ).bind fun (q13 : Int32 × Sm) => f_X9_best_85 (f_X9_best_38 x1 n) x1 (y2) (y3) (y4) (y5) (q13.1) q13.2
def f_X9_best (x1 : Int32) (σ : Sm) : Option (Int32 × Sm) := (f_X9_in ((x1).toInt64) (0 : Int64) (5 : Int64) σ).bind fun (q1 : Int32 × Sm) => if q1.1 = 0 then some ((-2 : Int32), q1.2) else if (2 : Int32) ≤ x1 then f_X9_best_38 x1 5000 ((-1 : Int32)) ((0 : Int32)) ((6 : Int32)) ((0 : Int32)) q1.2 else f_X9_best_38 x1 5000 ((-1 : Int32)) ((0 : Int32)) ((q1.2.1 (12) 0)) ((0 : Int32)) q1.2
set_option maxHeartbeats 40000000 in
set_option maxRecDepth 100000 in
theorem c_X9_best (l : Launch) (Γ : Geo) (hG : okM Γ) (x1 : Int32) (σ : Sm) (r : Int32) (σ' : Sm) (hf : f_X9_best x1 σ = some (r, σ')) (sz : Nat) : Met l yX9_best (wz yX9_best cX9_best 7 (some .int)) { frames := 78, cells := 0, slots := 0, locals := 2940 } (va_Pc [.ref (Γ.2.2.1 (0)), .int x1] (wPre Γ.1 vwCl (tysC Γ) (XM Γ) (alM Γ) Γ.2.2.2 σ sz)) (wQi Γ.1 vwCl (tysC Γ) (XM Γ) (alM Γ) r σ' sz) 0 0 (wA (alM Γ) sz) := by
  refine w_enter (cc := cX9_best) (maxL := 7) (ret := (some .int)) (by decide) rfl (Nat.le_of_ble_eq_true rfl) ?_
  intro p e s m below meth c ls hx hb hr hlocks hml hown hts hsz hP hK hkc hN hl
  subst hsz
  generalize hav : ([.ref (Γ.2.2.1 (0)), .int x1] : List Value) = av at hl hts ⊢
  have hl : lv_has ls 7 [(0, .ref (Γ.2.2.1 (0))), (1, .int x1)] := by rw [← hav] at hl; exact hl
  have j38 : ∀ (n38 : Nat), ∀ (y2 : Int32) (y3 : Int32) (y4 : Int32) (y5 : Int32) (τ : Sm) (H : Heap) (locs : List Loc) (ls : Array Slot) (hf : f_X9_best_38 x1 n38 y2 y3 y4 y5 τ = some (r, σ')) (hP : va_P Γ.1 vwCl (XM Γ τ) H) (hS : va_S (wA (alM Γ) s.heap.size) s.heap H locs) (hl : lv_has ls 7 [(0, .ref (Γ.2.2.1 (0))), (1, .int x1), (2, .int y2), (3, .int y3), (4, .int y4), (5, .int y5)]), W p l e { frames := 78, cells := 0, slots := 0, locals := 2940 } s m av.toArray below meth c H locs 0 0 (MQ below (wQi Γ.1 vwCl (tysC Γ) (XM Γ) (alM Γ) r σ' s.heap.size) av.toArray s 0 0 (wA (alM Γ) s.heap.size)) (F0 m 38 ls []) := by
    intro n38
    induction n38 with
    | zero =>
      intro y2 y3 y4 y5 τ H locs ls hf
      exact absurd hf (by intro h; cases h)
    | succ n38 ih38 =>
      have j98 : ∀ (y4 : Int32) (y5 : Int32) (y6 : Int32) (τ : Sm) (H : Heap) (locs : List Loc) (ls : Array Slot) (hf : f_X9_best_98 (f_X9_best_38 x1 n38) x1 y4 y5 y6 τ = some (r, σ')) (hP : va_P Γ.1 vwCl (XM Γ τ) H) (hS : va_S (wA (alM Γ) s.heap.size) s.heap H locs) (hl : lv_has ls 7 [(0, .ref (Γ.2.2.1 (0))), (1, .int x1), (4, .int y4), (5, .int y5), (6, .int y6)]), W p l e { frames := 78, cells := 0, slots := 0, locals := 2940 } s m av.toArray below meth c H locs 0 0 (MQ below (wQi Γ.1 vwCl (tysC Γ) (XM Γ) (alM Γ) r σ' s.heap.size) av.toArray s 0 0 (wA (alM Γ) s.heap.size)) (F0 m 98 ls []) := by
        intro y4 y5 y6 τ H locs ls hf hP hS hl
        unfold f_X9_best_98 at hf
        refine lv_iload hx hb dX9_best_98 (lv_at hl 3 rfl) ?_
        refine lv_istore_n (lv' := [(2, .int y5), (0, .ref (Γ.2.2.1 (0))), (1, .int x1), (4, .int y4), (5, .int y5), (6, .int y6)]) hx hb dX9_best_100 rfl hl (by decide) rfl (fun ls hl => ?_)
        refine lv_iload hx hb dX9_best_101 (lv_at hl 5 rfl) ?_
        refine lv_istore_n (lv' := [(3, .int y6), (2, .int y5), (0, .ref (Γ.2.2.1 (0))), (1, .int x1), (4, .int y4), (5, .int y5), (6, .int y6)]) hx hb dX9_best_103 rfl hl (by decide) rfl (fun ls hl => ?_)
        refine lv_iinc (v := (y5 + (1 : Int32))) (lv' := [(5, .int (y5 + (1 : Int32))), (3, .int y6), (2, .int y5), (0, .ref (Γ.2.2.1 (0))), (1, .int x1), (4, .int y4), (6, .int y6)]) hx hb dX9_best_104 hl (k := 5) rfl rfl (by decide) rfl (fun ls hl => ?_)
        refine lv_goto (tgt := 38) hx hb dX9_best_107 (by decide) ?_
        exact ih38 (y5) (y6) (y4) ((y5 + (1 : Int32))) τ H locs ls hf hP hS (lv_sub hl [3, 4, 2, 1, 5, 0] rfl)
      have j85 : ∀ (y2 : Int32) (y3 : Int32) (y4 : Int32) (y5 : Int32) (z0 : Int32) (τ : Sm) (H : Heap) (locs : List Loc) (ls : Array Slot) (hf : f_X9_best_85 (f_X9_best_38 x1 n38) x1 y2 y3 y4 y5 z0 τ = some (r, σ')) (hP : va_P Γ.1 vwCl (XM Γ τ) H) (hS : va_S (wA (alM Γ) s.heap.size) s.heap H locs) (hl : lv_has ls 7 [(0, .ref (Γ.2.2.1 (0))), (1, .int x1), (2, .int y2), (3, .int y3), (4, .int y4), (5, .int y5)]), W p l e { frames := 78, cells := 0, slots := 0, locals := 2940 } s m av.toArray below meth c H locs 0 0 (MQ below (wQi Γ.1 vwCl (tysC Γ) (XM Γ) (alM Γ) r σ' s.heap.size) av.toArray s 0 0 (wA (alM Γ) s.heap.size)) (F0 m 85 ls [.int z0]) := by
        intro y2 y3 y4 y5 z0 τ H locs ls hf hP hS hl
        unfold f_X9_best_85 at hf
        refine lv_istore (lv' := [(6, .int z0), (0, .ref (Γ.2.2.1 (0))), (1, .int x1), (2, .int y2), (3, .int y3), (4, .int y4), (5, .int y5)]) hx hb dX9_best_85 hl (by decide) rfl (fun ls hl => ?_)
        refine lv_iload_n hx hb dX9_best_87 rfl (lv_at hl 3 rfl) ?_
        refine lv_iconst (v := (-1 : Int32)) hx hb dX9_best_88 (by decide) ?_
        refine lv_icmp_eq (tgt := 98) hx hb dX9_best_89 (by decide) (fun c15 => ?_) (fun c15 => ?_)
        · replace hf := (if_pos c15).symm.trans hf
          exact j98 (y4) (y5) (z0) τ H locs ls hf hP hS (lv_sub hl [1, 2, 5, 6, 0] rfl)
        · replace hf := (if_neg c15).symm.trans hf
          refine lv_iload hx hb dX9_best_92 (lv_at hl 0 rfl) ?_
          refine lv_iload_n hx hb dX9_best_94 rfl (lv_at hl 4 rfl) ?_
          refine lv_icmp_le (tgt := 104) hx hb dX9_best_95 (by decide) (fun c16 => ?_) (fun c16 => ?_)
          · replace hf := (if_pos c16).symm.trans hf
            refine lv_iinc (v := (y5 + (1 : Int32))) (lv' := [(5, .int (y5 + (1 : Int32))), (6, .int z0), (0, .ref (Γ.2.2.1 (0))), (1, .int x1), (2, .int y2), (3, .int y3), (4, .int y4)]) hx hb dX9_best_104 hl (k := 6) rfl rfl (by decide) rfl (fun ls hl => ?_)
            refine lv_goto (tgt := 38) hx hb dX9_best_107 (by decide) ?_
            exact ih38 (y2) (y3) (y4) ((y5 + (1 : Int32))) τ H locs ls hf hP hS (lv_sub hl [2, 3, 4, 5, 6, 0] rfl)
          · replace hf := (if_neg c16).symm.trans hf
            exact j98 (y4) (y5) (z0) τ H locs ls hf hP hS (lv_sub hl [1, 2, 5, 6, 0] rfl)
      intro y2 y3 y4 y5 τ H locs ls hf hP hS hl
      unfold f_X9_best_38 at hf
      refine lv_iload hx hb dX9_best_38 (lv_at hl 5 rfl) ?_
      refine lv_iload hx hb dX9_best_40 (lv_at hl 4 rfl) ?_
      refine lv_icmp_ge (tgt := 110) hx hb dX9_best_42 (by decide) (fun c5 => ?_) (fun c5 => ?_)
      · replace hf := (if_pos c5).symm.trans hf
        refine lv_iload_n hx hb dX9_best_110 rfl (lv_at hl 1 rfl) ?_
        refine lv_iconst (v := (2 : Int32)) hx hb dX9_best_111 (by decide) ?_
        refine lv_irem hx hb dX9_best_112 (by decide) ?_
        refine lv_if_ne (tgt := 120) hx hb dX9_best_113 (by decide) (fun c6 => ?_) (fun c6 => ?_)
        · replace hf := (if_neg c6).symm.trans hf
          refine lv_iload_n hx hb dX9_best_120 rfl (lv_at hl 3 rfl) ?_
          exact w_iret (X := XM Γ) hx hb hr hlocks hK hP hS rfl hf dX9_best_121
        · replace hf := (if_pos c6).symm.trans hf
          refine lv_iload_n hx hb dX9_best_116 rfl (lv_at hl 2 rfl) ?_
          refine lv_goto (tgt := 121) hx hb dX9_best_117 (by decide) ?_
          exact w_iret (X := XM Γ) hx hb hr hlocks hK hP hS rfl hf dX9_best_121
      · replace hf := (if_neg c5).symm.trans hf
        refine lv_iload_n hx hb dX9_best_45 rfl (lv_at hl 1 rfl) ?_
        refine lv_iconst (v := (2 : Int32)) hx hb dX9_best_46 (by decide) ?_
        refine lv_icmp_ge (tgt := 61) hx hb dX9_best_47 (by decide) (fun c7 => ?_) (fun c7 => ?_)
        · replace hf := (if_pos c7).symm.trans hf
          refine lv_iload_n hx hb dX9_best_61 rfl (lv_at hl 1 rfl) ?_
          refine lv_iconst (v := (4 : Int32)) hx hb dX9_best_62 (by decide) ?_
          refine lv_icmp_ge (tgt := 77) hx hb dX9_best_63 (by decide) (fun c8 => ?_) (fun c8 => ?_)
          · replace hf := (if_pos c8).symm.trans hf
            refine lv_aload_n hx hb dX9_best_77 rfl (lv_at hl 0 rfl) ?_
            refine lv_iconst (v := (-1 : Int32)) hx hb dX9_best_78 (by decide) ?_
            refine lv_iconst (v := (-1 : Int32)) hx hb dX9_best_79 (by decide) ?_
            refine lv_iload hx hb dX9_best_80 (lv_at hl 5 rfl) ?_
            obtain ⟨q9, h10, hf⟩ := w_ob hf
            refine w_ci (va_runV (As := [.int (-1 : Int32), .int (-1 : Int32), .int y5]) (rest := []) ⟨hx, hb, hml, hown, hts⟩ (c_X9_mostBut l Γ hG (-1 : Int32) (-1 : Int32) y5 τ q9.1 q9.2 h10 H.size) (cwV 3 hts (wzV K780 K777 K778 K779 K5) rfl rfl rfl (by decide +kernel) ⟨(Nat.le_of_ble_eq_true rfl), (Nat.le_of_ble_eq_true rfl)⟩) (w_preV hK hP hkc hN hS (gM_Model Γ τ) rfl) rfl rfl hl.1 rfl (lv_room (Nat.le_of_ble_eq_true rfl)) dX9_best_82 ⟨Nat.le_refl _, Nat.le_refl _⟩) hS (fun H locs hP hS => ?_)
            exact j85 (y2) (y3) (y4) (y5) (q9.1) q9.2 H locs ls hf hP hS (lv_sub hl [0, 1, 2, 3, 4, 5] rfl)
          · replace hf := (if_neg c8).symm.trans hf
            refine lv_aload_n hx hb dX9_best_66 rfl (lv_at hl 0 rfl) ?_
            refine lv_iconst (v := (-1 : Int32)) hx hb dX9_best_67 (by decide) ?_
            refine lv_iload hx hb dX9_best_68 (lv_at hl 5 rfl) ?_
            refine lv_iconst (v := (-1 : Int32)) hx hb dX9_best_70 (by decide) ?_
            obtain ⟨q11, h12, hf⟩ := w_ob hf
            refine w_ci (va_runV (As := [.int (-1 : Int32), .int y5, .int (-1 : Int32)]) (rest := []) ⟨hx, hb, hml, hown, hts⟩ (c_X9_mostBut l Γ hG (-1 : Int32) y5 (-1 : Int32) τ q11.1 q11.2 h12 H.size) (cwV 3 hts (wzV K780 K777 K778 K779 K5) rfl rfl rfl (by decide +kernel) ⟨(Nat.le_of_ble_eq_true rfl), (Nat.le_of_ble_eq_true rfl)⟩) (w_preV hK hP hkc hN hS (gM_Model Γ τ) rfl) rfl rfl hl.1 rfl (lv_room (Nat.le_of_ble_eq_true rfl)) dX9_best_71 ⟨Nat.le_refl _, Nat.le_refl _⟩) hS (fun H locs hP hS => ?_)
            refine lv_goto (tgt := 85) hx hb dX9_best_74 (by decide) ?_
            exact j85 (y2) (y3) (y4) (y5) (q11.1) q11.2 H locs ls hf hP hS (lv_sub hl [0, 1, 2, 3, 4, 5] rfl)
        · replace hf := (if_neg c7).symm.trans hf
          refine lv_aload_n hx hb dX9_best_50 rfl (lv_at hl 0 rfl) ?_
          refine lv_iload hx hb dX9_best_51 (lv_at hl 5 rfl) ?_
          refine lv_iconst (v := (-1 : Int32)) hx hb dX9_best_53 (by decide) ?_
          refine lv_iconst (v := (-1 : Int32)) hx hb dX9_best_54 (by decide) ?_
          obtain ⟨q13, h14, hf⟩ := w_ob hf
          refine w_ci (va_runV (As := [.int y5, .int (-1 : Int32), .int (-1 : Int32)]) (rest := []) ⟨hx, hb, hml, hown, hts⟩ (c_X9_mostBut l Γ hG y5 (-1 : Int32) (-1 : Int32) τ q13.1 q13.2 h14 H.size) (cwV 3 hts (wzV K780 K777 K778 K779 K5) rfl rfl rfl (by decide +kernel) ⟨(Nat.le_of_ble_eq_true rfl), (Nat.le_of_ble_eq_true rfl)⟩) (w_preV hK hP hkc hN hS (gM_Model Γ τ) rfl) rfl rfl hl.1 rfl (lv_room (Nat.le_of_ble_eq_true rfl)) dX9_best_55 ⟨Nat.le_refl _, Nat.le_refl _⟩) hS (fun H locs hP hS => ?_)
          refine lv_goto (tgt := 85) hx hb dX9_best_58 (by decide) ?_
          exact j85 (y2) (y3) (y4) (y5) (q13.1) q13.2 H locs ls hf hP hS (lv_sub hl [0, 1, 2, 3, 4, 5] rfl)
  suffices hw : ∀ (H : Heap) (locs : List Loc), va_P Γ.1 vwCl (XM Γ σ) H → va_S (wA (alM Γ) s.heap.size) s.heap H locs → W p l e { frames := 78, cells := 0, slots := 0, locals := 2940 } s m av.toArray below meth c H locs 0 0 (MQ below (wQi Γ.1 vwCl (tysC Γ) (XM Γ) (alM Γ) r σ' s.heap.size) av.toArray s 0 0 (wA (alM Γ) s.heap.size)) (F0 m 0 ls []) from hw _ [] hP va_S.rf
  clear hP
  intro H locs hP hS
  unfold f_X9_best at hf
  refine lv_iload_n hx hb dX9_best_0 rfl (lv_at hl 1 rfl) ?_
  refine lv_i2l (v := ((x1).toInt64)) hx hb dX9_best_1 rfl ?_
  refine lv_lconst (v := (0 : Int64)) hx hb dX9_best_2 (by decide) ?_
  refine lv_ldc2 (v := (5 : Int64)) hx hb hown (hts (.constantLong RX9 84 (5)) (wzm K178)) dX9_best_3 ?_
  obtain ⟨q1, h2, hf⟩ := w_ob hf
  refine w_ci (va_runS (As := [.long ((x1).toInt64), .long (0 : Int64), .long (5 : Int64)]) (rest := []) ⟨hx, hb, hml, hown, hts⟩ (c_X9_in l Γ hG ((x1).toInt64) (0 : Int64) (5 : Int64) σ q1.1 q1.2 h2 H.size) (cwS 3 hts (wzS K170 K168 K169 K5) rfl rfl rfl (by decide +kernel) ⟨(Nat.le_of_ble_eq_true rfl), (Nat.le_of_ble_eq_true rfl)⟩) (w_pre hK hP hkc hN hS) rfl rfl hl.1 rfl (lv_room (Nat.le_of_ble_eq_true rfl)) dX9_best_6 ⟨Nat.le_refl _, Nat.le_refl _⟩) hS (fun H locs hP hS => ?_)
  refine lv_if_ne (tgt := 15) hx hb dX9_best_9 (by decide) (fun c3 => ?_) (fun c3 => ?_)
  · replace hf := (if_neg c3).symm.trans hf
    refine lv_iconst (v := (-1 : Int32)) hx hb dX9_best_15 (by decide) ?_
    refine lv_istore_n (lv' := [(2, .int (-1 : Int32)), (0, .ref (Γ.2.2.1 (0))), (1, .int x1)]) hx hb dX9_best_16 rfl hl (by decide) rfl (fun ls hl => ?_)
    refine lv_iconst (v := (0 : Int32)) hx hb dX9_best_17 (by decide) ?_
    refine lv_istore_n (lv' := [(3, .int (0 : Int32)), (2, .int (-1 : Int32)), (0, .ref (Γ.2.2.1 (0))), (1, .int x1)]) hx hb dX9_best_18 rfl hl (by decide) rfl (fun ls hl => ?_)
    refine lv_iload_n hx hb dX9_best_19 rfl (lv_at hl 3 rfl) ?_
    refine lv_iconst (v := (2 : Int32)) hx hb dX9_best_20 (by decide) ?_
    refine lv_icmp_ge (tgt := 31) hx hb dX9_best_21 (by decide) (fun c4 => ?_) (fun c4 => ?_)
    · replace hf := (if_pos c4).symm.trans hf
      refine lv_bipush (v := (6 : Int32)) hx hb dX9_best_31 (by decide) ?_
      refine lv_istore (lv' := [(4, .int (6 : Int32)), (3, .int (0 : Int32)), (2, .int (-1 : Int32)), (0, .ref (Γ.2.2.1 (0))), (1, .int x1)]) hx hb dX9_best_33 hl (by decide) rfl (fun ls hl => ?_)
      refine lv_iconst (v := (0 : Int32)) hx hb dX9_best_35 (by decide) ?_
      refine lv_istore (lv' := [(5, .int (0 : Int32)), (4, .int (6 : Int32)), (3, .int (0 : Int32)), (2, .int (-1 : Int32)), (0, .ref (Γ.2.2.1 (0))), (1, .int x1)]) hx hb dX9_best_36 hl (by decide) rfl (fun ls hl => ?_)
      exact j38 5000 ((-1 : Int32)) ((0 : Int32)) ((6 : Int32)) ((0 : Int32)) q1.2 H locs ls hf hP hS (lv_sub hl [4, 5, 3, 2, 1, 0] rfl)
    · replace hf := (if_neg c4).symm.trans hf
      refine lv_aload_n hx hb dX9_best_24 rfl (lv_at hl 2 rfl) ?_
      refine va_get (D := Γ.1) (ci := 8) (v := .int (q1.2.1 (12) 0)) (C := RX9) (T := TX9) (N := 44) hx hb hts iX9 hown hK hP (0) (gM_Model Γ q1.2) rfl 12 (by decide) (hts (.fieldLink RX9 77 "OtherHalfOfNightModel" "many" "I") (wzm K183)) (fun _ h9 => h9) rfl dX9_best_25 ?_
      refine lv_goto (tgt := 33) hx hb dX9_best_28 (by decide) ?_
      refine lv_istore (lv' := [(4, .int (q1.2.1 (12) 0)), (3, .int (0 : Int32)), (2, .int (-1 : Int32)), (0, .ref (Γ.2.2.1 (0))), (1, .int x1)]) hx hb dX9_best_33 hl (by decide) rfl (fun ls hl => ?_)
      refine lv_iconst (v := (0 : Int32)) hx hb dX9_best_35 (by decide) ?_
      refine lv_istore (lv' := [(5, .int (0 : Int32)), (4, .int (q1.2.1 (12) 0)), (3, .int (0 : Int32)), (2, .int (-1 : Int32)), (0, .ref (Γ.2.2.1 (0))), (1, .int x1)]) hx hb dX9_best_36 hl (by decide) rfl (fun ls hl => ?_)
      exact j38 5000 ((-1 : Int32)) ((0 : Int32)) ((q1.2.1 (12) 0)) ((0 : Int32)) q1.2 H locs ls hf hP hS (lv_sub hl [4, 5, 3, 2, 1, 0] rfl)
  · replace hf := (if_pos c3).symm.trans hf
    refine lv_bipush (v := (-2 : Int32)) hx hb dX9_best_12 (by decide) ?_
    exact w_iret (X := XM Γ) hx hb hr hlocks hK hP hS rfl hf dX9_best_14
def f_X9_lowest_6 (x0 : Int64) (x2 : Int64) (x4 : Int32) : Nat → Int64 → Int64 → Sm → Option (Int64 × Sm)
  | 0, _, _, _ => none
  | n + 1, y5, y7, τ => if (lg_cmp y7 (0 : Int64)) = 0 then if x4 = 0 then if ¬ y5 = 0 then some ((x0 / y5), τ) else none else if ¬ y5 = 0 then some ((x2 / y5), τ) else none else if ¬ y7 = 0 then (f_X9_lowest_6 x0 x2 x4 n) (y7) ((y5 - y5 / y7 * y7)) τ else none
def f_X9_lowest (x0 : Int64) (x2 : Int64) (x4 : Int32) (σ : Sm) : Option (Int64 × Sm) := f_X9_lowest_6 x0 x2 x4 5000 (x0) (x2) σ
set_option maxHeartbeats 40000000 in
set_option maxRecDepth 100000 in
theorem c_X9_lowest (l : Launch) (Γ : Geo) (hG : okM Γ) (x0 : Int64) (x2 : Int64) (x4 : Int32) (σ : Sm) (r : Int64) (σ' : Sm) (hf : f_X9_lowest x0 x2 x4 σ = some (r, σ')) (sz : Nat) : Met l yX9_lowest (wz yX9_lowest cX9_lowest 11 (some .long)) { frames := 0, cells := 0, slots := 0, locals := 0 } (va_Pc [.long x0, .long x2, .int x4] (wPre Γ.1 vwCl (tysC Γ) (XM Γ) (alM Γ) Γ.2.2.2 σ sz)) (wQl Γ.1 vwCl (tysC Γ) (XM Γ) (alM Γ) r σ' sz) 0 0 (wA (alM Γ) sz) := by
  refine w_enter (cc := cX9_lowest) (maxL := 11) (ret := (some .long)) (by decide) rfl (Nat.le_of_ble_eq_true rfl) ?_
  intro p e s m below meth c ls hx hb hr hlocks hml hown hts hsz hP hK hkc hN hl
  subst hsz
  generalize hav : ([.long x0, .long x2, .int x4] : List Value) = av at hl hts ⊢
  have hl : lv_has ls 11 [(0, .long x0), (2, .long x2), (4, .int x4)] := by rw [← hav] at hl; exact hl
  have j6 : ∀ (n6 : Nat), ∀ (y5 : Int64) (y7 : Int64) (τ : Sm) (H : Heap) (locs : List Loc) (ls : Array Slot) (hf : f_X9_lowest_6 x0 x2 x4 n6 y5 y7 τ = some (r, σ')) (hP : va_P Γ.1 vwCl (XM Γ τ) H) (hS : va_S (wA (alM Γ) s.heap.size) s.heap H locs) (hl : lv_has ls 11 [(0, .long x0), (2, .long x2), (4, .int x4), (5, .long y5), (7, .long y7)]), W p l e { frames := 0, cells := 0, slots := 0, locals := 0 } s m av.toArray below meth c H locs 0 0 (MQ below (wQl Γ.1 vwCl (tysC Γ) (XM Γ) (alM Γ) r σ' s.heap.size) av.toArray s 0 0 (wA (alM Γ) s.heap.size)) (F0 m 6 ls []) := by
    intro n6
    induction n6 with
    | zero =>
      intro y5 y7 τ H locs ls hf
      exact absurd hf (by intro h; cases h)
    | succ n6 ih6 =>
      intro y5 y7 τ H locs ls hf hP hS hl
      unfold f_X9_lowest_6 at hf
      refine lv_lload hx hb dX9_lowest_6 (lv_at hl 4 rfl) ?_
      refine lv_lconst (v := (0 : Int64)) hx hb dX9_lowest_8 (by decide) ?_
      refine W.lcmp hx hb dX9_lowest_9 ?_
      refine lv_if_eq (tgt := 31) hx hb dX9_lowest_10 (by decide) (fun c1 => ?_) (fun c1 => ?_)
      · replace hf := (if_pos c1).symm.trans hf
        refine lv_iload hx hb dX9_lowest_31 (lv_at hl 2 rfl) ?_
        refine lv_if_ne (tgt := 43) hx hb dX9_lowest_33 (by decide) (fun c2 => ?_) (fun c2 => ?_)
        · replace hf := (if_neg c2).symm.trans hf
          refine lv_lload_n hx hb dX9_lowest_43 rfl (lv_at hl 1 rfl) ?_
          refine lv_lload hx hb dX9_lowest_44 (lv_at hl 3 rfl) ?_
          obtain ⟨g3, hf⟩ := w_oi hf
          refine lv_ldiv hx hb dX9_lowest_46 g3 ?_
          exact w_lret (X := XM Γ) hx hb hr hlocks hK hP hS hf dX9_lowest_47
        · replace hf := (if_pos c2).symm.trans hf
          refine lv_lload_n hx hb dX9_lowest_36 rfl (lv_at hl 0 rfl) ?_
          refine lv_lload hx hb dX9_lowest_37 (lv_at hl 3 rfl) ?_
          obtain ⟨g4, hf⟩ := w_oi hf
          refine lv_ldiv hx hb dX9_lowest_39 g4 ?_
          refine lv_goto (tgt := 47) hx hb dX9_lowest_40 (by decide) ?_
          exact w_lret (X := XM Γ) hx hb hr hlocks hK hP hS hf dX9_lowest_47
      · replace hf := (if_neg c1).symm.trans hf
        refine lv_lload hx hb dX9_lowest_13 (lv_at hl 3 rfl) ?_
        refine lv_lload hx hb dX9_lowest_15 (lv_at hl 4 rfl) ?_
        obtain ⟨g5, hf⟩ := w_oi hf
        refine lv_lrem hx hb dX9_lowest_17 g5 ?_
        refine lv_lstore (lv' := [(9, .long (y5 - y5 / y7 * y7)), (0, .long x0), (2, .long x2), (4, .int x4), (5, .long y5), (7, .long y7)]) hx hb dX9_lowest_18 hl (by decide) rfl (fun ls hl => ?_)
        refine lv_lload hx hb dX9_lowest_20 (lv_at hl 5 rfl) ?_
        refine lv_lstore (lv' := [(5, .long y7), (9, .long (y5 - y5 / y7 * y7)), (0, .long x0), (2, .long x2), (4, .int x4), (7, .long y7)]) hx hb dX9_lowest_22 hl (by decide) rfl (fun ls hl => ?_)
        refine lv_lload hx hb dX9_lowest_24 (lv_at hl 1 rfl) ?_
        refine lv_lstore (lv' := [(7, .long (y5 - y5 / y7 * y7)), (5, .long y7), (9, .long (y5 - y5 / y7 * y7)), (0, .long x0), (2, .long x2), (4, .int x4)]) hx hb dX9_lowest_26 hl (by decide) rfl (fun ls hl => ?_)
        refine lv_goto (tgt := 6) hx hb dX9_lowest_28 (by decide) ?_
        exact ih6 (y7) ((y5 - y5 / y7 * y7)) τ H locs ls hf hP hS (lv_sub hl [3, 4, 5, 1, 0] rfl)
  suffices hw : ∀ (H : Heap) (locs : List Loc), va_P Γ.1 vwCl (XM Γ σ) H → va_S (wA (alM Γ) s.heap.size) s.heap H locs → W p l e { frames := 0, cells := 0, slots := 0, locals := 0 } s m av.toArray below meth c H locs 0 0 (MQ below (wQl Γ.1 vwCl (tysC Γ) (XM Γ) (alM Γ) r σ' s.heap.size) av.toArray s 0 0 (wA (alM Γ) s.heap.size)) (F0 m 0 ls []) from hw _ [] hP va_S.rf
  clear hP
  intro H locs hP hS
  unfold f_X9_lowest at hf
  refine lv_lload_n hx hb dX9_lowest_0 rfl (lv_at hl 0 rfl) ?_
  refine lv_lstore (lv' := [(5, .long x0), (0, .long x0), (2, .long x2), (4, .int x4)]) hx hb dX9_lowest_1 hl (by decide) rfl (fun ls hl => ?_)
  refine lv_lload_n hx hb dX9_lowest_3 rfl (lv_at hl 2 rfl) ?_
  refine lv_lstore (lv' := [(7, .long x2), (5, .long x0), (0, .long x0), (2, .long x2), (4, .int x4)]) hx hb dX9_lowest_4 hl (by decide) rfl (fun ls hl => ?_)
  exact j6 5000 (x0) (x2) σ H locs ls hf hP hS (lv_sub hl [2, 3, 4, 1, 0] rfl)
def f_X9_blend (x1 : Int32) (x2 : Int32) (x3 : Int32) (σ : Sm) : Option (Int64 × Sm) := (f_X9_isOne x1 σ).bind fun (q1 : Int32 × Sm) => if q1.1 = 0 then some ((-4611686018427387904 : Int64), q1.2) else (f_X9_isCup x2 q1.2).bind fun (q4 : Int32 × Sm) => if q4.1 = 0 then some ((-4611686018427387904 : Int64), q4.2) else (f_X9_in ((x3).toInt64) (0 : Int64) (1 : Int64) q4.2).bind fun (q7 : Int32 × Sm) => if q7.1 = 0 then some ((-4611686018427387904 : Int64), q7.2) else (f_X9_laysAside q7.2).bind fun (q10 : Sm) => (f_X9_passes q10).bind fun (q12 : Int32 × Sm) => if okI (((3 : Int32) * x2) + (2 : Int32)) 18 then (f_X9_laysBack q12.2).bind fun (q15 : Sm) => if (q12.2.1 (11) ((((3 : Int32) * x2) + (2 : Int32))).toNatClampNeg) = 0 then some ((-4611686018427387904 : Int64), q15) else if okI (((6 : Int32) * x1) + x2) 30 then (f_X9_lowest (((q15.1 (30) ((((6 : Int32) * x1) + x2)).toNatClampNeg)).toInt64) (((q12.2.1 (11) ((((3 : Int32) * x2) + (2 : Int32))).toNatClampNeg)).toInt64) x3 q15).bind fun (q19 : Int64 × Sm) => some (q19.1, q19.2) else none else none
set_option maxHeartbeats 40000000 in
set_option maxRecDepth 100000 in
theorem c_X9_blend (l : Launch) (Γ : Geo) (hG : okM Γ) (x1 : Int32) (x2 : Int32) (x3 : Int32) (σ : Sm) (r : Int64) (σ' : Sm) (hf : f_X9_blend x1 x2 x3 σ = some (r, σ')) (sz : Nat) : Met l yX9_blend (wz yX9_blend cX9_blend 5 (some .long)) { frames := 76, cells := 0, slots := 0, locals := 2888 } (va_Pc [.ref (Γ.2.2.1 (0)), .int x1, .int x2, .int x3] (wPre Γ.1 vwCl (tysC Γ) (XM Γ) (alM Γ) Γ.2.2.2 σ sz)) (wQl Γ.1 vwCl (tysC Γ) (XM Γ) (alM Γ) r σ' sz) 0 0 (wA (alM Γ) sz) := by
  refine w_enter (cc := cX9_blend) (maxL := 5) (ret := (some .long)) (by decide) rfl (Nat.le_of_ble_eq_true rfl) ?_
  intro p e s m below meth c ls hx hb hr hlocks hml hown hts hsz hP hK hkc hN hl
  subst hsz
  generalize hav : ([.ref (Γ.2.2.1 (0)), .int x1, .int x2, .int x3] : List Value) = av at hl hts ⊢
  have hl : lv_has ls 5 [(0, .ref (Γ.2.2.1 (0))), (1, .int x1), (2, .int x2), (3, .int x3)] := by rw [← hav] at hl; exact hl
  suffices hw : ∀ (H : Heap) (locs : List Loc), va_P Γ.1 vwCl (XM Γ σ) H → va_S (wA (alM Γ) s.heap.size) s.heap H locs → W p l e { frames := 76, cells := 0, slots := 0, locals := 2888 } s m av.toArray below meth c H locs 0 0 (MQ below (wQl Γ.1 vwCl (tysC Γ) (XM Γ) (alM Γ) r σ' s.heap.size) av.toArray s 0 0 (wA (alM Γ) s.heap.size)) (F0 m 0 ls []) from hw _ [] hP va_S.rf
  clear hP
  intro H locs hP hS
  unfold f_X9_blend at hf
  refine lv_aload_n hx hb dX9_blend_0 rfl (lv_at hl 0 rfl) ?_
  refine lv_iload_n hx hb dX9_blend_1 rfl (lv_at hl 1 rfl) ?_
  obtain ⟨q1, h2, hf⟩ := w_ob hf
  refine w_ci (va_runV (As := [.int x1]) (rest := []) ⟨hx, hb, hml, hown, hts⟩ (c_X9_isOne l Γ hG x1 σ q1.1 q1.2 h2 H.size) (cwV 1 hts (wzV K182 K179 K180 K181 K5) rfl rfl rfl (by decide +kernel) ⟨(Nat.le_of_ble_eq_true rfl), (Nat.le_of_ble_eq_true rfl)⟩) (w_preV hK hP hkc hN hS (gM_Model Γ σ) rfl) rfl rfl hl.1 rfl (lv_room (Nat.le_of_ble_eq_true rfl)) dX9_blend_2 ⟨Nat.le_refl _, Nat.le_refl _⟩) hS (fun H locs hP hS => ?_)
  refine lv_if_eq (tgt := 25) hx hb dX9_blend_5 (by decide) (fun c3 => ?_) (fun c3 => ?_)
  · replace hf := (if_pos c3).symm.trans hf
    refine lv_ldc2 (v := (-4611686018427387904 : Int64)) hx hb hown (hts (.constantLong RX9 314 (-4611686018427387904)) (wzm K842)) dX9_blend_25 ?_
    exact w_lret (X := XM Γ) hx hb hr hlocks hK hP hS hf dX9_blend_28
  · replace hf := (if_neg c3).symm.trans hf
    refine lv_iload_n hx hb dX9_blend_8 rfl (lv_at hl 2 rfl) ?_
    obtain ⟨q4, h5, hf⟩ := w_ob hf
    refine w_ci (va_runS (As := [.int x2]) (rest := []) ⟨hx, hb, hml, hown, hts⟩ (c_X9_isCup l Γ hG x2 q1.2 q4.1 q4.2 h5 H.size) (cwS 1 hts (wzS K177 K175 K176 K5) rfl rfl rfl (by decide +kernel) ⟨(Nat.le_of_ble_eq_true rfl), (Nat.le_of_ble_eq_true rfl)⟩) (w_pre hK hP hkc hN hS) rfl rfl hl.1 rfl (lv_room (Nat.le_of_ble_eq_true rfl)) dX9_blend_9 ⟨Nat.le_refl _, Nat.le_refl _⟩) hS (fun H locs hP hS => ?_)
    refine lv_if_eq (tgt := 25) hx hb dX9_blend_12 (by decide) (fun c6 => ?_) (fun c6 => ?_)
    · replace hf := (if_pos c6).symm.trans hf
      refine lv_ldc2 (v := (-4611686018427387904 : Int64)) hx hb hown (hts (.constantLong RX9 314 (-4611686018427387904)) (wzm K842)) dX9_blend_25 ?_
      exact w_lret (X := XM Γ) hx hb hr hlocks hK hP hS hf dX9_blend_28
    · replace hf := (if_neg c6).symm.trans hf
      refine lv_iload_n hx hb dX9_blend_15 rfl (lv_at hl 3 rfl) ?_
      refine lv_i2l (v := ((x3).toInt64)) hx hb dX9_blend_16 rfl ?_
      refine lv_lconst (v := (0 : Int64)) hx hb dX9_blend_17 (by decide) ?_
      refine lv_lconst (v := (1 : Int64)) hx hb dX9_blend_18 (by decide) ?_
      obtain ⟨q7, h8, hf⟩ := w_ob hf
      refine w_ci (va_runS (As := [.long ((x3).toInt64), .long (0 : Int64), .long (1 : Int64)]) (rest := []) ⟨hx, hb, hml, hown, hts⟩ (c_X9_in l Γ hG ((x3).toInt64) (0 : Int64) (1 : Int64) q4.2 q7.1 q7.2 h8 H.size) (cwS 3 hts (wzS K170 K168 K169 K5) rfl rfl rfl (by decide +kernel) ⟨(Nat.le_of_ble_eq_true rfl), (Nat.le_of_ble_eq_true rfl)⟩) (w_pre hK hP hkc hN hS) rfl rfl hl.1 rfl (lv_room (Nat.le_of_ble_eq_true rfl)) dX9_blend_19 ⟨Nat.le_refl _, Nat.le_refl _⟩) hS (fun H locs hP hS => ?_)
      refine lv_if_ne (tgt := 29) hx hb dX9_blend_22 (by decide) (fun c9 => ?_) (fun c9 => ?_)
      · replace hf := (if_neg c9).symm.trans hf
        refine lv_aload_n hx hb dX9_blend_29 rfl (lv_at hl 0 rfl) ?_
        obtain ⟨q10, h11, hf⟩ := w_ob hf
        refine w_cv (va_runV (As := []) (rest := []) ⟨hx, hb, hml, hown, hts⟩ (c_X9_laysAside l Γ hG q7.2 q10 h11 H.size) (cwV 0 hts (wzV K717 K714 K715 K716 K5) rfl rfl rfl (by decide +kernel) ⟨(Nat.le_of_ble_eq_true rfl), (Nat.le_of_ble_eq_true rfl)⟩) (w_preV hK hP hkc hN hS (gM_Model Γ q7.2) rfl) rfl rfl hl.1 rfl (lv_room (Nat.le_of_ble_eq_true rfl)) dX9_blend_30 ⟨Nat.le_refl _, Nat.le_refl _⟩) hS (fun H locs hP hS => ?_)
        refine lv_aload_n hx hb dX9_blend_33 rfl (lv_at hl 0 rfl) ?_
        obtain ⟨q12, h13, hf⟩ := w_ob hf
        refine w_ci (va_runV (As := []) (rest := []) ⟨hx, hb, hml, hown, hts⟩ (c_X9_passes l Γ hG q10 q12.1 q12.2 h13 H.size) (cwV 0 hts (wzV K676 K673 K674 K675 K5) rfl rfl rfl (by decide +kernel) ⟨(Nat.le_of_ble_eq_true rfl), (Nat.le_of_ble_eq_true rfl)⟩) (w_preV hK hP hkc hN hS (gM_Model Γ q10) rfl) rfl rfl hl.1 rfl (lv_room (Nat.le_of_ble_eq_true rfl)) dX9_blend_34 ⟨Nat.le_refl _, Nat.le_refl _⟩) hS (fun H locs hP hS => ?_)
        refine lv_pop hx hb dX9_blend_37 rfl ?_
        refine lv_aload_n hx hb dX9_blend_38 rfl (lv_at hl 0 rfl) ?_
        refine va_get (D := Γ.1) (ci := 8) (v := .ref (Γ.2.2.1 (6))) (C := RX9) (T := TX9) (N := 44) hx hb hts iX9 hown hK hP (0) (gM_Model Γ q12.2) rfl 11 (by decide) (hts (.fieldLink RX9 29 "OtherHalfOfNightModel" "cups" "[I") (wzm K113)) (fun _ h9 => h9) rfl dX9_blend_39 ?_
        refine lv_iconst (v := (3 : Int32)) hx hb dX9_blend_42 (by decide) ?_
        refine lv_iload_n hx hb dX9_blend_43 rfl (lv_at hl 2 rfl) ?_
        refine lv_imul hx hb dX9_blend_44 ?_
        refine lv_iconst (v := (2 : Int32)) hx hb dX9_blend_45 (by decide) ?_
        refine lv_iadd hx hb dX9_blend_46 ?_
        obtain ⟨g14, hf⟩ := w_oi hf
        refine va_iald (D := Γ.1) (tys := (tysC Γ)) hx hb hK hP (6) 0 (gM_M_cups Γ q12.2) rfl g14 dX9_blend_47 ?_
        refine lv_istore (lv' := [(4, .int (q12.2.1 (11) ((((3 : Int32) * x2) + (2 : Int32))).toNatClampNeg)), (0, .ref (Γ.2.2.1 (0))), (1, .int x1), (2, .int x2), (3, .int x3)]) hx hb dX9_blend_48 hl (by decide) rfl (fun ls hl => ?_)
        refine lv_aload_n hx hb dX9_blend_50 rfl (lv_at hl 1 rfl) ?_
        obtain ⟨q15, h16, hf⟩ := w_ob hf
        refine w_cv (va_runV (As := []) (rest := []) ⟨hx, hb, hml, hown, hts⟩ (c_X9_laysBack l Γ hG q12.2 q15 h16 H.size) (cwV 0 hts (wzV K721 K718 K719 K720 K5) rfl rfl rfl (by decide +kernel) ⟨(Nat.le_of_ble_eq_true rfl), (Nat.le_of_ble_eq_true rfl)⟩) (w_preV hK hP hkc hN hS (gM_Model Γ q12.2) rfl) rfl rfl hl.1 rfl (lv_room (Nat.le_of_ble_eq_true rfl)) dX9_blend_51 ⟨Nat.le_refl _, Nat.le_refl _⟩) hS (fun H locs hP hS => ?_)
        refine lv_iload hx hb dX9_blend_54 (lv_at hl 0 rfl) ?_
        refine lv_if_ne (tgt := 65) hx hb dX9_blend_56 (by decide) (fun c17 => ?_) (fun c17 => ?_)
        · replace hf := (if_neg c17).symm.trans hf
          refine lv_aload_n hx hb dX9_blend_65 rfl (lv_at hl 1 rfl) ?_
          refine va_get (D := Γ.1) (ci := 8) (v := .ref (Γ.2.2.1 (9))) (C := RX9) (T := TX9) (N := 44) hx hb hts iX9 hown hK hP (0) (gM_Model Γ q15) rfl 30 (by decide) (hts (.fieldLink RX9 39 "OtherHalfOfNightModel" "drops" "[I") (wzm K117)) (fun _ h9 => h9) rfl dX9_blend_66 ?_
          refine lv_bipush (v := (6 : Int32)) hx hb dX9_blend_69 (by decide) ?_
          refine lv_iload_n hx hb dX9_blend_71 rfl (lv_at hl 2 rfl) ?_
          refine lv_imul hx hb dX9_blend_72 ?_
          refine lv_iload_n hx hb dX9_blend_73 rfl (lv_at hl 3 rfl) ?_
          refine lv_iadd hx hb dX9_blend_74 ?_
          obtain ⟨g18, hf⟩ := w_oi hf
          refine va_iald (D := Γ.1) (tys := (tysC Γ)) hx hb hK hP (9) 0 (gM_M_drops Γ q15) rfl g18 dX9_blend_75 ?_
          refine lv_i2l (v := (((q15.1 (30) ((((6 : Int32) * x1) + x2)).toNatClampNeg)).toInt64)) hx hb dX9_blend_76 rfl ?_
          refine lv_iload hx hb dX9_blend_77 (lv_at hl 0 rfl) ?_
          refine lv_i2l (v := (((q12.2.1 (11) ((((3 : Int32) * x2) + (2 : Int32))).toNatClampNeg)).toInt64)) hx hb dX9_blend_79 rfl ?_
          refine lv_iload_n hx hb dX9_blend_80 rfl (lv_at hl 4 rfl) ?_
          obtain ⟨q19, h20, hf⟩ := w_ob hf
          refine w_cl (va_runS (As := [.long (((q15.1 (30) ((((6 : Int32) * x1) + x2)).toNatClampNeg)).toInt64), .long (((q12.2.1 (11) ((((3 : Int32) * x2) + (2 : Int32))).toNatClampNeg)).toInt64), .int x3]) (rest := []) ⟨hx, hb, hml, hown, hts⟩ (c_X9_lowest l Γ hG (((q15.1 (30) ((((6 : Int32) * x1) + x2)).toNatClampNeg)).toInt64) (((q12.2.1 (11) ((((3 : Int32) * x2) + (2 : Int32))).toNatClampNeg)).toInt64) x3 q15 q19.1 q19.2 h20 H.size) (cwS 3 hts (wzS K845 K843 K844 K5) rfl rfl rfl (by decide +kernel) ⟨(Nat.le_of_ble_eq_true rfl), (Nat.le_of_ble_eq_true rfl)⟩) (w_pre hK hP hkc hN hS) rfl rfl hl.1 rfl (lv_room (Nat.le_of_ble_eq_true rfl)) dX9_blend_81 ⟨Nat.le_refl _, Nat.le_refl _⟩) hS (fun H locs hP hS => ?_)
          exact w_lret (X := XM Γ) hx hb hr hlocks hK hP hS hf dX9_blend_84
        · replace hf := (if_pos c17).symm.trans hf
          refine lv_ldc2 (v := (-4611686018427387904 : Int64)) hx hb hown (hts (.constantLong RX9 314 (-4611686018427387904)) (wzm K842)) dX9_blend_59 ?_
          refine lv_goto (tgt := 84) hx hb dX9_blend_62 (by decide) ?_
          exact w_lret (X := XM Γ) hx hb hr hlocks hK hP hS hf dX9_blend_84
      · replace hf := (if_pos c9).symm.trans hf
        refine lv_ldc2 (v := (-4611686018427387904 : Int64)) hx hb hown (hts (.constantLong RX9 314 (-4611686018427387904)) (wzm K842)) dX9_blend_25 ?_
        exact w_lret (X := XM Γ) hx hb hr hlocks hK hP hS hf dX9_blend_28
def f_X9_firstOther_51 (k9 : Int32 → Int32 → Sm → Option (Int32 × Sm)) (x1 : Int32) (x2 : Int32) (y4 : Int32) (z0 : Int32) (τ : Sm) : Option (Int32 × Sm) := (f_X9_passes τ).bind fun (q14 : Int32 × Sm) => k9 (z0) ((y4 + (1 : Int32))) q14.2
def f_X9_firstOther_9 (x1 : Int32) (x2 : Int32) : Nat → Int32 → Int32 → Sm → Option (Int32 × Sm)
  | 0, _, _, _ => none
  | n + 1, y3, y4, τ => if okI x1 4 then if (τ.1 (42) (x1).toNatClampNeg) ≤ y4 then (f_X9_laysBack τ).bind fun (q5 : Sm) => some (y3, q5) else if y3 = (-1 : Int32) then (f_X9_yieldsOf x2 τ).bind fun (q10 : Int32 × Sm) => if okI (((40 : Int32) * x1) + y4) 160 then if q10.1 = (q10.2.1 (43) ((((40 : Int32) * x1) + y4)).toNatClampNeg) then f_X9_firstOther_51 (f_X9_firstOther_9 x1 x2 n) x1 x2 (y4) ((-1 : Int32)) q10.2 else f_X9_firstOther_51 (f_X9_firstOther_9 x1 x2 n) x1 x2 (y4) (y4) q10.2 else none else (f_X9_laysBack τ).bind fun (q8 : Sm) => some (y3, q8) else none
def f_X9_firstOther (x1 : Int32) (x2 : Int32) (σ : Sm) : Option (Int32 × Sm) := (f_X9_laysAside σ).bind fun (q1 : Sm) => f_X9_firstOther_9 x1 x2 5000 ((-1 : Int32)) ((0 : Int32)) q1
set_option maxHeartbeats 40000000 in
set_option maxRecDepth 100000 in
theorem c_X9_firstOther (l : Launch) (Γ : Geo) (hG : okM Γ) (x1 : Int32) (x2 : Int32) (σ : Sm) (r : Int32) (σ' : Sm) (hf : f_X9_firstOther x1 x2 σ = some (r, σ')) (sz : Nat) : Met l yX9_firstOther (wz yX9_firstOther cX9_firstOther 5 (some .int)) { frames := 76, cells := 0, slots := 0, locals := 2888 } (va_Pc [.ref (Γ.2.2.1 (0)), .int x1, .int x2] (wPre Γ.1 vwCl (tysC Γ) (XM Γ) (alM Γ) Γ.2.2.2 σ sz)) (wQi Γ.1 vwCl (tysC Γ) (XM Γ) (alM Γ) r σ' sz) 0 0 (wA (alM Γ) sz) := by
  refine w_enter (cc := cX9_firstOther) (maxL := 5) (ret := (some .int)) (by decide) rfl (Nat.le_of_ble_eq_true rfl) ?_
  intro p e s m below meth c ls hx hb hr hlocks hml hown hts hsz hP hK hkc hN hl
  subst hsz
  generalize hav : ([.ref (Γ.2.2.1 (0)), .int x1, .int x2] : List Value) = av at hl hts ⊢
  have hl : lv_has ls 5 [(0, .ref (Γ.2.2.1 (0))), (1, .int x1), (2, .int x2)] := by rw [← hav] at hl; exact hl
  have j9 : ∀ (n9 : Nat), ∀ (y3 : Int32) (y4 : Int32) (τ : Sm) (H : Heap) (locs : List Loc) (ls : Array Slot) (hf : f_X9_firstOther_9 x1 x2 n9 y3 y4 τ = some (r, σ')) (hP : va_P Γ.1 vwCl (XM Γ τ) H) (hS : va_S (wA (alM Γ) s.heap.size) s.heap H locs) (hl : lv_has ls 5 [(0, .ref (Γ.2.2.1 (0))), (1, .int x1), (2, .int x2), (3, .int y3), (4, .int y4)]), W p l e { frames := 76, cells := 0, slots := 0, locals := 2888 } s m av.toArray below meth c H locs 0 0 (MQ below (wQi Γ.1 vwCl (tysC Γ) (XM Γ) (alM Γ) r σ' s.heap.size) av.toArray s 0 0 (wA (alM Γ) s.heap.size)) (F0 m 9 ls []) := by
    intro n9
    induction n9 with
    | zero =>
      intro y3 y4 τ H locs ls hf
      exact absurd hf (by intro h; cases h)
    | succ n9 ih9 =>
      have j51 : ∀ (y4 : Int32) (z0 : Int32) (τ : Sm) (H : Heap) (locs : List Loc) (ls : Array Slot) (hf : f_X9_firstOther_51 (f_X9_firstOther_9 x1 x2 n9) x1 x2 y4 z0 τ = some (r, σ')) (hP : va_P Γ.1 vwCl (XM Γ τ) H) (hS : va_S (wA (alM Γ) s.heap.size) s.heap H locs) (hl : lv_has ls 5 [(0, .ref (Γ.2.2.1 (0))), (1, .int x1), (2, .int x2), (4, .int y4)]), W p l e { frames := 76, cells := 0, slots := 0, locals := 2888 } s m av.toArray below meth c H locs 0 0 (MQ below (wQi Γ.1 vwCl (tysC Γ) (XM Γ) (alM Γ) r σ' s.heap.size) av.toArray s 0 0 (wA (alM Γ) s.heap.size)) (F0 m 51 ls [.int z0]) := by
        intro y4 z0 τ H locs ls hf hP hS hl
        unfold f_X9_firstOther_51 at hf
        refine lv_istore_n (lv' := [(3, .int z0), (0, .ref (Γ.2.2.1 (0))), (1, .int x1), (2, .int x2), (4, .int y4)]) hx hb dX9_firstOther_51 rfl hl (by decide) rfl (fun ls hl => ?_)
        refine lv_aload_n hx hb dX9_firstOther_52 rfl (lv_at hl 1 rfl) ?_
        obtain ⟨q14, h15, hf⟩ := w_ob hf
        refine w_ci (va_runV (As := []) (rest := []) ⟨hx, hb, hml, hown, hts⟩ (c_X9_passes l Γ hG τ q14.1 q14.2 h15 H.size) (cwV 0 hts (wzV K676 K673 K674 K675 K5) rfl rfl rfl (by decide +kernel) ⟨(Nat.le_of_ble_eq_true rfl), (Nat.le_of_ble_eq_true rfl)⟩) (w_preV hK hP hkc hN hS (gM_Model Γ τ) rfl) rfl rfl hl.1 rfl (lv_room (Nat.le_of_ble_eq_true rfl)) dX9_firstOther_53 ⟨Nat.le_refl _, Nat.le_refl _⟩) hS (fun H locs hP hS => ?_)
        refine lv_pop hx hb dX9_firstOther_56 rfl ?_
        refine lv_iinc (v := (y4 + (1 : Int32))) (lv' := [(4, .int (y4 + (1 : Int32))), (3, .int z0), (0, .ref (Γ.2.2.1 (0))), (1, .int x1), (2, .int x2)]) hx hb dX9_firstOther_57 hl (k := 4) rfl rfl (by decide) rfl (fun ls hl => ?_)
        refine lv_goto (tgt := 9) hx hb dX9_firstOther_60 (by decide) ?_
        exact ih9 (z0) ((y4 + (1 : Int32))) q14.2 H locs ls hf hP hS (lv_sub hl [2, 3, 4, 1, 0] rfl)
      intro y3 y4 τ H locs ls hf hP hS hl
      unfold f_X9_firstOther_9 at hf
      refine lv_iload hx hb dX9_firstOther_9 (lv_at hl 4 rfl) ?_
      refine lv_aload_n hx hb dX9_firstOther_11 rfl (lv_at hl 0 rfl) ?_
      refine va_get (D := Γ.1) (ci := 8) (v := .ref (Γ.2.2.1 (16))) (C := RX9) (T := TX9) (N := 44) hx hb hts iX9 hown hK hP (0) (gM_Model Γ τ) rfl 42 (by decide) (hts (.fieldLink RX9 64 "OtherHalfOfNightModel" "sheetSize" "[I") (wzm K126)) (fun _ h9 => h9) rfl dX9_firstOther_12 ?_
      refine lv_iload_n hx hb dX9_firstOther_15 rfl (lv_at hl 1 rfl) ?_
      obtain ⟨g3, hf⟩ := w_oi hf
      refine va_iald (D := Γ.1) (tys := (tysC Γ)) hx hb hK hP (16) 0 (gM_M_sheetSize Γ τ) rfl g3 dX9_firstOther_16 ?_
      refine lv_icmp_ge (tgt := 63) hx hb dX9_firstOther_17 (by decide) (fun c4 => ?_) (fun c4 => ?_)
      · replace hf := (if_pos c4).symm.trans hf
        refine lv_aload_n hx hb dX9_firstOther_63 rfl (lv_at hl 0 rfl) ?_
        obtain ⟨q5, h6, hf⟩ := w_ob hf
        refine w_cv (va_runV (As := []) (rest := []) ⟨hx, hb, hml, hown, hts⟩ (c_X9_laysBack l Γ hG τ q5 h6 H.size) (cwV 0 hts (wzV K721 K718 K719 K720 K5) rfl rfl rfl (by decide +kernel) ⟨(Nat.le_of_ble_eq_true rfl), (Nat.le_of_ble_eq_true rfl)⟩) (w_preV hK hP hkc hN hS (gM_Model Γ τ) rfl) rfl rfl hl.1 rfl (lv_room (Nat.le_of_ble_eq_true rfl)) dX9_firstOther_64 ⟨Nat.le_refl _, Nat.le_refl _⟩) hS (fun H locs hP hS => ?_)
        refine lv_iload_n hx hb dX9_firstOther_67 rfl (lv_at hl 3 rfl) ?_
        exact w_iret (X := XM Γ) hx hb hr hlocks hK hP hS rfl hf dX9_firstOther_68
      · replace hf := (if_neg c4).symm.trans hf
        refine lv_iload_n hx hb dX9_firstOther_20 rfl (lv_at hl 3 rfl) ?_
        refine lv_iconst (v := (-1 : Int32)) hx hb dX9_firstOther_21 (by decide) ?_
        refine lv_icmp_ne (tgt := 63) hx hb dX9_firstOther_22 (by decide) (fun c7 => ?_) (fun c7 => ?_)
        · replace hf := (if_neg c7).symm.trans hf
          refine lv_aload_n hx hb dX9_firstOther_63 rfl (lv_at hl 0 rfl) ?_
          obtain ⟨q8, h9, hf⟩ := w_ob hf
          refine w_cv (va_runV (As := []) (rest := []) ⟨hx, hb, hml, hown, hts⟩ (c_X9_laysBack l Γ hG τ q8 h9 H.size) (cwV 0 hts (wzV K721 K718 K719 K720 K5) rfl rfl rfl (by decide +kernel) ⟨(Nat.le_of_ble_eq_true rfl), (Nat.le_of_ble_eq_true rfl)⟩) (w_preV hK hP hkc hN hS (gM_Model Γ τ) rfl) rfl rfl hl.1 rfl (lv_room (Nat.le_of_ble_eq_true rfl)) dX9_firstOther_64 ⟨Nat.le_refl _, Nat.le_refl _⟩) hS (fun H locs hP hS => ?_)
          refine lv_iload_n hx hb dX9_firstOther_67 rfl (lv_at hl 3 rfl) ?_
          exact w_iret (X := XM Γ) hx hb hr hlocks hK hP hS rfl hf dX9_firstOther_68
        · replace hf := (if_pos c7).symm.trans hf
          refine lv_aload_n hx hb dX9_firstOther_25 rfl (lv_at hl 0 rfl) ?_
          refine lv_iload_n hx hb dX9_firstOther_26 rfl (lv_at hl 2 rfl) ?_
          obtain ⟨q10, h11, hf⟩ := w_ob hf
          refine w_ci (va_runV (As := [.int x2]) (rest := []) ⟨hx, hb, hml, hown, hts⟩ (c_X9_yieldsOf l Γ hG x2 τ q10.1 q10.2 h11 H.size) (cwV 1 hts (wzV K197 K194 K195 K196 K5) rfl rfl rfl (by decide +kernel) ⟨(Nat.le_of_ble_eq_true rfl), (Nat.le_of_ble_eq_true rfl)⟩) (w_preV hK hP hkc hN hS (gM_Model Γ τ) rfl) rfl rfl hl.1 rfl (lv_room (Nat.le_of_ble_eq_true rfl)) dX9_firstOther_27 ⟨Nat.le_refl _, Nat.le_refl _⟩) hS (fun H locs hP hS => ?_)
          refine lv_aload_n hx hb dX9_firstOther_30 rfl (lv_at hl 0 rfl) ?_
          refine va_get (D := Γ.1) (ci := 8) (v := .ref (Γ.2.2.1 (17))) (C := RX9) (T := TX9) (N := 44) hx hb hts iX9 hown hK hP (0) (gM_Model Γ q10.2) rfl 43 (by decide) (hts (.fieldLink RX9 67 "OtherHalfOfNightModel" "items" "[I") (wzm K127)) (fun _ h9 => h9) rfl dX9_firstOther_31 ?_
          refine lv_bipush (v := (40 : Int32)) hx hb dX9_firstOther_34 (by decide) ?_
          refine lv_iload_n hx hb dX9_firstOther_36 rfl (lv_at hl 1 rfl) ?_
          refine lv_imul hx hb dX9_firstOther_37 ?_
          refine lv_iload hx hb dX9_firstOther_38 (lv_at hl 4 rfl) ?_
          refine lv_iadd hx hb dX9_firstOther_40 ?_
          obtain ⟨g12, hf⟩ := w_oi hf
          refine va_iald (D := Γ.1) (tys := (tysC Γ)) hx hb hK hP (17) 0 (gM_M_items Γ q10.2) rfl g12 dX9_firstOther_41 ?_
          refine lv_icmp_ne (tgt := 49) hx hb dX9_firstOther_42 (by decide) (fun c13 => ?_) (fun c13 => ?_)
          · replace hf := (if_neg c13).symm.trans hf
            refine lv_iload hx hb dX9_firstOther_49 (lv_at hl 4 rfl) ?_
            exact j51 (y4) (y4) q10.2 H locs ls hf hP hS (lv_sub hl [0, 1, 2, 4] rfl)
          · replace hf := (if_pos c13).symm.trans hf
            refine lv_iconst (v := (-1 : Int32)) hx hb dX9_firstOther_45 (by decide) ?_
            refine lv_goto (tgt := 51) hx hb dX9_firstOther_46 (by decide) ?_
            exact j51 (y4) ((-1 : Int32)) q10.2 H locs ls hf hP hS (lv_sub hl [0, 1, 2, 4] rfl)
  suffices hw : ∀ (H : Heap) (locs : List Loc), va_P Γ.1 vwCl (XM Γ σ) H → va_S (wA (alM Γ) s.heap.size) s.heap H locs → W p l e { frames := 76, cells := 0, slots := 0, locals := 2888 } s m av.toArray below meth c H locs 0 0 (MQ below (wQi Γ.1 vwCl (tysC Γ) (XM Γ) (alM Γ) r σ' s.heap.size) av.toArray s 0 0 (wA (alM Γ) s.heap.size)) (F0 m 0 ls []) from hw _ [] hP va_S.rf
  clear hP
  intro H locs hP hS
  unfold f_X9_firstOther at hf
  refine lv_aload_n hx hb dX9_firstOther_0 rfl (lv_at hl 0 rfl) ?_
  obtain ⟨q1, h2, hf⟩ := w_ob hf
  refine w_cv (va_runV (As := []) (rest := []) ⟨hx, hb, hml, hown, hts⟩ (c_X9_laysAside l Γ hG σ q1 h2 H.size) (cwV 0 hts (wzV K717 K714 K715 K716 K5) rfl rfl rfl (by decide +kernel) ⟨(Nat.le_of_ble_eq_true rfl), (Nat.le_of_ble_eq_true rfl)⟩) (w_preV hK hP hkc hN hS (gM_Model Γ σ) rfl) rfl rfl hl.1 rfl (lv_room (Nat.le_of_ble_eq_true rfl)) dX9_firstOther_1 ⟨Nat.le_refl _, Nat.le_refl _⟩) hS (fun H locs hP hS => ?_)
  refine lv_iconst (v := (-1 : Int32)) hx hb dX9_firstOther_4 (by decide) ?_
  refine lv_istore_n (lv' := [(3, .int (-1 : Int32)), (0, .ref (Γ.2.2.1 (0))), (1, .int x1), (2, .int x2)]) hx hb dX9_firstOther_5 rfl hl (by decide) rfl (fun ls hl => ?_)
  refine lv_iconst (v := (0 : Int32)) hx hb dX9_firstOther_6 (by decide) ?_
  refine lv_istore (lv' := [(4, .int (0 : Int32)), (3, .int (-1 : Int32)), (0, .ref (Γ.2.2.1 (0))), (1, .int x1), (2, .int x2)]) hx hb dX9_firstOther_7 hl (by decide) rfl (fun ls hl => ?_)
  exact j9 5000 ((-1 : Int32)) ((0 : Int32)) q1 H locs ls hf hP hS (lv_sub hl [2, 3, 4, 1, 0] rfl)
def f_X9_likeSet_28 (k4 : Int32 → Int32 → Sm → Option (Int32 × Sm)) (x1 : Int32) (y3 : Int32) (z0 : Int32) (z1 : Int32) (τ : Sm) : Option (Int32 × Sm) := k4 ((z0 ||| (z1 <<< (y3 &&& 31)))) ((y3 + (1 : Int32))) τ
def f_X9_likeSet_4 (x1 : Int32) : Nat → Int32 → Int32 → Sm → Option (Int32 × Sm)
  | 0, _, _, _ => none
  | n + 1, y2, y3, τ => if (τ.1 (12) 0) ≤ y3 then some (y2, τ) else (f_X9_firstOther x1 y3 τ).bind fun (q2 : Int32 × Sm) => if q2.1 = (-1 : Int32) then f_X9_likeSet_28 (f_X9_likeSet_4 x1 n) x1 (y3) (y2) ((1 : Int32)) q2.2 else f_X9_likeSet_28 (f_X9_likeSet_4 x1 n) x1 (y3) (y2) ((0 : Int32)) q2.2
def f_X9_likeSet (x1 : Int32) (σ : Sm) : Option (Int32 × Sm) := f_X9_likeSet_4 x1 5000 ((0 : Int32)) ((0 : Int32)) σ
set_option maxHeartbeats 40000000 in
set_option maxRecDepth 100000 in
theorem c_X9_likeSet (l : Launch) (Γ : Geo) (hG : okM Γ) (x1 : Int32) (σ : Sm) (r : Int32) (σ' : Sm) (hf : f_X9_likeSet x1 σ = some (r, σ')) (sz : Nat) : Met l yX9_likeSet (wz yX9_likeSet cX9_likeSet 4 (some .int)) { frames := 77, cells := 0, slots := 0, locals := 2912 } (va_Pc [.ref (Γ.2.2.1 (0)), .int x1] (wPre Γ.1 vwCl (tysC Γ) (XM Γ) (alM Γ) Γ.2.2.2 σ sz)) (wQi Γ.1 vwCl (tysC Γ) (XM Γ) (alM Γ) r σ' sz) 0 0 (wA (alM Γ) sz) := by
  refine w_enter (cc := cX9_likeSet) (maxL := 4) (ret := (some .int)) (by decide) rfl (Nat.le_of_ble_eq_true rfl) ?_
  intro p e s m below meth c ls hx hb hr hlocks hml hown hts hsz hP hK hkc hN hl
  subst hsz
  generalize hav : ([.ref (Γ.2.2.1 (0)), .int x1] : List Value) = av at hl hts ⊢
  have hl : lv_has ls 4 [(0, .ref (Γ.2.2.1 (0))), (1, .int x1)] := by rw [← hav] at hl; exact hl
  have j4 : ∀ (n4 : Nat), ∀ (y2 : Int32) (y3 : Int32) (τ : Sm) (H : Heap) (locs : List Loc) (ls : Array Slot) (hf : f_X9_likeSet_4 x1 n4 y2 y3 τ = some (r, σ')) (hP : va_P Γ.1 vwCl (XM Γ τ) H) (hS : va_S (wA (alM Γ) s.heap.size) s.heap H locs) (hl : lv_has ls 4 [(0, .ref (Γ.2.2.1 (0))), (1, .int x1), (2, .int y2), (3, .int y3)]), W p l e { frames := 77, cells := 0, slots := 0, locals := 2912 } s m av.toArray below meth c H locs 0 0 (MQ below (wQi Γ.1 vwCl (tysC Γ) (XM Γ) (alM Γ) r σ' s.heap.size) av.toArray s 0 0 (wA (alM Γ) s.heap.size)) (F0 m 4 ls []) := by
    intro n4
    induction n4 with
    | zero =>
      intro y2 y3 τ H locs ls hf
      exact absurd hf (by intro h; cases h)
    | succ n4 ih4 =>
      have j28 : ∀ (y3 : Int32) (z0 : Int32) (z1 : Int32) (τ : Sm) (H : Heap) (locs : List Loc) (ls : Array Slot) (hf : f_X9_likeSet_28 (f_X9_likeSet_4 x1 n4) x1 y3 z0 z1 τ = some (r, σ')) (hP : va_P Γ.1 vwCl (XM Γ τ) H) (hS : va_S (wA (alM Γ) s.heap.size) s.heap H locs) (hl : lv_has ls 4 [(0, .ref (Γ.2.2.1 (0))), (1, .int x1), (3, .int y3)]), W p l e { frames := 77, cells := 0, slots := 0, locals := 2912 } s m av.toArray below meth c H locs 0 0 (MQ below (wQi Γ.1 vwCl (tysC Γ) (XM Γ) (alM Γ) r σ' s.heap.size) av.toArray s 0 0 (wA (alM Γ) s.heap.size)) (F0 m 28 ls [.int z1, .int z0]) := by
        intro y3 z0 z1 τ H locs ls hf hP hS hl
        unfold f_X9_likeSet_28 at hf
        refine lv_iload_n hx hb dX9_likeSet_28 rfl (lv_at hl 2 rfl) ?_
        refine lv_ishl hx hb dX9_likeSet_29 ?_
        refine lv_ior hx hb dX9_likeSet_30 ?_
        refine lv_istore_n (lv' := [(2, .int (z0 ||| (z1 <<< (y3 &&& 31)))), (0, .ref (Γ.2.2.1 (0))), (1, .int x1), (3, .int y3)]) hx hb dX9_likeSet_31 rfl hl (by decide) rfl (fun ls hl => ?_)
        refine lv_iinc (v := (y3 + (1 : Int32))) (lv' := [(3, .int (y3 + (1 : Int32))), (2, .int (z0 ||| (z1 <<< (y3 &&& 31)))), (0, .ref (Γ.2.2.1 (0))), (1, .int x1)]) hx hb dX9_likeSet_32 hl (k := 3) rfl rfl (by decide) rfl (fun ls hl => ?_)
        refine lv_goto (tgt := 4) hx hb dX9_likeSet_35 (by decide) ?_
        exact ih4 ((z0 ||| (z1 <<< (y3 &&& 31)))) ((y3 + (1 : Int32))) τ H locs ls hf hP hS (lv_sub hl [2, 3, 1, 0] rfl)
      intro y2 y3 τ H locs ls hf hP hS hl
      unfold f_X9_likeSet_4 at hf
      refine lv_iload_n hx hb dX9_likeSet_4 rfl (lv_at hl 3 rfl) ?_
      refine lv_aload_n hx hb dX9_likeSet_5 rfl (lv_at hl 0 rfl) ?_
      refine va_get (D := Γ.1) (ci := 8) (v := .int (τ.1 (12) 0)) (C := RX9) (T := TX9) (N := 44) hx hb hts iX9 hown hK hP (0) (gM_Model Γ τ) rfl 12 (by decide) (hts (.fieldLink RX9 77 "OtherHalfOfNightModel" "many" "I") (wzm K183)) (fun _ h9 => h9) rfl dX9_likeSet_6 ?_
      refine lv_icmp_ge (tgt := 38) hx hb dX9_likeSet_9 (by decide) (fun c1 => ?_) (fun c1 => ?_)
      · replace hf := (if_pos c1).symm.trans hf
        refine lv_iload_n hx hb dX9_likeSet_38 rfl (lv_at hl 2 rfl) ?_
        exact w_iret (X := XM Γ) hx hb hr hlocks hK hP hS rfl hf dX9_likeSet_39
      · replace hf := (if_neg c1).symm.trans hf
        refine lv_iload_n hx hb dX9_likeSet_12 rfl (lv_at hl 2 rfl) ?_
        refine lv_aload_n hx hb dX9_likeSet_13 rfl (lv_at hl 0 rfl) ?_
        refine lv_iload_n hx hb dX9_likeSet_14 rfl (lv_at hl 1 rfl) ?_
        refine lv_iload_n hx hb dX9_likeSet_15 rfl (lv_at hl 3 rfl) ?_
        obtain ⟨q2, h3, hf⟩ := w_ob hf
        refine w_ci (va_runV (As := [.int x1, .int y3]) (rest := [.int y2]) ⟨hx, hb, hml, hown, hts⟩ (c_X9_firstOther l Γ hG x1 y3 τ q2.1 q2.2 h3 H.size) (cwV 2 hts (wzV K899 K896 K897 K898 K5) rfl rfl rfl (by decide +kernel) ⟨(Nat.le_of_ble_eq_true rfl), (Nat.le_of_ble_eq_true rfl)⟩) (w_preV hK hP hkc hN hS (gM_Model Γ τ) rfl) rfl rfl hl.1 rfl (lv_room (Nat.le_of_ble_eq_true rfl)) dX9_likeSet_16 ⟨Nat.le_refl _, Nat.le_refl _⟩) hS (fun H locs hP hS => ?_)
        refine lv_iconst (v := (-1 : Int32)) hx hb dX9_likeSet_19 (by decide) ?_
        refine lv_icmp_ne (tgt := 27) hx hb dX9_likeSet_20 (by decide) (fun c4 => ?_) (fun c4 => ?_)
        · replace hf := (if_neg c4).symm.trans hf
          refine lv_iconst (v := (0 : Int32)) hx hb dX9_likeSet_27 (by decide) ?_
          exact j28 (y3) (y2) ((0 : Int32)) q2.2 H locs ls hf hP hS (lv_sub hl [0, 1, 3] rfl)
        · replace hf := (if_pos c4).symm.trans hf
          refine lv_iconst (v := (1 : Int32)) hx hb dX9_likeSet_23 (by decide) ?_
          refine lv_goto (tgt := 28) hx hb dX9_likeSet_24 (by decide) ?_
          exact j28 (y3) (y2) ((1 : Int32)) q2.2 H locs ls hf hP hS (lv_sub hl [0, 1, 3] rfl)
  suffices hw : ∀ (H : Heap) (locs : List Loc), va_P Γ.1 vwCl (XM Γ σ) H → va_S (wA (alM Γ) s.heap.size) s.heap H locs → W p l e { frames := 77, cells := 0, slots := 0, locals := 2912 } s m av.toArray below meth c H locs 0 0 (MQ below (wQi Γ.1 vwCl (tysC Γ) (XM Γ) (alM Γ) r σ' s.heap.size) av.toArray s 0 0 (wA (alM Γ) s.heap.size)) (F0 m 0 ls []) from hw _ [] hP va_S.rf
  clear hP
  intro H locs hP hS
  unfold f_X9_likeSet at hf
  refine lv_iconst (v := (0 : Int32)) hx hb dX9_likeSet_0 (by decide) ?_
  refine lv_istore_n (lv' := [(2, .int (0 : Int32)), (0, .ref (Γ.2.2.1 (0))), (1, .int x1)]) hx hb dX9_likeSet_1 rfl hl (by decide) rfl (fun ls hl => ?_)
  refine lv_iconst (v := (0 : Int32)) hx hb dX9_likeSet_2 (by decide) ?_
  refine lv_istore_n (lv' := [(3, .int (0 : Int32)), (2, .int (0 : Int32)), (0, .ref (Γ.2.2.1 (0))), (1, .int x1)]) hx hb dX9_likeSet_3 rfl hl (by decide) rfl (fun ls hl => ?_)
  exact j4 5000 ((0 : Int32)) ((0 : Int32)) σ H locs ls hf hP hS (lv_sub hl [2, 3, 1, 0] rfl)
