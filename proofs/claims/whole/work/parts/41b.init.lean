/-! Constructors: the leaves -/
def WText (tt : Nat → ClassId) (h : Nat) (u : Nat → Nat) : va_W := [(h, .inr (6, [.ref (u 1), .ref (u 2), .int 0])), ((u 1), .inl (tt 0, 160, .inl (fun _ => 0))), ((u 2), .inl (tt 0, 3, .inl (fun _ => 0)))]
set_option maxHeartbeats 40000000 in
set_option maxRecDepth 100000 in
theorem e_X6_init (l : Launch) (D : va_G) (tt : Nat → ClassId) (h0 : Nat) (sz : Nat) : Met l yX6_init (wz yX6_init cX6_init 1 none) ({ frames := 1, cells := 2, slots := 163, locals := 12 } : Room) (va_Pc [.ref h0] (eP D tt sz [(h0, .inr (6, [.null, .null, .int 0]))])) (va_Qv (fun _ : (Nat → Nat) => True) (eB D tt (va_A [(h0, .inr (6, [.null, .null, .int 0]))] sz) (WText tt h0)) (va_A [(h0, .inr (6, [.null, .null, .int 0]))] sz)) 2 163 (va_A [(h0, .inr (6, [.null, .null, .int 0]))] sz) := by
  refine Met.ofW (cc := cX6_init) (maxL := 1) (ret := none) (by decide) rfl ?_
  intro p e s m args below meth c s₁ B hml hv
  obtain ⟨rfl, hsz, hP, hK, hD0, hO⟩ := hv
  have hx := B.exec
  have hb := B.bytes
  have hr := B.returns
  have hts := atoms_spec (ws := wz yX6_init cX6_init 1 none) B.pre
  have hown : s.vm.findClass RX6 = some m.cls := findClass_of_methodNamed B.named
  have hlocks := B.notSynchronized
  have hin : meth.name = "<init>" := (name_of_methodNamed B.named B.method).1
  subst hsz
  have hD := hD0.self (sz := s.heap.size)
  generalize hAe : va_A [(h0, .inr (6, [.null, .null, .int 0]))] s.heap.size = A at hD ⊢
  have hA : ∀ q : Nat, s.heap.size ≤ q → A q := fun q h => by rw [← hAe]; exact Or.inr h
  have hS : va_S A s.heap s.heap [] := va_S.rf
  have hl := lv_entry ([.ref h0] : List Value) (n := 1) (Nat.le_of_ble_eq_true rfl)
  rw [lg_entry_eq]
  generalize hav : ([.ref h0] : List Value) = av at hl hts ⊢
  generalize (lg_sl av ++ List.replicate (1 - (lg_sl av).length) Slot.unset).toArray = ls at hl ⊢
  have hl : lv_has ls 1 [(0, .ref h0)] := by rw [← hav] at hl; exact hl
  obtain ⟨H, hH⟩ : ∃ y, y = s.heap := ⟨_, rfl⟩
  suffices hw : ∀ (H : Heap) (locs : List Loc), va_P D vwCl [(h0, .inr (6, [.null, .null, .int 0]))] H → va_D A [(h0, .inr (6, [.null, .null, .int 0]))] → va_S A s.heap H locs → W p l e ({ frames := 1, cells := 2, slots := 163, locals := 12 } : Room) s m av.toArray below meth c H locs 0 0 (MQ below (va_Qv (fun _ : (Nat → Nat) => True) (eB D tt A (WText tt h0)) A) av.toArray s 2 163 A) (F0 m 0 ls []) from hw _ [] hP hD hS
  clear hP hD hS hH H
  intro H locs hP hD hS
  refine lv_aload_n hx hb dX6_init_0 rfl (lv_at hl 0 rfl) ?_
  refine W.objInit hx hb hown (hts (.methodLink RX6 3 objectInit) (wzm K60)) (hts (.instanceMethod objectInit) (wzm K10)) (hts (.code objectInit ⟨#[0xb1]⟩ 1 none) (wzm K11)) rfl (by rw [hml]; exact hl.1) rfl dX6_init_1 (Nat.le_of_ble_eq_true rfl) (Nat.le_of_ble_eq_true rfl) ?_
  refine W.eq (g2 := F0 m 4 ls []) rfl ?_
  refine lv_aload_n hx hb dX6_init_4 rfl (lv_at hl 0 rfl) ?_
  refine lv_sipush (v := (160 : Int32)) hx hb dX6_init_5 (by decide) ?_
  refine e_newi hx hb (hts (.arrayClass .int) (wzm K42)) hK hP hD hS hA (N' := 160) (by decide) (by decide) (Nat.le_of_ble_eq_true rfl) (Nat.le_of_ble_eq_true rfl) (Nat.le_of_ble_eq_true rfl) dX6_init_8 (fun q1 H hP hD hS => ?_)
  have hP : va_P D vwCl [(h0, .inr (6, [.null, .null, .int 0])), (q1, .inl (tt 0, 160, .inl (fun _ => 0)))] H := hP
  have hD : va_D A [(h0, .inr (6, [.null, .null, .int 0])), (q1, .inl (tt 0, 160, .inl (fun _ => 0)))] := hD
  refine W.widen (k := 1) (n := 160) (Nat.le_of_ble_eq_true rfl) (Nat.le_of_ble_eq_true rfl) ?_
  refine va_putF (D := D) (ci := 6) (v := .ref q1) (ty := (.array .int)) (C := RX6) (T := TX6) (N := 3) hx hb hts iX6 tyX6 tyX6_ok nmX6 hown hK hP hD hS 0 rfl rfl 0 (by decide) (hts (.fieldLink RX6 9 "OtherHalfOfNight$Text" "steps" "[I") (wzm K61)) (fun _ h9 => h9) rfl hin rfl (by decide +kernel) rfl rfl (Nat.le_of_ble_eq_true rfl) dX6_init_10 (fun H locs hP hD hS => ?_)
  have hP : va_P D vwCl [(h0, .inr (6, [.ref q1, .null, .int 0])), (q1, .inl (tt 0, 160, .inl (fun _ => 0)))] H := hP
  have hD : va_D A [(h0, .inr (6, [.ref q1, .null, .int 0])), (q1, .inl (tt 0, 160, .inl (fun _ => 0)))] := hD
  refine lv_aload_n hx hb dX6_init_13 rfl (lv_at hl 0 rfl) ?_
  refine lv_iconst (v := (3 : Int32)) hx hb dX6_init_14 (by decide) ?_
  refine e_newi hx hb (hts (.arrayClass .int) (wzm K42)) hK hP hD hS hA (N' := 3) (by decide) (by decide) (Nat.le_of_ble_eq_true rfl) (Nat.le_of_ble_eq_true rfl) (Nat.le_of_ble_eq_true rfl) dX6_init_15 (fun q2 H hP hD hS => ?_)
  have hP : va_P D vwCl [(h0, .inr (6, [.ref q1, .null, .int 0])), (q1, .inl (tt 0, 160, .inl (fun _ => 0))), (q2, .inl (tt 0, 3, .inl (fun _ => 0)))] H := hP
  have hD : va_D A [(h0, .inr (6, [.ref q1, .null, .int 0])), (q1, .inl (tt 0, 160, .inl (fun _ => 0))), (q2, .inl (tt 0, 3, .inl (fun _ => 0)))] := hD
  refine W.widen (k := 2) (n := 163) (Nat.le_of_ble_eq_true rfl) (Nat.le_of_ble_eq_true rfl) ?_
  refine va_putF (D := D) (ci := 6) (v := .ref q2) (ty := (.array .int)) (C := RX6) (T := TX6) (N := 3) hx hb hts iX6 tyX6 tyX6_ok nmX6 hown hK hP hD hS 0 rfl rfl 1 (by decide) (hts (.fieldLink RX6 15 "OtherHalfOfNight$Text" "ends" "[I") (wzm K62)) (fun _ h9 => h9) rfl hin rfl (by decide +kernel) rfl rfl (Nat.le_of_ble_eq_true rfl) dX6_init_17 (fun H locs hP hD hS => ?_)
  have hP : va_P D vwCl [(h0, .inr (6, [.ref q1, .ref q2, .int 0])), (q1, .inl (tt 0, 160, .inl (fun _ => 0))), (q2, .inl (tt 0, 3, .inl (fun _ => 0)))] H := hP
  have hD : va_D A [(h0, .inr (6, [.ref q1, .ref q2, .int 0])), (q1, .inl (tt 0, 160, .inl (fun _ => 0))), (q2, .inl (tt 0, 3, .inl (fun _ => 0)))] := hD
  refine W.widen (k := 2) (n := 163) (Nat.le_of_ble_eq_true rfl) (Nat.le_of_ble_eq_true rfl) ?_
  exact W.vret hx hb hr (fun t3 ht hW => ⟨⟨(fun k => [0, q1, q2].getD k 0), rfl, trivial, by rw [ht]; exact hP, va_K.moved hW.alike hK, hD⟩, hS.F ht⟩) hS.2.2 dX6_init_20
def WDemand (tt : Nat → ClassId) (h : Nat) (u : Nat → Nat) : va_W := [(h, .inr (0, [.int 0, .ref (u 1), .ref (u 2), .ref (u 3)])), ((u 1), .inl (tt 0, 5, .inl (fun _ => 0))), ((u 2), .inl (tt 0, 5, .inl (fun _ => 0))), ((u 3), .inl (tt 0, 6, .inl (fun _ => 0)))]
set_option maxHeartbeats 40000000 in
set_option maxRecDepth 100000 in
theorem e_X0_init (l : Launch) (D : va_G) (tt : Nat → ClassId) (h0 : Nat) (sz : Nat) : Met l yX0_init (wz yX0_init cX0_init 1 none) ({ frames := 1, cells := 3, slots := 16, locals := 12 } : Room) (va_Pc [.ref h0] (eP D tt sz [(h0, .inr (0, [.int 0, .null, .null, .null]))])) (va_Qv (fun _ : (Nat → Nat) => True) (eB D tt (va_A [(h0, .inr (0, [.int 0, .null, .null, .null]))] sz) (WDemand tt h0)) (va_A [(h0, .inr (0, [.int 0, .null, .null, .null]))] sz)) 3 16 (va_A [(h0, .inr (0, [.int 0, .null, .null, .null]))] sz) := by
  refine Met.ofW (cc := cX0_init) (maxL := 1) (ret := none) (by decide) rfl ?_
  intro p e s m args below meth c s₁ B hml hv
  obtain ⟨rfl, hsz, hP, hK, hD0, hO⟩ := hv
  have hx := B.exec
  have hb := B.bytes
  have hr := B.returns
  have hts := atoms_spec (ws := wz yX0_init cX0_init 1 none) B.pre
  have hown : s.vm.findClass RX0 = some m.cls := findClass_of_methodNamed B.named
  have hlocks := B.notSynchronized
  have hin : meth.name = "<init>" := (name_of_methodNamed B.named B.method).1
  subst hsz
  have hD := hD0.self (sz := s.heap.size)
  generalize hAe : va_A [(h0, .inr (0, [.int 0, .null, .null, .null]))] s.heap.size = A at hD ⊢
  have hA : ∀ q : Nat, s.heap.size ≤ q → A q := fun q h => by rw [← hAe]; exact Or.inr h
  have hS : va_S A s.heap s.heap [] := va_S.rf
  have hl := lv_entry ([.ref h0] : List Value) (n := 1) (Nat.le_of_ble_eq_true rfl)
  rw [lg_entry_eq]
  generalize hav : ([.ref h0] : List Value) = av at hl hts ⊢
  generalize (lg_sl av ++ List.replicate (1 - (lg_sl av).length) Slot.unset).toArray = ls at hl ⊢
  have hl : lv_has ls 1 [(0, .ref h0)] := by rw [← hav] at hl; exact hl
  obtain ⟨H, hH⟩ : ∃ y, y = s.heap := ⟨_, rfl⟩
  suffices hw : ∀ (H : Heap) (locs : List Loc), va_P D vwCl [(h0, .inr (0, [.int 0, .null, .null, .null]))] H → va_D A [(h0, .inr (0, [.int 0, .null, .null, .null]))] → va_S A s.heap H locs → W p l e ({ frames := 1, cells := 3, slots := 16, locals := 12 } : Room) s m av.toArray below meth c H locs 0 0 (MQ below (va_Qv (fun _ : (Nat → Nat) => True) (eB D tt A (WDemand tt h0)) A) av.toArray s 3 16 A) (F0 m 0 ls []) from hw _ [] hP hD hS
  clear hP hD hS hH H
  intro H locs hP hD hS
  refine lv_aload_n hx hb dX0_init_0 rfl (lv_at hl 0 rfl) ?_
  refine W.objInit hx hb hown (hts (.methodLink RX0 3 objectInit) (wzm K95)) (hts (.instanceMethod objectInit) (wzm K10)) (hts (.code objectInit ⟨#[0xb1]⟩ 1 none) (wzm K11)) rfl (by rw [hml]; exact hl.1) rfl dX0_init_1 (Nat.le_of_ble_eq_true rfl) (Nat.le_of_ble_eq_true rfl) ?_
  refine W.eq (g2 := F0 m 4 ls []) rfl ?_
  refine lv_aload_n hx hb dX0_init_4 rfl (lv_at hl 0 rfl) ?_
  refine lv_iconst (v := (5 : Int32)) hx hb dX0_init_5 (by decide) ?_
  refine e_newi hx hb (hts (.arrayClass .int) (wzm K42)) hK hP hD hS hA (N' := 5) (by decide) (by decide) (Nat.le_of_ble_eq_true rfl) (Nat.le_of_ble_eq_true rfl) (Nat.le_of_ble_eq_true rfl) dX0_init_6 (fun q1 H hP hD hS => ?_)
  have hP : va_P D vwCl [(h0, .inr (0, [.int 0, .null, .null, .null])), (q1, .inl (tt 0, 5, .inl (fun _ => 0)))] H := hP
  have hD : va_D A [(h0, .inr (0, [.int 0, .null, .null, .null])), (q1, .inl (tt 0, 5, .inl (fun _ => 0)))] := hD
  refine W.widen (k := 1) (n := 5) (Nat.le_of_ble_eq_true rfl) (Nat.le_of_ble_eq_true rfl) ?_
  refine va_putF (D := D) (ci := 0) (v := .ref q1) (ty := (.array .int)) (C := RX0) (T := TX0) (N := 4) hx hb hts iX0 tyX0 tyX0_ok nmX0 hown hK hP hD hS 0 rfl rfl 1 (by decide) (hts (.fieldLink RX0 9 "OtherHalfOfNight$Demand" "yields" "[I") (wzm K96)) (fun _ h9 => h9) rfl hin rfl (by decide +kernel) rfl rfl (Nat.le_of_ble_eq_true rfl) dX0_init_8 (fun H locs hP hD hS => ?_)
  have hP : va_P D vwCl [(h0, .inr (0, [.int 0, .ref q1, .null, .null])), (q1, .inl (tt 0, 5, .inl (fun _ => 0)))] H := hP
  have hD : va_D A [(h0, .inr (0, [.int 0, .ref q1, .null, .null])), (q1, .inl (tt 0, 5, .inl (fun _ => 0)))] := hD
  refine lv_aload_n hx hb dX0_init_11 rfl (lv_at hl 0 rfl) ?_
  refine lv_iconst (v := (5 : Int32)) hx hb dX0_init_12 (by decide) ?_
  refine e_newi hx hb (hts (.arrayClass .int) (wzm K42)) hK hP hD hS hA (N' := 5) (by decide) (by decide) (Nat.le_of_ble_eq_true rfl) (Nat.le_of_ble_eq_true rfl) (Nat.le_of_ble_eq_true rfl) dX0_init_13 (fun q2 H hP hD hS => ?_)
  have hP : va_P D vwCl [(h0, .inr (0, [.int 0, .ref q1, .null, .null])), (q1, .inl (tt 0, 5, .inl (fun _ => 0))), (q2, .inl (tt 0, 5, .inl (fun _ => 0)))] H := hP
  have hD : va_D A [(h0, .inr (0, [.int 0, .ref q1, .null, .null])), (q1, .inl (tt 0, 5, .inl (fun _ => 0))), (q2, .inl (tt 0, 5, .inl (fun _ => 0)))] := hD
  refine W.widen (k := 2) (n := 10) (Nat.le_of_ble_eq_true rfl) (Nat.le_of_ble_eq_true rfl) ?_
  refine va_putF (D := D) (ci := 0) (v := .ref q2) (ty := (.array .int)) (C := RX0) (T := TX0) (N := 4) hx hb hts iX0 tyX0 tyX0_ok nmX0 hown hK hP hD hS 0 rfl rfl 2 (by decide) (hts (.fieldLink RX0 15 "OtherHalfOfNight$Demand" "suits" "[I") (wzm K97)) (fun _ h9 => h9) rfl hin rfl (by decide +kernel) rfl rfl (Nat.le_of_ble_eq_true rfl) dX0_init_15 (fun H locs hP hD hS => ?_)
  have hP : va_P D vwCl [(h0, .inr (0, [.int 0, .ref q1, .ref q2, .null])), (q1, .inl (tt 0, 5, .inl (fun _ => 0))), (q2, .inl (tt 0, 5, .inl (fun _ => 0)))] H := hP
  have hD : va_D A [(h0, .inr (0, [.int 0, .ref q1, .ref q2, .null])), (q1, .inl (tt 0, 5, .inl (fun _ => 0))), (q2, .inl (tt 0, 5, .inl (fun _ => 0)))] := hD
  refine lv_aload_n hx hb dX0_init_18 rfl (lv_at hl 0 rfl) ?_
  refine lv_bipush (v := (6 : Int32)) hx hb dX0_init_19 (by decide) ?_
  refine e_newi hx hb (hts (.arrayClass .int) (wzm K42)) hK hP hD hS hA (N' := 6) (by decide) (by decide) (Nat.le_of_ble_eq_true rfl) (Nat.le_of_ble_eq_true rfl) (Nat.le_of_ble_eq_true rfl) dX0_init_21 (fun q3 H hP hD hS => ?_)
  have hP : va_P D vwCl [(h0, .inr (0, [.int 0, .ref q1, .ref q2, .null])), (q1, .inl (tt 0, 5, .inl (fun _ => 0))), (q2, .inl (tt 0, 5, .inl (fun _ => 0))), (q3, .inl (tt 0, 6, .inl (fun _ => 0)))] H := hP
  have hD : va_D A [(h0, .inr (0, [.int 0, .ref q1, .ref q2, .null])), (q1, .inl (tt 0, 5, .inl (fun _ => 0))), (q2, .inl (tt 0, 5, .inl (fun _ => 0))), (q3, .inl (tt 0, 6, .inl (fun _ => 0)))] := hD
  refine W.widen (k := 3) (n := 16) (Nat.le_of_ble_eq_true rfl) (Nat.le_of_ble_eq_true rfl) ?_
  refine va_putF (D := D) (ci := 0) (v := .ref q3) (ty := (.array .int)) (C := RX0) (T := TX0) (N := 4) hx hb hts iX0 tyX0 tyX0_ok nmX0 hown hK hP hD hS 0 rfl rfl 3 (by decide) (hts (.fieldLink RX0 18 "OtherHalfOfNight$Demand" "wants" "[I") (wzm K98)) (fun _ h9 => h9) rfl hin rfl (by decide +kernel) rfl rfl (Nat.le_of_ble_eq_true rfl) dX0_init_23 (fun H locs hP hD hS => ?_)
  have hP : va_P D vwCl [(h0, .inr (0, [.int 0, .ref q1, .ref q2, .ref q3])), (q1, .inl (tt 0, 5, .inl (fun _ => 0))), (q2, .inl (tt 0, 5, .inl (fun _ => 0))), (q3, .inl (tt 0, 6, .inl (fun _ => 0)))] H := hP
  have hD : va_D A [(h0, .inr (0, [.int 0, .ref q1, .ref q2, .ref q3])), (q1, .inl (tt 0, 5, .inl (fun _ => 0))), (q2, .inl (tt 0, 5, .inl (fun _ => 0))), (q3, .inl (tt 0, 6, .inl (fun _ => 0)))] := hD
  refine W.widen (k := 3) (n := 16) (Nat.le_of_ble_eq_true rfl) (Nat.le_of_ble_eq_true rfl) ?_
  exact W.vret hx hb hr (fun t3 ht hW => ⟨⟨(fun k => [0, q1, q2, q3].getD k 0), rfl, trivial, by rw [ht]; exact hP, va_K.moved hW.alike hK, hD⟩, hS.F ht⟩) hS.2.2 dX0_init_26
def WSheet (tt : Nat → ClassId) (h : Nat) (u : Nat → Nat) : va_W := [(h, .inr (5, [.int (-1 : Int32), .int 0, .ref (u 1)])), ((u 1), .inl (tt 0, 40, .inl (fun _ => 0)))]
set_option maxHeartbeats 40000000 in
set_option maxRecDepth 100000 in
theorem e_X5_init (l : Launch) (D : va_G) (tt : Nat → ClassId) (h0 : Nat) (sz : Nat) : Met l yX5_init (wz yX5_init cX5_init 1 none) ({ frames := 1, cells := 1, slots := 40, locals := 12 } : Room) (va_Pc [.ref h0] (eP D tt sz [(h0, .inr (5, [.int 0, .int 0, .null]))])) (va_Qv (fun _ : (Nat → Nat) => True) (eB D tt (va_A [(h0, .inr (5, [.int 0, .int 0, .null]))] sz) (WSheet tt h0)) (va_A [(h0, .inr (5, [.int 0, .int 0, .null]))] sz)) 1 40 (va_A [(h0, .inr (5, [.int 0, .int 0, .null]))] sz) := by
  refine Met.ofW (cc := cX5_init) (maxL := 1) (ret := none) (by decide) rfl ?_
  intro p e s m args below meth c s₁ B hml hv
  obtain ⟨rfl, hsz, hP, hK, hD0, hO⟩ := hv
  have hx := B.exec
  have hb := B.bytes
  have hr := B.returns
  have hts := atoms_spec (ws := wz yX5_init cX5_init 1 none) B.pre
  have hown : s.vm.findClass RX5 = some m.cls := findClass_of_methodNamed B.named
  have hlocks := B.notSynchronized
  have hin : meth.name = "<init>" := (name_of_methodNamed B.named B.method).1
  subst hsz
  have hD := hD0.self (sz := s.heap.size)
  generalize hAe : va_A [(h0, .inr (5, [.int 0, .int 0, .null]))] s.heap.size = A at hD ⊢
  have hA : ∀ q : Nat, s.heap.size ≤ q → A q := fun q h => by rw [← hAe]; exact Or.inr h
  have hS : va_S A s.heap s.heap [] := va_S.rf
  have hl := lv_entry ([.ref h0] : List Value) (n := 1) (Nat.le_of_ble_eq_true rfl)
  rw [lg_entry_eq]
  generalize hav : ([.ref h0] : List Value) = av at hl hts ⊢
  generalize (lg_sl av ++ List.replicate (1 - (lg_sl av).length) Slot.unset).toArray = ls at hl ⊢
  have hl : lv_has ls 1 [(0, .ref h0)] := by rw [← hav] at hl; exact hl
  obtain ⟨H, hH⟩ : ∃ y, y = s.heap := ⟨_, rfl⟩
  suffices hw : ∀ (H : Heap) (locs : List Loc), va_P D vwCl [(h0, .inr (5, [.int 0, .int 0, .null]))] H → va_D A [(h0, .inr (5, [.int 0, .int 0, .null]))] → va_S A s.heap H locs → W p l e ({ frames := 1, cells := 1, slots := 40, locals := 12 } : Room) s m av.toArray below meth c H locs 0 0 (MQ below (va_Qv (fun _ : (Nat → Nat) => True) (eB D tt A (WSheet tt h0)) A) av.toArray s 1 40 A) (F0 m 0 ls []) from hw _ [] hP hD hS
  clear hP hD hS hH H
  intro H locs hP hD hS
  refine lv_aload_n hx hb dX5_init_0 rfl (lv_at hl 0 rfl) ?_
  refine W.objInit hx hb hown (hts (.methodLink RX5 1 objectInit) (wzm K101)) (hts (.instanceMethod objectInit) (wzm K10)) (hts (.code objectInit ⟨#[0xb1]⟩ 1 none) (wzm K11)) rfl (by rw [hml]; exact hl.1) rfl dX5_init_1 (Nat.le_of_ble_eq_true rfl) (Nat.le_of_ble_eq_true rfl) ?_
  refine W.eq (g2 := F0 m 4 ls []) rfl ?_
  refine lv_aload_n hx hb dX5_init_4 rfl (lv_at hl 0 rfl) ?_
  refine lv_iconst (v := (-1 : Int32)) hx hb dX5_init_5 (by decide) ?_
  refine va_put (D := D) (ci := 5) (v := .int (-1 : Int32)) (ty := .int) (C := RX5) (T := TX5) (N := 3) hx hb hts iX5 tyX5 tyX5_ok nmX5 hown hK hP hD hS 0 rfl rfl 0 (by decide) (hts (.fieldLink RX5 9 "OtherHalfOfNight$Sheet" "sort" "I") (wzm K102)) (fun _ h9 => h9) rfl (by decide +kernel) rfl rfl (Nat.le_of_ble_eq_true rfl) dX5_init_6 (fun H locs hP hD hS => ?_)
  have hP : va_P D vwCl [(h0, .inr (5, [.int (-1 : Int32), .int 0, .null]))] H := hP
  have hD : va_D A [(h0, .inr (5, [.int (-1 : Int32), .int 0, .null]))] := hD
  refine lv_aload_n hx hb dX5_init_9 rfl (lv_at hl 0 rfl) ?_
  refine lv_bipush (v := (40 : Int32)) hx hb dX5_init_10 (by decide) ?_
  refine e_newi hx hb (hts (.arrayClass .int) (wzm K42)) hK hP hD hS hA (N' := 40) (by decide) (by decide) (Nat.le_of_ble_eq_true rfl) (Nat.le_of_ble_eq_true rfl) (Nat.le_of_ble_eq_true rfl) dX5_init_12 (fun q1 H hP hD hS => ?_)
  have hP : va_P D vwCl [(h0, .inr (5, [.int (-1 : Int32), .int 0, .null])), (q1, .inl (tt 0, 40, .inl (fun _ => 0)))] H := hP
  have hD : va_D A [(h0, .inr (5, [.int (-1 : Int32), .int 0, .null])), (q1, .inl (tt 0, 40, .inl (fun _ => 0)))] := hD
  refine W.widen (k := 1) (n := 40) (Nat.le_of_ble_eq_true rfl) (Nat.le_of_ble_eq_true rfl) ?_
  refine va_putF (D := D) (ci := 5) (v := .ref q1) (ty := (.array .int)) (C := RX5) (T := TX5) (N := 3) hx hb hts iX5 tyX5 tyX5_ok nmX5 hown hK hP hD hS 0 rfl rfl 2 (by decide) (hts (.fieldLink RX5 13 "OtherHalfOfNight$Sheet" "items" "[I") (wzm K103)) (fun _ h9 => h9) rfl hin rfl (by decide +kernel) rfl rfl (Nat.le_of_ble_eq_true rfl) dX5_init_14 (fun H locs hP hD hS => ?_)
  have hP : va_P D vwCl [(h0, .inr (5, [.int (-1 : Int32), .int 0, .ref q1])), (q1, .inl (tt 0, 40, .inl (fun _ => 0)))] H := hP
  have hD : va_D A [(h0, .inr (5, [.int (-1 : Int32), .int 0, .ref q1])), (q1, .inl (tt 0, 40, .inl (fun _ => 0)))] := hD
  refine W.widen (k := 1) (n := 40) (Nat.le_of_ble_eq_true rfl) (Nat.le_of_ble_eq_true rfl) ?_
  exact W.vret hx hb hr (fun t3 ht hW => ⟨⟨(fun k => [0, q1].getD k 0), rfl, trivial, by rw [ht]; exact hP, va_K.moved hW.alike hK, hD⟩, hS.F ht⟩) hS.2.2 dX5_init_17
def eHouse_5 : Nat → Int32 := (upd (upd (upd (upd (upd (upd (fun _ => 0) (0 : Int32).toNatClampNeg (10 : Int32)) (1 : Int32).toNatClampNeg (10 : Int32)) (2 : Int32).toNatClampNeg (10 : Int32)) (3 : Int32).toNatClampNeg (10 : Int32)) (4 : Int32).toNatClampNeg (10 : Int32)) (5 : Int32).toNatClampNeg (10 : Int32))
def eHouse_6 : Nat → Int32 := (upd (upd (upd (upd (upd (upd (fun _ => 0) (0 : Int32).toNatClampNeg (0 : Int32)) (1 : Int32).toNatClampNeg (1 : Int32)) (2 : Int32).toNatClampNeg (2 : Int32)) (3 : Int32).toNatClampNeg (3 : Int32)) (4 : Int32).toNatClampNeg (4 : Int32)) (5 : Int32).toNatClampNeg (5 : Int32))
def WHouse (tt : Nat → ClassId) (h : Nat) (u : Nat → Nat) : va_W := [(h, .inr (1, [.int 0, .int 0, .int 0, .int 0, .ref (u 1), .ref (u 2), .ref (u 3), .ref (u 4), .ref (u 5), .ref (u 6), .ref (u 7)])), ((u 1), .inl (tt 0, 5, .inl (fun _ => 0))), ((u 2), .inl (tt 0, 5, .inl (fun _ => 0))), ((u 3), .inl (tt 0, 5, .inl (fun _ => 0))), ((u 4), .inl (tt 0, 5, .inl (fun _ => 0))), ((u 5), .inl (tt 0, 6, .inl eHouse_5)), ((u 6), .inl (tt 0, 6, .inl eHouse_6)), ((u 7), .inl (tt 0, 6, .inl (fun _ => 0)))]
set_option maxHeartbeats 40000000 in
set_option maxRecDepth 100000 in
theorem e_X1_init (l : Launch) (D : va_G) (tt : Nat → ClassId) (h0 : Nat) (sz : Nat) : Met l yX1_init (wz yX1_init cX1_init 2 none) ({ frames := 1, cells := 7, slots := 38, locals := 12 } : Room) (va_Pc [.ref h0] (eP D tt sz [(h0, .inr (1, [.int 0, .int 0, .int 0, .int 0, .null, .null, .null, .null, .null, .null, .null]))])) (va_Qv (fun _ : (Nat → Nat) => True) (eB D tt (va_A [(h0, .inr (1, [.int 0, .int 0, .int 0, .int 0, .null, .null, .null, .null, .null, .null, .null]))] sz) (WHouse tt h0)) (va_A [(h0, .inr (1, [.int 0, .int 0, .int 0, .int 0, .null, .null, .null, .null, .null, .null, .null]))] sz)) 7 38 (va_A [(h0, .inr (1, [.int 0, .int 0, .int 0, .int 0, .null, .null, .null, .null, .null, .null, .null]))] sz) := by
  refine Met.ofW (cc := cX1_init) (maxL := 2) (ret := none) (by decide) rfl ?_
  intro p e s m args below meth c s₁ B hml hv
  obtain ⟨rfl, hsz, hP, hK, hD0, hO⟩ := hv
  have hx := B.exec
  have hb := B.bytes
  have hr := B.returns
  have hts := atoms_spec (ws := wz yX1_init cX1_init 2 none) B.pre
  have hown : s.vm.findClass RX1 = some m.cls := findClass_of_methodNamed B.named
  have hlocks := B.notSynchronized
  have hin : meth.name = "<init>" := (name_of_methodNamed B.named B.method).1
  subst hsz
  have hD := hD0.self (sz := s.heap.size)
  generalize hAe : va_A [(h0, .inr (1, [.int 0, .int 0, .int 0, .int 0, .null, .null, .null, .null, .null, .null, .null]))] s.heap.size = A at hD ⊢
  have hA : ∀ q : Nat, s.heap.size ≤ q → A q := fun q h => by rw [← hAe]; exact Or.inr h
  have hS : va_S A s.heap s.heap [] := va_S.rf
  have hl := lv_entry ([.ref h0] : List Value) (n := 2) (Nat.le_of_ble_eq_true rfl)
  rw [lg_entry_eq]
  generalize hav : ([.ref h0] : List Value) = av at hl hts ⊢
  generalize (lg_sl av ++ List.replicate (2 - (lg_sl av).length) Slot.unset).toArray = ls at hl ⊢
  have hl : lv_has ls 2 [(0, .ref h0)] := by rw [← hav] at hl; exact hl
  obtain ⟨H, hH⟩ : ∃ y, y = s.heap := ⟨_, rfl⟩
  suffices hw : ∀ (H : Heap) (locs : List Loc), va_P D vwCl [(h0, .inr (1, [.int 0, .int 0, .int 0, .int 0, .null, .null, .null, .null, .null, .null, .null]))] H → va_D A [(h0, .inr (1, [.int 0, .int 0, .int 0, .int 0, .null, .null, .null, .null, .null, .null, .null]))] → va_S A s.heap H locs → W p l e ({ frames := 1, cells := 7, slots := 38, locals := 12 } : Room) s m av.toArray below meth c H locs 0 0 (MQ below (va_Qv (fun _ : (Nat → Nat) => True) (eB D tt A (WHouse tt h0)) A) av.toArray s 7 38 A) (F0 m 0 ls []) from hw _ [] hP hD hS
  clear hP hD hS hH H
  intro H locs hP hD hS
  refine lv_aload_n hx hb dX1_init_0 rfl (lv_at hl 0 rfl) ?_
  refine W.objInit hx hb hown (hts (.methodLink RX1 3 objectInit) (wzm K41)) (hts (.instanceMethod objectInit) (wzm K10)) (hts (.code objectInit ⟨#[0xb1]⟩ 1 none) (wzm K11)) rfl (by rw [hml]; exact hl.1) rfl dX1_init_1 (Nat.le_of_ble_eq_true rfl) (Nat.le_of_ble_eq_true rfl) ?_
  refine W.eq (g2 := F0 m 4 ls []) rfl ?_
  refine lv_aload_n hx hb dX1_init_4 rfl (lv_at hl 0 rfl) ?_
  refine lv_iconst (v := (5 : Int32)) hx hb dX1_init_5 (by decide) ?_
  refine e_newi hx hb (hts (.arrayClass .int) (wzm K42)) hK hP hD hS hA (N' := 5) (by decide) (by decide) (Nat.le_of_ble_eq_true rfl) (Nat.le_of_ble_eq_true rfl) (Nat.le_of_ble_eq_true rfl) dX1_init_6 (fun q1 H hP hD hS => ?_)
  have hP : va_P D vwCl [(h0, .inr (1, [.int 0, .int 0, .int 0, .int 0, .null, .null, .null, .null, .null, .null, .null])), (q1, .inl (tt 0, 5, .inl (fun _ => 0)))] H := hP
  have hD : va_D A [(h0, .inr (1, [.int 0, .int 0, .int 0, .int 0, .null, .null, .null, .null, .null, .null, .null])), (q1, .inl (tt 0, 5, .inl (fun _ => 0)))] := hD
  refine W.widen (k := 1) (n := 5) (Nat.le_of_ble_eq_true rfl) (Nat.le_of_ble_eq_true rfl) ?_
  refine va_putF (D := D) (ci := 1) (v := .ref q1) (ty := (.array .int)) (C := RX1) (T := TX1) (N := 11) hx hb hts iX1 tyX1 tyX1_ok nmX1 hown hK hP hD hS 0 rfl rfl 4 (by decide) (hts (.fieldLink RX1 9 "OtherHalfOfNight$House" "kind" "[I") (wzm K43)) (fun _ h9 => h9) rfl hin rfl (by decide +kernel) rfl rfl (Nat.le_of_ble_eq_true rfl) dX1_init_8 (fun H locs hP hD hS => ?_)
  have hP : va_P D vwCl [(h0, .inr (1, [.int 0, .int 0, .int 0, .int 0, .ref q1, .null, .null, .null, .null, .null, .null])), (q1, .inl (tt 0, 5, .inl (fun _ => 0)))] H := hP
  have hD : va_D A [(h0, .inr (1, [.int 0, .int 0, .int 0, .int 0, .ref q1, .null, .null, .null, .null, .null, .null])), (q1, .inl (tt 0, 5, .inl (fun _ => 0)))] := hD
  refine lv_aload_n hx hb dX1_init_11 rfl (lv_at hl 0 rfl) ?_
  refine lv_iconst (v := (5 : Int32)) hx hb dX1_init_12 (by decide) ?_
  refine e_newi hx hb (hts (.arrayClass .int) (wzm K42)) hK hP hD hS hA (N' := 5) (by decide) (by decide) (Nat.le_of_ble_eq_true rfl) (Nat.le_of_ble_eq_true rfl) (Nat.le_of_ble_eq_true rfl) dX1_init_13 (fun q2 H hP hD hS => ?_)
  have hP : va_P D vwCl [(h0, .inr (1, [.int 0, .int 0, .int 0, .int 0, .ref q1, .null, .null, .null, .null, .null, .null])), (q1, .inl (tt 0, 5, .inl (fun _ => 0))), (q2, .inl (tt 0, 5, .inl (fun _ => 0)))] H := hP
  have hD : va_D A [(h0, .inr (1, [.int 0, .int 0, .int 0, .int 0, .ref q1, .null, .null, .null, .null, .null, .null])), (q1, .inl (tt 0, 5, .inl (fun _ => 0))), (q2, .inl (tt 0, 5, .inl (fun _ => 0)))] := hD
  refine W.widen (k := 2) (n := 10) (Nat.le_of_ble_eq_true rfl) (Nat.le_of_ble_eq_true rfl) ?_
  refine va_putF (D := D) (ci := 1) (v := .ref q2) (ty := (.array .int)) (C := RX1) (T := TX1) (N := 11) hx hb hts iX1 tyX1 tyX1_ok nmX1 hown hK hP hD hS 0 rfl rfl 5 (by decide) (hts (.fieldLink RX1 15 "OtherHalfOfNight$House" "number" "[I") (wzm K44)) (fun _ h9 => h9) rfl hin rfl (by decide +kernel) rfl rfl (Nat.le_of_ble_eq_true rfl) dX1_init_15 (fun H locs hP hD hS => ?_)
  have hP : va_P D vwCl [(h0, .inr (1, [.int 0, .int 0, .int 0, .int 0, .ref q1, .ref q2, .null, .null, .null, .null, .null])), (q1, .inl (tt 0, 5, .inl (fun _ => 0))), (q2, .inl (tt 0, 5, .inl (fun _ => 0)))] H := hP
  have hD : va_D A [(h0, .inr (1, [.int 0, .int 0, .int 0, .int 0, .ref q1, .ref q2, .null, .null, .null, .null, .null])), (q1, .inl (tt 0, 5, .inl (fun _ => 0))), (q2, .inl (tt 0, 5, .inl (fun _ => 0)))] := hD
  refine lv_aload_n hx hb dX1_init_18 rfl (lv_at hl 0 rfl) ?_
  refine lv_iconst (v := (5 : Int32)) hx hb dX1_init_19 (by decide) ?_
  refine e_newi hx hb (hts (.arrayClass .int) (wzm K42)) hK hP hD hS hA (N' := 5) (by decide) (by decide) (Nat.le_of_ble_eq_true rfl) (Nat.le_of_ble_eq_true rfl) (Nat.le_of_ble_eq_true rfl) dX1_init_20 (fun q3 H hP hD hS => ?_)
  have hP : va_P D vwCl [(h0, .inr (1, [.int 0, .int 0, .int 0, .int 0, .ref q1, .ref q2, .null, .null, .null, .null, .null])), (q1, .inl (tt 0, 5, .inl (fun _ => 0))), (q2, .inl (tt 0, 5, .inl (fun _ => 0))), (q3, .inl (tt 0, 5, .inl (fun _ => 0)))] H := hP
  have hD : va_D A [(h0, .inr (1, [.int 0, .int 0, .int 0, .int 0, .ref q1, .ref q2, .null, .null, .null, .null, .null])), (q1, .inl (tt 0, 5, .inl (fun _ => 0))), (q2, .inl (tt 0, 5, .inl (fun _ => 0))), (q3, .inl (tt 0, 5, .inl (fun _ => 0)))] := hD
  refine W.widen (k := 3) (n := 15) (Nat.le_of_ble_eq_true rfl) (Nat.le_of_ble_eq_true rfl) ?_
  refine va_putF (D := D) (ci := 1) (v := .ref q3) (ty := (.array .int)) (C := RX1) (T := TX1) (N := 11) hx hb hts iX1 tyX1 tyX1_ok nmX1 hown hK hP hD hS 0 rfl rfl 6 (by decide) (hts (.fieldLink RX1 18 "OtherHalfOfNight$House" "trouble" "[I") (wzm K45)) (fun _ h9 => h9) rfl hin rfl (by decide +kernel) rfl rfl (Nat.le_of_ble_eq_true rfl) dX1_init_22 (fun H locs hP hD hS => ?_)
  have hP : va_P D vwCl [(h0, .inr (1, [.int 0, .int 0, .int 0, .int 0, .ref q1, .ref q2, .ref q3, .null, .null, .null, .null])), (q1, .inl (tt 0, 5, .inl (fun _ => 0))), (q2, .inl (tt 0, 5, .inl (fun _ => 0))), (q3, .inl (tt 0, 5, .inl (fun _ => 0)))] H := hP
  have hD : va_D A [(h0, .inr (1, [.int 0, .int 0, .int 0, .int 0, .ref q1, .ref q2, .ref q3, .null, .null, .null, .null])), (q1, .inl (tt 0, 5, .inl (fun _ => 0))), (q2, .inl (tt 0, 5, .inl (fun _ => 0))), (q3, .inl (tt 0, 5, .inl (fun _ => 0)))] := hD
  refine lv_aload_n hx hb dX1_init_25 rfl (lv_at hl 0 rfl) ?_
  refine lv_iconst (v := (5 : Int32)) hx hb dX1_init_26 (by decide) ?_
  refine e_newi hx hb (hts (.arrayClass .int) (wzm K42)) hK hP hD hS hA (N' := 5) (by decide) (by decide) (Nat.le_of_ble_eq_true rfl) (Nat.le_of_ble_eq_true rfl) (Nat.le_of_ble_eq_true rfl) dX1_init_27 (fun q4 H hP hD hS => ?_)
  have hP : va_P D vwCl [(h0, .inr (1, [.int 0, .int 0, .int 0, .int 0, .ref q1, .ref q2, .ref q3, .null, .null, .null, .null])), (q1, .inl (tt 0, 5, .inl (fun _ => 0))), (q2, .inl (tt 0, 5, .inl (fun _ => 0))), (q3, .inl (tt 0, 5, .inl (fun _ => 0))), (q4, .inl (tt 0, 5, .inl (fun _ => 0)))] H := hP
  have hD : va_D A [(h0, .inr (1, [.int 0, .int 0, .int 0, .int 0, .ref q1, .ref q2, .ref q3, .null, .null, .null, .null])), (q1, .inl (tt 0, 5, .inl (fun _ => 0))), (q2, .inl (tt 0, 5, .inl (fun _ => 0))), (q3, .inl (tt 0, 5, .inl (fun _ => 0))), (q4, .inl (tt 0, 5, .inl (fun _ => 0)))] := hD
  refine W.widen (k := 4) (n := 20) (Nat.le_of_ble_eq_true rfl) (Nat.le_of_ble_eq_true rfl) ?_
  refine va_putF (D := D) (ci := 1) (v := .ref q4) (ty := (.array .int)) (C := RX1) (T := TX1) (N := 11) hx hb hts iX1 tyX1 tyX1_ok nmX1 hown hK hP hD hS 0 rfl rfl 7 (by decide) (hts (.fieldLink RX1 21 "OtherHalfOfNight$House" "news" "[I") (wzm K46)) (fun _ h9 => h9) rfl hin rfl (by decide +kernel) rfl rfl (Nat.le_of_ble_eq_true rfl) dX1_init_29 (fun H locs hP hD hS => ?_)
  have hP : va_P D vwCl [(h0, .inr (1, [.int 0, .int 0, .int 0, .int 0, .ref q1, .ref q2, .ref q3, .ref q4, .null, .null, .null])), (q1, .inl (tt 0, 5, .inl (fun _ => 0))), (q2, .inl (tt 0, 5, .inl (fun _ => 0))), (q3, .inl (tt 0, 5, .inl (fun _ => 0))), (q4, .inl (tt 0, 5, .inl (fun _ => 0)))] H := hP
  have hD : va_D A [(h0, .inr (1, [.int 0, .int 0, .int 0, .int 0, .ref q1, .ref q2, .ref q3, .ref q4, .null, .null, .null])), (q1, .inl (tt 0, 5, .inl (fun _ => 0))), (q2, .inl (tt 0, 5, .inl (fun _ => 0))), (q3, .inl (tt 0, 5, .inl (fun _ => 0))), (q4, .inl (tt 0, 5, .inl (fun _ => 0)))] := hD
  refine lv_aload_n hx hb dX1_init_32 rfl (lv_at hl 0 rfl) ?_
  refine lv_bipush (v := (6 : Int32)) hx hb dX1_init_33 (by decide) ?_
  refine e_newi hx hb (hts (.arrayClass .int) (wzm K42)) hK hP hD hS hA (N' := 6) (by decide) (by decide) (Nat.le_of_ble_eq_true rfl) (Nat.le_of_ble_eq_true rfl) (Nat.le_of_ble_eq_true rfl) dX1_init_35 (fun q5 H hP hD hS => ?_)
  have hP : va_P D vwCl [(h0, .inr (1, [.int 0, .int 0, .int 0, .int 0, .ref q1, .ref q2, .ref q3, .ref q4, .null, .null, .null])), (q1, .inl (tt 0, 5, .inl (fun _ => 0))), (q2, .inl (tt 0, 5, .inl (fun _ => 0))), (q3, .inl (tt 0, 5, .inl (fun _ => 0))), (q4, .inl (tt 0, 5, .inl (fun _ => 0))), (q5, .inl (tt 0, 6, .inl (fun _ => 0)))] H := hP
  have hD : va_D A [(h0, .inr (1, [.int 0, .int 0, .int 0, .int 0, .ref q1, .ref q2, .ref q3, .ref q4, .null, .null, .null])), (q1, .inl (tt 0, 5, .inl (fun _ => 0))), (q2, .inl (tt 0, 5, .inl (fun _ => 0))), (q3, .inl (tt 0, 5, .inl (fun _ => 0))), (q4, .inl (tt 0, 5, .inl (fun _ => 0))), (q5, .inl (tt 0, 6, .inl (fun _ => 0)))] := hD
  refine W.widen (k := 5) (n := 26) (Nat.le_of_ble_eq_true rfl) (Nat.le_of_ble_eq_true rfl) ?_
  refine va_putF (D := D) (ci := 1) (v := .ref q5) (ty := (.array .int)) (C := RX1) (T := TX1) (N := 11) hx hb hts iX1 tyX1 tyX1_ok nmX1 hown hK hP hD hS 0 rfl rfl 8 (by decide) (hts (.fieldLink RX1 24 "OtherHalfOfNight$House" "want" "[I") (wzm K47)) (fun _ h9 => h9) rfl hin rfl (by decide +kernel) rfl rfl (Nat.le_of_ble_eq_true rfl) dX1_init_37 (fun H locs hP hD hS => ?_)
  have hP : va_P D vwCl [(h0, .inr (1, [.int 0, .int 0, .int 0, .int 0, .ref q1, .ref q2, .ref q3, .ref q4, .ref q5, .null, .null])), (q1, .inl (tt 0, 5, .inl (fun _ => 0))), (q2, .inl (tt 0, 5, .inl (fun _ => 0))), (q3, .inl (tt 0, 5, .inl (fun _ => 0))), (q4, .inl (tt 0, 5, .inl (fun _ => 0))), (q5, .inl (tt 0, 6, .inl (fun _ => 0)))] H := hP
  have hD : va_D A [(h0, .inr (1, [.int 0, .int 0, .int 0, .int 0, .ref q1, .ref q2, .ref q3, .ref q4, .ref q5, .null, .null])), (q1, .inl (tt 0, 5, .inl (fun _ => 0))), (q2, .inl (tt 0, 5, .inl (fun _ => 0))), (q3, .inl (tt 0, 5, .inl (fun _ => 0))), (q4, .inl (tt 0, 5, .inl (fun _ => 0))), (q5, .inl (tt 0, 6, .inl (fun _ => 0)))] := hD
  refine lv_aload_n hx hb dX1_init_40 rfl (lv_at hl 0 rfl) ?_
  refine lv_bipush (v := (6 : Int32)) hx hb dX1_init_41 (by decide) ?_
  refine e_newi hx hb (hts (.arrayClass .int) (wzm K42)) hK hP hD hS hA (N' := 6) (by decide) (by decide) (Nat.le_of_ble_eq_true rfl) (Nat.le_of_ble_eq_true rfl) (Nat.le_of_ble_eq_true rfl) dX1_init_43 (fun q6 H hP hD hS => ?_)
  have hP : va_P D vwCl [(h0, .inr (1, [.int 0, .int 0, .int 0, .int 0, .ref q1, .ref q2, .ref q3, .ref q4, .ref q5, .null, .null])), (q1, .inl (tt 0, 5, .inl (fun _ => 0))), (q2, .inl (tt 0, 5, .inl (fun _ => 0))), (q3, .inl (tt 0, 5, .inl (fun _ => 0))), (q4, .inl (tt 0, 5, .inl (fun _ => 0))), (q5, .inl (tt 0, 6, .inl (fun _ => 0))), (q6, .inl (tt 0, 6, .inl (fun _ => 0)))] H := hP
  have hD : va_D A [(h0, .inr (1, [.int 0, .int 0, .int 0, .int 0, .ref q1, .ref q2, .ref q3, .ref q4, .ref q5, .null, .null])), (q1, .inl (tt 0, 5, .inl (fun _ => 0))), (q2, .inl (tt 0, 5, .inl (fun _ => 0))), (q3, .inl (tt 0, 5, .inl (fun _ => 0))), (q4, .inl (tt 0, 5, .inl (fun _ => 0))), (q5, .inl (tt 0, 6, .inl (fun _ => 0))), (q6, .inl (tt 0, 6, .inl (fun _ => 0)))] := hD
  refine W.widen (k := 6) (n := 32) (Nat.le_of_ble_eq_true rfl) (Nat.le_of_ble_eq_true rfl) ?_
  refine va_putF (D := D) (ci := 1) (v := .ref q6) (ty := (.array .int)) (C := RX1) (T := TX1) (N := 11) hx hb hts iX1 tyX1 tyX1_ok nmX1 hown hK hP hD hS 0 rfl rfl 9 (by decide) (hts (.fieldLink RX1 27 "OtherHalfOfNight$House" "taste" "[I") (wzm K48)) (fun _ h9 => h9) rfl hin rfl (by decide +kernel) rfl rfl (Nat.le_of_ble_eq_true rfl) dX1_init_45 (fun H locs hP hD hS => ?_)
  have hP : va_P D vwCl [(h0, .inr (1, [.int 0, .int 0, .int 0, .int 0, .ref q1, .ref q2, .ref q3, .ref q4, .ref q5, .ref q6, .null])), (q1, .inl (tt 0, 5, .inl (fun _ => 0))), (q2, .inl (tt 0, 5, .inl (fun _ => 0))), (q3, .inl (tt 0, 5, .inl (fun _ => 0))), (q4, .inl (tt 0, 5, .inl (fun _ => 0))), (q5, .inl (tt 0, 6, .inl (fun _ => 0))), (q6, .inl (tt 0, 6, .inl (fun _ => 0)))] H := hP
  have hD : va_D A [(h0, .inr (1, [.int 0, .int 0, .int 0, .int 0, .ref q1, .ref q2, .ref q3, .ref q4, .ref q5, .ref q6, .null])), (q1, .inl (tt 0, 5, .inl (fun _ => 0))), (q2, .inl (tt 0, 5, .inl (fun _ => 0))), (q3, .inl (tt 0, 5, .inl (fun _ => 0))), (q4, .inl (tt 0, 5, .inl (fun _ => 0))), (q5, .inl (tt 0, 6, .inl (fun _ => 0))), (q6, .inl (tt 0, 6, .inl (fun _ => 0)))] := hD
  refine lv_aload_n hx hb dX1_init_48 rfl (lv_at hl 0 rfl) ?_
  refine lv_bipush (v := (6 : Int32)) hx hb dX1_init_49 (by decide) ?_
  refine e_newi hx hb (hts (.arrayClass .int) (wzm K42)) hK hP hD hS hA (N' := 6) (by decide) (by decide) (Nat.le_of_ble_eq_true rfl) (Nat.le_of_ble_eq_true rfl) (Nat.le_of_ble_eq_true rfl) dX1_init_51 (fun q7 H hP hD hS => ?_)
  have hP : va_P D vwCl [(h0, .inr (1, [.int 0, .int 0, .int 0, .int 0, .ref q1, .ref q2, .ref q3, .ref q4, .ref q5, .ref q6, .null])), (q1, .inl (tt 0, 5, .inl (fun _ => 0))), (q2, .inl (tt 0, 5, .inl (fun _ => 0))), (q3, .inl (tt 0, 5, .inl (fun _ => 0))), (q4, .inl (tt 0, 5, .inl (fun _ => 0))), (q5, .inl (tt 0, 6, .inl (fun _ => 0))), (q6, .inl (tt 0, 6, .inl (fun _ => 0))), (q7, .inl (tt 0, 6, .inl (fun _ => 0)))] H := hP
  have hD : va_D A [(h0, .inr (1, [.int 0, .int 0, .int 0, .int 0, .ref q1, .ref q2, .ref q3, .ref q4, .ref q5, .ref q6, .null])), (q1, .inl (tt 0, 5, .inl (fun _ => 0))), (q2, .inl (tt 0, 5, .inl (fun _ => 0))), (q3, .inl (tt 0, 5, .inl (fun _ => 0))), (q4, .inl (tt 0, 5, .inl (fun _ => 0))), (q5, .inl (tt 0, 6, .inl (fun _ => 0))), (q6, .inl (tt 0, 6, .inl (fun _ => 0))), (q7, .inl (tt 0, 6, .inl (fun _ => 0)))] := hD
  refine W.widen (k := 7) (n := 38) (Nat.le_of_ble_eq_true rfl) (Nat.le_of_ble_eq_true rfl) ?_
  refine va_putF (D := D) (ci := 1) (v := .ref q7) (ty := (.array .int)) (C := RX1) (T := TX1) (N := 11) hx hb hts iX1 tyX1 tyX1_ok nmX1 hown hK hP hD hS 0 rfl rfl 10 (by decide) (hts (.fieldLink RX1 30 "OtherHalfOfNight$House" "hold" "[I") (wzm K49)) (fun _ h9 => h9) rfl hin rfl (by decide +kernel) rfl rfl (Nat.le_of_ble_eq_true rfl) dX1_init_53 (fun H locs hP hD hS => ?_)
  have hP : va_P D vwCl [(h0, .inr (1, [.int 0, .int 0, .int 0, .int 0, .ref q1, .ref q2, .ref q3, .ref q4, .ref q5, .ref q6, .ref q7])), (q1, .inl (tt 0, 5, .inl (fun _ => 0))), (q2, .inl (tt 0, 5, .inl (fun _ => 0))), (q3, .inl (tt 0, 5, .inl (fun _ => 0))), (q4, .inl (tt 0, 5, .inl (fun _ => 0))), (q5, .inl (tt 0, 6, .inl (fun _ => 0))), (q6, .inl (tt 0, 6, .inl (fun _ => 0))), (q7, .inl (tt 0, 6, .inl (fun _ => 0)))] H := hP
  have hD : va_D A [(h0, .inr (1, [.int 0, .int 0, .int 0, .int 0, .ref q1, .ref q2, .ref q3, .ref q4, .ref q5, .ref q6, .ref q7])), (q1, .inl (tt 0, 5, .inl (fun _ => 0))), (q2, .inl (tt 0, 5, .inl (fun _ => 0))), (q3, .inl (tt 0, 5, .inl (fun _ => 0))), (q4, .inl (tt 0, 5, .inl (fun _ => 0))), (q5, .inl (tt 0, 6, .inl (fun _ => 0))), (q6, .inl (tt 0, 6, .inl (fun _ => 0))), (q7, .inl (tt 0, 6, .inl (fun _ => 0)))] := hD
  refine lv_iconst (v := (0 : Int32)) hx hb dX1_init_56 (by decide) ?_
  refine lv_istore_n (lv' := [(1, .int (0 : Int32)), (0, .ref h0)]) hx hb dX1_init_57 rfl hl (by decide) rfl (fun ls hl => ?_)
  refine lv_iload_n hx hb dX1_init_58 rfl (lv_at hl 0 rfl) ?_
  refine lv_bipush (v := (6 : Int32)) hx hb dX1_init_59 (by decide) ?_
  refine lv_icmp_ge (tgt := 85) hx hb dX1_init_61 (by decide) (fun c8 => absurd c8 (by decide)) (fun c8 => ?_)
  refine lv_aload_n hx hb dX1_init_64 rfl (lv_at hl 1 rfl) ?_
  refine va_get (D := D) (ci := 1) (v := .ref q5) (C := RX1) (T := TX1) (N := 11) hx hb hts iX1 hown hK hP (0) rfl rfl 8 (by decide) (hts (.fieldLink RX1 24 "OtherHalfOfNight$House" "want" "[I") (wzm K47)) (fun _ h9 => h9) rfl dX1_init_65 ?_
  refine lv_iload_n hx hb dX1_init_68 rfl (lv_at hl 0 rfl) ?_
  refine lv_bipush (v := (10 : Int32)) hx hb dX1_init_69 (by decide) ?_
  refine va_iast (D := D) (tys := eT tt) hx hb hK hP hD hS 5 0 rfl rfl (show okI (0 : Int32) 6 by decide) dX1_init_71 (fun H locs hP hD hS => ?_)
  have hP : va_P D vwCl [(h0, .inr (1, [.int 0, .int 0, .int 0, .int 0, .ref q1, .ref q2, .ref q3, .ref q4, .ref q5, .ref q6, .ref q7])), (q1, .inl (tt 0, 5, .inl (fun _ => 0))), (q2, .inl (tt 0, 5, .inl (fun _ => 0))), (q3, .inl (tt 0, 5, .inl (fun _ => 0))), (q4, .inl (tt 0, 5, .inl (fun _ => 0))), (q5, .inl (tt 0, 6, .inl (upd (fun _ => 0) (0 : Int32).toNatClampNeg (10 : Int32)))), (q6, .inl (tt 0, 6, .inl (fun _ => 0))), (q7, .inl (tt 0, 6, .inl (fun _ => 0)))] H := hP
  have hD : va_D A [(h0, .inr (1, [.int 0, .int 0, .int 0, .int 0, .ref q1, .ref q2, .ref q3, .ref q4, .ref q5, .ref q6, .ref q7])), (q1, .inl (tt 0, 5, .inl (fun _ => 0))), (q2, .inl (tt 0, 5, .inl (fun _ => 0))), (q3, .inl (tt 0, 5, .inl (fun _ => 0))), (q4, .inl (tt 0, 5, .inl (fun _ => 0))), (q5, .inl (tt 0, 6, .inl (upd (fun _ => 0) (0 : Int32).toNatClampNeg (10 : Int32)))), (q6, .inl (tt 0, 6, .inl (fun _ => 0))), (q7, .inl (tt 0, 6, .inl (fun _ => 0)))] := hD
  refine lv_aload_n hx hb dX1_init_72 rfl (lv_at hl 1 rfl) ?_
  refine va_get (D := D) (ci := 1) (v := .ref q6) (C := RX1) (T := TX1) (N := 11) hx hb hts iX1 hown hK hP (0) rfl rfl 9 (by decide) (hts (.fieldLink RX1 27 "OtherHalfOfNight$House" "taste" "[I") (wzm K48)) (fun _ h9 => h9) rfl dX1_init_73 ?_
  refine lv_iload_n hx hb dX1_init_76 rfl (lv_at hl 0 rfl) ?_
  refine lv_iload_n hx hb dX1_init_77 rfl (lv_at hl 0 rfl) ?_
  refine va_iast (D := D) (tys := eT tt) hx hb hK hP hD hS 6 0 rfl rfl (show okI (0 : Int32) 6 by decide) dX1_init_78 (fun H locs hP hD hS => ?_)
  have hP : va_P D vwCl [(h0, .inr (1, [.int 0, .int 0, .int 0, .int 0, .ref q1, .ref q2, .ref q3, .ref q4, .ref q5, .ref q6, .ref q7])), (q1, .inl (tt 0, 5, .inl (fun _ => 0))), (q2, .inl (tt 0, 5, .inl (fun _ => 0))), (q3, .inl (tt 0, 5, .inl (fun _ => 0))), (q4, .inl (tt 0, 5, .inl (fun _ => 0))), (q5, .inl (tt 0, 6, .inl (upd (fun _ => 0) (0 : Int32).toNatClampNeg (10 : Int32)))), (q6, .inl (tt 0, 6, .inl (upd (fun _ => 0) (0 : Int32).toNatClampNeg (0 : Int32)))), (q7, .inl (tt 0, 6, .inl (fun _ => 0)))] H := hP
  have hD : va_D A [(h0, .inr (1, [.int 0, .int 0, .int 0, .int 0, .ref q1, .ref q2, .ref q3, .ref q4, .ref q5, .ref q6, .ref q7])), (q1, .inl (tt 0, 5, .inl (fun _ => 0))), (q2, .inl (tt 0, 5, .inl (fun _ => 0))), (q3, .inl (tt 0, 5, .inl (fun _ => 0))), (q4, .inl (tt 0, 5, .inl (fun _ => 0))), (q5, .inl (tt 0, 6, .inl (upd (fun _ => 0) (0 : Int32).toNatClampNeg (10 : Int32)))), (q6, .inl (tt 0, 6, .inl (upd (fun _ => 0) (0 : Int32).toNatClampNeg (0 : Int32)))), (q7, .inl (tt 0, 6, .inl (fun _ => 0)))] := hD
  refine lv_iinc (v := (1 : Int32)) (lv' := [(1, .int (1 : Int32)), (0, .ref h0)]) hx hb dX1_init_79 hl (k := 0) rfl (by decide) (by decide) rfl (fun ls hl => ?_)
  refine lv_goto (tgt := 58) hx hb dX1_init_82 (by decide) ?_
  refine lv_iload_n hx hb dX1_init_58 rfl (lv_at hl 0 rfl) ?_
  refine lv_bipush (v := (6 : Int32)) hx hb dX1_init_59 (by decide) ?_
  refine lv_icmp_ge (tgt := 85) hx hb dX1_init_61 (by decide) (fun c9 => absurd c9 (by decide)) (fun c9 => ?_)
  refine lv_aload_n hx hb dX1_init_64 rfl (lv_at hl 1 rfl) ?_
  refine va_get (D := D) (ci := 1) (v := .ref q5) (C := RX1) (T := TX1) (N := 11) hx hb hts iX1 hown hK hP (0) rfl rfl 8 (by decide) (hts (.fieldLink RX1 24 "OtherHalfOfNight$House" "want" "[I") (wzm K47)) (fun _ h9 => h9) rfl dX1_init_65 ?_
  refine lv_iload_n hx hb dX1_init_68 rfl (lv_at hl 0 rfl) ?_
  refine lv_bipush (v := (10 : Int32)) hx hb dX1_init_69 (by decide) ?_
  refine va_iast (D := D) (tys := eT tt) hx hb hK hP hD hS 5 0 rfl rfl (show okI (1 : Int32) 6 by decide) dX1_init_71 (fun H locs hP hD hS => ?_)
  have hP : va_P D vwCl [(h0, .inr (1, [.int 0, .int 0, .int 0, .int 0, .ref q1, .ref q2, .ref q3, .ref q4, .ref q5, .ref q6, .ref q7])), (q1, .inl (tt 0, 5, .inl (fun _ => 0))), (q2, .inl (tt 0, 5, .inl (fun _ => 0))), (q3, .inl (tt 0, 5, .inl (fun _ => 0))), (q4, .inl (tt 0, 5, .inl (fun _ => 0))), (q5, .inl (tt 0, 6, .inl (upd (upd (fun _ => 0) (0 : Int32).toNatClampNeg (10 : Int32)) (1 : Int32).toNatClampNeg (10 : Int32)))), (q6, .inl (tt 0, 6, .inl (upd (fun _ => 0) (0 : Int32).toNatClampNeg (0 : Int32)))), (q7, .inl (tt 0, 6, .inl (fun _ => 0)))] H := hP
  have hD : va_D A [(h0, .inr (1, [.int 0, .int 0, .int 0, .int 0, .ref q1, .ref q2, .ref q3, .ref q4, .ref q5, .ref q6, .ref q7])), (q1, .inl (tt 0, 5, .inl (fun _ => 0))), (q2, .inl (tt 0, 5, .inl (fun _ => 0))), (q3, .inl (tt 0, 5, .inl (fun _ => 0))), (q4, .inl (tt 0, 5, .inl (fun _ => 0))), (q5, .inl (tt 0, 6, .inl (upd (upd (fun _ => 0) (0 : Int32).toNatClampNeg (10 : Int32)) (1 : Int32).toNatClampNeg (10 : Int32)))), (q6, .inl (tt 0, 6, .inl (upd (fun _ => 0) (0 : Int32).toNatClampNeg (0 : Int32)))), (q7, .inl (tt 0, 6, .inl (fun _ => 0)))] := hD
  refine lv_aload_n hx hb dX1_init_72 rfl (lv_at hl 1 rfl) ?_
  refine va_get (D := D) (ci := 1) (v := .ref q6) (C := RX1) (T := TX1) (N := 11) hx hb hts iX1 hown hK hP (0) rfl rfl 9 (by decide) (hts (.fieldLink RX1 27 "OtherHalfOfNight$House" "taste" "[I") (wzm K48)) (fun _ h9 => h9) rfl dX1_init_73 ?_
  refine lv_iload_n hx hb dX1_init_76 rfl (lv_at hl 0 rfl) ?_
  refine lv_iload_n hx hb dX1_init_77 rfl (lv_at hl 0 rfl) ?_
  refine va_iast (D := D) (tys := eT tt) hx hb hK hP hD hS 6 0 rfl rfl (show okI (1 : Int32) 6 by decide) dX1_init_78 (fun H locs hP hD hS => ?_)
  have hP : va_P D vwCl [(h0, .inr (1, [.int 0, .int 0, .int 0, .int 0, .ref q1, .ref q2, .ref q3, .ref q4, .ref q5, .ref q6, .ref q7])), (q1, .inl (tt 0, 5, .inl (fun _ => 0))), (q2, .inl (tt 0, 5, .inl (fun _ => 0))), (q3, .inl (tt 0, 5, .inl (fun _ => 0))), (q4, .inl (tt 0, 5, .inl (fun _ => 0))), (q5, .inl (tt 0, 6, .inl (upd (upd (fun _ => 0) (0 : Int32).toNatClampNeg (10 : Int32)) (1 : Int32).toNatClampNeg (10 : Int32)))), (q6, .inl (tt 0, 6, .inl (upd (upd (fun _ => 0) (0 : Int32).toNatClampNeg (0 : Int32)) (1 : Int32).toNatClampNeg (1 : Int32)))), (q7, .inl (tt 0, 6, .inl (fun _ => 0)))] H := hP
  have hD : va_D A [(h0, .inr (1, [.int 0, .int 0, .int 0, .int 0, .ref q1, .ref q2, .ref q3, .ref q4, .ref q5, .ref q6, .ref q7])), (q1, .inl (tt 0, 5, .inl (fun _ => 0))), (q2, .inl (tt 0, 5, .inl (fun _ => 0))), (q3, .inl (tt 0, 5, .inl (fun _ => 0))), (q4, .inl (tt 0, 5, .inl (fun _ => 0))), (q5, .inl (tt 0, 6, .inl (upd (upd (fun _ => 0) (0 : Int32).toNatClampNeg (10 : Int32)) (1 : Int32).toNatClampNeg (10 : Int32)))), (q6, .inl (tt 0, 6, .inl (upd (upd (fun _ => 0) (0 : Int32).toNatClampNeg (0 : Int32)) (1 : Int32).toNatClampNeg (1 : Int32)))), (q7, .inl (tt 0, 6, .inl (fun _ => 0)))] := hD
  refine lv_iinc (v := (2 : Int32)) (lv' := [(1, .int (2 : Int32)), (0, .ref h0)]) hx hb dX1_init_79 hl (k := 0) rfl (by decide) (by decide) rfl (fun ls hl => ?_)
  refine lv_goto (tgt := 58) hx hb dX1_init_82 (by decide) ?_
  refine lv_iload_n hx hb dX1_init_58 rfl (lv_at hl 0 rfl) ?_
  refine lv_bipush (v := (6 : Int32)) hx hb dX1_init_59 (by decide) ?_
  refine lv_icmp_ge (tgt := 85) hx hb dX1_init_61 (by decide) (fun c10 => absurd c10 (by decide)) (fun c10 => ?_)
  refine lv_aload_n hx hb dX1_init_64 rfl (lv_at hl 1 rfl) ?_
  refine va_get (D := D) (ci := 1) (v := .ref q5) (C := RX1) (T := TX1) (N := 11) hx hb hts iX1 hown hK hP (0) rfl rfl 8 (by decide) (hts (.fieldLink RX1 24 "OtherHalfOfNight$House" "want" "[I") (wzm K47)) (fun _ h9 => h9) rfl dX1_init_65 ?_
  refine lv_iload_n hx hb dX1_init_68 rfl (lv_at hl 0 rfl) ?_
  refine lv_bipush (v := (10 : Int32)) hx hb dX1_init_69 (by decide) ?_
  refine va_iast (D := D) (tys := eT tt) hx hb hK hP hD hS 5 0 rfl rfl (show okI (2 : Int32) 6 by decide) dX1_init_71 (fun H locs hP hD hS => ?_)
  have hP : va_P D vwCl [(h0, .inr (1, [.int 0, .int 0, .int 0, .int 0, .ref q1, .ref q2, .ref q3, .ref q4, .ref q5, .ref q6, .ref q7])), (q1, .inl (tt 0, 5, .inl (fun _ => 0))), (q2, .inl (tt 0, 5, .inl (fun _ => 0))), (q3, .inl (tt 0, 5, .inl (fun _ => 0))), (q4, .inl (tt 0, 5, .inl (fun _ => 0))), (q5, .inl (tt 0, 6, .inl (upd (upd (upd (fun _ => 0) (0 : Int32).toNatClampNeg (10 : Int32)) (1 : Int32).toNatClampNeg (10 : Int32)) (2 : Int32).toNatClampNeg (10 : Int32)))), (q6, .inl (tt 0, 6, .inl (upd (upd (fun _ => 0) (0 : Int32).toNatClampNeg (0 : Int32)) (1 : Int32).toNatClampNeg (1 : Int32)))), (q7, .inl (tt 0, 6, .inl (fun _ => 0)))] H := hP
  have hD : va_D A [(h0, .inr (1, [.int 0, .int 0, .int 0, .int 0, .ref q1, .ref q2, .ref q3, .ref q4, .ref q5, .ref q6, .ref q7])), (q1, .inl (tt 0, 5, .inl (fun _ => 0))), (q2, .inl (tt 0, 5, .inl (fun _ => 0))), (q3, .inl (tt 0, 5, .inl (fun _ => 0))), (q4, .inl (tt 0, 5, .inl (fun _ => 0))), (q5, .inl (tt 0, 6, .inl (upd (upd (upd (fun _ => 0) (0 : Int32).toNatClampNeg (10 : Int32)) (1 : Int32).toNatClampNeg (10 : Int32)) (2 : Int32).toNatClampNeg (10 : Int32)))), (q6, .inl (tt 0, 6, .inl (upd (upd (fun _ => 0) (0 : Int32).toNatClampNeg (0 : Int32)) (1 : Int32).toNatClampNeg (1 : Int32)))), (q7, .inl (tt 0, 6, .inl (fun _ => 0)))] := hD
  refine lv_aload_n hx hb dX1_init_72 rfl (lv_at hl 1 rfl) ?_
  refine va_get (D := D) (ci := 1) (v := .ref q6) (C := RX1) (T := TX1) (N := 11) hx hb hts iX1 hown hK hP (0) rfl rfl 9 (by decide) (hts (.fieldLink RX1 27 "OtherHalfOfNight$House" "taste" "[I") (wzm K48)) (fun _ h9 => h9) rfl dX1_init_73 ?_
  refine lv_iload_n hx hb dX1_init_76 rfl (lv_at hl 0 rfl) ?_
  refine lv_iload_n hx hb dX1_init_77 rfl (lv_at hl 0 rfl) ?_
  refine va_iast (D := D) (tys := eT tt) hx hb hK hP hD hS 6 0 rfl rfl (show okI (2 : Int32) 6 by decide) dX1_init_78 (fun H locs hP hD hS => ?_)
  have hP : va_P D vwCl [(h0, .inr (1, [.int 0, .int 0, .int 0, .int 0, .ref q1, .ref q2, .ref q3, .ref q4, .ref q5, .ref q6, .ref q7])), (q1, .inl (tt 0, 5, .inl (fun _ => 0))), (q2, .inl (tt 0, 5, .inl (fun _ => 0))), (q3, .inl (tt 0, 5, .inl (fun _ => 0))), (q4, .inl (tt 0, 5, .inl (fun _ => 0))), (q5, .inl (tt 0, 6, .inl (upd (upd (upd (fun _ => 0) (0 : Int32).toNatClampNeg (10 : Int32)) (1 : Int32).toNatClampNeg (10 : Int32)) (2 : Int32).toNatClampNeg (10 : Int32)))), (q6, .inl (tt 0, 6, .inl (upd (upd (upd (fun _ => 0) (0 : Int32).toNatClampNeg (0 : Int32)) (1 : Int32).toNatClampNeg (1 : Int32)) (2 : Int32).toNatClampNeg (2 : Int32)))), (q7, .inl (tt 0, 6, .inl (fun _ => 0)))] H := hP
  have hD : va_D A [(h0, .inr (1, [.int 0, .int 0, .int 0, .int 0, .ref q1, .ref q2, .ref q3, .ref q4, .ref q5, .ref q6, .ref q7])), (q1, .inl (tt 0, 5, .inl (fun _ => 0))), (q2, .inl (tt 0, 5, .inl (fun _ => 0))), (q3, .inl (tt 0, 5, .inl (fun _ => 0))), (q4, .inl (tt 0, 5, .inl (fun _ => 0))), (q5, .inl (tt 0, 6, .inl (upd (upd (upd (fun _ => 0) (0 : Int32).toNatClampNeg (10 : Int32)) (1 : Int32).toNatClampNeg (10 : Int32)) (2 : Int32).toNatClampNeg (10 : Int32)))), (q6, .inl (tt 0, 6, .inl (upd (upd (upd (fun _ => 0) (0 : Int32).toNatClampNeg (0 : Int32)) (1 : Int32).toNatClampNeg (1 : Int32)) (2 : Int32).toNatClampNeg (2 : Int32)))), (q7, .inl (tt 0, 6, .inl (fun _ => 0)))] := hD
  refine lv_iinc (v := (3 : Int32)) (lv' := [(1, .int (3 : Int32)), (0, .ref h0)]) hx hb dX1_init_79 hl (k := 0) rfl (by decide) (by decide) rfl (fun ls hl => ?_)
  refine lv_goto (tgt := 58) hx hb dX1_init_82 (by decide) ?_
  refine lv_iload_n hx hb dX1_init_58 rfl (lv_at hl 0 rfl) ?_
  refine lv_bipush (v := (6 : Int32)) hx hb dX1_init_59 (by decide) ?_
  refine lv_icmp_ge (tgt := 85) hx hb dX1_init_61 (by decide) (fun c11 => absurd c11 (by decide)) (fun c11 => ?_)
  refine lv_aload_n hx hb dX1_init_64 rfl (lv_at hl 1 rfl) ?_
  refine va_get (D := D) (ci := 1) (v := .ref q5) (C := RX1) (T := TX1) (N := 11) hx hb hts iX1 hown hK hP (0) rfl rfl 8 (by decide) (hts (.fieldLink RX1 24 "OtherHalfOfNight$House" "want" "[I") (wzm K47)) (fun _ h9 => h9) rfl dX1_init_65 ?_
  refine lv_iload_n hx hb dX1_init_68 rfl (lv_at hl 0 rfl) ?_
  refine lv_bipush (v := (10 : Int32)) hx hb dX1_init_69 (by decide) ?_
  refine va_iast (D := D) (tys := eT tt) hx hb hK hP hD hS 5 0 rfl rfl (show okI (3 : Int32) 6 by decide) dX1_init_71 (fun H locs hP hD hS => ?_)
  have hP : va_P D vwCl [(h0, .inr (1, [.int 0, .int 0, .int 0, .int 0, .ref q1, .ref q2, .ref q3, .ref q4, .ref q5, .ref q6, .ref q7])), (q1, .inl (tt 0, 5, .inl (fun _ => 0))), (q2, .inl (tt 0, 5, .inl (fun _ => 0))), (q3, .inl (tt 0, 5, .inl (fun _ => 0))), (q4, .inl (tt 0, 5, .inl (fun _ => 0))), (q5, .inl (tt 0, 6, .inl (upd (upd (upd (upd (fun _ => 0) (0 : Int32).toNatClampNeg (10 : Int32)) (1 : Int32).toNatClampNeg (10 : Int32)) (2 : Int32).toNatClampNeg (10 : Int32)) (3 : Int32).toNatClampNeg (10 : Int32)))), (q6, .inl (tt 0, 6, .inl (upd (upd (upd (fun _ => 0) (0 : Int32).toNatClampNeg (0 : Int32)) (1 : Int32).toNatClampNeg (1 : Int32)) (2 : Int32).toNatClampNeg (2 : Int32)))), (q7, .inl (tt 0, 6, .inl (fun _ => 0)))] H := hP
  have hD : va_D A [(h0, .inr (1, [.int 0, .int 0, .int 0, .int 0, .ref q1, .ref q2, .ref q3, .ref q4, .ref q5, .ref q6, .ref q7])), (q1, .inl (tt 0, 5, .inl (fun _ => 0))), (q2, .inl (tt 0, 5, .inl (fun _ => 0))), (q3, .inl (tt 0, 5, .inl (fun _ => 0))), (q4, .inl (tt 0, 5, .inl (fun _ => 0))), (q5, .inl (tt 0, 6, .inl (upd (upd (upd (upd (fun _ => 0) (0 : Int32).toNatClampNeg (10 : Int32)) (1 : Int32).toNatClampNeg (10 : Int32)) (2 : Int32).toNatClampNeg (10 : Int32)) (3 : Int32).toNatClampNeg (10 : Int32)))), (q6, .inl (tt 0, 6, .inl (upd (upd (upd (fun _ => 0) (0 : Int32).toNatClampNeg (0 : Int32)) (1 : Int32).toNatClampNeg (1 : Int32)) (2 : Int32).toNatClampNeg (2 : Int32)))), (q7, .inl (tt 0, 6, .inl (fun _ => 0)))] := hD
  refine lv_aload_n hx hb dX1_init_72 rfl (lv_at hl 1 rfl) ?_
  refine va_get (D := D) (ci := 1) (v := .ref q6) (C := RX1) (T := TX1) (N := 11) hx hb hts iX1 hown hK hP (0) rfl rfl 9 (by decide) (hts (.fieldLink RX1 27 "OtherHalfOfNight$House" "taste" "[I") (wzm K48)) (fun _ h9 => h9) rfl dX1_init_73 ?_
  refine lv_iload_n hx hb dX1_init_76 rfl (lv_at hl 0 rfl) ?_
  refine lv_iload_n hx hb dX1_init_77 rfl (lv_at hl 0 rfl) ?_
  refine va_iast (D := D) (tys := eT tt) hx hb hK hP hD hS 6 0 rfl rfl (show okI (3 : Int32) 6 by decide) dX1_init_78 (fun H locs hP hD hS => ?_)
  have hP : va_P D vwCl [(h0, .inr (1, [.int 0, .int 0, .int 0, .int 0, .ref q1, .ref q2, .ref q3, .ref q4, .ref q5, .ref q6, .ref q7])), (q1, .inl (tt 0, 5, .inl (fun _ => 0))), (q2, .inl (tt 0, 5, .inl (fun _ => 0))), (q3, .inl (tt 0, 5, .inl (fun _ => 0))), (q4, .inl (tt 0, 5, .inl (fun _ => 0))), (q5, .inl (tt 0, 6, .inl (upd (upd (upd (upd (fun _ => 0) (0 : Int32).toNatClampNeg (10 : Int32)) (1 : Int32).toNatClampNeg (10 : Int32)) (2 : Int32).toNatClampNeg (10 : Int32)) (3 : Int32).toNatClampNeg (10 : Int32)))), (q6, .inl (tt 0, 6, .inl (upd (upd (upd (upd (fun _ => 0) (0 : Int32).toNatClampNeg (0 : Int32)) (1 : Int32).toNatClampNeg (1 : Int32)) (2 : Int32).toNatClampNeg (2 : Int32)) (3 : Int32).toNatClampNeg (3 : Int32)))), (q7, .inl (tt 0, 6, .inl (fun _ => 0)))] H := hP
  have hD : va_D A [(h0, .inr (1, [.int 0, .int 0, .int 0, .int 0, .ref q1, .ref q2, .ref q3, .ref q4, .ref q5, .ref q6, .ref q7])), (q1, .inl (tt 0, 5, .inl (fun _ => 0))), (q2, .inl (tt 0, 5, .inl (fun _ => 0))), (q3, .inl (tt 0, 5, .inl (fun _ => 0))), (q4, .inl (tt 0, 5, .inl (fun _ => 0))), (q5, .inl (tt 0, 6, .inl (upd (upd (upd (upd (fun _ => 0) (0 : Int32).toNatClampNeg (10 : Int32)) (1 : Int32).toNatClampNeg (10 : Int32)) (2 : Int32).toNatClampNeg (10 : Int32)) (3 : Int32).toNatClampNeg (10 : Int32)))), (q6, .inl (tt 0, 6, .inl (upd (upd (upd (upd (fun _ => 0) (0 : Int32).toNatClampNeg (0 : Int32)) (1 : Int32).toNatClampNeg (1 : Int32)) (2 : Int32).toNatClampNeg (2 : Int32)) (3 : Int32).toNatClampNeg (3 : Int32)))), (q7, .inl (tt 0, 6, .inl (fun _ => 0)))] := hD
  refine lv_iinc (v := (4 : Int32)) (lv' := [(1, .int (4 : Int32)), (0, .ref h0)]) hx hb dX1_init_79 hl (k := 0) rfl (by decide) (by decide) rfl (fun ls hl => ?_)
  refine lv_goto (tgt := 58) hx hb dX1_init_82 (by decide) ?_
  refine lv_iload_n hx hb dX1_init_58 rfl (lv_at hl 0 rfl) ?_
  refine lv_bipush (v := (6 : Int32)) hx hb dX1_init_59 (by decide) ?_
  refine lv_icmp_ge (tgt := 85) hx hb dX1_init_61 (by decide) (fun c12 => absurd c12 (by decide)) (fun c12 => ?_)
  refine lv_aload_n hx hb dX1_init_64 rfl (lv_at hl 1 rfl) ?_
  refine va_get (D := D) (ci := 1) (v := .ref q5) (C := RX1) (T := TX1) (N := 11) hx hb hts iX1 hown hK hP (0) rfl rfl 8 (by decide) (hts (.fieldLink RX1 24 "OtherHalfOfNight$House" "want" "[I") (wzm K47)) (fun _ h9 => h9) rfl dX1_init_65 ?_
  refine lv_iload_n hx hb dX1_init_68 rfl (lv_at hl 0 rfl) ?_
  refine lv_bipush (v := (10 : Int32)) hx hb dX1_init_69 (by decide) ?_
  refine va_iast (D := D) (tys := eT tt) hx hb hK hP hD hS 5 0 rfl rfl (show okI (4 : Int32) 6 by decide) dX1_init_71 (fun H locs hP hD hS => ?_)
  have hP : va_P D vwCl [(h0, .inr (1, [.int 0, .int 0, .int 0, .int 0, .ref q1, .ref q2, .ref q3, .ref q4, .ref q5, .ref q6, .ref q7])), (q1, .inl (tt 0, 5, .inl (fun _ => 0))), (q2, .inl (tt 0, 5, .inl (fun _ => 0))), (q3, .inl (tt 0, 5, .inl (fun _ => 0))), (q4, .inl (tt 0, 5, .inl (fun _ => 0))), (q5, .inl (tt 0, 6, .inl (upd (upd (upd (upd (upd (fun _ => 0) (0 : Int32).toNatClampNeg (10 : Int32)) (1 : Int32).toNatClampNeg (10 : Int32)) (2 : Int32).toNatClampNeg (10 : Int32)) (3 : Int32).toNatClampNeg (10 : Int32)) (4 : Int32).toNatClampNeg (10 : Int32)))), (q6, .inl (tt 0, 6, .inl (upd (upd (upd (upd (fun _ => 0) (0 : Int32).toNatClampNeg (0 : Int32)) (1 : Int32).toNatClampNeg (1 : Int32)) (2 : Int32).toNatClampNeg (2 : Int32)) (3 : Int32).toNatClampNeg (3 : Int32)))), (q7, .inl (tt 0, 6, .inl (fun _ => 0)))] H := hP
  have hD : va_D A [(h0, .inr (1, [.int 0, .int 0, .int 0, .int 0, .ref q1, .ref q2, .ref q3, .ref q4, .ref q5, .ref q6, .ref q7])), (q1, .inl (tt 0, 5, .inl (fun _ => 0))), (q2, .inl (tt 0, 5, .inl (fun _ => 0))), (q3, .inl (tt 0, 5, .inl (fun _ => 0))), (q4, .inl (tt 0, 5, .inl (fun _ => 0))), (q5, .inl (tt 0, 6, .inl (upd (upd (upd (upd (upd (fun _ => 0) (0 : Int32).toNatClampNeg (10 : Int32)) (1 : Int32).toNatClampNeg (10 : Int32)) (2 : Int32).toNatClampNeg (10 : Int32)) (3 : Int32).toNatClampNeg (10 : Int32)) (4 : Int32).toNatClampNeg (10 : Int32)))), (q6, .inl (tt 0, 6, .inl (upd (upd (upd (upd (fun _ => 0) (0 : Int32).toNatClampNeg (0 : Int32)) (1 : Int32).toNatClampNeg (1 : Int32)) (2 : Int32).toNatClampNeg (2 : Int32)) (3 : Int32).toNatClampNeg (3 : Int32)))), (q7, .inl (tt 0, 6, .inl (fun _ => 0)))] := hD
  refine lv_aload_n hx hb dX1_init_72 rfl (lv_at hl 1 rfl) ?_
  refine va_get (D := D) (ci := 1) (v := .ref q6) (C := RX1) (T := TX1) (N := 11) hx hb hts iX1 hown hK hP (0) rfl rfl 9 (by decide) (hts (.fieldLink RX1 27 "OtherHalfOfNight$House" "taste" "[I") (wzm K48)) (fun _ h9 => h9) rfl dX1_init_73 ?_
  refine lv_iload_n hx hb dX1_init_76 rfl (lv_at hl 0 rfl) ?_
  refine lv_iload_n hx hb dX1_init_77 rfl (lv_at hl 0 rfl) ?_
  refine va_iast (D := D) (tys := eT tt) hx hb hK hP hD hS 6 0 rfl rfl (show okI (4 : Int32) 6 by decide) dX1_init_78 (fun H locs hP hD hS => ?_)
  have hP : va_P D vwCl [(h0, .inr (1, [.int 0, .int 0, .int 0, .int 0, .ref q1, .ref q2, .ref q3, .ref q4, .ref q5, .ref q6, .ref q7])), (q1, .inl (tt 0, 5, .inl (fun _ => 0))), (q2, .inl (tt 0, 5, .inl (fun _ => 0))), (q3, .inl (tt 0, 5, .inl (fun _ => 0))), (q4, .inl (tt 0, 5, .inl (fun _ => 0))), (q5, .inl (tt 0, 6, .inl (upd (upd (upd (upd (upd (fun _ => 0) (0 : Int32).toNatClampNeg (10 : Int32)) (1 : Int32).toNatClampNeg (10 : Int32)) (2 : Int32).toNatClampNeg (10 : Int32)) (3 : Int32).toNatClampNeg (10 : Int32)) (4 : Int32).toNatClampNeg (10 : Int32)))), (q6, .inl (tt 0, 6, .inl (upd (upd (upd (upd (upd (fun _ => 0) (0 : Int32).toNatClampNeg (0 : Int32)) (1 : Int32).toNatClampNeg (1 : Int32)) (2 : Int32).toNatClampNeg (2 : Int32)) (3 : Int32).toNatClampNeg (3 : Int32)) (4 : Int32).toNatClampNeg (4 : Int32)))), (q7, .inl (tt 0, 6, .inl (fun _ => 0)))] H := hP
  have hD : va_D A [(h0, .inr (1, [.int 0, .int 0, .int 0, .int 0, .ref q1, .ref q2, .ref q3, .ref q4, .ref q5, .ref q6, .ref q7])), (q1, .inl (tt 0, 5, .inl (fun _ => 0))), (q2, .inl (tt 0, 5, .inl (fun _ => 0))), (q3, .inl (tt 0, 5, .inl (fun _ => 0))), (q4, .inl (tt 0, 5, .inl (fun _ => 0))), (q5, .inl (tt 0, 6, .inl (upd (upd (upd (upd (upd (fun _ => 0) (0 : Int32).toNatClampNeg (10 : Int32)) (1 : Int32).toNatClampNeg (10 : Int32)) (2 : Int32).toNatClampNeg (10 : Int32)) (3 : Int32).toNatClampNeg (10 : Int32)) (4 : Int32).toNatClampNeg (10 : Int32)))), (q6, .inl (tt 0, 6, .inl (upd (upd (upd (upd (upd (fun _ => 0) (0 : Int32).toNatClampNeg (0 : Int32)) (1 : Int32).toNatClampNeg (1 : Int32)) (2 : Int32).toNatClampNeg (2 : Int32)) (3 : Int32).toNatClampNeg (3 : Int32)) (4 : Int32).toNatClampNeg (4 : Int32)))), (q7, .inl (tt 0, 6, .inl (fun _ => 0)))] := hD
  refine lv_iinc (v := (5 : Int32)) (lv' := [(1, .int (5 : Int32)), (0, .ref h0)]) hx hb dX1_init_79 hl (k := 0) rfl (by decide) (by decide) rfl (fun ls hl => ?_)
  refine lv_goto (tgt := 58) hx hb dX1_init_82 (by decide) ?_
  refine lv_iload_n hx hb dX1_init_58 rfl (lv_at hl 0 rfl) ?_
  refine lv_bipush (v := (6 : Int32)) hx hb dX1_init_59 (by decide) ?_
  refine lv_icmp_ge (tgt := 85) hx hb dX1_init_61 (by decide) (fun c13 => absurd c13 (by decide)) (fun c13 => ?_)
  refine lv_aload_n hx hb dX1_init_64 rfl (lv_at hl 1 rfl) ?_
  refine va_get (D := D) (ci := 1) (v := .ref q5) (C := RX1) (T := TX1) (N := 11) hx hb hts iX1 hown hK hP (0) rfl rfl 8 (by decide) (hts (.fieldLink RX1 24 "OtherHalfOfNight$House" "want" "[I") (wzm K47)) (fun _ h9 => h9) rfl dX1_init_65 ?_
  refine lv_iload_n hx hb dX1_init_68 rfl (lv_at hl 0 rfl) ?_
  refine lv_bipush (v := (10 : Int32)) hx hb dX1_init_69 (by decide) ?_
  refine va_iast (D := D) (tys := eT tt) hx hb hK hP hD hS 5 0 rfl rfl (show okI (5 : Int32) 6 by decide) dX1_init_71 (fun H locs hP hD hS => ?_)
  have hP : va_P D vwCl [(h0, .inr (1, [.int 0, .int 0, .int 0, .int 0, .ref q1, .ref q2, .ref q3, .ref q4, .ref q5, .ref q6, .ref q7])), (q1, .inl (tt 0, 5, .inl (fun _ => 0))), (q2, .inl (tt 0, 5, .inl (fun _ => 0))), (q3, .inl (tt 0, 5, .inl (fun _ => 0))), (q4, .inl (tt 0, 5, .inl (fun _ => 0))), (q5, .inl (tt 0, 6, .inl (upd (upd (upd (upd (upd (upd (fun _ => 0) (0 : Int32).toNatClampNeg (10 : Int32)) (1 : Int32).toNatClampNeg (10 : Int32)) (2 : Int32).toNatClampNeg (10 : Int32)) (3 : Int32).toNatClampNeg (10 : Int32)) (4 : Int32).toNatClampNeg (10 : Int32)) (5 : Int32).toNatClampNeg (10 : Int32)))), (q6, .inl (tt 0, 6, .inl (upd (upd (upd (upd (upd (fun _ => 0) (0 : Int32).toNatClampNeg (0 : Int32)) (1 : Int32).toNatClampNeg (1 : Int32)) (2 : Int32).toNatClampNeg (2 : Int32)) (3 : Int32).toNatClampNeg (3 : Int32)) (4 : Int32).toNatClampNeg (4 : Int32)))), (q7, .inl (tt 0, 6, .inl (fun _ => 0)))] H := hP
  have hD : va_D A [(h0, .inr (1, [.int 0, .int 0, .int 0, .int 0, .ref q1, .ref q2, .ref q3, .ref q4, .ref q5, .ref q6, .ref q7])), (q1, .inl (tt 0, 5, .inl (fun _ => 0))), (q2, .inl (tt 0, 5, .inl (fun _ => 0))), (q3, .inl (tt 0, 5, .inl (fun _ => 0))), (q4, .inl (tt 0, 5, .inl (fun _ => 0))), (q5, .inl (tt 0, 6, .inl (upd (upd (upd (upd (upd (upd (fun _ => 0) (0 : Int32).toNatClampNeg (10 : Int32)) (1 : Int32).toNatClampNeg (10 : Int32)) (2 : Int32).toNatClampNeg (10 : Int32)) (3 : Int32).toNatClampNeg (10 : Int32)) (4 : Int32).toNatClampNeg (10 : Int32)) (5 : Int32).toNatClampNeg (10 : Int32)))), (q6, .inl (tt 0, 6, .inl (upd (upd (upd (upd (upd (fun _ => 0) (0 : Int32).toNatClampNeg (0 : Int32)) (1 : Int32).toNatClampNeg (1 : Int32)) (2 : Int32).toNatClampNeg (2 : Int32)) (3 : Int32).toNatClampNeg (3 : Int32)) (4 : Int32).toNatClampNeg (4 : Int32)))), (q7, .inl (tt 0, 6, .inl (fun _ => 0)))] := hD
  refine lv_aload_n hx hb dX1_init_72 rfl (lv_at hl 1 rfl) ?_
  refine va_get (D := D) (ci := 1) (v := .ref q6) (C := RX1) (T := TX1) (N := 11) hx hb hts iX1 hown hK hP (0) rfl rfl 9 (by decide) (hts (.fieldLink RX1 27 "OtherHalfOfNight$House" "taste" "[I") (wzm K48)) (fun _ h9 => h9) rfl dX1_init_73 ?_
  refine lv_iload_n hx hb dX1_init_76 rfl (lv_at hl 0 rfl) ?_
  refine lv_iload_n hx hb dX1_init_77 rfl (lv_at hl 0 rfl) ?_
  refine va_iast (D := D) (tys := eT tt) hx hb hK hP hD hS 6 0 rfl rfl (show okI (5 : Int32) 6 by decide) dX1_init_78 (fun H locs hP hD hS => ?_)
  have hP : va_P D vwCl [(h0, .inr (1, [.int 0, .int 0, .int 0, .int 0, .ref q1, .ref q2, .ref q3, .ref q4, .ref q5, .ref q6, .ref q7])), (q1, .inl (tt 0, 5, .inl (fun _ => 0))), (q2, .inl (tt 0, 5, .inl (fun _ => 0))), (q3, .inl (tt 0, 5, .inl (fun _ => 0))), (q4, .inl (tt 0, 5, .inl (fun _ => 0))), (q5, .inl (tt 0, 6, .inl (upd (upd (upd (upd (upd (upd (fun _ => 0) (0 : Int32).toNatClampNeg (10 : Int32)) (1 : Int32).toNatClampNeg (10 : Int32)) (2 : Int32).toNatClampNeg (10 : Int32)) (3 : Int32).toNatClampNeg (10 : Int32)) (4 : Int32).toNatClampNeg (10 : Int32)) (5 : Int32).toNatClampNeg (10 : Int32)))), (q6, .inl (tt 0, 6, .inl (upd (upd (upd (upd (upd (upd (fun _ => 0) (0 : Int32).toNatClampNeg (0 : Int32)) (1 : Int32).toNatClampNeg (1 : Int32)) (2 : Int32).toNatClampNeg (2 : Int32)) (3 : Int32).toNatClampNeg (3 : Int32)) (4 : Int32).toNatClampNeg (4 : Int32)) (5 : Int32).toNatClampNeg (5 : Int32)))), (q7, .inl (tt 0, 6, .inl (fun _ => 0)))] H := hP
  have hD : va_D A [(h0, .inr (1, [.int 0, .int 0, .int 0, .int 0, .ref q1, .ref q2, .ref q3, .ref q4, .ref q5, .ref q6, .ref q7])), (q1, .inl (tt 0, 5, .inl (fun _ => 0))), (q2, .inl (tt 0, 5, .inl (fun _ => 0))), (q3, .inl (tt 0, 5, .inl (fun _ => 0))), (q4, .inl (tt 0, 5, .inl (fun _ => 0))), (q5, .inl (tt 0, 6, .inl (upd (upd (upd (upd (upd (upd (fun _ => 0) (0 : Int32).toNatClampNeg (10 : Int32)) (1 : Int32).toNatClampNeg (10 : Int32)) (2 : Int32).toNatClampNeg (10 : Int32)) (3 : Int32).toNatClampNeg (10 : Int32)) (4 : Int32).toNatClampNeg (10 : Int32)) (5 : Int32).toNatClampNeg (10 : Int32)))), (q6, .inl (tt 0, 6, .inl (upd (upd (upd (upd (upd (upd (fun _ => 0) (0 : Int32).toNatClampNeg (0 : Int32)) (1 : Int32).toNatClampNeg (1 : Int32)) (2 : Int32).toNatClampNeg (2 : Int32)) (3 : Int32).toNatClampNeg (3 : Int32)) (4 : Int32).toNatClampNeg (4 : Int32)) (5 : Int32).toNatClampNeg (5 : Int32)))), (q7, .inl (tt 0, 6, .inl (fun _ => 0)))] := hD
  refine lv_iinc (v := (6 : Int32)) (lv' := [(1, .int (6 : Int32)), (0, .ref h0)]) hx hb dX1_init_79 hl (k := 0) rfl (by decide) (by decide) rfl (fun ls hl => ?_)
  refine lv_goto (tgt := 58) hx hb dX1_init_82 (by decide) ?_
  refine lv_iload_n hx hb dX1_init_58 rfl (lv_at hl 0 rfl) ?_
  refine lv_bipush (v := (6 : Int32)) hx hb dX1_init_59 (by decide) ?_
  refine lv_icmp_ge (tgt := 85) hx hb dX1_init_61 (by decide) (fun c14 => ?_) (fun c14 => (c14 (by decide)).elim)
  refine W.widen (k := 7) (n := 38) (Nat.le_of_ble_eq_true rfl) (Nat.le_of_ble_eq_true rfl) ?_
  exact W.vret hx hb hr (fun t3 ht hW => ⟨⟨(fun k => [0, q1, q2, q3, q4, q5, q6, q7].getD k 0), rfl, trivial, by rw [ht]; exact hP, va_K.moved hW.alike hK, hD⟩, hS.F ht⟩) hS.2.2 dX1_init_85
def WReader (tt : Nat → ClassId) (h : Nat) (u : Nat → Nat) : va_W := [(h, .inr (4, [.ref (u 1), .int 0, .ref (u 2), .int 0, .int 0, .int 0, .int 0])), ((u 1), .inl (tt 0, 160, .inl (fun _ => 0))), ((u 2), .inr (6, [.ref (u 3), .ref (u 4), .int 0])), ((u 3), .inl (tt 0, 160, .inl (fun _ => 0))), ((u 4), .inl (tt 0, 3, .inl (fun _ => 0)))]
set_option maxHeartbeats 40000000 in
set_option maxRecDepth 100000 in
theorem e_X4_init (l : Launch) (D : va_G) (tt : Nat → ClassId) (h0 : Nat) (sz : Nat) : Met l yX4_init (wz yX4_init cX4_init 1 none) ({ frames := 2, cells := 4, slots := 326, locals := 32 } : Room) (va_Pc [.ref h0] (eP D tt sz [(h0, .inr (4, [.null, .int 0, .null, .int 0, .int 0, .int 0, .int 0]))])) (va_Qv (fun _ : (Nat → Nat) => True) (eB D tt (va_A [(h0, .inr (4, [.null, .int 0, .null, .int 0, .int 0, .int 0, .int 0]))] sz) (WReader tt h0)) (va_A [(h0, .inr (4, [.null, .int 0, .null, .int 0, .int 0, .int 0, .int 0]))] sz)) 4 326 (va_A [(h0, .inr (4, [.null, .int 0, .null, .int 0, .int 0, .int 0, .int 0]))] sz) := by
  refine Met.ofW (cc := cX4_init) (maxL := 1) (ret := none) (by decide) rfl ?_
  intro p e s m args below meth c s₁ B hml hv
  obtain ⟨rfl, hsz, hP, hK, hD0, hO⟩ := hv
  have hx := B.exec
  have hb := B.bytes
  have hr := B.returns
  have hts := atoms_spec (ws := wz yX4_init cX4_init 1 none) B.pre
  have hown : s.vm.findClass RX4 = some m.cls := findClass_of_methodNamed B.named
  have hlocks := B.notSynchronized
  have hin : meth.name = "<init>" := (name_of_methodNamed B.named B.method).1
  subst hsz
  have hD := hD0.self (sz := s.heap.size)
  generalize hAe : va_A [(h0, .inr (4, [.null, .int 0, .null, .int 0, .int 0, .int 0, .int 0]))] s.heap.size = A at hD ⊢
  have hA : ∀ q : Nat, s.heap.size ≤ q → A q := fun q h => by rw [← hAe]; exact Or.inr h
  have hS : va_S A s.heap s.heap [] := va_S.rf
  have hl := lv_entry ([.ref h0] : List Value) (n := 1) (Nat.le_of_ble_eq_true rfl)
  rw [lg_entry_eq]
  generalize hav : ([.ref h0] : List Value) = av at hl hts ⊢
  generalize (lg_sl av ++ List.replicate (1 - (lg_sl av).length) Slot.unset).toArray = ls at hl ⊢
  have hl : lv_has ls 1 [(0, .ref h0)] := by rw [← hav] at hl; exact hl
  obtain ⟨H, hH⟩ : ∃ y, y = s.heap := ⟨_, rfl⟩
  suffices hw : ∀ (H : Heap) (locs : List Loc), va_P D vwCl [(h0, .inr (4, [.null, .int 0, .null, .int 0, .int 0, .int 0, .int 0]))] H → va_D A [(h0, .inr (4, [.null, .int 0, .null, .int 0, .int 0, .int 0, .int 0]))] → va_S A s.heap H locs → W p l e ({ frames := 2, cells := 4, slots := 326, locals := 32 } : Room) s m av.toArray below meth c H locs 0 0 (MQ below (va_Qv (fun _ : (Nat → Nat) => True) (eB D tt A (WReader tt h0)) A) av.toArray s 4 326 A) (F0 m 0 ls []) from hw _ [] hP hD hS
  clear hP hD hS hH H
  intro H locs hP hD hS
  refine lv_aload_n hx hb dX4_init_0 rfl (lv_at hl 0 rfl) ?_
  refine W.objInit hx hb hown (hts (.methodLink RX4 3 objectInit) (wzm K52)) (hts (.instanceMethod objectInit) (wzm K10)) (hts (.code objectInit ⟨#[0xb1]⟩ 1 none) (wzm K11)) rfl (by rw [hml]; exact hl.1) rfl dX4_init_1 (Nat.le_of_ble_eq_true rfl) (Nat.le_of_ble_eq_true rfl) ?_
  refine W.eq (g2 := F0 m 4 ls []) rfl ?_
  refine lv_aload_n hx hb dX4_init_4 rfl (lv_at hl 0 rfl) ?_
  refine lv_sipush (v := (160 : Int32)) hx hb dX4_init_5 (by decide) ?_
  refine e_newi hx hb (hts (.arrayClass .int) (wzm K42)) hK hP hD hS hA (N' := 160) (by decide) (by decide) (Nat.le_of_ble_eq_true rfl) (Nat.le_of_ble_eq_true rfl) (Nat.le_of_ble_eq_true rfl) dX4_init_8 (fun q1 H hP hD hS => ?_)
  have hP : va_P D vwCl [(h0, .inr (4, [.null, .int 0, .null, .int 0, .int 0, .int 0, .int 0])), (q1, .inl (tt 0, 160, .inl (fun _ => 0)))] H := hP
  have hD : va_D A [(h0, .inr (4, [.null, .int 0, .null, .int 0, .int 0, .int 0, .int 0])), (q1, .inl (tt 0, 160, .inl (fun _ => 0)))] := hD
  refine W.widen (k := 1) (n := 160) (Nat.le_of_ble_eq_true rfl) (Nat.le_of_ble_eq_true rfl) ?_
  refine va_putF (D := D) (ci := 4) (v := .ref q1) (ty := (.array .int)) (C := RX4) (T := TX4) (N := 7) hx hb hts iX4 tyX4 tyX4_ok nmX4 hown hK hP hD hS 0 rfl rfl 0 (by decide) (hts (.fieldLink RX4 9 "OtherHalfOfNight$Reader" "tape" "[I") (wzm K53)) (fun _ h9 => h9) rfl hin rfl (by decide +kernel) rfl rfl (Nat.le_of_ble_eq_true rfl) dX4_init_10 (fun H locs hP hD hS => ?_)
  have hP : va_P D vwCl [(h0, .inr (4, [.ref q1, .int 0, .null, .int 0, .int 0, .int 0, .int 0])), (q1, .inl (tt 0, 160, .inl (fun _ => 0)))] H := hP
  have hD : va_D A [(h0, .inr (4, [.ref q1, .int 0, .null, .int 0, .int 0, .int 0, .int 0])), (q1, .inl (tt 0, 160, .inl (fun _ => 0)))] := hD
  refine lv_aload_n hx hb dX4_init_13 rfl (lv_at hl 0 rfl) ?_
  refine va_new (ci := 6) (fs := [.null, .null, .int 0]) (C := RX6) (T := TX6) (N := 3) hx hb hts iX6 tyX6 tyX6_ok hown (hts (.classLink RX4 15 RX6) (wzm K54)) (hts (.instantiable RX6 3) (wzm K55)) (hts (.initialized RX6) (wzm K56)) hK hP hD hS hA rfl (by decide +kernel) (Nat.le_of_ble_eq_true rfl) (Nat.le_of_ble_eq_true rfl) dX4_init_14 (fun q2 H hP hD hS => ?_)
  have hP : va_P D vwCl [(h0, .inr (4, [.ref q1, .int 0, .null, .int 0, .int 0, .int 0, .int 0])), (q1, .inl (tt 0, 160, .inl (fun _ => 0))), (q2, .inr (6, [.null, .null, .int 0]))] H := hP
  have hD : va_D A [(h0, .inr (4, [.ref q1, .int 0, .null, .int 0, .int 0, .int 0, .int 0])), (q1, .inl (tt 0, 160, .inl (fun _ => 0))), (q2, .inr (6, [.null, .null, .int 0]))] := hD
  refine W.widen (k := 2) (n := 163) (Nat.le_of_ble_eq_true rfl) (Nat.le_of_ble_eq_true rfl) ?_
  refine lv_dup hx hb dX4_init_17 rfl ?_
  have hP2 : va_P D vwCl ([(h0, .inr (4, [.ref q1, .int 0, .null, .int 0, .int 0, .int 0, .int 0])), (q1, .inl (tt 0, 160, .inl (fun _ => 0)))] ++ [(q2, .inr (6, [.null, .null, .int 0]))]) H := hP
  have hD2 : va_D A ([(h0, .inr (4, [.ref q1, .int 0, .null, .int 0, .int 0, .int 0, .int 0])), (q1, .inl (tt 0, 160, .inl (fun _ => 0)))] ++ [(q2, .inr (6, [.null, .null, .int 0]))]) := hD
  refine va_callv (va_runIN (As := []) (rest := [.ref q2, .ref h0]) ⟨hx, hb, hml, hown, hts⟩ (e_X6_init l D tt q2 H.size) ⟨va_cnB 0 hts (wzC K59) rfl rfl rfl (hO.2.2.2 _ (List.mem_of_getElem? (i := 5) rfl)) (hts (.initialized RX6) (wzm K56)) (by decide +kernel) ⟨(Nat.le_of_ble_eq_true rfl), (Nat.le_of_ble_eq_true rfl)⟩, rfl, (hts (.instanceMethod yX6_init) (wzm K58))⟩ (e_pre (e_lastP hP2) (e_last hD2) hK hO) rfl rfl hl.1 rfl (lv_room (Nat.le_of_ble_eq_true rfl)) dX4_init_18 ⟨(Nat.le_of_ble_eq_true rfl), (Nat.le_of_ble_eq_true rfl)⟩) hS (fun q _ h => e_free hD2 hS hA q h) (e_free hD2 hS hA) (fun u3 t2 H1 locs ht hvm hw hB hz1 hk1 hS1 => ?_)
  obtain ⟨hP1, hK1, hD1⟩ := hB
  rw [ht] at hP1
  obtain ⟨hP, hD⟩ := e_join hP2 hD2 (e_free hD2 hS hA) hk1 hP1 hD1
  replace hS := hS1
  clear hS1 hP1 hD1 hk1 hP2 hD2
  generalize H1 = H at hP hS ⊢
  have hP : va_P D vwCl [(h0, .inr (4, [.ref q1, .int 0, .null, .int 0, .int 0, .int 0, .int 0])), (q1, .inl (tt 0, 160, .inl (fun _ => 0))), (q2, .inr (6, [.ref (u3 1), .ref (u3 2), .int 0])), ((u3 1), .inl (tt 0, 160, .inl (fun _ => 0))), ((u3 2), .inl (tt 0, 3, .inl (fun _ => 0)))] H := hP
  have hD : va_D A [(h0, .inr (4, [.ref q1, .int 0, .null, .int 0, .int 0, .int 0, .int 0])), (q1, .inl (tt 0, 160, .inl (fun _ => 0))), (q2, .inr (6, [.ref (u3 1), .ref (u3 2), .int 0])), ((u3 1), .inl (tt 0, 160, .inl (fun _ => 0))), ((u3 2), .inl (tt 0, 3, .inl (fun _ => 0)))] := hD
  refine W.widen (k := 4) (n := 326) (Nat.le_of_ble_eq_true rfl) (Nat.le_of_ble_eq_true rfl) ?_
  refine va_put (D := D) (ci := 4) (v := .ref q2) (ty := (.object "OtherHalfOfNight$Text")) (C := RX4) (T := TX4) (N := 7) hx hb hts iX4 tyX4 tyX4_ok nmX4 hown hK hP hD hS 0 rfl rfl 2 (by decide) (hts (.fieldLink RX4 18 "OtherHalfOfNight$Reader" "text" "LOtherHalfOfNight$Text;") (wzm K57)) (fun _ h9 => h9) rfl (by decide +kernel) rfl rfl (Nat.le_of_ble_eq_true rfl) dX4_init_21 (fun H locs hP hD hS => ?_)
  have hP : va_P D vwCl [(h0, .inr (4, [.ref q1, .int 0, .ref q2, .int 0, .int 0, .int 0, .int 0])), (q1, .inl (tt 0, 160, .inl (fun _ => 0))), (q2, .inr (6, [.ref (u3 1), .ref (u3 2), .int 0])), ((u3 1), .inl (tt 0, 160, .inl (fun _ => 0))), ((u3 2), .inl (tt 0, 3, .inl (fun _ => 0)))] H := hP
  have hD : va_D A [(h0, .inr (4, [.ref q1, .int 0, .ref q2, .int 0, .int 0, .int 0, .int 0])), (q1, .inl (tt 0, 160, .inl (fun _ => 0))), (q2, .inr (6, [.ref (u3 1), .ref (u3 2), .int 0])), ((u3 1), .inl (tt 0, 160, .inl (fun _ => 0))), ((u3 2), .inl (tt 0, 3, .inl (fun _ => 0)))] := hD
  refine W.widen (k := 4) (n := 326) (Nat.le_of_ble_eq_true rfl) (Nat.le_of_ble_eq_true rfl) ?_
  exact W.vret hx hb hr (fun t3 ht hW => ⟨⟨(fun k => [0, q1, q2, (u3 1), (u3 2)].getD k 0), rfl, trivial, by rw [ht]; exact hP, va_K.moved hW.alike hK, hD⟩, hS.F ht⟩) hS.2.2 dX4_init_24
def WPouring (tt : Nat → ClassId) (h : Nat) (u : Nat → Nat) : va_W := [(h, .inr (3, [.ref (u 1)])), ((u 1), .inl (tt 5, 5, .inr (.inr (.inr (.inr (fun j => some (u (2 + j)))))))), ((u 2), .inl (tt 0, 6, .inl (fun _ => 0))), ((u 3), .inl (tt 0, 6, .inl (fun _ => 0))), ((u 4), .inl (tt 0, 6, .inl (fun _ => 0))), ((u 5), .inl (tt 0, 6, .inl (fun _ => 0))), ((u 6), .inl (tt 0, 6, .inl (fun _ => 0)))]
set_option maxHeartbeats 40000000 in
set_option maxRecDepth 100000 in
theorem e_X3_init (l : Launch) (D : va_G) (tt : Nat → ClassId) (h0 : Nat) (sz : Nat) : Met l yX3_init (wz yX3_init cX3_init 1 none) ({ frames := 1, cells := 6, slots := 35, locals := 12 } : Room) (va_Pc [.ref h0] (eP D tt sz [(h0, .inr (3, [.null]))])) (va_Qv (fun _ : (Nat → Nat) => True) (eB D tt (va_A [(h0, .inr (3, [.null]))] sz) (WPouring tt h0)) (va_A [(h0, .inr (3, [.null]))] sz)) 6 35 (va_A [(h0, .inr (3, [.null]))] sz) := by
  refine Met.ofW (cc := cX3_init) (maxL := 1) (ret := none) (by decide) rfl ?_
  intro p e s m args below meth c s₁ B hml hv
  obtain ⟨rfl, hsz, hP, hK, hD0, hO⟩ := hv
  have hx := B.exec
  have hb := B.bytes
  have hr := B.returns
  have hts := atoms_spec (ws := wz yX3_init cX3_init 1 none) B.pre
  have hown : s.vm.findClass RX3 = some m.cls := findClass_of_methodNamed B.named
  have hlocks := B.notSynchronized
  have hin : meth.name = "<init>" := (name_of_methodNamed B.named B.method).1
  subst hsz
  have hD := hD0.self (sz := s.heap.size)
  generalize hAe : va_A [(h0, .inr (3, [.null]))] s.heap.size = A at hD ⊢
  have hA : ∀ q : Nat, s.heap.size ≤ q → A q := fun q h => by rw [← hAe]; exact Or.inr h
  have hS : va_S A s.heap s.heap [] := va_S.rf
  have hl := lv_entry ([.ref h0] : List Value) (n := 1) (Nat.le_of_ble_eq_true rfl)
  rw [lg_entry_eq]
  generalize hav : ([.ref h0] : List Value) = av at hl hts ⊢
  generalize (lg_sl av ++ List.replicate (1 - (lg_sl av).length) Slot.unset).toArray = ls at hl ⊢
  have hl : lv_has ls 1 [(0, .ref h0)] := by rw [← hav] at hl; exact hl
  obtain ⟨H, hH⟩ : ∃ y, y = s.heap := ⟨_, rfl⟩
  suffices hw : ∀ (H : Heap) (locs : List Loc), va_P D vwCl [(h0, .inr (3, [.null]))] H → va_D A [(h0, .inr (3, [.null]))] → va_S A s.heap H locs → W p l e ({ frames := 1, cells := 6, slots := 35, locals := 12 } : Room) s m av.toArray below meth c H locs 0 0 (MQ below (va_Qv (fun _ : (Nat → Nat) => True) (eB D tt A (WPouring tt h0)) A) av.toArray s 6 35 A) (F0 m 0 ls []) from hw _ [] hP hD hS
  clear hP hD hS hH H
  intro H locs hP hD hS
  refine lv_aload_n hx hb dX3_init_0 rfl (lv_at hl 0 rfl) ?_
  refine W.objInit hx hb hown (hts (.methodLink RX3 3 objectInit) (wzm K90)) (hts (.instanceMethod objectInit) (wzm K10)) (hts (.code objectInit ⟨#[0xb1]⟩ 1 none) (wzm K11)) rfl (by rw [hml]; exact hl.1) rfl dX3_init_1 (Nat.le_of_ble_eq_true rfl) (Nat.le_of_ble_eq_true rfl) ?_
  refine W.eq (g2 := F0 m 4 ls []) rfl ?_
  refine lv_aload_n hx hb dX3_init_4 rfl (lv_at hl 0 rfl) ?_
  refine lv_iconst (v := (5 : Int32)) hx hb dX3_init_5 (by decide) ?_
  refine lv_bipush (v := (6 : Int32)) hx hb dX3_init_6 (by decide) ?_
  refine va_grid hx hb hown (hts (.classLink RX3 9 "[[I") (wzm K91)) hO.2.2.1 (hts (.arrayClass .int) (wzm K42)) hK (t0 := 0) (t1 := 5) (cI := tt 0) (cG := tt 5) rfl rfl hP hD hS hA (Nat.le_of_ble_eq_true rfl) (Nat.le_of_ble_eq_true rfl) dX3_init_8 (fun q1 H hP hD hS => ?_)
  have hP : va_P D vwCl [(h0, .inr (3, [.null])), (q1, .inl (tt 5, 5, .inr (.inr (.inr (.inr (fun j => some (q1 + 1 + j))))))), ((q1 + 1), .inl (tt 0, 6, .inl (fun _ => 0))), ((q1 + 2), .inl (tt 0, 6, .inl (fun _ => 0))), ((q1 + 3), .inl (tt 0, 6, .inl (fun _ => 0))), ((q1 + 4), .inl (tt 0, 6, .inl (fun _ => 0))), ((q1 + 5), .inl (tt 0, 6, .inl (fun _ => 0)))] H := hP
  have hD : va_D A [(h0, .inr (3, [.null])), (q1, .inl (tt 5, 5, .inr (.inr (.inr (.inr (fun j => some (q1 + 1 + j))))))), ((q1 + 1), .inl (tt 0, 6, .inl (fun _ => 0))), ((q1 + 2), .inl (tt 0, 6, .inl (fun _ => 0))), ((q1 + 3), .inl (tt 0, 6, .inl (fun _ => 0))), ((q1 + 4), .inl (tt 0, 6, .inl (fun _ => 0))), ((q1 + 5), .inl (tt 0, 6, .inl (fun _ => 0)))] := hD
  refine W.widen (k := 6) (n := 35) (Nat.le_of_ble_eq_true rfl) (Nat.le_of_ble_eq_true rfl) ?_
  refine va_putF (D := D) (ci := 3) (v := .ref q1) (ty := (.array (.array .int))) (C := RX3) (T := TX3) (N := 1) hx hb hts iX3 tyX3 tyX3_ok nmX3 hown hK hP hD hS 0 rfl rfl 0 (by decide) (hts (.fieldLink RX3 11 "OtherHalfOfNight$Pouring" "into" "[[I") (wzm K92)) (fun _ h9 => h9) rfl hin rfl (by decide +kernel) rfl rfl (Nat.le_of_ble_eq_true rfl) dX3_init_12 (fun H locs hP hD hS => ?_)
  have hP : va_P D vwCl [(h0, .inr (3, [.ref q1])), (q1, .inl (tt 5, 5, .inr (.inr (.inr (.inr (fun j => some (q1 + 1 + j))))))), ((q1 + 1), .inl (tt 0, 6, .inl (fun _ => 0))), ((q1 + 2), .inl (tt 0, 6, .inl (fun _ => 0))), ((q1 + 3), .inl (tt 0, 6, .inl (fun _ => 0))), ((q1 + 4), .inl (tt 0, 6, .inl (fun _ => 0))), ((q1 + 5), .inl (tt 0, 6, .inl (fun _ => 0)))] H := hP
  have hD : va_D A [(h0, .inr (3, [.ref q1])), (q1, .inl (tt 5, 5, .inr (.inr (.inr (.inr (fun j => some (q1 + 1 + j))))))), ((q1 + 1), .inl (tt 0, 6, .inl (fun _ => 0))), ((q1 + 2), .inl (tt 0, 6, .inl (fun _ => 0))), ((q1 + 3), .inl (tt 0, 6, .inl (fun _ => 0))), ((q1 + 4), .inl (tt 0, 6, .inl (fun _ => 0))), ((q1 + 5), .inl (tt 0, 6, .inl (fun _ => 0)))] := hD
  have hP := e_qs hP 1 (fun j => some ((fun k => [0, q1, (q1 + 1), (q1 + 2), (q1 + 3), (q1 + 4), (q1 + 5)].getD k 0) (2 + j))) rfl (fun j hj => match j, hj with | 0, _ => rfl | 1, _ => rfl | 2, _ => rfl | 3, _ => rfl | 4, _ => rfl)
  have hD := hD.set (p := 1) (e := .inl (tt 5, 5, .inr (.inr (.inr (.inr (fun j => some ((fun k => [0, q1, (q1 + 1), (q1 + 2), (q1 + 3), (q1 + 4), (q1 + 5)].getD k 0) (2 + j)))))))) rfl
  refine W.widen (k := 6) (n := 35) (Nat.le_of_ble_eq_true rfl) (Nat.le_of_ble_eq_true rfl) ?_
  exact W.vret hx hb hr (fun t3 ht hW => ⟨⟨(fun k => [0, q1, (q1 + 1), (q1 + 2), (q1 + 3), (q1 + 4), (q1 + 5)].getD k 0), rfl, trivial, by rw [ht]; exact hP, va_K.moved hW.alike hK, hD⟩, hS.F ht⟩) hS.2.2 dX3_init_15
