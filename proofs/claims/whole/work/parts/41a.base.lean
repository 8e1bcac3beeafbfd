/-! What constructors are said in: cells one behind the other -/
/-- the array classes -/
def eT (t : Nat → ClassId) : List (ClassId × FieldType) := [(t 0, .int), (t 1, .long), (t 2, .boolean), (t 3, .object "OtherHalfOfNight$Sheet"), (t 4, .object "OtherHalfOfNight$Text"), (t 5, .array .int)]
def e_AOA (U : State) : Prop := (Cond.arrayOver (.array .int)).before #[] U = true
theorem e_AOA.moved {u U : State} (hvm : u.vm.Alike U.vm) (h : e_AOA u) : e_AOA U := over_moved hvm h
/-- the nest links of constructors -/
def eNl : List Cond := [.methodLinkNest RX8 24 yX4_init "OtherHalfOfNight", .methodLinkNest RX8 38 yX3_init "OtherHalfOfNight", .methodLinkNest RX8 45 yX0_init "OtherHalfOfNight", .methodLinkNest RX8 56 yX5_init "OtherHalfOfNight", .methodLinkNest RX2 25 yX6_init "OtherHalfOfNight", .methodLinkNest RX4 17 yX6_init "OtherHalfOfNight"]
def eN (U : State) : Prop := ∀ w ∈ eNl, va_Nw w U
theorem eN.warm {s U : State} (hW : s.WarmedH U.vm) (h : eN s) : eN U := by
  intro w hw
  have := h w hw
  simp only [eNl, List.mem_cons, List.not_mem_nil, or_false] at hw
  rcases hw with rfl | rfl | rfl | rfl | rfl | rfl <;> exact va_Nw.warmM hW this
theorem eN.same {u U : State} (hv : u.vm = U.vm) (h : eN u) : eN U := by
  intro w hw
  have := h w hw
  simp only [eNl, List.mem_cons, List.not_mem_nil, or_false] at hw
  rcases hw with rfl | rfl | rfl | rfl | rfl | rfl <;> exact va_Nw.same rfl hv this
/-- arrays of references have been made before; the links -/
def eO (U : State) : Prop := va_AO "OtherHalfOfNight$Sheet" U ∧ va_AO "OtherHalfOfNight$Text" U ∧ e_AOA U ∧ eN U
theorem eO.warm {u U : State} (hW : u.WarmedH U.vm) (h : eO u) : eO U := ⟨h.1.moved hW.alike, h.2.1.moved hW.alike, h.2.2.1.moved hW.alike, h.2.2.2.warm hW⟩
theorem eO.same {u U : State} (hv : u.vm = U.vm) (h : eO u) : eO U := by
  have ha : u.vm.Alike U.vm := by rw [← hv]; exact Vm.Alike.refl u.vm
  exact ⟨h.1.moved ha, h.2.1.moved ha, h.2.2.1.moved ha, h.2.2.2.same hv⟩
/-- at a constructor's entry -/
def eP (D : va_G) (t : Nat → ClassId) (sz : Nat) (ws : va_W) : State → Prop := fun U => U.heap.size = sz ∧ va_P D vwCl ws U.heap ∧ va_K D vwCl (eT t) U ∧ va_D (fun _ => True) ws ∧ eO U
/-- at its end -/
def eB {S : Type} (D : va_G) (t : Nat → ClassId) (A : Nat → Prop) (Wf : S → va_W) : S → State → Prop := fun u T => va_P D vwCl (Wf u) T.heap ∧ va_K D vwCl (eT t) T ∧ va_D A (Wf u)
abbrev eQ {S : Type} (D : va_G) (t : Nat → ClassId) (sz : Nat) (ws : va_W) (Wf : S → va_W) := va_Qv (fun _ : S => True) (eB D t (va_A ws sz) Wf) (va_A ws sz)
section EB
variable {p : Program} {l : Launch} {e : Jvm.Env} {R : Room} {s : State} {m : MethodId} {args : Array Value} {below : List Frame} {meth : Method} {c : Code} {H : Heap} {locs : List Loc} {cells slots : Nat} {Q : State → Prop}
variable {cc : ByteArray} {pc : Nat} {ls : Array Slot} {rest : List Value} {D : va_G} {cl : List vw_C} {A : Nat → Prop} {tys : List (ClassId × FieldType)} {ws : va_W} {H0 : Heap}
theorem e_newa (hexec : p.tables.exec = Jvm.exec) (hb : c.code = cc) {atype : ArrayType} (harr : (Cond.arrayClass (newarray.typeOf atype)).before args s = true) {ty : FieldType} (hty : newarray.typeOf atype = ty) {k : Nat} {cI : ClassId} (hK : va_K D cl tys s) (hI : tys[k]? = some (cI, ty)) (hu : ∀ a b, va_RA s a ty → va_RA s b ty → a = b) (hP : va_P D cl ws H) (hD : va_D A ws) (hS : va_S A H0 H locs) (hA : ∀ q, H0.size ≤ q → A q)
    {n : Int32} {N' : Nat} {a0 : vp_A} (ha : ∀ cA : ClassId, vp_cell cA a0 = arrV cA N' (fun _ => defaultValue ty)) (hn : ¬ n < 0) (hN : n.toNatClampNeg = N') (hbytes : N' * componentBytes ty ≤ 536870912) (hcells : cells + 1 ≤ R.cells) (hslots : slots + N' ≤ R.slots) (hdg : decode cc pc = .ok (.newarray atype, 2))
    (kk : ∀ (q : Nat) (H1 : Heap), va_P D cl (ws ++ [(q, .inl (cI, a0))]) H1 → va_D A (ws ++ [(q, .inl (cI, a0))]) → va_S A H0 H1 locs →
      W p l e R s m args below meth c H1 locs (cells + 1) (slots + N') Q (F0 m (pc + 2) ls (.ref q :: rest))) : W p l e R s m args below meth c H locs cells slots Q (F0 m pc ls (.int n :: rest)) := by
  refine va_newa hexec hb harr hty hK hP hD hS hA ha hn hN hbytes hcells hslots hdg (fun q cA H1 hK1 hP1 hD1 hS1 => ?_)
  have e1 : cA = cI := hu _ _ (hK1.2 tys.length (cA, ty) (by simp)).2 (hK.2 k _ hI).2
  subst e1
  exact kk q H1 hP1 hD1 hS1
theorem e_newi (hexec : p.tables.exec = Jvm.exec) (hb : c.code = cc) (harr : (Cond.arrayClass .int).before args s = true) {t : Nat → ClassId} (hK : va_K D cl (eT t) s) (hP : va_P D cl ws H) (hD : va_D A ws) (hS : va_S A H0 H locs) (hA : ∀ q, H0.size ≤ q → A q)
    {n : Int32} {N' : Nat} (hn : ¬ n < 0) (hN : n.toNatClampNeg = N') (hbytes : N' * 4 ≤ 536870912) (hcells : cells + 1 ≤ R.cells) (hslots : slots + N' ≤ R.slots) (hdg : decode cc pc = .ok (.newarray .int, 2))
    (kk : ∀ (q : Nat) (H1 : Heap), va_P D cl (ws ++ [(q, .inl (t 0, N', .inl (fun _ => 0)))]) H1 → va_D A (ws ++ [(q, .inl (t 0, N', .inl (fun _ => 0)))]) → va_S A H0 H1 locs →
      W p l e R s m args below meth c H1 locs (cells + 1) (slots + N') Q (F0 m (pc + 2) ls (.ref q :: rest))) : W p l e R s m args below meth c H locs cells slots Q (F0 m pc ls (.int n :: rest)) :=
  e_newa (atype := .int) hexec hb harr rfl hK (k := 0) rfl (fun a b h1 h2 => Option.some.inj (h1.symm.trans h2)) hP hD hS hA (fun cA => rfl) hn hN hbytes hcells hslots hdg kk
theorem e_newj (hexec : p.tables.exec = Jvm.exec) (hb : c.code = cc) (harr : (Cond.arrayClass .long).before args s = true) {t : Nat → ClassId} (hK : va_K D cl (eT t) s) (hP : va_P D cl ws H) (hD : va_D A ws) (hS : va_S A H0 H locs) (hA : ∀ q, H0.size ≤ q → A q)
    {n : Int32} {N' : Nat} (hn : ¬ n < 0) (hN : n.toNatClampNeg = N') (hbytes : N' * 8 ≤ 536870912) (hcells : cells + 1 ≤ R.cells) (hslots : slots + N' ≤ R.slots) (hdg : decode cc pc = .ok (.newarray .long, 2))
    (kk : ∀ (q : Nat) (H1 : Heap), va_P D cl (ws ++ [(q, .inl (t 1, N', .inr (.inl (fun _ => 0))))]) H1 → va_D A (ws ++ [(q, .inl (t 1, N', .inr (.inl (fun _ => 0))))]) → va_S A H0 H1 locs →
      W p l e R s m args below meth c H1 locs (cells + 1) (slots + N') Q (F0 m (pc + 2) ls (.ref q :: rest))) : W p l e R s m args below meth c H locs cells slots Q (F0 m pc ls (.int n :: rest)) :=
  e_newa (atype := .long) hexec hb harr rfl hK (k := 1) rfl (fun a b h1 h2 => Option.some.inj (h1.symm.trans h2)) hP hD hS hA (fun cA => rfl) hn hN hbytes hcells hslots hdg kk
theorem e_newz (hexec : p.tables.exec = Jvm.exec) (hb : c.code = cc) (harr : (Cond.arrayClass .boolean).before args s = true) {t : Nat → ClassId} (hK : va_K D cl (eT t) s) (hP : va_P D cl ws H) (hD : va_D A ws) (hS : va_S A H0 H locs) (hA : ∀ q, H0.size ≤ q → A q)
    {n : Int32} {N' : Nat} (hn : ¬ n < 0) (hN : n.toNatClampNeg = N') (hbytes : N' * 1 ≤ 536870912) (hcells : cells + 1 ≤ R.cells) (hslots : slots + N' ≤ R.slots) (hdg : decode cc pc = .ok (.newarray .boolean, 2))
    (kk : ∀ (q : Nat) (H1 : Heap), va_P D cl (ws ++ [(q, .inl (t 2, N', .inl (fun _ => 0)))]) H1 → va_D A (ws ++ [(q, .inl (t 2, N', .inl (fun _ => 0)))]) → va_S A H0 H1 locs →
      W p l e R s m args below meth c H1 locs (cells + 1) (slots + N') Q (F0 m (pc + 2) ls (.ref q :: rest))) : W p l e R s m args below meth c H locs cells slots Q (F0 m pc ls (.int n :: rest)) :=
  e_newa (atype := .boolean) hexec hb harr rfl hK (k := 2) rfl (fun a b h1 h2 => Option.some.inj (h1.symm.trans h2)) hP hD hS hA (fun cA => rfl) hn hN hbytes hcells hslots hdg kk
theorem e_newq (hexec : p.tables.exec = Jvm.exec) (hb : c.code = cc) {own C : String} {index : Nat} (hown : s.vm.findClass own = some m.cls) (hclink : (Cond.classLink own index C).before args s = true) (hover : va_AO C s) (hK : va_K D cl tys s) {k : Nat} {cQ : ClassId} (hI : tys[k]? = some (cQ, .object C)) (hP : va_P D cl ws H) (hD : va_D A ws) (hS : va_S A H0 H locs) (hA : ∀ q, H0.size ≤ q → A q)
    {n : Int32} {N' : Nat} (hn : ¬ n < 0) (hN : n.toNatClampNeg = N') (hbytes : N' * 4 ≤ 536870912) (hcells : cells + 1 ≤ R.cells) (hslots : slots + N' ≤ R.slots) (hdg : decode cc pc = .ok (.anewarray index, 3))
    (kk : ∀ (q : Nat) (H1 : Heap), va_P D cl (ws ++ [(q, .inl (cQ, N', .inr (.inr (.inr (.inr (fun _ => none))))))]) H1 → va_D A (ws ++ [(q, .inl (cQ, N', .inr (.inr (.inr (.inr (fun _ => none))))))]) → va_S A H0 H1 locs →
      W p l e R s m args below meth c H1 locs (cells + 1) (slots + N') Q (F0 m (pc + 3) ls (.ref q :: rest))) : W p l e R s m args below meth c H locs cells slots Q (F0 m pc ls (.int n :: rest)) := by
  refine va_newq hexec hb hown hclink hover hK hP hD hS hA hn hN hbytes hcells hslots hdg (fun q cA H1 hK1 hP1 hD1 hS1 => ?_)
  obtain ⟨k1, c1, -, -, -, f1⟩ := (hK1.2 tys.length (cA, .object C) (by simp)).2
  obtain ⟨k2, c2, -, -, -, f2⟩ := (hK.2 k _ hI).2
  have e1 : cA = cQ := Option.some.inj (f1.symm.trans f2)
  subst e1
  exact kk q H1 hP1 hD1 hS1
/-- what a callee leaves of the last cells, beside those that stood ahead of them -/
theorem e_join {A0 : Nat → Prop} {wr wc w1 : va_W} {H1 : Heap} (hP : va_P D cl (wr ++ wc) H) (hD : va_D A0 (wr ++ wc)) (hF : ∀ q, va_A wc H.size q → A0 q) (hk : ∀ q : Nat, q < H.size → ¬ va_A wc H.size q → H1[q]? = H[q]?) (hP1 : va_P D cl w1 H1) (hD1 : va_D (va_A wc H.size) w1) : va_P D cl (wr ++ w1) H1 ∧ va_D A0 (wr ++ w1) := by
  have at1 : ∀ (k : Nat) (x : Nat × va_E), wr[k]? = some x → (wr ++ wc)[k]? = some x := fun k x hx => by
    rw [List.getElem?_append_left (List.getElem?_eq_some_iff.mp hx).1]; exact hx
  have at2 : ∀ (k : Nat) (x : Nat × va_E), wc[k]? = some x → (wr ++ wc)[wr.length + k]? = some x := fun k x hx => by
    rw [List.getElem?_append_right (by omega), Nat.add_sub_cancel_left]; exact hx
  have hn : ∀ (k : Nat) (x : Nat × va_E), wr[k]? = some x → ¬ va_A wc H.size x.1 := fun k x hx h => by
    have hl := (hP k x (at1 k x hx)).lt
    rcases h with ⟨j, e1, hj⟩ | h
    · have := hD.1 k (wr.length + j) x (x.1, e1) (at1 k x hx) (at2 j _ hj) rfl
      have := (List.getElem?_eq_some_iff.mp hx).1
      omega
    · exact absurd hl (by omega)
  have hPr : va_P D cl wr H1 := fun k x hx => (hP k x (at1 k x hx)).kept (hk x.1 (hP k x (at1 k x hx)).lt (hn k x hx))
  have hDr : va_D A0 wr := ⟨fun i j x y hx hy h => hD.1 i j x y (at1 i x hx) (at1 j y hy) h, fun k x hx => hD.2 k x (at1 k x hx)⟩
  exact ⟨hPr.app hP1, hDr.app (hD1.weaken (fun k x _ h => hF x.1 h)) (fun i j x y hx hy h => hn i x hx (by rw [h]; exact hD1.2 j y hy))⟩
theorem e_last {A0 : Nat → Prop} {wr wc : va_W} (hD : va_D A0 (wr ++ wc)) : va_D A0 wc := ⟨fun i j x y hx hy h => by
  have := hD.1 (wr.length + i) (wr.length + j) x y (by rw [List.getElem?_append_right (by omega), Nat.add_sub_cancel_left]; exact hx) (by rw [List.getElem?_append_right (by omega), Nat.add_sub_cancel_left]; exact hy) h
  omega, fun k x hx => hD.2 (wr.length + k) x (by rw [List.getElem?_append_right (by omega), Nat.add_sub_cancel_left]; exact hx)⟩
theorem e_lastP {wr wc : va_W} (hP : va_P D cl (wr ++ wc) H) : va_P D cl wc H := fun k x hx => hP (wr.length + k) x (by rw [List.getElem?_append_right (by omega), Nat.add_sub_cancel_left]; exact hx)
theorem e_free {A0 : Nat → Prop} {wr wc : va_W} (hD : va_D A0 (wr ++ wc)) (hS : va_S A0 H0 H locs) (hA : ∀ q, H0.size ≤ q → A0 q) : ∀ q, va_A wc H.size q → A0 q := by
  intro q h
  rcases h with ⟨k, e1, hk⟩ | h
  · exact (e_last hD).2 k _ hk
  · exact hA q (Nat.le_trans hS.1 h)
/-- what a constructor's entry asks -/
theorem e_pre {t : Nat → ClassId} {wc : va_W} {As : List Value} (hP : va_P D vwCl wc H) (hD : va_D A wc) (hK : va_K D vwCl (eT t) s) (hO : eO s) : PreS s H (va_Pc As (eP D t H.size wc)) As :=
  ⟨fun a U g mk q => by
    obtain ⟨q0, q1, qP, qK, qD, qO⟩ := q
    exact ⟨q0, q1, qP, va_K.moved (u := U) (U := U.calling g mk a) (Vm.Alike.refl U.vm) qK, qD, qO.same (u := U) (U := U.calling g mk a) rfl⟩,
   fun U hU hW => ⟨rfl, by rw [hU], by rw [hU]; exact hP, va_K.moved hW.alike hK, hD.weaken (fun _ _ _ _ => trivial), hO.warm hW⟩⟩
theorem e_preV {t : Nat → ClassId} {wc : va_W} {b : Nat} {As : List Value} {q0 ci : Nat} {fs : List Value} {C : String} {T : u_T} {N : Nat} (hP : va_P D vwCl wc H) (hD : va_D A wc) (hK : va_K D vwCl (eT t) s) (hO : eO s) (he : wc[q0]? = some (b, .inr (ci, fs))) (hc : vwCl[ci]? = some (C, T, N)) : PreV s H C b (va_Pc (.ref b :: As) (eP D t H.size wc)) As :=
  ⟨(e_pre (As := .ref b :: As) hP hD hK hO).1, va_recv hK hP hc he, (e_pre (As := .ref b :: As) hP hD hK hO).2⟩
end EB
/-- a row of references, said otherwise -/
theorem e_qs {D : va_G} {cl : List vw_C} {ws : va_W} {H : Heap} (hP : va_P D cl ws H) (k : Nat) {a : Nat} {c : ClassId} {n : Nat} {f : Nat → Option Nat} (g : Nat → Option Nat) (he : ws[k]? = some (a, .inl (c, n, .inr (.inr (.inr (.inr f)))))) (hfg : ∀ j, j < n → f j = g j) : va_P D cl (ws.set k (a, .inl (c, n, .inr (.inr (.inr (.inr g)))))) H := fun j x hx => by
  have hk := (List.getElem?_eq_some_iff.mp he).1
  by_cases e : j = k
  · subst e
    rw [List.getElem?_set_self hk] at hx
    cases hx
    have h := hP j _ he
    show H[a]? = some (vp_cell _ _)
    have h2 : H[a]? = some (vp_cell c (n, .inr (.inr (.inr (.inr f))))) := h
    rw [h2, vp_cell_q, vp_cell_q]
    exact congrArg some (arrV_congr fun j hj => by rw [hfg j hj])
  · rw [List.getElem?_set_ne (fun q => e q.symm)] at hx
    exact hP j x hx
