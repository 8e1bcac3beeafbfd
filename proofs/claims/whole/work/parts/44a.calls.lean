/-! The law's calls: two worlds side by side -/
theorem wlC {y' : MethodName} {c' : ByteArray} {n' : Nat} {ret' : Option FieldType} (h : Cond.code y' c' n' ret' ∈ wsL_law) : GoodIn wsL_law (wz y' c' n' ret') := by
  intro w hw
  rcases List.mem_cons.mp hw with rfl | hw
  · exact ⟨h, wgd h⟩
  · exact ⟨hw, wgd hw⟩
theorem wlV {y' : MethodName} {c' : ByteArray} {n' : Nat} {ret' : Option FieldType} {own C : String} {ix : Nat} (h : Cond.code y' c' n' ret' ∈ wsL_law) (h1 : Cond.methodLink own ix y' ∈ wsL_law) (h2 : Cond.instanceMethod y' ∈ wsL_law) (h3 : Cond.selects C y' y' ∈ wsL_law) (h4 : Cond.initialized C ∈ wsL_law) : GoodIn wsL_law (wsV own ix C y' (wz y' c' n' ret')) := by
  intro w hw
  rcases List.mem_append.mp hw with hw | hw
  · simp only [List.mem_cons, List.not_mem_nil, or_false] at hw
    rcases hw with rfl | rfl | rfl | rfl
    · exact ⟨h1, wgd h1⟩
    · exact ⟨h2, wgd h2⟩
    · exact ⟨h3, wgd h3⟩
    · exact ⟨h4, wgd h4⟩
  · exact wlC h w hw
theorem wStr.law {al : List Nat} {ad : (Nat → Nat) × (Nat → Nat)} {s U : State} {H : Heap} {locs : List Loc} (h : wStr [] ad s.heap.size s s.heap) (hS : va_S (wA [] s.heap.size) s.heap H locs) (hal : ∀ q ∈ al, s.heap.size ≤ q) (hW : s.WarmedH U.vm) (hU : U.heap = H) : wStr al ad H.size U U.heap := by
  have hA : ∀ q, wA al H.size q → wA [] s.heap.size q := fun q h => Or.inr (h.elim (hal q) (fun h => Nat.le_trans hS.1 h))
  obtain ⟨h1, h2, h3, h4⟩ := h
  rw [hU]
  exact ⟨((h1.kept hS.2.1).narrow hA).moved hW.alike, fun i q hq => (h2 i q hq).warm hW, ((h3.kept hS.2.1).narrow hA).moved hW.alike, ((h4.kept hS.2.1).narrow hA).moved hW.alike⟩
section LAWW
variable {S : Type} {D : va_G} {cl : List vw_C} {tys : List (ClassId × FieldType)} {X : S → va_W} {al : List Nat} {ad : (Nat → Nat) × (Nat → Nat)}
variable {p : Program} {l : Launch} {e : Jvm.Env} {R : Room} {s : State} {m : MethodId} {args : Array Value} {below : List Frame} {meth : Method} {c : Code} {H : Heap} {locs : List Loc} {cells slots : Nat} {Q : State → Prop}
variable {pc : Nat} {ls : Array Slot} {rest : List Value} {σ σ' : S}
theorem l_preV {b : Nat} {As : List Value} {q0 ci : Nat} {fs : List Value} {C : String} {T : u_T} {N : Nat} (hK : va_K D cl tys s) (hP : va_P D cl (X σ) H) (hstr : wStr [] ad s.heap.size s s.heap) (hN : wN s) (hS : va_S (wA [] s.heap.size) s.heap H locs) (hal : ∀ q ∈ al, s.heap.size ≤ q) (he : (X σ)[q0]? = some (b, .inr (ci, fs))) (hc : cl[ci]? = some (C, T, N)) : PreV s H C b (va_Pc (.ref b :: As) (wPre D cl tys X al ad σ H.size)) As :=
  ⟨fun a U g mk q => ⟨q.1, q.2.1, q.2.2.1, va_K.moved (u := U) (U := U.calling g mk a) (Vm.Alike.refl U.vm) q.2.2.2.1, wStr.same (u := U) (U := U.calling g mk a) rfl rfl (Vm.Alike.refl U.vm) q.2.2.2.2.1, wN.same (u := U) (U := U.calling g mk a) rfl q.2.2.2.2.2⟩, va_recv hK hP hc he, fun U hU hW => ⟨rfl, by rw [hU], by rw [hU]; exact hP, va_K.moved hW.alike hK, hstr.law hS hal hW hU, hN.warm hW⟩⟩
theorem l_ci {a0 : Array Value} {st0 : List Value} {r : Int32} {Y : va_W} (hr : va_Run p l e R s m args below meth c H locs cells slots 0 0 (F0 m pc ls st0) rest (wQi D cl tys X al r σ' H.size a0) (wA al H.size)) (hS : va_S (wA [] s.heap.size) s.heap H locs) (hal : ∀ q ∈ al, s.heap.size ≤ q) (hY : va_P D cl Y H) (hd : ∀ (k : Nat) (x : Nat × va_E), Y[k]? = some x → x.1 ∉ al)
    (kk : ∀ (H1 : Heap) (locs1 : List Loc), va_P D cl (X σ') H1 → va_P D cl Y H1 → va_S (wA [] s.heap.size) s.heap H1 locs1 → W p l e R s m args below meth c H1 locs1 cells slots Q (F0 m (pc + 3) ls (.int r :: rest))) : W p l e R s m args below meth c H locs cells slots Q (F0 m pc ls st0) := by
  have hA : ∀ q, wA al H.size q → wA [] s.heap.size q := fun q h => Or.inr (h.elim (hal q) (fun h => Nat.le_trans hS.1 h))
  refine va_calli hr hS (fun q _ h => hA q h) hA (fun r2 u t H1 locs1 ht hvm hw hB hz hk hS1 => ?_)
  obtain ⟨rfl, rfl⟩ := hw
  exact kk H1 locs1 (ht ▸ hB.1) (hY.kept (fun k x hx => hk x.1 (hY k x hx).lt (fun h => h.elim (hd k x hx) (fun h => absurd (hY k x hx).lt (by omega))))) hS1
theorem l_cl {a0 : Array Value} {st0 : List Value} {r : Int64} {Y : va_W} (hr : va_Run p l e R s m args below meth c H locs cells slots 0 0 (F0 m pc ls st0) rest (wQl D cl tys X al r σ' H.size a0) (wA al H.size)) (hS : va_S (wA [] s.heap.size) s.heap H locs) (hal : ∀ q ∈ al, s.heap.size ≤ q) (hY : va_P D cl Y H) (hd : ∀ (k : Nat) (x : Nat × va_E), Y[k]? = some x → x.1 ∉ al)
    (kk : ∀ (H1 : Heap) (locs1 : List Loc), va_P D cl (X σ') H1 → va_P D cl Y H1 → va_S (wA [] s.heap.size) s.heap H1 locs1 → W p l e R s m args below meth c H1 locs1 cells slots Q (F0 m (pc + 3) ls (.long r :: rest))) : W p l e R s m args below meth c H locs cells slots Q (F0 m pc ls st0) := by
  have hA : ∀ q, wA al H.size q → wA [] s.heap.size q := fun q h => Or.inr (h.elim (hal q) (fun h => Nat.le_trans hS.1 h))
  refine va_calll hr hS (fun q _ h => hA q h) hA (fun r2 u t H1 locs1 ht hvm hw hB hz hk hS1 => ?_)
  obtain ⟨rfl, rfl⟩ := hw
  exact kk H1 locs1 (ht ▸ hB.1) (hY.kept (fun k x hx => hk x.1 (hY k x hx).lt (fun h => h.elim (hd k x hx) (fun h => absurd (hY k x hx).lt (by omega))))) hS1
end LAWW
/-- what stands while the law runs -/
def LF (D : va_G) (tt : Nat → ClassId) (aC aM : Nat → Nat) (ad : (Nat → Nat) × (Nat → Nat)) (s : State) : Prop :=
  va_K D vwCl (eT tt) s ∧ wStr [] ad s.heap.size s s.heap ∧ wN s ∧ okC (D, tt, aC, ad) ∧ okM (D, tt, aM, ad) ∧ (∀ q ∈ alC (D, tt, aC, ad), s.heap.size ≤ q) ∧ (∀ q ∈ alM (D, tt, aM, ad), s.heap.size ≤ q) ∧ ∀ q ∈ alC (D, tt, aC, ad), q ∉ alM (D, tt, aM, ad)
/-- class and reference, side by side in one heap -/
def LI (D : va_G) (tt : Nat → ClassId) (aC aM : Nat → Nat) (ad : (Nat → Nat) × (Nat → Nat)) (s : State) (σ : Sg) (μ : Sm) (H : Heap) (locs : List Loc) : Prop :=
  va_P D vwCl (XC (D, tt, aC, ad) σ) H ∧ va_P D vwCl (XM (D, tt, aM, ad) μ) H ∧ va_S (wA [] s.heap.size) s.heap H locs ∧ Inv σ μ
theorem al_of {X : va_W} {al : List Nat} (h : X.map Prod.fst = al) {k : Nat} {x : Nat × va_E} (hx : X[k]? = some x) : x.1 ∈ al := by
  rw [← h]
  exact List.mem_map.mpr ⟨x, List.mem_of_getElem? hx, rfl⟩
theorem l_in {i k L : Nat} (h : i + k < L) (hL : L ≤ 3072) : vp_in (nI i + nI k) L := by
  rw [nI_add]
  exact okI_nI h (by omega)
theorem l_in0 {i L : Nat} (h : i < L) (hL : L ≤ 3072) : vp_in (nI i) L := okI_nI h (by omega)
