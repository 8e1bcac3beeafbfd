/-! new int[5][6]: one row for the instruction, out of the model's own words -/
section GRID
/-- a row of six, all 0; the row of rows while i of its five stand -/
def gdR (cI : ClassId) : Cell := { cls := cI, slots := Array.replicate 6 (.int 0), vm := .none }
def gdO (cG : ClassId) (h0 i : Nat) : Cell := arrV cG 5 (fun j => va_rf (if j < i then some (h0 + 1 + j) else none))
def gdS (s : State) (cG cI : ClassId) : Nat → State
  | 0 => s.pushCell (gdO cG s.heap.size 0)
  | i + 1 => ((gdS s cG cI i).pushCell (gdR cI)).setCell s.heap.size (gdO cG s.heap.size (i + 1))
theorem gdO_up (cG : ClassId) (h0 i : Nat) : (gdO cG h0 i).setSlot i (.ref (h0 + 1 + i)) = gdO cG h0 (i + 1) := by
  unfold gdO
  rw [arrV_store]
  refine congrArg (arrV cG 5) (funext fun j => ?_)
  rcases Nat.lt_trichotomy j i with h | h | h
  · simp [updV, va_rf, h, show j ≠ i by omega, show j < i + 1 by omega]
  · subst h; simp [updV, va_rf]
  · simp [updV, va_rf, show j ≠ i by omega, show ¬ j < i by omega, show ¬ j < i + 1 by omega]
theorem gdO_0 (cG : ClassId) (h0 : Nat) : ({ cls := cG, slots := Array.replicate 5 .null, vm := .none } : Cell) = gdO cG h0 0 := by
  rw [arrV_new]
  unfold gdO
  refine congrArg (arrV cG 5) (funext fun j => ?_)
  rw [if_neg (by omega)]
  rfl
theorem gdO_size (cG : ClassId) (h0 i : Nat) : (gdO cG h0 i).slots.size = 5 := arrV_size _ _ _
theorem gdR_size (cI : ClassId) : (gdR cI).slots.size = 6 := by simp [gdR]
theorem gd_all (s : State) (cG cI : ClassId) : ∀ i, (gdS s cG cI i).heap.size = s.heap.size + 1 + i ∧ (gdS s cG cI i).heap[s.heap.size]? = some (gdO cG s.heap.size i) ∧ (gdS s cG cI i).vm = s.vm ∧ (gdS s cG cI i).slotsUsed = s.slotsUsed + 5 + i * 6 ∧ (∀ a, a < s.heap.size → (gdS s cG cI i).heap[a]? = s.heap[a]?) ∧ ∀ j, j < i → (gdS s cG cI i).heap[s.heap.size + 1 + j]? = some (gdR cI) := by
  intro i
  induction i with
  | zero =>
    refine ⟨by simp [gdS], by simp [gdS], rfl, ?_, fun a ha => State.heap_pushCell_of_lt _ _ ha, fun j hj => absurd hj (by omega)⟩
    have := gdO_size cG s.heap.size 0
    simp [gdS, this]
  | succ i ih =>
    obtain ⟨a1, a2, a3, a4, a5, a6⟩ := ih
    have hlt : ∀ x, x < s.heap.size + 1 + i → x < (gdS s cG cI i).heap.size := fun x hx => by rw [a1]; exact hx
    have hold : ((gdS s cG cI i).pushCell (gdR cI)).heap[s.heap.size]? = some (gdO cG s.heap.size i) := by
      rw [State.heap_pushCell_of_lt (h := hlt _ (by omega))]; exact a2
    refine ⟨?_, State.heap_setCell_self hold, by simp [gdS, a3], ?_, fun a ha => ?_, fun j hj => ?_⟩
    · simp [gdS, State.setCell, a1]; omega
    · have := gdR_size cI
      simp [gdS, a4, this]; omega
    · show (((gdS s cG cI i).pushCell (gdR cI)).setCell s.heap.size _).heap[a]? = _
      rw [State.heap_setCell_other (Nat.ne_of_gt ha), State.heap_pushCell_of_lt (h := hlt _ (by omega))]
      exact a5 a ha
    · show (((gdS s cG cI i).pushCell (gdR cI)).setCell s.heap.size _).heap[s.heap.size + 1 + j]? = _
      rw [State.heap_setCell_other (show s.heap.size ≠ s.heap.size + 1 + j by omega)]
      by_cases e : j = i
      · subst e
        rw [← a1]
        exact State.heap_pushCell_size _ _
      · rw [State.heap_pushCell_of_lt (h := hlt _ (by omega))]
        exact a6 j (by omega)
theorem gd_top (s : State) (f : JFrame) (cG cI : ClassId) : ∀ i, gdS (s.setTop f) cG cI i = (gdS s cG cI i).setTop f := by
  intro i
  induction i with
  | zero => rfl
  | succ i ih => simp only [gdS, ih, State.heap_setTop, State.pushCell_setTop, State.setCell_setTop]
variable {E : CtlPost} {e : Jvm.Env} {d : Bool} {acts : List Action} {s : State}
theorem gd_alloc {c comp : ClassId} {k : Class} {type : FieldType} {len : Nat} {init : Value} (hk : s.vm.classes[c]? = some k) (hkind : k.kind = .array comp type)
    (hlimit : ¬ len > e.platform.arrayLengthLimit) (hheap : ¬ len * componentBytes type > e.platform.maxHeapBytes) (hfit : fits type init = true) (hdef : init.isDefault = true) {Q : Addr → Pre}
    (h1 : s.heap.size < e.platform.maxCells) (h2 : s.slotsUsed + len ≤ e.platform.maxSlots) (hq : Q s.heap.size d acts (s.pushCell { cls := c, slots := Array.replicate len init, vm := .none })) :
    wp (Jvm.newArray c len init) Q E e d acts s := by
  have hfits : ∀ i v, (Array.replicate len init)[i]? = some v → s.fitsSlot c .none i v = true := by
    intro i v hv
    rw [Array.getElem?_replicate] at hv
    by_cases hi : i < len
    · rw [if_pos hi] at hv
      cases hv
      simp [State.fitsSlot, State.slotType?, hk, hkind, hfit]
    · rw [if_neg hi] at hv
      cases hv
  have hacts : allocActs (Array.replicate len init) s.heap.size acts = acts := by
    unfold allocActs
    refine if_pos ?_
    rw [Array.all_replicate]
    split <;> simp [hdef]
  simp only [Jvm.newArray, Jvm.arrayFits, wp_bind', W.ask, W.ite, hlimit, if_false, wp_pure', W.theClass, hk, hkind, hheap, W.alloc, W.stop, Option.some.injEq, exists_eq_left', Array.size_replicate, hacts]
  rw [if_neg (by omega)]
  exact ⟨h1, h2, hfits, hq⟩
theorem gd_row {comp cc : ClassId} {kc : Class} (hkc : s.vm.classes[comp]? = some kc) (hkindc : kc.kind = .array cc .int) (hl : 6 ≤ e.platform.arrayLengthLimit) (hh : 24 ≤ e.platform.maxHeapBytes)
    (h1 : s.heap.size < e.platform.maxCells) (h2 : s.slotsUsed + 6 ≤ e.platform.maxSlots) {Q : Addr → Pre} (hq : Q s.heap.size d acts (s.pushCell (gdR comp))) :
    wp (multianewarray.make comp [6]) Q E e d acts s := by
  have h6 : ¬ (6 : Int32) < 0 := by decide
  have t6 : (6 : Int32).toNatClampNeg = 6 := by decide
  rw [multianewarray.make]
  simp only [wp_bind', W.ite, h6, if_false, wp_pure', W.theClass, hkc, hkindc, Option.some.injEq, exists_eq_left', t6]
  exact gd_alloc hkc hkindc (by omega) (by show ¬ 6 * 4 > _; omega) rfl rfl h1 h2 hq
theorem gd_ref {t : FieldType} (h : t.isReference = true) {v : Value} (hv : v = .null ∨ ∃ a, v = .ref a) : fits t v = true := by
  rcases hv with rfl | ⟨a, rfl⟩ <;> cases t <;> simp [FieldType.isReference] at h <;> rfl
theorem gd_make {c comp cc : ClassId} {k kc : Class} (hk : s.vm.classes[c]? = some k) (hkind : k.kind = .array comp (.array .int)) (hkc : s.vm.classes[comp]? = some kc) (hkindc : kc.kind = .array cc .int)
    (hl : 6 ≤ e.platform.arrayLengthLimit) (hh : 24 ≤ e.platform.maxHeapBytes) (hc : s.heap.size + 6 ≤ e.platform.maxCells) (hs : s.slotsUsed + 35 ≤ e.platform.maxSlots)
    {Q : Addr → Pre} (hq : ∀ d' acts', Q s.heap.size d' acts' (gdS s c comp 5)) :
    wp (multianewarray.make c [5, 6]) Q E e d acts s := by
  have h5 : ¬ (5 : Int32) < 0 := by decide
  have t5 : (5 : Int32).toNatClampNeg = 5 := by decide
  have hfind : ([(6 : Int32)].find? (· < 0)) = none := by decide
  rw [multianewarray.make]
  simp only [wp_bind', W.ite, h5, if_false, wp_pure', W.theClass, hk, hkind, Option.some.injEq, exists_eq_left', t5]
  refine gd_alloc hk hkind (by omega) (by show ¬ 5 * 4 > _; omega) (gd_ref rfl (Or.inl rfl)) rfl (by omega) (by omega) ?_
  simp only [hfind]
  rw [ite_self, wp_bind', Std.Legacy.Range.forIn_eq_forIn_range']
  have hsz : ([:5] : Std.Legacy.Range).size = 5 := by simp [Std.Legacy.Range.size]
  rw [hsz]
  show wp (forIn (List.range' 0 5 1) PUnit.unit _) _ E e d acts _
  refine wp_forIn_inv (fun rest s' => ∃ i, i ≤ 5 ∧ rest = List.range' i (5 - i) ∧ s' = gdS s c comp i) _ _ ⟨0, Nat.zero_le _, rfl, by rw [gdO_0 c s.heap.size]; rfl⟩ ?_ ?_
  · rintro x rest s' d' acts' Q' ⟨i, hi, hl', rfl⟩ hnext
    have hlt : i < 5 := by
      rcases Nat.lt_or_ge i 5 with h | h
      · exact h
      · rw [show 5 - i = 0 from by omega] at hl'; simp at hl'
    have hx : x = i ∧ rest = List.range' (i + 1) (5 - (i + 1)) := by
      rw [show 5 - i = (5 - (i + 1)) + 1 from by omega, List.range'_succ] at hl'
      exact ⟨(List.cons.inj hl').1, (List.cons.inj hl').2⟩
    obtain ⟨rfl, hrest⟩ := hx
    obtain ⟨a1, a2, a3, a4, -, -⟩ := gd_all s c comp x
    simp only [wp_bind']
    refine gd_row (by rw [a3]; exact hkc) hkindc hl hh (by rw [a1]; omega) (by rw [a4]; omega) ?_
    have hl0 : s.heap.size < (gdS s c comp x).heap.size := by rw [a1]; omega
    simp only [wp_bind', W.writeLoc, wp_pure']
    refine ⟨gdO c s.heap.size x, by rw [State.heap_pushCell_of_lt (h := hl0)]; exact a2, (fun h => by cases h), (by rw [gdO_size]; exact hlt), ?_, hnext _ _ _ ⟨x + 1, hlt, hrest, ?_⟩⟩
    · show ((gdS s c comp x).pushCell (gdR comp)).fitsSlot c .none x _ = true
      simp [State.fitsSlot, State.slotType?, a3, hk, hkind, gd_ref (t := .array .int) rfl (Or.inr ⟨_, rfl⟩)]
    · show _ = ((gdS s c comp x).pushCell (gdR comp)).setCell s.heap.size (gdO c s.heap.size (x + 1))
      rw [← gdO_up, a1]
  · rintro s' d' acts' ⟨i, hi, hl', rfl⟩
    have hiN : i = 5 := by
      rcases Nat.lt_or_ge i 5 with h | h
      · rw [show 5 - i = (5 - (i + 1)) + 1 from by omega, List.range'_succ] at hl'; cases hl'
      · omega
    subst hiN
    simp only [wp_pure']
    exact hq _ _
end GRID
section GRIDW
variable {p : Program} {l : Launch} {e : Jvm.Env} {R : Room} {s : State} {m : MethodId} {args : Array Value} {below : List Frame} {meth : Method} {c : Code} {locs : List Loc} {cells slots : Nat}
theorem gd_stand {T : State} (X : Stand p l e R s m args below meth c T locs cells slots) (cG cI : ClassId) : ∀ i, Stand p l e R s m args below meth c (gdS T cG cI i) (locs ++ (List.range i).map fun j => ⟨T.heap.size, j⟩) (cells + 1 + i) (slots + 5 + i * 6) := by
  intro i
  induction i with
  | zero =>
    have h := X.pushed (gdO cG T.heap.size 0)
    rw [gdO_size] at h
    simpa [gdS] using h
  | succ i ih =>
    obtain ⟨a1, a2, -, -, -, -⟩ := gd_all T cG cI i
    have hl0 : T.heap.size < (gdS T cG cI i).heap.size := by rw [a1]; omega
    have hcell : ((gdS T cG cI i).pushCell (gdR cI)).heap[T.heap.size]? = some (gdO cG T.heap.size i) := by rw [State.heap_pushCell_of_lt (h := hl0)]; exact a2
    have h := (ih.pushed (gdR cI)).stored hcell i (.ref (T.heap.size + 1 + i))
    rw [gdR_size, gdO_up] at h
    have e2 : (locs ++ (List.range (i + 1)).map fun j => (⟨T.heap.size, j⟩ : Loc)) = (locs ++ (List.range i).map fun j => (⟨T.heap.size, j⟩ : Loc)) ++ [⟨T.heap.size, i⟩] := by simp [List.range_succ, List.append_assoc]
    have e3 : slots + 5 + (i + 1) * 6 = slots + 5 + i * 6 + 6 := by omega
    rw [e2, e3]
    exact h
theorem gd_step {T : State} (X : Stand p l e R s m args below meth c T locs cells slots) (hexec : p.tables.exec = Jvm.exec) {own : String} {index : Nat}
    (hown : s.vm.findClass own = some m.cls) (hclink : (Cond.classLink own index "[[I").before args s = true) (hover : (Cond.arrayOver (.array .int)).before args s = true) (harr : (Cond.arrayClass .int).before args s = true)
    {g : JFrame} (hg : g.method = m) (hdg : decode c.code g.pc = .ok (.multianewarray index 2, 4)) {rest : List Value} (hstack : g.stack = .int 6 :: .int 5 :: rest) (hcells : cells + 6 ≤ R.cells) (hslots : slots + 35 ≤ R.slots) :
    ∃ (vm₁ : Vm) (cG cI : ClassId), s.vm.findClass "[[I" = some cG ∧ s.vm.findClass "[I" = some cI ∧ Stand p l e R s m args below meth c (gdS (T.setVm vm₁) cG cI 5) locs (cells + 6) (slots + 35) ∧
      ∀ target, Steps p.tables e below ((gdS (T.setVm vm₁) cG cI 5).setTop { g with pc := g.pc + 4, stack := .ref T.heap.size :: rest }) target → Steps p.tables e below (T.setTop g) target := by
  subst hg
  have hpl : e.platform.magicAccessors = ({} : Platform).magicAccessors := by rw [X.admits.platform]
  obtain ⟨comp, cG, kG, hcomp, -, hkG, hkindG, hnameG⟩ := arrayOverA_spec hover
  obtain ⟨comp', kC, cc, hcomp', hkC, hkindC⟩ := Cond.arrayClass_spec harr
  cases Option.some.inj (hcomp'.symm.trans hcomp)
  obtain ⟨c0, hfc0, hcl⟩ := Cond.classLink_spec hown hclink e.platform hpl
  have hn2 : s.vm.findClass "[[I" = some cG := hnameG
  cases hn2.symm.trans hfc0
  obtain ⟨hg₁, hwarm₁, hready₁⟩ := State.classEntry (e := e) X.warmed hcl
  generalize T.vm.noted g.method.cls index (.cls cG) = vm₁ at hg₁ hwarm₁ hready₁
  have hal : s.vm.Alike vm₁ := hwarm₁.alike
  obtain ⟨kG₁, hkG₁, heG⟩ := hal.2.2 _ _ hkG
  obtain ⟨kC₁, hkC₁, heC⟩ := hal.2.2 _ _ hkC
  have hkindG₁ : kG₁.kind = .array comp (.array .int) := by rw [heG]; exact hkindG
  have hkindC₁ : kC₁.kind = .array cc .int := by rw [heC]; exact hkindC
  have X₁ := X.noted hwarm₁
  obtain ⟨hr1, hr2⟩ := X.roomAbove hcells hslots
  have XF := gd_stand X₁ cG comp 5
  have XD : Stand p l e R s _ args below meth c (gdS (T.setVm vm₁) cG comp 5) locs (cells + 6) (slots + 35) := XF.dropFresh (fun x hx => by
    obtain ⟨j, -, rfl⟩ := List.mem_map.mp hx
    exact X.heapGrown)
  refine ⟨vm₁, cG, comp, hn2, hcomp, XD, fun target hrest => ?_⟩
  jvm_step X.here [hexec, hdg]
  simp only [multianewarray.sem, wp_bind', W.resolveClassAt_links (State.method?_setTop g X.here.top) hg₁]
  rw [W.popN, if_neg (by decide)]
  refine ⟨g, State.topJava?_setTop' (s := T.setVm vm₁) g X.here.top, [.int 5, .int 6], rest, rfl, hstack, ?_⟩
  simp only [List.mapM_cons, List.mapM_nil, wp_bind', wp_pure']
  refine gd_make (k := kG₁) (kc := kC₁) (comp := comp) (cc := cc) hkG₁ hkindG₁ hkC₁ hkindC₁ (by rw [Launch.admits_arrayLengthLimit X.admits]; omega) (by rw [Launch.admits_maxHeapBytes X.admits]; omega) (by show T.heap.size + 6 ≤ _; omega) (by show T.slotsUsed + 35 ≤ _; omega) (fun d' acts' => ?_)
  have eS : ((T.setTop g).setVm vm₁).setTop { g with stack := rest } = (T.setVm vm₁).setTop { g with stack := rest } := by
    show ((T.setVm vm₁).setTop g).setTop _ = _
    rw [State.setTop_setTop]
  rw [eS, gd_top]
  simp only [wp_bind', W.mark, W.pushRef, State.topJava?_setTop' _ XF.here.top, Option.some.injEq, exists_eq_left', State.setTop_setTop, State.heap_setTop]
  intro acts
  simp [jvm, XF.here.top]
  exact hrest
theorem arrV_congr {cA : ClassId} {N : Nat} {f g : Nat → Value} (h : ∀ j, j < N → f j = g j) : arrV cA N f = arrV cA N g := by
  unfold arrV
  congr 2
  funext j
  exact h j.val j.isLt
/-- five rows of six, with the row of them -/
def gdW (cG cI : ClassId) (q : Nat) : va_W := [(q, .inl (cG, 5, .inr (.inr (.inr (.inr (fun j => some (q + 1 + j))))))), (q + 1, .inl (cI, 6, .inl (fun _ => 0))), (q + 2, .inl (cI, 6, .inl (fun _ => 0))), (q + 3, .inl (cI, 6, .inl (fun _ => 0))), (q + 4, .inl (cI, 6, .inl (fun _ => 0))), (q + 5, .inl (cI, 6, .inl (fun _ => 0)))]
variable {D : va_G} {cl : List vw_C} {tys : List (ClassId × FieldType)} {A : Nat → Prop} {ws : va_W} {H H0 : Heap} {Q : State → Prop} {cc : ByteArray} {pc : Nat} {ls : Array Slot} {rest : List Value}
theorem va_grid (hexec : p.tables.exec = Jvm.exec) (hb : c.code = cc) {own : String} {index : Nat} (hown : s.vm.findClass own = some m.cls) (hclink : (Cond.classLink own index "[[I").before args s = true) (hover : (Cond.arrayOver (.array .int)).before args s = true) (harr : (Cond.arrayClass .int).before args s = true)
    (hK : va_K D cl tys s) {t0 t1 : Nat} {cI cG : ClassId} (hI : tys[t0]? = some (cI, .int)) (hG : tys[t1]? = some (cG, .array .int)) (hP : va_P D cl ws H) (hD : va_D A ws) (hS : va_S A H0 H locs) (hA : ∀ q, H0.size ≤ q → A q)
    (hcells : cells + 6 ≤ R.cells) (hslots : slots + 35 ≤ R.slots) (hdg : decode cc pc = .ok (.multianewarray index 2, 4))
    (kk : ∀ (q : Nat) (H1 : Heap), va_P D cl (ws ++ gdW cG cI q) H1 → va_D A (ws ++ gdW cG cI q) → va_S A H0 H1 locs → W p l e R s m args below meth c H1 locs (cells + 6) (slots + 35) Q (F0 m (pc + 4) ls (.ref q :: rest))) :
    W p l e R s m args below meth c H locs cells slots Q (F0 m pc ls (.int 6 :: .int 5 :: rest)) := by
  intro T hT X
  obtain ⟨vm₁, cG', cI', n1, n2, XF, step⟩ := gd_step X hexec hown hclink hover harr (g := F0 m pc ls (.int 6 :: .int 5 :: rest)) rfl (by rw [hb]; exact hdg) rfl hcells hslots
  have e1 : cI' = cI := Option.some.inj (n2.symm.trans (va_nm_int (hK.2 t0 _ hI).2))
  have e2 : cG' = cG := by
    have h : s.vm.findClass "[[I" = some cG := (hK.2 t1 _ hG).2
    exact Option.some.inj (n1.symm.trans h)
  subst e1
  subst e2
  obtain ⟨a1, a2, -, -, a5, a6⟩ := gd_all (T.setVm vm₁) cG' cI' 5
  have hTh : (T.setVm vm₁).heap = H := hT
  rw [hTh] at a1 a2 a5 a6
  obtain ⟨H1, hH1⟩ : ∃ y, y = (gdS (T.setVm vm₁) cG' cI' 5).heap := ⟨_, rfl⟩
  rw [← hH1] at a1 a2 a5 a6
  have r0 : H1[H.size]? = some (vp_cell cG' (5, .inr (.inr (.inr (.inr (fun j => some (H.size + 1 + j))))))) := by
    rw [a2, vp_cell_q]
    refine congrArg some (arrV_congr fun j hj => ?_)
    rw [if_pos hj]
  have rr : ∀ j, j < 5 → H1[H.size + 1 + j]? = some (vp_cell cI' (6, .inl (fun _ => 0))) := fun j hj => by
    rw [a6 j hj]
    exact congrArg some (arrV_new cI' 6 (.int 0))
  have hlt : ∀ (k : Nat) (x : Nat × va_E), ws[k]? = some x → x.1 < H.size := fun k x hx => (hP k x hx).lt
  have hP0 : va_P D cl ws H1 := hP.kept (fun k x hx => a5 x.1 (hlt k x hx))
  have hP1 : va_P D cl (gdW cG' cI' H.size) H1 := fun k x hx => by
    match k, hx with
    | 0, hx => cases hx; exact r0
    | 1, hx => cases hx; exact rr 0 (by omega)
    | 2, hx => cases hx; exact rr 1 (by omega)
    | 3, hx => cases hx; exact rr 2 (by omega)
    | 4, hx => cases hx; exact rr 3 (by omega)
    | 5, hx => cases hx; exact rr 4 (by omega)
    | k + 6, hx => simp [gdW] at hx
  have hb9 : ∀ (k : Nat) (x : Nat × va_E), (gdW cG' cI' H.size)[k]? = some x → x.1 = H.size + k := fun k x hx => by
    match k, hx with
    | 0, hx => cases hx; rfl
    | 1, hx => cases hx; rfl
    | 2, hx => cases hx; rfl
    | 3, hx => cases hx; rfl
    | 4, hx => cases hx; rfl
    | 5, hx => cases hx; rfl
    | k + 6, hx => simp [gdW] at hx
  have hD1 : va_D A (gdW cG' cI' H.size) := ⟨fun i j x y hx hy hxy => by
    have := hb9 i x hx
    have := hb9 j y hy
    omega, fun k x hx => hA _ (by have := hb9 k x hx; have := hS.1; omega)⟩
  obtain ⟨t, b1, b2⟩ := kk H.size H1 (hP0.app hP1) (hD.app hD1 (fun i j x y hx hy => by
    have := hlt i x hx
    have := hb9 j y hy
    omega)) ⟨by have := hS.1; omega, fun x h1 h2 => (a5 x (Nat.lt_of_lt_of_le h1 hS.1)).trans (hS.2.1 x h1 h2), hS.2.2⟩ (gdS (T.setVm vm₁) cG' cI' 5) hH1.symm XF
  refine ⟨t, step t ?_, b2⟩
  rw [hT]
  exact b1
end GRIDW
