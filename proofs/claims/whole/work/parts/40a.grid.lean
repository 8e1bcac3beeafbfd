/-! new int[5][6]: one row for the instruction. What stands is told by the list that the heap ends in; the law of one new array is called by its name (W.newArray_of) -/
section QR
/-- a row of six, all 0 -/
def qrRow (cI : ClassId) : Cell := arrV cI 6 (fun _ => .int 0)
/-- the row of rows at q, the first i hung in -/
def qrTop (cG : ClassId) (q i : Nat) : Cell := arrV cG 5 (fun j => va_rf (if j < i then some (q + 1 + j) else none))
/-- the end of the heap then -/
def qrEnd (cG cI : ClassId) (q i : Nat) : List Cell := qrTop cG q i :: List.replicate i (qrRow cI)
theorem qrTop_next (cG : ClassId) (q i : Nat) : (qrTop cG q i).setSlot i (.ref (q + 1 + i)) = qrTop cG q (i + 1) := by
  rw [qrTop, arrV_store, qrTop]
  congr 1
  funext j
  unfold updV
  split
  · next h => rw [h, if_pos (Nat.lt_succ_self i)]; rfl
  · next h =>
    have hj : j < i ↔ j < i + 1 := by omega
    simp only [hj]
theorem qrEnd_next (cG cI : ClassId) (L : List Cell) (i : Nat) : ((L ++ qrEnd cG cI L.length i) ++ [qrRow cI]).set L.length (qrTop cG L.length (i + 1)) = L ++ qrEnd cG cI L.length (i + 1) := by
  rw [List.append_assoc, List.set_append_right _ _ (Nat.le_refl _), Nat.sub_self, qrEnd, qrEnd, List.cons_append, List.set_cons_zero, List.replicate_succ']
theorem qr_at {h : Heap} {L E : List Cell} (hl : h.toList = L ++ E) (k : Nat) : h[L.length + k]? = E[k]? := by
  rw [← Array.getElem?_toList, hl, List.getElem?_append_right (Nat.le_add_right _ _), Nat.add_sub_cancel_left]
theorem qr_old {h h0 : Heap} {E : List Cell} (hl : h.toList = h0.toList ++ E) {k : Nat} (hk : k < h0.size) : h[k]? = h0[k]? := by
  rw [← Array.getElem?_toList, hl, List.getElem?_append_left (by simpa using hk), Array.getElem?_toList]
variable {p : Program} {l : Launch} {e : Jvm.Env} {R : Room} {s : State} {m : MethodId} {args : Array Value} {below : List Frame} {meth : Method} {c : Code} {U : State} {locs : List Loc} {cells slots : Nat} {E : CtlPost} {d : Bool} {acts : List Action} {f : JFrame}
/-- one row more, and hung in: what stands -/
theorem qr_turn (X : Stand p l e R s m args below meth c U locs cells slots) {cG cI : ClassId} {L : List Cell} {i : Nat} (hs : s.heap.size ≤ L.length) (hl : U.heap.toList = L ++ qrEnd cG cI L.length i) :
    Stand p l e R s m args below meth c ((U.pushCell (qrRow cI)).setCell L.length (qrTop cG L.length (i + 1))) locs (cells + 1) (slots + 6) ∧ ((U.pushCell (qrRow cI)).setCell L.length (qrTop cG L.length (i + 1))).heap.toList = L ++ qrEnd cG cI L.length (i + 1) := by
  have hp : (U.pushCell (qrRow cI)).heap.toList = L ++ (qrEnd cG cI L.length i ++ [qrRow cI]) := by
    rw [State.heap_pushCell, Array.toList_push, hl, List.append_assoc]
  have h0 : (U.pushCell (qrRow cI)).heap[L.length]? = some (qrTop cG L.length i) := qr_at hp 0
  have h1 := ((X.pushed (qrRow cI)).stored h0 i (.ref (L.length + 1 + i))).dropFresh (fun x hx => by
    rw [List.mem_singleton.mp hx]
    exact hs)
  rw [qrTop_next, show (qrRow cI).slots.size = 6 from arrV_size _ _ _] at h1
  refine ⟨h1, ?_⟩
  show ((U.pushCell (qrRow cI)).heap.setIfInBounds L.length _).toList = _
  rw [Array.toList_setIfInBounds, hp, ← List.append_assoc]
  exact qrEnd_next cG cI L i
theorem qr_size {cG cI : ClassId} {L : List Cell} {i : Nat} (hl : U.heap.toList = L ++ qrEnd cG cI L.length i) : U.heap.size = L.length + 1 + i := by
  rw [← Array.length_toList, hl]
  simp [qrEnd]
  omega
/-- the model's own row of six -/
theorem qr_row {cI ci : ClassId} {kI : Class} (hk : U.vm.classes[cI]? = some kI) (hkind : kI.kind = .array ci .int) (ha : l.admits e) (h1 : U.heap.size + 1 ≤ e.platform.maxCells) (h2 : U.slotsUsed + 6 ≤ e.platform.maxSlots)
    {Q : Addr → Pre} (hq : ∀ a', Q U.heap.size d a' (U.pushCell (qrRow cI))) : wp (multianewarray.make cI [6]) Q E e d acts U := by
  have t : (6 : Int32).toNatClampNeg = 6 := by decide
  have n : ¬ (6 : Int32) < 0 := by decide
  unfold multianewarray.make
  simp only [if_neg n, wp_bind', wp_pure', W.theClass]
  refine ⟨kI, hk, ?_⟩
  rw [hkind]
  show wp (Jvm.newArray cI (6 : Int32).toNatClampNeg (.int 0)) Q E e d acts U
  rw [t]
  refine W.newArray_of hk hkind ?_ ?_ (by omega) h2 rfl (fun a' => ?_)
  · rw [Launch.admits_arrayLengthLimit ha]; decide
  · rw [Launch.admits_maxHeapBytes ha]; decide
  · rw [arrV_new]
    exact hq a'
/-- turns that each go on from what stands -/
theorem qr_turns {J : Nat → State → Prop} {body : Nat → PUnit → Sem (ForInStep PUnit)} {Q : PUnit → Pre}
    (hb : ∀ i V d a (Q' : ForInStep PUnit → Pre), i < 5 → J i V → (∀ V' d' a', J (i + 1) V' → Q' (.yield ⟨⟩) d' a' V') → wp (body i ⟨⟩) Q' E e d a V)
    (hq : ∀ V d a, J 5 V → Q ⟨⟩ d a V) : ∀ n i V d a, i + n = 5 → J i V → wp (forIn (List.range' i n 1) PUnit.unit body) Q E e d a V
  | 0, i, V, d, a, hi, hJ => by
    cases (show i = 5 from hi)
    exact hq V d a hJ
  | n + 1, i, V, d, a, hi, hJ => by
    rw [List.range'_succ, List.forIn_cons, wp_bind']
    exact hb i V d a _ (by omega) hJ (fun V' d' a' h => qr_turns hb hq n (i + 1) V' d' a' (by omega) h)
/-- T with the row of rows behind its heap, and i rows behind that -/
def qrV (T : State) (cG cI : ClassId) (i : Nat) : State := { T with heap := (T.heap.toList ++ qrEnd cG cI T.heap.toList.length i).toArray, slotsUsed := T.slotsUsed + (5 + 6 * i) }
theorem qrV_list (T : State) (cG cI : ClassId) (i : Nat) : (qrV T cG cI i).heap.toList = T.heap.toList ++ qrEnd cG cI T.heap.toList.length i := rfl
theorem qrV_0 (T : State) (cG cI : ClassId) : T.pushCell (qrTop cG T.heap.size 0) = qrV T cG cI 0 := by
  have h : (T.pushCell (qrTop cG T.heap.size 0)).heap = (qrV T cG cI 0).heap := Array.ext' (by rw [State.heap_pushCell, Array.toList_push]; rfl)
  have n : (qrTop cG T.heap.size 0).slots.size = 5 := arrV_size _ _ _
  show ({ T with heap := (T.pushCell (qrTop cG T.heap.size 0)).heap, slotsUsed := T.slotsUsed + (qrTop cG T.heap.size 0).slots.size } : State) = _
  rw [h, n]
  rfl
theorem qrV_next (T : State) (cG cI : ClassId) (i : Nat) : ((qrV T cG cI i).pushCell (qrRow cI)).setCell T.heap.toList.length (qrTop cG T.heap.toList.length (i + 1)) = qrV T cG cI (i + 1) := by
  have h : ((qrV T cG cI i).heap.push (qrRow cI)).setIfInBounds T.heap.toList.length (qrTop cG T.heap.toList.length (i + 1)) = (qrV T cG cI (i + 1)).heap := Array.ext' (by
    rw [Array.toList_setIfInBounds, Array.toList_push]
    exact qrEnd_next cG cI T.heap.toList i)
  have n : T.slotsUsed + (5 + 6 * i) + (qrRow cI).slots.size = T.slotsUsed + (5 + 6 * (i + 1)) := by
    rw [show (qrRow cI).slots.size = 6 from arrV_size _ _ _]
    omega
  show ({ T with heap := ((qrV T cG cI i).heap.push (qrRow cI)).setIfInBounds T.heap.toList.length (qrTop cG T.heap.toList.length (i + 1)), slotsUsed := T.slotsUsed + (5 + 6 * i) + (qrRow cI).slots.size } : State) = _
  rw [h, n]
  rfl
theorem qr_stand {T : State} (X : Stand p l e R s m args below meth c T locs cells slots) (cG cI : ClassId) : ∀ i, Stand p l e R s m args below meth c (qrV T cG cI i) locs (cells + (1 + i)) (slots + (5 + 6 * i))
  | 0 => by
    have h := X.pushed (qrTop cG T.heap.size 0)
    rw [qrV_0 T cG cI, show (qrTop cG T.heap.size 0).slots.size = 5 from arrV_size _ _ _] at h
    exact h
  | i + 1 => by
    have h := qr_turn (qr_stand X cG cI i) (show s.heap.size ≤ T.heap.toList.length from X.heapGrown) (qrV_list T cG cI i)
    rw [qrV_next] at h
    exact h.1
/-- the model's own five rows of six, below the frame f -/
theorem qr_make {T : State} (X : Stand p l e R s m args below meth c T locs cells slots) {cG cI ci : ClassId} {kG kI : Class} (hkG : T.vm.classes[cG]? = some kG) (hG : kG.kind = .array cI (.array .int)) (hkI : T.vm.classes[cI]? = some kI) (hI : kI.kind = .array ci .int)
    (hcells : cells + 6 ≤ R.cells) (hslots : slots + 35 ≤ R.slots) {Q : Addr → Pre} (hq : ∀ d' a', Q T.heap.size d' a' ((qrV T cG cI 5).setTop f)) : wp (multianewarray.make cG [5, 6]) Q E e d acts (T.setTop f) := by
  have t : (5 : Int32).toNatClampNeg = 5 := by decide
  have n : ¬ (5 : Int32) < 0 := by decide
  have z : ((5 : Int32) == 0) = false := by decide
  have r0 := X.roomAbove (a := 1) (b := 5) (by omega) (by omega)
  unfold multianewarray.make
  simp only [if_neg n, wp_bind', wp_pure', W.theClass]
  refine ⟨kG, hkG, ?_⟩
  rw [hG]
  simp only [wp_bind', t, z]
  refine W.newArray_of (k := kG) hkG hG ?_ ?_ (by show T.heap.size < _; omega) (by show T.slotsUsed + 5 ≤ _; exact r0.2) rfl (fun a1 => ?_)
  · rw [Launch.admits_arrayLengthLimit X.admits]; decide
  · rw [Launch.admits_maxHeapBytes X.admits]; decide
  have h0 : ({ cls := cG, slots := Array.replicate 5 .null } : Cell) = qrTop cG T.heap.size 0 := by
    rw [arrV_new]
    unfold qrTop
    congr 1
  rw [h0, State.pushCell_setTop, qrV_0 T cG cI, Std.Legacy.Range.forIn_eq_forIn_range', if_neg (fun h => by cases h), wp_bind', show [:5].size = 5 from by decide]
  refine qr_turns (J := fun i V => V = (qrV T cG cI i).setTop f) (fun i V d1 a1 Q' hi hJ hn => ?_) (fun V d1 a1 hJ => ?_) 5 0 _ _ _ rfl rfl
  · cases hJ
    have X1 := qr_stand X cG cI i
    have r1 := X1.roomAbove (a := 1) (b := 6) (by omega) (by omega)
    rw [wp_bind']
    refine qr_row (U := (qrV T cG cI i).setTop f) (kI := kI) (ci := ci) hkI hI X.admits r1.1 r1.2 (fun a2 => ?_)
    have h2 : ((qrV T cG cI i).pushCell (qrRow cI)).heap.toList = T.heap.toList ++ (qrEnd cG cI T.heap.toList.length i ++ [qrRow cI]) := by
      rw [State.heap_pushCell, Array.toList_push, qrV_list, List.append_assoc]
    rw [wp_bind', W.writeLoc]
    refine ⟨qrTop cG T.heap.size i, by exact qr_at h2 0, (fun h => by cases h), by rw [show (qrTop cG T.heap.size i).slots.size = 5 from arrV_size _ _ _]; exact hi, ?_, ?_⟩
    · show State.fitsSlot _ cG .none i _ = true
      have hk : (qrV T cG cI i).vm.classes[cG]? = some kG := hkG
      simp [State.fitsSlot, State.slotType?, hk, hG]
      rfl
    · rw [wp_pure']
      refine hn _ _ _ ?_
      rw [← qrV_next, show ((qrV T cG cI i).setTop f).heap.size = T.heap.toList.length + 1 + i from qr_size (qrV_list T cG cI i), show (T.setTop f).heap.size = T.heap.toList.length from Array.length_toList.symm, show T.heap.size = T.heap.toList.length from Array.length_toList.symm, qrTop_next]
      rfl
  · cases hJ
    rw [wp_pure']
    exact hq _ _
end QR
theorem arrV_congr {cA : ClassId} {N : Nat} {f g : Nat → Value} (h : ∀ j, j < N → f j = g j) : arrV cA N f = arrV cA N g := by
  unfold arrV
  congr 2
  funext j
  exact h j.val j.isLt
/-- rows of six behind a row of them, as the walks' words have it -/
def qrW (cG cI : ClassId) (q : Nat) : va_W := (q, .inl (cG, 5, .inr (.inr (.inr (.inr (fun j => some (q + 1 + j))))))) :: [1, 2, 3, 4, 5].map (fun k => (q + k, .inl (cI, 6, .inl (fun _ => 0))))
section QW
variable {p : Program} {l : Launch} {e : Jvm.Env} {R : Room} {s : State} {m : MethodId} {args : Array Value} {below : List Frame} {meth : Method} {c : Code} {H : Heap} {locs : List Loc} {cells slots : Nat}
variable {D : va_G} {cl : List vw_C} {tys : List (ClassId × FieldType)} {A : Nat → Prop} {ws : va_W} {H0 : Heap} {Q : State → Prop} {cc : ByteArray} {pc : Nat} {ls : Array Slot} {rest : List Value}
theorem va_grid (hexec : p.tables.exec = Jvm.exec) (hb : c.code = cc) {own : String} {index : Nat} (hown : s.vm.findClass own = some m.cls) (hclink : (Cond.classLink own index "[[I").before args s = true) (hover : (Cond.arrayOver (.array .int)).before args s = true) (harr : (Cond.arrayClass .int).before args s = true)
    (hK : va_K D cl tys s) {t0 t1 : Nat} {cI cG : ClassId} (hI : tys[t0]? = some (cI, .int)) (hG : tys[t1]? = some (cG, .array .int)) (hP : va_P D cl ws H) (hD : va_D A ws) (hS : va_S A H0 H locs) (hA : ∀ q, H0.size ≤ q → A q)
    (hcells : cells + 6 ≤ R.cells) (hslots : slots + 35 ≤ R.slots) (hdg : decode cc pc = .ok (.multianewarray index 2, 4))
    (kk : ∀ (q : Nat) (H1 : Heap), va_P D cl (ws ++ qrW cG cI q) H1 → va_D A (ws ++ qrW cG cI q) → va_S A H0 H1 locs → W p l e R s m args below meth c H1 locs (cells + 6) (slots + 35) Q (F0 m (pc + 4) ls (.ref q :: rest))) :
    W p l e R s m args below meth c H locs cells slots Q (F0 m pc ls (.int 6 :: .int 5 :: rest)) := by
  intro T hT X
  obtain ⟨o0, oT, kT, o1, -, o2, o3, o4⟩ := arrayOverA_spec hover
  obtain ⟨b0, kI, ci, b1, b2, b3⟩ := Cond.arrayClass_spec harr
  obtain ⟨g0, g1, g2⟩ := Cond.classLink_spec hown hclink e.platform (by rw [X.admits.platform])
  have nI : s.vm.findClass "[I" = some cI := va_nm_int (hK.2 t0 _ hI).2
  have nG : s.vm.findClass "[[I" = some cG := (hK.2 t1 _ hG).2
  rw [Option.some.inj (o1.symm.trans nI)] at o3
  rw [Option.some.inj (o4.symm.trans nG)] at o2
  rw [Option.some.inj (b1.symm.trans nI)] at b2
  rw [Option.some.inj (g1.symm.trans nG)] at g2
  obtain ⟨y1, y2, -⟩ := State.classEntry (e := e) X.warmed g2
  generalize T.vm.noted m.cls index (.cls cG) = v1 at y1 y2
  obtain ⟨kT', w1, w2⟩ := y2.alike.2.2 _ _ o2
  obtain ⟨kI', w3, w4⟩ := y2.alike.2.2 _ _ b2
  have XV := qr_stand (X.noted y2) cG cI 5
  subst hT
  have hl : (qrV (T.setVm v1) cG cI 5).heap.toList = T.heap.toList ++ qrEnd cG cI T.heap.size 5 := rfl
  generalize hV : qrV (T.setVm v1) cG cI 5 = V at XV hl
  have hold : ∀ x : Nat, x < T.heap.size → V.heap[x]? = T.heap[x]? := fun x hx => qr_old hl hx
  have hlt : ∀ (k : Nat) (x : Nat × va_E), ws[k]? = some x → x.1 < T.heap.size := fun k x hx => (hP k x hx).lt
  have hpl : ∀ (k : Nat) (x : Nat × va_E), (qrW cG cI T.heap.size)[k]? = some x → x.1 = T.heap.size + k
    | 0, _, h | 1, _, h | 2, _, h | 3, _, h | 4, _, h | 5, _, h => by cases h; rfl
    | k + 6, _, h => by simp [qrW] at h
  have hPn : va_P D cl (qrW cG cI T.heap.size) V.heap := fun k x hx => by
    rcases List.mem_cons.mp (List.mem_of_getElem? hx) with rfl | h
    · show V.heap[T.heap.toList.length + 0]? = some (vp_cell cG (5, .inr (.inr (.inr (.inr (fun j => some (T.heap.size + 1 + j)))))))
      rw [qr_at hl 0, vp_cell_q]
      exact congrArg some (arrV_congr fun j hj => by rw [if_pos hj])
    · obtain ⟨j, hj, rfl⟩ := List.mem_map.mp h
      show V.heap[T.heap.toList.length + j]? = some (vp_cell cI (6, .inl (fun _ => 0)))
      rw [qr_at hl j]
      simp only [List.mem_cons, List.not_mem_nil, or_false] at hj
      rcases hj with rfl | rfl | rfl | rfl | rfl <;> rfl
  have hDn : va_D A (qrW cG cI T.heap.size) := ⟨fun i j x y hx hy h => by
    have := hpl i x hx
    have := hpl j y hy
    omega, fun k x hx => hA _ (by have := hpl k x hx; have := hS.1; omega)⟩
  have hSn : va_S A H0 V.heap locs := ⟨by have := qr_size hl; have := hS.1; have : T.heap.toList.length = T.heap.size := rfl; omega, fun x h1 h2 => (hold x (Nat.lt_of_lt_of_le h1 hS.1)).trans (hS.2.1 x h1 h2), hS.2.2⟩
  obtain ⟨t, st, qt⟩ := kk T.heap.size V.heap ((hP.kept (fun k x hx => hold x.1 (hlt k x hx))).app hPn) (hD.app hDn (fun i j x y hx hy h => by
    have := hlt i x hx
    have := hpl j y hy
    omega)) hSn V rfl XV
  refine ⟨t, ?_, qt⟩
  subst hb
  jvm_step X.here [hexec, hdg]
  rw [multianewarray.sem, wp_bind']
  refine (W.resolveClassAt_links (State.method?_setTop _ X.here.top) y1).mpr ?_
  rw [wp_bind']
  refine (popN_top (s := T.setVm v1) (f := F0 m pc ls (.int 6 :: .int 5 :: rest)) (X.noted y2).here.top (args := [.int 5, .int 6]) (rest := rest) rfl).mpr ?_
  simp only [List.mapM_cons, List.mapM_nil, wp_bind', wp_pure']
  refine qr_make (f := F0 m pc ls rest) (X.noted y2) w1 (by rw [w2]; exact o3) w3 (by rw [w4]; exact b3) hcells hslots (fun d' a' => ?_)
  rw [hV, wp_bind', W.mark, W.pushRef]
  refine ⟨F0 m pc ls rest, State.topJava?_setTop' _ XV.here.top, fun a2 => ?_⟩
  rw [State.setTop_setTop]
  simpa [jvm, XV.here.top] using st
end QW
