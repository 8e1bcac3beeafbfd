/-! The world: one list of cells X σ for every state σ, its addresses al fixed; what a walk needs of it. -/
theorem w_oi {α : Type} {c : Prop} {hd : Decidable c} {A : Option α} {x : α} (h : (if c then A else none) = some x) : c ∧ A = some x := by
  by_cases hc : c
  · rw [if_pos hc] at h; exact ⟨hc, h⟩
  · rw [if_neg hc] at h; cases h
theorem w_ob {α β : Type} {o : Option α} {f : α → Option β} {x : β} (h : o.bind f = some x) : ∃ a, o = some a ∧ f a = some x := by
  cases o with
  | none => cases h
  | some a => exact ⟨a, rfl, h⟩
abbrev okI (i : Int32) (n : Nat) : Prop := ¬ (i < 0 ∨ n ≤ i.toNatClampNeg)
theorem w_lt {i : Int32} {n : Nat} (h : okI i n) : i.toNatClampNeg < n := Nat.not_le.mp fun q => h (Or.inr q)
theorem w_nb {v : Int32} (h : v = 0 ∨ v = 1) : narrow .boolean (.int v) = .int v := by rcases h with rfl | rfl <;> decide
def w_ushr (x y : Int32) : Int32 := (x.toUInt32 >>> (y.toUInt32 &&& Int32.toUInt32 31)).toInt32
def w_lushr (x : Int64) (y : Int32) : Int64 := (x.toUInt64 >>> (y.toInt64.toUInt64 &&& Int64.toUInt64 63)).toInt64
def wA (al : List Nat) (sz : Nat) : Nat → Prop := fun q => q ∈ al ∨ sz ≤ q
def wNd (al : List Nat) : Prop := ∀ (i j a : Nat), al[i]? = some a → al[j]? = some a → i = j
theorem wD_of {ws : va_W} {al : List Nat} (hal : ws.map Prod.fst = al) (hnd : wNd al) (sz : Nat) : va_D (wA al sz) ws := by
  subst hal
  refine ⟨fun i j p q hi hj h => ?_, fun k q hk => ?_⟩
  · exact hnd i j p.1 (by rw [List.getElem?_map, hi]; rfl) (by rw [List.getElem?_map, hj, h]; rfl)
  · exact Or.inl (List.mem_map.mpr ⟨q, List.mem_of_getElem? hk, rfl⟩)
/-- the nest links that the methods use -/
def wNl : List Cond := [.methodLinkNest RX0 69 yX8_isCup "OtherHalfOfNight", .methodLinkNest RX0 73 yX8_bounded "OtherHalfOfNight", .methodLinkNest RX1 56 yX8_isCup "OtherHalfOfNight", .methodLinkNest RX1 63 yX8_bounded "OtherHalfOfNight", .methodLinkNest RX2 52 yX8_bounded "OtherHalfOfNight", .methodLinkNest RX2 60 yX8_isCup "OtherHalfOfNight"]
def wN (U : State) : Prop := ∀ w ∈ wNl, va_Nw w U
theorem wN.warm {s U : State} (hW : s.WarmedH U.vm) (h : wN s) : wN U := by
  intro w hw
  have := h w hw
  simp only [wNl, List.mem_cons, List.not_mem_nil, or_false] at hw
  rcases hw with rfl | rfl | rfl | rfl | rfl | rfl <;> exact va_Nw.warmM hW this
theorem wN.same {u U : State} (hv : u.vm = U.vm) (h : wN u) : wN U := by
  intro w hw
  have := h w hw
  simp only [wNl, List.mem_cons, List.not_mem_nil, or_false] at hw
  rcases hw with rfl | rfl | rfl | rfl | rfl | rfl <;> exact va_Nw.same rfl hv this
/-- the String constants: class, entry, text -/
def sTab : List (String × Nat × String) := [(RX7, 7, "yields"), (RX7, 9, "suits"), (RX7, 11, "eases"), (RX7, 13, "or"), (RX7, 15, "and"), (RX7, 17, "not"), (RX7, 19, "trouble"), (RX7, 21, "number"), (RX7, 23, "night"), (RX7, 25, "news"), (RX7, 27, "taste"), (RX7, 29, "hour"), (RX7, 31, ""), (RX4, 97, "();+-*<=")]
def sLen : List Nat := [6, 5, 5, 2, 3, 3, 7, 6, 5, 4, 5, 4, 0, 8]
def sByt : List (List Int32) := [[121, 105, 101, 108, 100, 115], [115, 117, 105, 116, 115], [101, 97, 115, 101, 115], [111, 114], [97, 110, 100], [110, 111, 116], [116, 114, 111, 117, 98, 108, 101], [110, 117, 109, 98, 101, 114], [110, 105, 103, 104, 116], [110, 101, 119, 115], [116, 97, 115, 116, 101], [104, 111, 117, 114], [], [40, 41, 59, 43, 45, 42, 60, 61]]
/-- the String constants stand, outside the world -/
def wStr (al : List Nat) (ad : (Nat → Nat) × (Nat → Nat)) (sz : Nat) (U : State) (H : Heap) : Prop :=
  vk_S 14 sLen sByt ad.1 ad.2 (wA al sz) U H ∧ (∀ i (q : String × Nat × String), sTab[i]? = some q → vk_R q.1 q.2.1 q.2.2 (ad.1 i) U) ∧ va_Z "java/lang/String" "COMPACT_STRINGS" "Z" (.int 1) (wA al sz) U H ∧ va_Zq "jdk/internal/util/Preconditions" "SIOOBE_FORMATTER" "Ljava/util/function/BiFunction;" (wA al sz) U H
theorem wStr.next {al : List Nat} {ad : (Nat → Nat) × (Nat → Nat)} {s U : State} {H : Heap} {locs : List Loc} (h : wStr al ad s.heap.size s s.heap) (hS : va_S (wA al s.heap.size) s.heap H locs) (hW : s.WarmedH U.vm) (hU : U.heap = H) : wStr al ad H.size U U.heap := by
  have hA : ∀ q, wA al H.size q → wA al s.heap.size q := fun q h => h.imp id (fun h => Nat.le_trans hS.1 h)
  obtain ⟨h1, h2, h3, h4⟩ := h
  rw [hU]
  exact ⟨((h1.kept hS.2.1).narrow hA).moved hW.alike, fun i q hq => (h2 i q hq).warm hW, ((h3.kept hS.2.1).narrow hA).moved hW.alike, ((h4.kept hS.2.1).narrow hA).moved hW.alike⟩
theorem wStr.same {al : List Nat} {ad : (Nat → Nat) × (Nat → Nat)} {u U : State} {sz : Nat} (hv : U.vm = u.vm) (hh : U.heap = u.heap) (ha : u.vm.Alike U.vm) (h : wStr al ad sz u u.heap) : wStr al ad sz U U.heap := by
  obtain ⟨h1, h2, h3, h4⟩ := h
  rw [hh]
  exact ⟨h1.moved ha, fun i q hq => vk_R.same hv (h2 i q hq), h3.moved ha, h4.moved ha⟩
section WW
variable {S : Type} {D : va_G} {cl : List vw_C} {tys : List (ClassId × FieldType)} {X : S → va_W} {al : List Nat} {ad : (Nat → Nat) × (Nat → Nat)}
/-- at a method's entry -/
def wPre (D : va_G) (cl : List vw_C) (tys : List (ClassId × FieldType)) (X : S → va_W) (al : List Nat) (ad : (Nat → Nat) × (Nat → Nat)) (σ : S) (sz : Nat) : State → Prop := fun U => U.heap.size = sz ∧ va_P D cl (X σ) U.heap ∧ va_K D cl tys U ∧ wStr al ad sz U U.heap ∧ wN U
/-- at its end -/
def wPost (D : va_G) (cl : List vw_C) (tys : List (ClassId × FieldType)) (X : S → va_W) (σ : S) (t : State) : Prop := va_P D cl (X σ) t.heap ∧ va_K D cl tys t
abbrev wQi (D : va_G) (cl : List vw_C) (tys : List (ClassId × FieldType)) (X : S → va_W) (al : List Nat) (r : Int32) (σ' : S) (sz : Nat) := va_Qi (fun (r2 : Int32) (u : S) => r2 = r ∧ u = σ') (wPost D cl tys X) (wA al sz)
abbrev wQl (D : va_G) (cl : List vw_C) (tys : List (ClassId × FieldType)) (X : S → va_W) (al : List Nat) (r : Int64) (σ' : S) (sz : Nat) := va_Ql (fun (r2 : Int64) (u : S) => r2 = r ∧ u = σ') (wPost D cl tys X) (wA al sz)
abbrev wQv (D : va_G) (cl : List vw_C) (tys : List (ClassId × FieldType)) (X : S → va_W) (al : List Nat) (σ' : S) (sz : Nat) := va_Qv (fun (u : S) => u = σ') (wPost D cl tys X) (wA al sz)
abbrev wQr (D : va_G) (cl : List vw_C) (tys : List (ClassId × FieldType)) (X : S → va_W) (al : List Nat) (r : Nat) (σ' : S) (sz : Nat) := va_Qr (fun (u : S) => u = σ') (fun u a t => a = r ∧ wPost D cl tys X u t) (wA al sz)
/-- a method's contract, out of the walk of its body -/
theorem w_enter {l : Launch} {y : MethodName} {ws ws' : List Cond} {rm : Room} {Qc : Array Value → State → Outcome → State → Prop} {cc : ByteArray} {maxL : Nat} {ret : Option FieldType} {av : List Value} {σ : S} {sz : Nat}
    (hy : plainName y.cls = true) (hw : ws = Cond.code y cc maxL ret :: ws') (hlen : (lg_sl av).length ≤ maxL)
    (body : ∀ (p : Program) (e : Env) (s : State) (m : MethodId) (below : List Frame) (meth : Method) (c : Code) (ls : Array Slot), p.tables.exec = Jvm.exec → c.code = cc → meth.sig.returnType = ret → meth.locks = false → c.maxLocals = maxL → s.vm.findClass y.cls = some m.cls → (∀ w ∈ ws, w.before av.toArray s = true) → s.heap.size = sz → va_P D cl (X σ) s.heap → va_K D cl tys s → wStr al ad sz s s.heap → wN s → lv_has ls maxL (lv_args 0 av) →
      W p l e rm s m av.toArray below meth c s.heap [] 0 0 (MQ below Qc av.toArray s 0 0 (wA al sz)) (F0 m 0 ls [])) :
    Met l y ws rm (va_Pc av (wPre D cl tys X al ad σ sz)) Qc 0 0 (wA al sz) := by
  refine Met.ofW (cc := cc) (maxL := maxL) (ret := ret) hy hw ?_
  intro p e s m args below meth c s₁ B hml hv
  obtain ⟨rfl, hsz, hP, hK, hkc, hN⟩ := hv
  rw [lg_entry_eq]
  exact body p e s m below meth c _ B.exec B.bytes B.returns B.notSynchronized hml (findClass_of_methodNamed B.named) (atoms_spec (ws := ws) B.pre) hsz hP hK hkc hN (lv_entry av hlen)
variable {p : Program} {l : Launch} {e : Env} {R : Room} {s : State} {m : MethodId} {args : Array Value} {below : List Frame} {meth : Method} {c : Code} {H : Heap} {locs : List Loc} {cells slots : Nat} {Q : State → Prop}
variable {cc : ByteArray} {pc : Nat} {ls : Array Slot} {rest : List Value} {σ σ' : S}
theorem w_F {A : Nat → Prop} {t : State} (hS : va_S A s.heap H locs) (ht : t.heap = H) : va_F A s t := hS.F ht
theorem w_iret {r v : Int32} {ty : FieldType} (hx : p.tables.exec = Jvm.exec) (hb : c.code = cc) (hr : meth.sig.returnType = some ty) (hlocks : meth.locks = false) (hK : va_K D cl tys s) (hP : va_P D cl (X σ) H) (hS : va_S (wA al s.heap.size) s.heap H locs) (hn : narrow ty (.int v) = .int v) (hf : some (v, σ) = some (r, σ')) (hdg : decode cc pc = .ok (.ireturn, 1)) :
    W p l e R s m args below meth c H locs cells slots (MQ below (wQi D cl tys X al r σ' s.heap.size) args s cells slots (wA al s.heap.size)) (F0 m pc ls [.int v]) := by
  cases hf
  exact W.zret hx hb hr hn (fun t ht hW => ⟨⟨_, _, rfl, ⟨rfl, rfl⟩, by rw [ht]; exact hP, va_K.moved hW.alike hK⟩, hS.F ht⟩) hS.2.2 hdg hlocks
theorem w_lret {r v : Int64} (hx : p.tables.exec = Jvm.exec) (hb : c.code = cc) (hr : meth.sig.returnType = some .long) (hlocks : meth.locks = false) (hK : va_K D cl tys s) (hP : va_P D cl (X σ) H) (hS : va_S (wA al s.heap.size) s.heap H locs) (hf : some (v, σ) = some (r, σ')) (hdg : decode cc pc = .ok (.lreturn, 1)) :
    W p l e R s m args below meth c H locs cells slots (MQ below (wQl D cl tys X al r σ' s.heap.size) args s cells slots (wA al s.heap.size)) (F0 m pc ls [.long v]) := by
  cases hf
  exact W.lret hx hb hr (fun t ht hW => ⟨⟨_, _, rfl, ⟨rfl, rfl⟩, by rw [ht]; exact hP, va_K.moved hW.alike hK⟩, hS.F ht⟩) hS.2.2 hdg hlocks
theorem w_vret (hx : p.tables.exec = Jvm.exec) (hb : c.code = cc) (hr : meth.sig.returnType = none) (hlocks : meth.locks = false) (hK : va_K D cl tys s) (hP : va_P D cl (X σ) H) (hS : va_S (wA al s.heap.size) s.heap H locs) (hf : some σ = some σ') (hdg : decode cc pc = .ok (.return_, 1)) :
    W p l e R s m args below meth c H locs cells slots (MQ below (wQv D cl tys X al σ' s.heap.size) args s cells slots (wA al s.heap.size)) (F0 m pc ls []) := by
  cases hf
  exact W.vret hx hb hr (fun t ht hW => ⟨⟨_, rfl, rfl, by rw [ht]; exact hP, va_K.moved hW.alike hK⟩, hS.F ht⟩) hS.2.2 hdg hlocks
theorem w_aret {a r : Nat} {n : String} (hx : p.tables.exec = Jvm.exec) (hb : c.code = cc) (hr : meth.sig.returnType = some (.object n)) (hlocks : meth.locks = false) (hK : va_K D cl tys s) (hP : va_P D cl (X σ) H) (hS : va_S (wA al s.heap.size) s.heap H locs) (ha : a = r) (hf : σ = σ') (hdg : decode cc pc = .ok (.areturn, 1)) :
    W p l e R s m args below meth c H locs cells slots (MQ below (wQr D cl tys X al r σ' s.heap.size) args s cells slots (wA al s.heap.size)) (F0 m pc ls [.ref a]) := by
  cases hf
  exact W.aret hx hb hr (Or.inl ⟨_, rfl⟩) (Or.inr ⟨_, rfl⟩) (fun t ht hW => ⟨⟨_, _, rfl, rfl, ha, by rw [ht]; exact hP, va_K.moved hW.alike hK⟩, hS.F ht⟩) hS.2.2 hdg hlocks
theorem w_put (hx : p.tables.exec = Jvm.exec) (hb : c.code = cc) {own ref C : String} {T : u_T} {N ci index : Nat} {Ts : List Cond} (hts : ∀ w ∈ Ts, w.before args s = true) (hin : ∀ w ∈ u_ws C T N, w ∈ Ts) (ty0 : Nat → FieldType) (hty : ∀ k, k < N → parseFieldDescriptor (T k).2.2.1 = some (ty0 k)) (hnm : ∀ a, a < N → ∀ b, b < N → a ≠ b → (T a).2.1 ≠ (T b).2.1) (hown : s.vm.findClass own = some m.cls) (hK : va_K D cl tys s) (hP : va_P D cl (X σ) H) (hal : ∀ σ, (X σ).map Prod.fst = al) (hnd : wNd al) (hS : va_S (wA al s.heap.size) s.heap H locs) (q0 : Nat) {a : Nat} {fs : List Value} (he : (X σ)[q0]? = some (a, .inr (ci, fs))) (hc : cl[ci]? = some (C, T, N)) (k : Nat) (hk : k < N) (hlink : (Cond.fieldLink own index ref (T k).2.1 (T k).2.2.1).before args s = true) (hsame : ∀ x, s.fieldFound? (T k).1 (T k).2.1 (T k).2.2.1 = some x → s.fieldFound? ref (T k).2.1 (T k).2.2.1 = some x) (hfin : (T k).2.2.2 = false) {ty : FieldType} {v : Value} (hd : parseFieldDescriptor (T k).2.2.1 = some ty) (hn : narrow ty v = v) (hfit : fits ty v = true) (hl : k < fs.length)
    (hdg : decode cc pc = .ok (.putfield index, 3)) (hset : (X σ).set q0 (a, .inr (ci, fs.set k v)) = X σ') (kk : ∀ (H1 : Heap) (locs1 : List Loc), va_P D cl (X σ') H1 → va_S (wA al s.heap.size) s.heap H1 locs1 → W p l e R s m args below meth c H1 locs1 cells slots Q (F0 m (pc + 3) ls rest)) : W p l e R s m args below meth c H locs cells slots Q (F0 m pc ls (v :: .ref a :: rest)) :=
  va_put hx hb hts hin ty0 hty hnm hown hK hP (wD_of (hal σ) hnd s.heap.size) hS q0 he hc k hk hlink hsame hfin hd hn hfit hl hdg (fun H1 locs1 h1 _ h3 => kk H1 locs1 (hset ▸ h1) h3)
theorem w_iast (hx : p.tables.exec = Jvm.exec) (hb : c.code = cc) (hK : va_K D cl tys s) (hP : va_P D cl (X σ) H) (hal : ∀ σ, (X σ).map Prod.fst = al) (hnd : wNd al) (hS : va_S (wA al s.heap.size) s.heap H locs) (q0 t0 : Nat) {a : Nat} {cA : ClassId} {n : Nat} {f : Nat → Int32} (ha : (X σ)[q0]? = some (a, .inl (cA, n, .inl f))) (ht : tys[t0]? = some (cA, .int)) {i : Int32} {x : Int32} (hin : vp_in i n) (hdg : decode cc pc = .ok (.iastore, 1)) (hset : (X σ).set q0 (a, .inl (cA, n, .inl (upd f i.toNatClampNeg x))) = X σ')
    (kk : ∀ (H1 : Heap) (locs1 : List Loc), va_P D cl (X σ') H1 → va_S (wA al s.heap.size) s.heap H1 locs1 → W p l e R s m args below meth c H1 locs1 cells slots Q (F0 m (pc + 1) ls rest)) : W p l e R s m args below meth c H locs cells slots Q (F0 m pc ls (.int x :: .int i :: .ref a :: rest)) :=
  va_iast hx hb hK hP (wD_of (hal σ) hnd s.heap.size) hS q0 t0 ha ht hin hdg (fun H1 locs1 h1 _ h3 => kk H1 locs1 (hset ▸ h1) h3)
theorem w_zast (hx : p.tables.exec = Jvm.exec) (hb : c.code = cc) (hK : va_K D cl tys s) (hP : va_P D cl (X σ) H) (hal : ∀ σ, (X σ).map Prod.fst = al) (hnd : wNd al) (hS : va_S (wA al s.heap.size) s.heap H locs) (q0 t0 : Nat) {a : Nat} {cA : ClassId} {n : Nat} {f : Nat → Int32} (ha : (X σ)[q0]? = some (a, .inl (cA, n, .inl f))) (ht : tys[t0]? = some (cA, .boolean)) {i : Int32} {x : Int32} (hin : vp_in i n) (hdg : decode cc pc = .ok (.bastore, 1)) (hset : (X σ).set q0 (a, .inl (cA, n, .inl (upd f i.toNatClampNeg (vp_nar .boolean x)))) = X σ')
    (kk : ∀ (H1 : Heap) (locs1 : List Loc), va_P D cl (X σ') H1 → va_S (wA al s.heap.size) s.heap H1 locs1 → W p l e R s m args below meth c H1 locs1 cells slots Q (F0 m (pc + 1) ls rest)) : W p l e R s m args below meth c H locs cells slots Q (F0 m pc ls (.int x :: .int i :: .ref a :: rest)) :=
  va_zast hx hb hK hP (wD_of (hal σ) hnd s.heap.size) hS q0 t0 ha ht hin hdg (fun H1 locs1 h1 _ h3 => kk H1 locs1 (hset ▸ h1) h3)
theorem w_copy (hx : p.tables.exec = Jvm.exec) (hb : c.code = cc) (hml : c.maxLocals = ls.size) {own : String} {index : Nat} (hown : s.vm.findClass own = some m.cls) (hlink : (Cond.methodLink own index arraycopyName).before args s = true) (hnat : (Cond.native arraycopyName).before args s = true) (hstat : (Cond.static arraycopyName).before args s = true) (hini : (Cond.initialized "java/lang/System").before args s = true)
    (hK : va_K D cl tys s) (hP : va_P D cl (X σ) H) (hal : ∀ σ, (X σ).map Prod.fst = al) (hnd : wNd al) (hS : va_S (wA al s.heap.size) s.heap H locs) (q0 q1 t0 t1 : Nat) {a a0 : Nat} {c0 c1 : ClassId} {n0 n1 : Nat} {f g : Nat → Int32} (ha0 : (X σ)[q0]? = some (a0, .inl (c0, n0, .inl f))) (ha1 : (X σ)[q1]? = some (a, .inl (c1, n1, .inl g))) (ht0 : tys[t0]? = some (c0, .int)) (ht1 : tys[t1]? = some (c1, .int))
    {sp dp n : Int32} (hg : ¬ sp < 0 ∧ ¬ dp < 0 ∧ ¬ n < 0 ∧ sp.toNatClampNeg + n.toNatClampNeg ≤ n0 ∧ dp.toNatClampNeg + n.toNatClampNeg ≤ n1)
    (hframes : 1 ≤ R.frames) (hlocals : (rest.map fun v => v.category).sum + (nativeFrameWords "java/lang/System" "arraycopy" 5 + 11) ≤ R.locals) (hdg : decode cc pc = .ok (.invokestatic index, 3)) (hset : (X σ).set q1 (a, .inl (c1, n1, .inl (va_cpy f g sp.toNatClampNeg dp.toNatClampNeg n.toNatClampNeg))) = X σ')
    (kk : ∀ (H1 : Heap) (locs1 : List Loc), va_P D cl (X σ') H1 → va_S (wA al s.heap.size) s.heap H1 locs1 → W p l e R s m args below meth c H1 locs1 cells slots Q (F0 m (pc + 3) ls rest)) : W p l e R s m args below meth c H locs cells slots Q (F0 m pc ls (.int n :: .int dp :: .ref a :: .int sp :: .ref a0 :: rest)) :=
  va_copyi hx hb hml hown hlink hnat hstat hini hK hP (wD_of (hal σ) hnd s.heap.size) hS q0 q1 t0 t1 ha0 ha1 ht0 ht1 rfl hg.1 hg.2.1 hg.2.2.1 hg.2.2.2.1 hg.2.2.2.2 (fun _ _ => rfl) hframes hlocals hdg (fun H1 locs1 h1 _ h3 => kk H1 locs1 (hset ▸ h1) h3)
theorem w_last (hx : p.tables.exec = Jvm.exec) (hb : c.code = cc) (hK : va_K D cl tys s) (hP : va_P D cl (X σ) H) (hal : ∀ σ, (X σ).map Prod.fst = al) (hnd : wNd al) (hS : va_S (wA al s.heap.size) s.heap H locs) (q0 t0 : Nat) {a : Nat} {cA : ClassId} {n : Nat} {f : Nat → Int64} (ha : (X σ)[q0]? = some (a, .inl (cA, n, .inr (.inl f)))) (ht : tys[t0]? = some (cA, .long)) {i : Int32} {x : Int64} (hin : vp_in i n) (hdg : decode cc pc = .ok (.lastore, 1)) (hset : (X σ).set q0 (a, .inl (cA, n, .inr (.inl (vp_updL f i.toNatClampNeg x)))) = X σ')
    (kk : ∀ (H1 : Heap) (locs1 : List Loc), va_P D cl (X σ') H1 → va_S (wA al s.heap.size) s.heap H1 locs1 → W p l e R s m args below meth c H1 locs1 cells slots Q (F0 m (pc + 1) ls rest)) : W p l e R s m args below meth c H locs cells slots Q (F0 m pc ls (.long x :: .int i :: .ref a :: rest)) :=
  va_last hx hb hK hP (wD_of (hal σ) hnd s.heap.size) hS q0 t0 ha ht hin hdg (fun H1 locs1 h1 _ h3 => kk H1 locs1 (hset ▸ h1) h3)
theorem w_aaldq (hx : p.tables.exec = Jvm.exec) (hb : c.code = cc) {ws : va_W} (hK : va_K D cl tys s) (hP : va_P D cl ws H) (q0 t0 : Nat) {a : Nat} {cA : ClassId} {C : String} {n : Nat} {g : Nat → Nat} (ha : ws[q0]? = some (a, .inl (cA, n, .inr (.inr (.inr (.inr (fun j => some (g j)))))))) (ht : tys[t0]? = some (cA, .object C)) {i : Int32} (hin : vp_in i n) (hdg : decode cc pc = .ok (.aaload, 1))
    (kk : W p l e R s m args below meth c H locs cells slots Q (F0 m (pc + 1) ls (.ref (g i.toNatClampNeg) :: rest))) : W p l e R s m args below meth c H locs cells slots Q (F0 m pc ls (.int i :: .ref a :: rest)) :=
  va_aldq hx hb hK hP q0 t0 ha ht hin hdg kk
/-- aaload of an array of arrays -/
theorem w_aald2 (hx : p.tables.exec = Jvm.exec) (hb : c.code = cc) {ws : va_W} (hK : va_K D cl tys s) (hP : va_P D cl ws H) (q0 t0 : Nat) {a : Nat} {cA : ClassId} {ty : FieldType} {n : Nat} {g : Nat → Nat} (ha : ws[q0]? = some (a, .inl (cA, n, .inr (.inr (.inr (.inr (fun j => some (g j)))))))) (ht : tys[t0]? = some (cA, .array ty)) {i : Int32} (hin : vp_in i n) (hdg : decode cc pc = .ok (.aaload, 1))
    (kk : W p l e R s m args below meth c H locs cells slots Q (F0 m (pc + 1) ls (.ref (g i.toNatClampNeg) :: rest))) : W p l e R s m args below meth c H locs cells slots Q (F0 m pc ls (.int i :: .ref a :: rest)) := by
  obtain ⟨F, hF⟩ : ∃ F : Nat → Value, F = fun j => .ref (g j) := ⟨_, rfl⟩
  have hcell : H[a]? = some (arrV cA n F) := by rw [hF]; exact hP q0 _ ha
  have hsize : (arrV cA n F).slots.size = n := arrV_size cA n F
  have hslot : (arrV cA n F).slots[i.toNatClampNeg]? = some (.ref (g i.toNatClampNeg)) := by
    rw [arrV_read cA F (Decidable.byContradiction fun h => hin (.inr (Nat.le_of_not_lt h))), hF]
  exact W.aald hx hb hcell ((hK.2 t0 _ ht).1 n F) rfl nofun (hsize.symm ▸ hin) hslot rfl rfl hdg kk
/-- what a call's start asks of this world -/
theorem w_pre {H : Heap} {As : List Value} (hK : va_K D cl tys s) (hP : va_P D cl (X σ) H) (hkc : wStr al ad s.heap.size s s.heap) (hN : wN s) (hS : va_S (wA al s.heap.size) s.heap H locs) : PreS s H (va_Pc As (wPre D cl tys X al ad σ H.size)) As :=
  ⟨fun a U g mk q => ⟨q.1, q.2.1, q.2.2.1, va_K.moved (u := U) (U := U.calling g mk a) (Vm.Alike.refl U.vm) q.2.2.2.1, wStr.same (u := U) (U := U.calling g mk a) rfl rfl (Vm.Alike.refl U.vm) q.2.2.2.2.1, wN.same (u := U) (U := U.calling g mk a) rfl q.2.2.2.2.2⟩, fun U hU hW => ⟨rfl, by rw [hU], by rw [hU]; exact hP, va_K.moved hW.alike hK, hkc.next hS hW hU, hN.warm hW⟩⟩
theorem w_hA {q : Nat} (hS : va_S (wA al s.heap.size) s.heap H locs) (h : wA al H.size q) : wA al s.heap.size q := h.imp id (fun h => Nat.le_trans hS.1 h)
theorem w_preV {H : Heap} {b : Nat} {As : List Value} {q0 ci : Nat} {fs : List Value} {C : String} {T : u_T} {N : Nat} (hK : va_K D cl tys s) (hP : va_P D cl (X σ) H) (hkc : wStr al ad s.heap.size s s.heap) (hN : wN s) (hS : va_S (wA al s.heap.size) s.heap H locs) (he : (X σ)[q0]? = some (b, .inr (ci, fs))) (hc : cl[ci]? = some (C, T, N)) : PreV s H C b (va_Pc (.ref b :: As) (wPre D cl tys X al ad σ H.size)) As :=
  ⟨(w_pre (As := .ref b :: As) hK hP hkc hN hS).1, va_recv hK hP hc he, (w_pre (As := .ref b :: As) hK hP hkc hN hS).2⟩
theorem w_ci {a0 : Array Value} {st0 : List Value} {r : Int32} (hr : va_Run p l e R s m args below meth c H locs cells slots 0 0 (F0 m pc ls st0) rest (wQi D cl tys X al r σ' H.size a0) (wA al H.size)) (hS : va_S (wA al s.heap.size) s.heap H locs)
    (kk : ∀ (H1 : Heap) (locs1 : List Loc), va_P D cl (X σ') H1 → va_S (wA al s.heap.size) s.heap H1 locs1 → W p l e R s m args below meth c H1 locs1 cells slots Q (F0 m (pc + 3) ls (.int r :: rest))) : W p l e R s m args below meth c H locs cells slots Q (F0 m pc ls st0) := by
  refine va_calli hr hS (fun q _ h => w_hA hS h) (fun q h => w_hA hS h) (fun r2 u t H1 locs1 ht hvm hw hB hz hk hS1 => ?_)
  obtain ⟨rfl, rfl⟩ := hw
  exact kk H1 locs1 (ht ▸ hB.1) hS1
theorem w_cl {a0 : Array Value} {st0 : List Value} {r : Int64} (hr : va_Run p l e R s m args below meth c H locs cells slots 0 0 (F0 m pc ls st0) rest (wQl D cl tys X al r σ' H.size a0) (wA al H.size)) (hS : va_S (wA al s.heap.size) s.heap H locs)
    (kk : ∀ (H1 : Heap) (locs1 : List Loc), va_P D cl (X σ') H1 → va_S (wA al s.heap.size) s.heap H1 locs1 → W p l e R s m args below meth c H1 locs1 cells slots Q (F0 m (pc + 3) ls (.long r :: rest))) : W p l e R s m args below meth c H locs cells slots Q (F0 m pc ls st0) := by
  refine va_calll hr hS (fun q _ h => w_hA hS h) (fun q h => w_hA hS h) (fun r2 u t H1 locs1 ht hvm hw hB hz hk hS1 => ?_)
  obtain ⟨rfl, rfl⟩ := hw
  exact kk H1 locs1 (ht ▸ hB.1) hS1
theorem w_cv {a0 : Array Value} {st0 : List Value} (hr : va_Run p l e R s m args below meth c H locs cells slots 0 0 (F0 m pc ls st0) rest (wQv D cl tys X al σ' H.size a0) (wA al H.size)) (hS : va_S (wA al s.heap.size) s.heap H locs)
    (kk : ∀ (H1 : Heap) (locs1 : List Loc), va_P D cl (X σ') H1 → va_S (wA al s.heap.size) s.heap H1 locs1 → W p l e R s m args below meth c H1 locs1 cells slots Q (F0 m (pc + 3) ls rest)) : W p l e R s m args below meth c H locs cells slots Q (F0 m pc ls st0) := by
  refine va_callv hr hS (fun q _ h => w_hA hS h) (fun q h => w_hA hS h) (fun u t H1 locs1 ht hvm hw hB hz hk hS1 => ?_)
  subst hw
  exact kk H1 locs1 (ht ▸ hB.1) hS1
theorem w_cr {a0 : Array Value} {st0 : List Value} {r : Nat} (hr : va_Run p l e R s m args below meth c H locs cells slots 0 0 (F0 m pc ls st0) rest (wQr D cl tys X al r σ' H.size a0) (wA al H.size)) (hS : va_S (wA al s.heap.size) s.heap H locs)
    (kk : ∀ (H1 : Heap) (locs1 : List Loc), va_P D cl (X σ') H1 → va_S (wA al s.heap.size) s.heap H1 locs1 → W p l e R s m args below meth c H1 locs1 cells slots Q (F0 m (pc + 3) ls (.ref r :: rest))) : W p l e R s m args below meth c H locs cells slots Q (F0 m pc ls st0) := by
  refine va_callr hr hS (fun q _ h => w_hA hS h) (fun q h => w_hA hS h) (fun u a t H1 locs1 ht hvm hw hB hz hk hS1 => ?_)
  subst hw
  obtain ⟨rfl, hB⟩ := hB
  exact kk H1 locs1 (ht ▸ hB.1) hS1
end WW
