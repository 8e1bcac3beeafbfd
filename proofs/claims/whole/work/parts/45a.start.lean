/-! The law, from its entry -/
theorem al_Main (D : va_G) (tt : Nat → ClassId) (h : Nat) (u : Nat → Nat) (ad : (Nat → Nat) × (Nat → Nat)) : (WMain tt h u).map Prod.fst = alC (D, tt, adr h u, ad) := rfl
theorem al_Model (D : va_G) (tt : Nat → ClassId) (h : Nat) (u : Nat → Nat) (ad : (Nat → Nat) × (Nat → Nat)) : (WModel tt h u).map Prod.fst = alM (D, tt, adr h u, ad) := rfl
theorem al_get {X : va_W} {al : List Nat} (h : X.map Prod.fst = al) {i a : Nat} (hi : al[i]? = some a) : ∃ x : Nat × va_E, X[i]? = some x ∧ x.1 = a := by
  rw [← h, List.getElem?_map] at hi
  cases hx : X[i]? with
  | none => rw [hx] at hi; cases hi
  | some x =>
    rw [hx] at hi
    exact ⟨x, rfl, Option.some.inj hi⟩
theorem al_nd {X : va_W} {al : List Nat} {A : Nat → Prop} (h : X.map Prod.fst = al) (hD : va_D A X) : wNd al := by
  intro i j a hi hj
  obtain ⟨x, x1, x2⟩ := al_get h hi
  obtain ⟨y, y1, y2⟩ := al_get h hj
  exact hD.1 i j x y x1 y1 (x2.trans y2.symm)
theorem al_A {X : va_W} {al : List Nat} {A : Nat → Prop} (h : X.map Prod.fst = al) (hD : va_D A X) {q : Nat} (hq : q ∈ al) : A q := by
  obtain ⟨i, hi⟩ := List.getElem?_of_mem hq
  obtain ⟨x, x1, x2⟩ := al_get h hi
  rw [← x2]
  exact hD.2 i x x1
theorem al_dis {X Y : va_W} {al bl : List Nat} {A : Nat → Prop} (h : X.map Prod.fst = al) (h2 : Y.map Prod.fst = bl) (hD : va_D A (X ++ Y)) {q : Nat} (hq : q ∈ al) : q ∉ bl := by
  intro hq2
  obtain ⟨i, hi⟩ := List.getElem?_of_mem hq
  obtain ⟨x, x1, x2⟩ := al_get h hi
  obtain ⟨j, hj⟩ := List.getElem?_of_mem hq2
  obtain ⟨y, y1, y2⟩ := al_get h2 hj
  have hil := (List.getElem?_eq_some_iff.mp x1).1
  have := hD.1 i (X.length + j) x y (by rw [List.getElem?_append_left hil]; exact x1) (by rw [List.getElem?_append_right (by omega), Nat.add_sub_cancel_left]; exact y1) (x2.trans y2.symm)
  omega
theorem e_first {D : va_G} {wr wc : va_W} {H : Heap} (hP : va_P D vwCl (wr ++ wc) H) : va_P D vwCl wr H := fun k x hx => hP k x (by rw [List.getElem?_append_left (List.getElem?_eq_some_iff.mp hx).1]; exact hx)
theorem e_firstD {A : Nat → Prop} {wr wc : va_W} (hD : va_D A (wr ++ wc)) : va_D A wr := ⟨fun i j x y hx hy h => hD.1 i j x y (by rw [List.getElem?_append_left (List.getElem?_eq_some_iff.mp hx).1]; exact hx) (by rw [List.getElem?_append_left (List.getElem?_eq_some_iff.mp hy).1]; exact hy) h, fun k x hx => hD.2 k x (by rw [List.getElem?_append_left (List.getElem?_eq_some_iff.mp hx).1]; exact hx)⟩
set_option maxHeartbeats 40000000 in
set_option maxRecDepth 100000 in
theorem whole_start {p : Program} {e : Jvm.Env} {s : State} {m : MethodId} {below : List Frame} {meth : Method} {c : Code} (l : Launch) (hflags : l.flags = flags0) {b L : Nat} {xs : Nat → Int32} (hL : L ≤ 3072) (C0 : lw_At p s m meth c b L xs) : W p l e room_1 s m #[Value.ref b] below meth c s.heap [] 0 0 (lw_Z below #[Value.ref b] s) (entryFrame m ([Value.ref b] : List Value).toArray 4) := by
  obtain ⟨hx, hb, hr, hml, hown, hts0, hX, hbl, hlocks, hgv⟩ := id C0
  have hts : ∀ w ∈ wsL_law, w.before #[Value.ref b] s = true := fun w h => hts0 w (wsL_law_in w h)
  obtain ⟨ad, hstr⟩ := start_str hts0 hgv
  obtain ⟨hN, hO⟩ := start_N hts0
  obtain ⟨D, tt, hK⟩ := start_K hts0
  have hA : ∀ q : Nat, s.heap.size ≤ q → wA [] s.heap.size q := fun _ h => Or.inr h
  have hS : va_S (wA [] s.heap.size) s.heap s.heap [] := va_S.rf
  have hP : va_P D vwCl [] s.heap := fun k q h => by simp at h
  have hD : va_D (wA [] s.heap.size) [] := ⟨fun i j p q h => by simp at h, fun k q h => by simp at h⟩
  have hl := lv_entry ([.ref b]) (n := 4) (Nat.le_of_ble_eq_true rfl)
  rw [lg_entry_eq]
  generalize (lg_sl ([.ref b]) ++ List.replicate (4 - (lg_sl ([.ref b])).length) Slot.unset).toArray = ls at hl ⊢
  have hl : lv_has ls 4 [(0, .ref b)] := hl
  refine va_new (ci := 7) (fs := [.null, .null, .null, .int 0, .null, .null, .null, .null, .null]) (C := RX8) (T := TX8) (N := 9) hx hb hts inlX8 tyX8 tyX8_ok hown (hts (.classLink RL 7 RX8) K0) (hts (.instantiable RX8 9) K1) (hts (.initialized RX8) K2) hK hP hD hS hA rfl (by decide +kernel) (Nat.le_of_ble_eq_true rfl) (Nat.le_of_ble_eq_true rfl) dL_law_0 (fun q0 H hP hD hS => ?_)
  have hP2 : va_P D vwCl ([] ++ [(q0, .inr (7, [.null, .null, .null, .int 0, .null, .null, .null, .null, .null]))]) H := hP
  have hD2 : va_D (wA [] s.heap.size) ([] ++ [(q0, .inr (7, [.null, .null, .null, .int 0, .null, .null, .null, .null, .null]))]) := hD
  clear hP hD
  refine W.widen (k := 1) (n := 9) (Nat.le_of_ble_eq_true rfl) (Nat.le_of_ble_eq_true rfl) ?_
  refine lv_dup hx hb dL_law_3 rfl ?_
  refine va_callv (va_runI (As := []) (rest := [.ref q0]) ⟨hx, hb, hml, hown, hts⟩ (e_X8_init l D tt q0 H.size) (cwI 0 hts (wlC K8) rfl rfl rfl (hts (.initialized RX8) K2) (hts (.methodLink RL 9 yX8_init) K6) (hts (.instanceMethod yX8_init) K7) rfl (by decide +kernel) ⟨(Nat.le_of_ble_eq_true rfl), (Nat.le_of_ble_eq_true rfl)⟩) (e_pre (e_lastP hP2) (e_last hD2) hK hO) rfl rfl hl.1 rfl (lv_room (Nat.le_of_ble_eq_true rfl)) dL_law_4 ⟨(Nat.le_of_ble_eq_true rfl), (Nat.le_of_ble_eq_true rfl)⟩) hS (fun q _ h => e_free hD2 hS hA q h) (e_free hD2 hS hA) (fun u t2 H1 locs ht hvm hw hB hz1 hk1 hS1 => ?_)
  obtain ⟨hP1, hK1, hD1⟩ := hB
  rw [ht] at hP1
  obtain ⟨hP, hD⟩ := e_join hP2 hD2 (e_free hD2 hS hA) hk1 hP1 hD1
  replace hS := hS1
  clear hS1 hP1 hD1 hk1 hP2 hD2 hK1
  generalize H1 = H at hP hS ⊢
  have hP : va_P D vwCl (WMain tt q0 u) H := hP
  have hD : va_D (wA [] s.heap.size) (WMain tt q0 u) := hD
  refine W.widen (k := 71) (n := 1758) (Nat.le_of_ble_eq_true rfl) (Nat.le_of_ble_eq_true rfl) ?_
  refine lv_astore_n (lv' := [(1, .ref q0), (0, .ref b)]) hx hb dL_law_7 rfl hl (by decide) rfl (fun ls hl => ?_)
  refine va_new (ci := 8) (fs := [.int 0, .null, .null, .int 0, .int 0, .null, .int 0, .int 0, .int 0, .null, .null, .null, .int 0, .int 0, .int 0, .int 0, .int 0, .int 0, .int 0, .int 0, .int 0, .int 0, .int 0, .int 0, .long 0, .int 0, .int 0, .int 0, .null, .null, .null, .null, .null, .int 0, .null, .null, .int 0, .int 0, .int 0, .int 0, .null, .null, .null, .null]) (C := RX9) (T := TX9) (N := 44) hx hb hts inlX9 tyX9 tyX9_ok hown (hts (.classLink RL 10 RX9) K3) (hts (.instantiable RX9 44) K4) (hts (.initialized RX9) K5) hK hP hD hS hA rfl (by decide +kernel) (Nat.le_of_ble_eq_true rfl) (Nat.le_of_ble_eq_true rfl) dL_law_8 (fun q1 H hP2 hD2 hS => ?_)
  clear hP hD
  refine W.widen (k := 72) (n := 1802) (Nat.le_of_ble_eq_true rfl) (Nat.le_of_ble_eq_true rfl) ?_
  refine lv_dup hx hb dL_law_11 rfl ?_
  refine va_callv (va_runI (As := []) (rest := [.ref q1]) ⟨hx, hb, hml, hown, hts⟩ (e_X9_init l D tt q1 H.size) (cwI 0 hts (wlC K106) rfl rfl rfl (hts (.initialized RX9) K5) (hts (.methodLink RL 12 yX9_init) K104) (hts (.instanceMethod yX9_init) K105) rfl (by decide +kernel) ⟨(Nat.le_of_ble_eq_true rfl), (Nat.le_of_ble_eq_true rfl)⟩) (e_pre (e_lastP hP2) (e_last hD2) hK hO) rfl rfl hl.1 rfl (lv_room (Nat.le_of_ble_eq_true rfl)) dL_law_12 ⟨(Nat.le_of_ble_eq_true rfl), (Nat.le_of_ble_eq_true rfl)⟩) hS (fun q _ h => e_free hD2 hS hA q h) (e_free hD2 hS hA) (fun u2 t2 H1 locs ht hvm hw hB hz1 hk1 hS1 => ?_)
  obtain ⟨hP1, hK1, hD1⟩ := hB
  rw [ht] at hP1
  obtain ⟨hP, hD⟩ := e_join hP2 hD2 (e_free hD2 hS hA) hk1 hP1 hD1
  replace hS := hS1
  clear hS1 hP1 hD1 hk1 hP2 hD2 hK1
  generalize H1 = H at hP hS ⊢
  refine W.widen (k := 89) (n := 5288) (Nat.le_of_ble_eq_true rfl) (Nat.le_of_ble_eq_true rfl) ?_
  refine lv_astore_n (lv' := [(2, .ref q1), (1, .ref q0), (0, .ref b)]) hx hb dL_law_15 rfl hl (by decide) rfl (fun ls hl => ?_)
  refine lv_iconst (v := 0) hx hb dL_law_16 (by decide) ?_
  refine lv_istore_n (lv' := [(3, .int 0), (2, .ref q1), (1, .ref q0), (0, .ref b)]) hx hb dL_law_17 rfl hl (by decide) rfl (fun ls hl => ?_)
  have hn : ∀ q, wA [] s.heap.size q → s.heap.size ≤ q := fun q h => h.elim (fun h => by cases h) id
  have F : LF D tt (adr q0 u) (adr q1 u2) ad s := ⟨hK, hstr, hN, al_nd (al_Main D tt q0 u ad) (e_firstD hD), al_nd (al_Model D tt q1 u2 ad) (e_last hD), fun q hq => hn q (al_A (al_Main D tt q0 u ad) (e_firstD hD) hq), fun q hq => hn q (al_A (al_Model D tt q1 u2 ad) (e_last hD) hq), fun q hq => al_dis (al_Main D tt q0 u ad) (al_Model D tt q1 u2 ad) hD hq⟩
  have hI : LI D tt (adr q0 u) (adr q1 u2) ad s s0 m0 H locs := ⟨by rw [XC_0]; exact WMain2_P (e_first hP), by rw [XM_0]; exact e_lastP hP, hS, inv_0⟩
  exact law_loop C0 F hL (L + 1) 0 (Nat.zero_le L) (by omega) s0 m0 H locs hI ls (lv_sub hl [3, 2, 1, 0] rfl)
