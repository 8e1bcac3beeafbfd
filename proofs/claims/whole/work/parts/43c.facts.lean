/-! What the law's start gives -/
theorem wl_in {w : Cond} (h : w ∈ wsL_law) : w ∈ lw_tbl := wsL_law_in w h
theorem t_in {w : Cond} (h : w ∈ tables_1) : w ∈ lw_tbl := List.mem_append_right _ h
theorem wA_nil {sz a : Nat} (ha : a < sz) : ¬ wA [] sz a := fun h => by
  rcases h with h | h
  · cases h
  · omega
theorem s_get {i : Nat} {q : String × Nat × String} (h : sTab[i]? = some q) : i < 14 ∧ sTab.getD i ("", 0, "") = q := by
  have hl := (List.getElem?_eq_some_iff.mp h).1
  refine ⟨hl, ?_⟩
  rw [List.getD_eq_getElem?_getD, h]
  rfl
theorem start_str {s : State} {args : Array Value} (hts : ∀ w ∈ lw_tbl, w.before args s = true) (hgv : (Cond.and given_1 narrow_1).before args s = true) : ∃ ad, wStr [] ad s.heap.size s s.heap := by
  have hs := flat_of_before _ hgv
  obtain ⟨adK, adV, h1, h2⟩ := vk_Sof (args := args) (s := s) (N := 14) (tm := s_tm) (len := sLen) (byt := sByt) (A := wA [] s.heap.size) (by decide +kernel) (fun i hi => hs _ (f_ex i hi)) (fun i hi => hs _ (f_co i hi)) (fun i hi => hs _ (f_ar i hi)) (fun i hi => hs _ (f_le i hi)) (fun i hi j hj => hs _ (f_el i hi j hj)) (fun i j hi hj e => (f_ne i hi j hj e).imp (fun h => hs _ h) (fun h => hs _ h)) (fun a ha => wA_nil ha)
  refine ⟨(adK, adV), h1, fun i q hq => ?_, va_Zof (args := args) (hts _ (t_in f_l1)) (hts _ (t_in f_i1)) (va_eqt (hs _ f_cs)) (fun a ha => wA_nil ha), va_Zqof (args := args) (hts _ (t_in f_l2)) (hts _ (t_in f_i2)) (hs _ f_sf) (fun a ha => wA_nil ha)⟩
  obtain ⟨hi, hq2⟩ := s_get hq
  have h3 := f_sr i hi
  have h4 := h2 i hi
  unfold s_tm at h4
  rw [hq2] at h3 h4
  exact vk_R.of (hts _ (t_in h3)) h4
theorem start_N {s : State} {args : Array Value} (hts : ∀ w ∈ lw_tbl, w.before args s = true) : wN s ∧ eO s := by
  have tab : ∀ w ∈ wNl ++ eNl, w.onTables = true := by decide +kernel
  refine ⟨fun w hw => va_Nw.of (tab w (List.mem_append_left _ hw)) (hts w (t_in (f_nl w hw))), va_AO.of (hts _ (t_in f_ao.1)), va_AO.of (hts _ (t_in f_ao.2.1)), hts _ (t_in f_ao.2.2), fun w hw => va_Nw.of (tab w (List.mem_append_right _ hw)) (hts w (t_in (f_el2 w hw)))⟩
theorem arr_of {s : State} {args : Array Value} {ty : FieldType} (h : (Cond.arrayClass ty).before args s = true) : ∃ c : ClassId, ArrOfT s c ty ∧ s.vm.findClass (FieldType.array ty).toString = some c := by
  obtain ⟨comp, k, cc, h1, h2, h3⟩ := Cond.arrayClass_spec h
  exact ⟨comp, fun n z => ⟨fun k h => (by cases h), k, h2, cc, h3⟩, h1⟩
theorem arr_ofO {s : State} {args : Array Value} {C : String} (h : (Cond.arrayOver (.object C)).before args s = true) : ∃ c : ClassId, ArrOfT s c (.object C) ∧ va_RA s c (.object C) := by
  obtain ⟨comp, c, k, h1, -, h3, h4, h5⟩ := Cond.arrayOver_spec h
  exact ⟨c, fun n z => ⟨fun k h => (by cases h), k, h3, comp, h4⟩, k, comp, h3, h4, h1, h5⟩
theorem arr_ofA {s : State} {args : Array Value} (h : (Cond.arrayOver (.array .int)).before args s = true) : ∃ c : ClassId, ArrOfT s c (.array .int) ∧ va_RA s c (.array .int) := by
  obtain ⟨comp, c, k, -, -, h3, h4, h5⟩ := arrayOverA_spec h
  exact ⟨c, fun n z => ⟨fun k h => (by cases h), k, h3, comp, h4⟩, h5⟩
theorem start_K {s : State} {args : Array Value} (hts : ∀ w ∈ lw_tbl, w.before args s = true) : ∃ (D : va_G) (tt : Nat → ClassId), va_K D vwCl (eT tt) s := by
  have hL : ∀ w ∈ wsL_law, w.before args s = true := fun w h => hts w (wl_in h)
  obtain ⟨c0, i0, k0⟩ := u_known (C := RX0) (T := TX0) (N := 4) (n := 4) hL inlX0 (hL _ K31)
  obtain ⟨c1, i1, k1⟩ := u_known (C := RX1) (T := TX1) (N := 11) (n := 11) hL inlX1 (hL _ K13)
  obtain ⟨c2, i2, k2⟩ := u_known (C := RX2) (T := TX2) (N := 3) (n := 3) hL inlX2 (hL _ K23)
  obtain ⟨c3, i3, k3⟩ := u_known (C := RX3) (T := TX3) (N := 1) (n := 1) hL inlX3 (hL _ K27)
  obtain ⟨c4, i4, k4⟩ := u_known (C := RX4) (T := TX4) (N := 7) (n := 7) hL inlX4 (hL _ K19)
  obtain ⟨c5, i5, k5⟩ := u_known (C := RX5) (T := TX5) (N := 3) (n := 3) hL inlX5 (hL _ K36)
  obtain ⟨c6, i6, k6⟩ := u_known (C := RX6) (T := TX6) (N := 3) (n := 3) hL inlX6 (hL _ K55)
  obtain ⟨c7, i7, k7⟩ := u_known (C := RX8) (T := TX8) (N := 9) (n := 9) hL inlX8 (hL _ K1)
  obtain ⟨c8, i8, k8⟩ := u_known (C := RX9) (T := TX9) (N := 44) (n := 44) hL inlX9 (hL _ K4)
  obtain ⟨t0, a0, b0⟩ := arr_of (hL _ K42)
  obtain ⟨t1, a1, b1⟩ := arr_of (hL _ K114)
  obtain ⟨t2, a2, b2⟩ := arr_of (hL _ K123)
  obtain ⟨t3, a3, b3⟩ := arr_ofO (hts _ (t_in f_ao.1))
  obtain ⟨t4, a4, b4⟩ := arr_ofO (hts _ (t_in f_ao.2.1))
  obtain ⟨t5, a5, b5⟩ := arr_ofA (hts _ (t_in f_ao.2.2))
  refine ⟨(fun k => [c0, c1, c2, c3, c4, c5, c6, c7, c8].getD k c0, fun k => [i0, i1, i2, i3, i4, i5, i6, i7, i8].getD k i0), fun k => [t0, t1, t2, t3, t4, t5].getD k t0, fun k q hq => ?_, fun k q hq => ?_⟩
  · match k, hq with
    | 0, hq => cases hq; exact k0
    | 1, hq => cases hq; exact k1
    | 2, hq => cases hq; exact k2
    | 3, hq => cases hq; exact k3
    | 4, hq => cases hq; exact k4
    | 5, hq => cases hq; exact k5
    | 6, hq => cases hq; exact k6
    | 7, hq => cases hq; exact k7
    | 8, hq => cases hq; exact k8
    | k + 9, hq => simp [vwCl] at hq
  · match k, hq with
    | 0, hq => cases hq; exact ⟨a0, b0⟩
    | 1, hq => cases hq; exact ⟨a1, b1⟩
    | 2, hq => cases hq; exact ⟨a2, b2⟩
    | 3, hq => cases hq; exact ⟨a3, b3⟩
    | 4, hq => cases hq; exact ⟨a4, b4⟩
    | 5, hq => cases hq; exact ⟨a5, b5⟩
    | k + 6, hq => simp [eT] at hq
