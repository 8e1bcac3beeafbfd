/-! sheet, cell: the calls -/
theorem like_no {σ : Sg} {μ : Sm} (h : Inv σ μ) (v : Int32) : Like (some (v, σ)) (some (v, μ)) := like_same h v
theorem m1_ti : (-1 : Int32).toInt = -1 := by decide
theorem pub_sheet {σ : Sg} {μ : Sm} (h : Inv σ μ) (x y w : Int32) : Like (f_X8_sheet x y w σ) (f_X9_sheet x y w μ) := by
  have hI := h
  obtain ⟨m, n, r, Ts, hP⟩ := h
  have e0 : (0 : Int32).toInt = 0 := by decide
  have e2 : (2 : Int32).toInt = 2 := by decide
  have e40 : (40 : Int32).toInt = 40 := by decide
  have l1 : (-1 : Int64).toInt = -1 := by decide
  have l2 : (2 : Int64).toInt = 2 := by decide
  by_cases hx : 0 ≤ x.toInt ∧ x.toInt < 4
  · obtain ⟨s, hs, rfl⟩ := one_ex (n := 4) hx (by omega)
    have ok4 : okI (nI s) 4 := okI_nI (by omega) (by omega)
    by_cases hy : -1 ≤ y.toInt ∧ y.toInt ≤ 2
    · by_cases hg : y = -1
      · subst hg
        obtain ⟨σ', g1, g2, g3, g4, g5⟩ := fe_become (σ := σ) (z := 0) hs (by omega) (-1)
        have g1' : f_X5_become s (-1) 0 σ = some σ' := g1
        obtain ⟨μ', hμ⟩ : ∃ y, y = upm (upm (upm μ 40 s 0) 41 s (-1)) 42 s w := ⟨_, rfl⟩
        have vb : vp_nar .boolean (0 : Int32) = 0 := by decide
        refine ⟨1, σ', μ', ?_, ?_, m, n, r, Ts, hP.sheet (fun a ha => g2 a (by omega) (by omega) (by omega)) (fun a ha => by rw [hμ, upm_n (by omega), upm_n (by omega), upm_n (by omega)]) (by rw [hμ]; rfl) (fun t ht => ?_)⟩
        · unfold f_X8_sheet
          rw [fe_isSheet, if_pos hx, Option.bind_some]
          simp only []
          rw [if_neg one_ne, if_neg (by decide), if_pos (by decide), if_pos trivial, if_pos ok4, nI_tn (show s < 2147483648 by omega), g1', Option.bind_some]
        · unfold f_X9_sheet f_X9_sheet_34 f_X9_sheet_45 f_X9_sheet_59
          rw [fm_isSheet, if_pos hx, Option.bind_some]
          simp only []
          rw [if_neg one_ne, f_in, l32_ti, l1, l2, if_pos (by decide), Option.bind_some]
          simp only []
          have n1 : (-1 : Int32) < 0 := by decide
          rw [if_neg one_ne, if_pos n1, if_pos n1, if_pos n1, if_pos ok4, if_pos ok4, if_pos ok4, vb, nI_tn (show s < 2147483648 by omega), ← hμ, f_X9_sheet_77, if_pos n1]
          by_cases hw : w ≤ 0
          · rw [if_pos hw]
          · rw [if_neg hw]
        · by_cases e : t = s
          · subst e
            exact Or.inl ⟨g3, by rw [hμ, upm_n (by omega), upm_n (by omega), upm_e, if_pos rfl]⟩
          · refine (hP.2.2.2.2.2.2.2 t ht).other (fun a a1 a2 => g2 a (by omega) (by omega) (by omega)) ?_ ?_ ?_ (fun j hj => ?_)
            · rw [hμ, upm_n (by omega), upm_n (by omega), upm_e, if_neg e]
            · rw [hμ, upm_n (by omega), upm_e, if_neg e, upm_n (by omega)]
            · rw [hμ, upm_e, if_neg e, upm_n (by omega), upm_n (by omega)]
            · rw [hμ, upm_n (by omega), upm_n (by omega), upm_n (by omega)]
      · have hy0 : 0 ≤ y.toInt ∧ y.toInt < 3 := by
          rw [i32_eq, m1_ti] at hg
          omega
        obtain ⟨so, hso, rfl⟩ := one_ex (n := 3) hy0 (by omega)
        have nlt : ¬ nI so < -1 := by rw [i32_lt, m1_ti, nI_ti (by omega)]; omega
        have ple : nI so ≤ 2 := by rw [i32_le, e2]; omega
        have nso : ¬ nI so < 0 := by rw [i32_lt, e0]; omega
        have cC : f_X8_sheet (nI s) (nI so) w σ = if w ≤ 40 then (if 0 ≤ w then (f_X5_become s (nI so) w σ).bind (fun q => some (1, q)) else some (-14, σ)) else some (-2, σ) := by
          unfold f_X8_sheet
          rw [fe_isSheet, if_pos hx, Option.bind_some]
          simp only []
          rw [if_neg one_ne, if_neg nlt, if_pos ple, if_neg hg, if_pos ok4, nI_tn (show s < 2147483648 by omega)]
        rw [cC]
        by_cases h40 : w ≤ 40
        · by_cases h0 : 0 ≤ w
          · rw [if_pos h40, if_pos h0]
            rw [i32_le, e0] at h0
            rw [i32_le, e40] at h40
            obtain ⟨z, hz, rfl⟩ := one_ex (x := w) (n := 41) (by omega) (by omega)
            obtain ⟨σ', μ', q1, q2, q3, -⟩ := sim_sheet hP hs hso (show z ≤ 40 by omega)
            rw [q1, q2, Option.bind_some]
            exact ⟨_, _, _, rfl, rfl, q3.inv⟩
          · rw [if_pos h40, if_neg h0]
            unfold f_X9_sheet f_X9_sheet_34
            rw [fm_isSheet, if_pos hx, Option.bind_some]
            simp only []
            rw [if_neg one_ne, f_in, l32_ti, l1, l2, if_pos hy, Option.bind_some]
            simp only []
            rw [if_neg one_ne, if_neg nso, if_pos h40, if_neg nso, if_neg h0]
            exact like_same hI _
        · rw [if_neg h40]
          unfold f_X9_sheet
          rw [fm_isSheet, if_pos hx, Option.bind_some]
          simp only []
          rw [if_neg one_ne, f_in, l32_ti, l1, l2, if_pos hy, Option.bind_some]
          simp only []
          rw [if_neg one_ne, if_neg nso, if_neg h40]
          exact like_same hI _
    · unfold f_X8_sheet f_X9_sheet
      rw [fe_isSheet, fm_isSheet, if_pos hx, Option.bind_some, Option.bind_some]
      simp only []
      rw [if_neg one_ne, if_neg one_ne, f_in, l32_ti, l1, l2, if_neg hy, Option.bind_some]
      simp only []
      rw [if_pos trivial]
      by_cases hlt : y < -1
      · rw [if_pos hlt]
        exact like_same hI _
      · rw [if_neg hlt]
        rw [i32_lt, m1_ti] at hlt
        rw [if_neg (show ¬ y ≤ 2 by rw [i32_le, e2]; omega)]
        exact like_same hI _
  · unfold f_X8_sheet f_X9_sheet
    rw [fe_isSheet, fm_isSheet, if_neg hx, Option.bind_some, Option.bind_some]
    exact like_same hI _
theorem fe_range {σ : Sg} {s z : Nat} (hs : s < 4) (hz : σ (74 + 3 * s) 0 = nI z) (hz40 : z ≤ 40) (x y : Int32) : f_X5_hasRange s x y σ = some (if 0 ≤ x.toInt ∧ 0 ≤ y.toInt ∧ x.toInt + y.toInt ≤ z then 1 else 0, σ) := by
  have e0 : (0 : Int32).toInt = 0 := by decide
  have hy := i32_rng y
  unfold f_X5_hasRange
  rw [if_pos hs]
  by_cases hx : x < 0
  · rw [if_pos hx]
    rw [i32_lt, e0] at hx
    rw [if_neg (by omega)]
  · rw [if_neg hx]
    rw [i32_lt, e0] at hx
    by_cases hy0 : y < 0
    · rw [if_pos hy0]
      rw [i32_lt, e0] at hy0
      rw [if_neg (by omega)]
    · rw [if_neg hy0]
      rw [i32_lt, e0] at hy0
      rw [hz]
      have es : (nI z - y).toInt = (z : Int) - y.toInt := by
        rw [i32_sub (by rw [nI_ti (by omega)]; omega) (by rw [nI_ti (by omega)]; omega), nI_ti (by omega)]
      by_cases hc : nI z - y < x
      · rw [if_pos hc]
        rw [i32_lt, es] at hc
        rw [if_neg (by omega)]
      · rw [if_neg hc]
        rw [i32_lt, es] at hc
        rw [if_pos (by omega)]
theorem fe_missing {σ : Sg} {s : Nat} (hs : s < 4) : f_X5_isMissing s σ = some (if σ (73 + 3 * s) 0 = -1 then 1 else 0, σ) := by
  unfold f_X5_isMissing
  rw [if_pos hs]
  by_cases h : σ (73 + 3 * s) 0 = -1
  · rw [if_pos h, if_pos h]
  · rw [if_neg h, if_neg h]
/-- what a sheet of that sort keeps of a number -/
def narS (so : Nat) (v : Int32) : Int32 := if so = 0 then v.toInt8.toInt32 else if so = 1 then v.toInt16.toInt32 else v
theorem fe_put {σ : Sg} {s so z i : Nat} (hs : s < 4) (hso : so < 3) (hz : z ≤ 40) (h1 : σ (73 + 3 * s) 0 = nI so) (h2 : σ (74 + 3 * s) 0 = nI z) (hi : i < z) (v : Int32) : f_X5_put s (nI i) v σ = some (1, up σ (75 + 3 * s) i (narS so v)) := by
  have ok : okI (nI i) 40 := okI_nI (by omega) (by omega)
  have e1 : (1 : Int32).toInt = 1 := by decide
  unfold f_X5_put
  rw [if_pos hs, fe_range hs h2 hz, if_pos (by rw [nI_ti (by omega), e1]; omega), Option.bind_some]
  simp only []
  rw [if_neg one_ne, h1, if_pos ok, if_pos ok, if_pos ok, nI_tn (show i < 2147483648 by omega)]
  match so, hso with
  | 0, _ => rfl
  | 1, _ => rfl
  | 2, _ => rfl
/-- one number of a sheet -/
theorem ShR_put {σ : Sg} {μ : Sm} {m n r s so z i : Nat} {Ts : Nat → Nat → List Int32} {v : Int32} (hP : InvP σ μ m n r Ts) (hs : s < 4) (hso : so < 3) (hz : z ≤ 40) (h1 : σ (73 + 3 * s) 0 = nI so) (h2 : σ (74 + 3 * s) 0 = nI z) (h3 : μ.1 40 s = 1) (h4 : μ.1 41 s = nI so) (h5 : μ.1 42 s = nI z) (h6 : ∀ j, j < z → σ (75 + 3 * s) j = μ.1 43 (40 * s + j)) (hi : i < z) : InvP (up σ (75 + 3 * s) i v) (upm μ 43 (40 * s + i) v) m n r Ts := by
  refine hP.sheet (fun a ha => up_n (by omega)) (fun a ha => upm_n (by omega)) rfl (fun t ht => ?_)
  by_cases e : t = s
  · subst e
    refine Or.inr ⟨so, z, hso, hz, by rw [up_n (by omega)]; exact h1, by rw [upm_n (by omega)]; exact h3, by rw [upm_n (by omega)]; exact h4, by rw [up_n (by omega)]; exact h2, by rw [upm_n (by omega)]; exact h5, fun j hj => ?_⟩
    rw [up_s, upm_e]
    by_cases ej : j = i
    · rw [ej, upd_s, if_pos rfl]
    · rw [upd_n ej, if_neg (by omega)]; exact h6 j hj
  · refine (hP.2.2.2.2.2.2.2 t ht).other (fun a a1 a2 => up_n (by omega)) (by rw [upm_n (by omega)]) (by rw [upm_n (by omega)]) (by rw [upm_n (by omega)]) (fun j hj => ?_)
    rw [upm_e, if_neg (by omega)]
theorem pub_cell {σ : Sg} {μ : Sm} (h : Inv σ μ) (x y w : Int32) : Like (f_X8_cell x y w σ) (f_X9_cell x y w μ) := by
  have hI := h
  obtain ⟨m, n, r, Ts, hP⟩ := h
  have l0 : (0 : Int64).toInt = 0 := by decide
  have e1 : (1 : Int32).toInt = 1 := by decide
  unfold f_X8_cell f_X9_cell
  rw [fe_isSheet, fm_isSheet, Option.bind_some, Option.bind_some]
  simp only []
  by_cases hx : 0 ≤ x.toInt ∧ x.toInt < 4
  · obtain ⟨s, hs, rfl⟩ := one_ex (n := 4) hx (by omega)
    have ok4 : okI (nI s) 4 := okI_nI (by omega) (by omega)
    rw [if_pos hx, if_neg one_ne, if_neg one_ne]
    simp only [if_pos ok4, nI_tn (show s < 2147483648 by omega), fe_missing hs, Option.bind_some]
    rcases hP.2.2.2.2.2.2.2 s hs with ⟨h1, h2⟩ | ⟨so, z, hso, hz, h1, h2, h3, h4, h5, h6⟩
    · rw [if_pos h1, h2, if_neg one_ne, if_pos rfl]
      exact like_same hI _
    · rw [h1, if_neg (nI_nem1 (by omega)), if_pos rfl, h2, if_neg one_ne]
      have en : (nI z - 1).toInt = (z : Int) - 1 := by rw [i32_sub (by rw [nI_ti (by omega), e1]; omega) (by rw [nI_ti (by omega), e1]; omega), nI_ti (by omega), e1]
      rw [f_in, l32_ti, l32_ti, l0, h5, en, Option.bind_some]
      simp only []
      by_cases hy : 0 ≤ y.toInt ∧ y.toInt < z
      · obtain ⟨i, hi, rfl⟩ := one_ex (n := z) hy (by omega)
        have ok : okI (nI (40 * s + i)) 160 := okI_nI (by omega) (by omega)
        rw [if_pos (show 0 ≤ (nI i).toInt ∧ (nI i).toInt ≤ (z : Int) - 1 by omega), if_neg one_ne, fe_put hs hso hz h1 h4 hi, Option.bind_some]
        simp only []
        rw [if_neg one_ne, ix40, if_pos ok, if_pos ok, if_pos ok, nI_tn (show 40 * s + i < 2147483648 by omega), h3]
        have fin := fun v => ShR_put (v := v) hP hs hso hz h1 h4 h2 h3 h5 h6 hi
        match so, hso with
        | 0, _ => exact ⟨_, _, _, rfl, rfl, (fin _).inv⟩
        | 1, _ => exact ⟨_, _, _, rfl, rfl, (fin _).inv⟩
        | 2, _ => exact ⟨_, _, _, rfl, rfl, (fin _).inv⟩
      · rw [if_neg (show ¬ (0 ≤ y.toInt ∧ y.toInt ≤ (z : Int) - 1) by omega), if_pos rfl]
        unfold f_X5_put
        rw [if_pos hs, fe_range hs h4 hz, if_neg (by rw [e1]; omega), Option.bind_some]
        exact like_same hI _
  · rw [if_neg hx, if_pos rfl, if_pos rfl]
    exact like_same hI _
