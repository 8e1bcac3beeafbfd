/-! house -/
theorem house_loop {s so z N : Nat} (hs : s < 4) (hz : z ≤ 40) (hN : N ≤ 5) (x2 x3 : Int32) : ∀ (d c k : Nat) (σ : Sg) (μ : Sm) (y : Int32), c + d = N → d < k → Inv σ μ → ShW σ μ s z →
    Like (f_X8_house_67 (nI s) x2 x3 (nI N) k y (nI c) σ) (f_X9_house_75 (nI s) x2 x3 (nI N) k y (nI c) μ) := by
  intro d
  induction d with
  | zero =>
    intro c k σ μ y hc hk hI hW
    obtain ⟨k, rfl⟩ : ∃ q, k = q + 1 := ⟨k - 1, by omega⟩
    have e : c = N := by omega
    subst e
    rw [f_X8_house_67, f_X9_house_75, if_pos (show (nI s).toNatClampNeg < 4 by rw [nI_tn (show s < 2147483648 by omega)]; exact hs), if_pos (Int32.le_refl _), if_pos (Int32.le_refl _)]
    exact like_same hI _
  | succ d ih =>
    intro c k σ μ y hc hk hI hW
    obtain ⟨k, rfl⟩ : ∃ q, k = q + 1 := ⟨k - 1, by omega⟩
    obtain ⟨c4, c7, c8⟩ := id hW
    have e0 : (0 : Int32).toInt = 0 := by decide
    have e3 : (3 : Int32).toInt = 3 := by decide
    have ok4 : okI (nI s) 4 := okI_nI (by omega) (by omega)
    have nN : ¬ nI N ≤ nI c := by rw [nI_leI (by omega) (by omega)]; omega
    rw [f_X8_house_67, f_X9_house_75, if_pos (show (nI s).toNatClampNeg < 4 by rw [nI_tn (show s < 2147483648 by omega)]; exact hs), if_neg nN, if_neg nN]
    have r1 : (nI z - nI (3 * c)).toInt = (z : Int) - 3 * c := by
      rw [i32_sub (by rw [nI_ti (by omega), nI_ti (by omega)]; omega) (by rw [nI_ti (by omega), nI_ti (by omega)]; omega), nI_ti (by omega), nI_ti (by omega)]; omega
    have r2 : (nI z - nI (3 * c) - 3).toInt = (z : Int) - 3 * c - 3 := by
      rw [i32_sub (by rw [r1, e3]; omega) (by rw [r1, e3]; omega), r1, e3]
    by_cases hx : 0 ≤ x3.toInt
    · rw [if_neg (show ¬ x3 < 0 by rw [i32_lt, e0]; omega), if_pos ok4, nI_tn (show s < 2147483648 by omega), nI_1, ix3_0, fe_range hs c4 hz, nI_ti (show 3 * (c + 1) < 2147483648 by omega), Option.bind_some]
      simp only []
      rw [c7, ix3_0]
      by_cases hr : x3.toInt + 3 * c + 3 ≤ z
      · obtain ⟨a, ha, rfl⟩ := one_ex (x := x3) (n := 41) (by omega) (by omega)
        rw [nI_ti (by omega)] at hr
        have i0 : okI (nI (a + 3 * c)) 40 := okI_nI (by omega) (by omega)
        have i1 : okI (nI (a + 3 * c + 1)) 40 := okI_nI (by omega) (by omega)
        have i2 : okI (nI (a + 3 * c + 2)) 40 := okI_nI (by omega) (by omega)
        have j0 : okI (nI (40 * s + a + 3 * c)) 160 := okI_nI (by omega) (by omega)
        have j1 : okI (nI (40 * s + a + 3 * c + 1)) 160 := okI_nI (by omega) (by omega)
        have j2 : okI (nI (40 * s + a + 3 * c + 2)) 160 := okI_nI (by omega) (by omega)
        have w1 : nI a + nI (3 * c) + 1 = nI (a + 3 * c + 1) := by rw [nI_add, nI_1]
        have w2 : nI a + nI (3 * c) + 2 = nI (a + 3 * c + 2) := by rw [nI_add, show (2 : Int32) = nI 2 from rfl, nI_add]
        have v0 : (40 : Int32) * nI s + nI a + nI (3 * c) = nI (40 * s + a + 3 * c) := by rw [ix40, nI_add]
        have v1 : nI (40 * s + a + 3 * c) + 1 = nI (40 * s + a + 3 * c + 1) := nI_1 _
        have v2 : nI (40 * s + a + 3 * c) + 2 = nI (40 * s + a + 3 * c + 2) := by rw [show (2 : Int32) = nI 2 from rfl, nI_add]
        rw [if_pos (show 0 ≤ (nI a).toInt ∧ 0 ≤ ((3 * (c + 1) : Nat) : Int) ∧ (nI a).toInt + ((3 * (c + 1) : Nat) : Int) ≤ z by rw [nI_ti (by omega)]; omega), if_neg one_ne, w1, w2, nI_add, v0, v1, v2, if_pos i0, if_pos i1, if_pos i2]
        rw [if_pos (show nI a ≤ nI z - nI (3 * c) - 3 by rw [i32_le, r2, nI_ti (by omega)]; omega), if_pos j0, if_pos j1, if_pos j2]
        rw [nI_tn (show a + 3 * c < 2147483648 by omega), nI_tn (show a + 3 * c + 1 < 2147483648 by omega), nI_tn (show a + 3 * c + 2 < 2147483648 by omega), nI_tn (show 40 * s + a + 3 * c < 2147483648 by omega), nI_tn (show 40 * s + a + 3 * c + 1 < 2147483648 by omega), nI_tn (show 40 * s + a + 3 * c + 2 < 2147483648 by omega)]
        rw [c8 _ (show a + 3 * c < z by omega), c8 _ (show a + 3 * c + 1 < z by omega), c8 _ (show a + 3 * c + 2 < z by omega), show 40 * s + (a + 3 * c) = 40 * s + a + 3 * c by omega, show 40 * s + (a + 3 * c + 1) = 40 * s + a + 3 * c + 1 by omega, show 40 * s + (a + 3 * c + 2) = 40 * s + a + 3 * c + 2 by omega]
        obtain ⟨v, σ', μ', g1, g2, g3, g4, g5⟩ := sim_wakes hI (μ.1 43 (40 * s + a + 3 * c)) (μ.1 43 (40 * s + a + 3 * c + 1)) (μ.1 43 (40 * s + a + 3 * c + 2))
        have hW' : ShW σ' μ' s z := ⟨by rw [g4 _ (by omega)]; exact c4, by rw [g5 42 (by omega)]; exact c7, fun j hj => by rw [g4 _ (by omega), g5 43 (by omega)]; exact c8 j hj⟩
        rw [g1, g2, Option.bind_some, Option.bind_some]
        simp only []
        rw [Int32.add_zero]
        by_cases hv : v < 0
        · rw [if_pos hv, if_pos hv]
          exact ih (c + 1) k σ' μ' _ (by omega) (by omega) g3 hW'
        · rw [if_neg hv, if_neg hv]
          exact ih (c + 1) k σ' μ' _ (by omega) (by omega) g3 hW'
      · rw [if_neg (show ¬ (0 ≤ x3.toInt ∧ 0 ≤ ((3 * (c + 1) : Nat) : Int) ∧ x3.toInt + ((3 * (c + 1) : Nat) : Int) ≤ z) by omega), if_pos rfl, if_neg (show ¬ x3 ≤ nI z - nI (3 * c) - 3 by rw [i32_le, r2]; omega)]
        exact like_same hI _
    · rw [if_pos (show x3 < 0 by rw [i32_lt, e0]; omega), nI_tn (show s < 2147483648 by omega), nI_1, ix3_0, fe_range hs c4 hz, nI_ti (show 3 * (c + 1) < 2147483648 by omega), Option.bind_some]
      simp only []
      rw [if_neg (show ¬ (0 ≤ x3.toInt ∧ 0 ≤ ((3 * (c + 1) : Nat) : Int) ∧ x3.toInt + ((3 * (c + 1) : Nat) : Int) ≤ z) by omega), if_pos rfl]
      exact like_same hI _
theorem pub_house {σ : Sg} {μ : Sm} (h : Inv σ μ) (x y u w : Int32) : Like (f_X8_house x y u w σ) (f_X9_house x y u w μ) := by
  have hI := h
  obtain ⟨m, n, r, Ts, hP⟩ := h
  obtain ⟨hR, hL, hO, h4, h5, h6, h7, h8⟩ := id hP
  have l0 : (0 : Int64).toInt = 0 := by decide
  have l2 : (2 : Int64).toInt = 2 := by decide
  have l5 : (5 : Int64).toInt = 5 := by decide
  unfold f_X8_house f_X9_house
  rw [fe_isSheet, fm_isSheet, Option.bind_some, Option.bind_some]
  simp only [f_in, l32_ti, l0, l2, l5, Option.bind_some]
  by_cases hx : 0 ≤ x.toInt ∧ x.toInt < 4
  · rw [if_pos hx, if_neg one_ne, if_neg one_ne]
    by_cases hy : 0 ≤ y.toInt ∧ y.toInt ≤ 2
    · rw [if_pos hy, if_neg one_ne, if_neg (i32_ge0.mpr hy.1), if_neg (show ¬ (2 : Int32) < y by rw [show (2 : Int32) = nI 2 from rfl, i32_lit (by omega)]; omega)]
      by_cases hw : 0 ≤ w.toInt ∧ w.toInt ≤ 5
      · rw [if_pos hw, if_neg one_ne, if_neg (i32_ge0.mpr hw.1), if_pos (show w ≤ (5 : Int32) by rw [show (5 : Int32) = nI 5 from rfl, i32_len (by omega)]; omega)]
        obtain ⟨s, hs, rfl⟩ := one_ex (n := 4) hx (by omega)
        obtain ⟨N, hN, rfl⟩ := one_ex (x := w) (n := 6) (by omega) (by omega)
        have ok4 : okI (nI s) 4 := okI_nI (by omega) (by omega)
        unfold f_X9_house_57
        simp only [if_pos ok4, nI_tn (show s < 2147483648 by omega), fe_missing hs, Option.bind_some]
        rcases h8 s hs with ⟨h1, h2⟩ | ⟨so, z, hso, hz, k1, k2, k3, k4, k5, k6⟩
        · rw [if_pos h1, if_neg one_ne, if_pos h2, if_pos h2]
          exact like_same hI _
        · have nz : ¬ μ.1 40 s = 0 := by rw [k2]; exact one_ne
          rw [k1, if_neg (nI_nem1 (by omega)), if_pos rfl, if_neg nz, if_neg nz, k3]
          by_cases hy2 : nI so = y
          · rw [if_pos hy2, if_pos hy2]
            exact house_loop (so := so) hs hz (by omega) y u N 0 5000 σ μ 0 (by omega) (by omega) hI ⟨k4, k5, k6⟩
          · rw [if_neg hy2, if_neg hy2]
            exact like_same hI _
      · rw [if_neg hw, if_pos rfl]
        by_cases w0 : w < 0
        · rw [if_pos w0]; exact like_same hI _
        · rw [if_neg w0, if_neg (show ¬ w ≤ (5 : Int32) by rw [i32_ge0] at w0; rw [show (5 : Int32) = nI 5 from rfl, i32_len (by omega)]; omega)]; exact like_same hI _
    · rw [if_neg hy, if_pos rfl]
      by_cases y0 : y < 0
      · rw [if_pos y0]; exact like_same hI _
      · rw [if_neg y0, if_pos (show (2 : Int32) < y by rw [i32_ge0] at y0; rw [show (2 : Int32) = nI 2 from rfl, i32_lit (by omega)]; omega)]; exact like_same hI _
  · rw [if_neg hx, if_pos rfl, if_pos rfl]; exact like_same hI _
