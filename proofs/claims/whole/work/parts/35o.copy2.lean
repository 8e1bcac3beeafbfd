/-! copy -/
theorem cpy_go {F G : Nat → Int32} {i j n k : Nat} : va_cpy F G i j n k = if j ≤ k ∧ k < j + n then F (i + (k - j)) else G k := rfl
def CyJ (μ0 μ : Sm) (D S lo hi : Nat) : Prop := (∀ a, a ≠ 43 → μ.1 a = μ0.1 a) ∧ μ.2 = μ0.2 ∧ (∀ q, lo ≤ q → q < hi → μ.1 43 (D + q) = μ0.1 43 (S + q)) ∧ ∀ x, (x < D + lo ∨ D + hi ≤ x) → μ.1 43 x = μ0.1 43 x
theorem fm_145 {k121 : Int32 → Int32 → Sm → Option (Int32 × Sm)} {s i o j q : Nat} {x5 y6 y7 : Int32} (h1 : 40 * s + i + q < 160) (h2 : 40 * o + j + q < 160) (μ : Sm) : f_X9_copy_145 k121 (nI s) (nI i) (nI o) (nI j) x5 y6 y7 (nI q) μ = k121 y6 (y7 + 1) (upm μ 43 (40 * o + j + q) (μ.1 43 (40 * s + i + q))) := by
  unfold f_X9_copy_145
  have o1 : okI (nI (40 * s + i + q)) 160 := okI_nI h1 (by omega)
  have o2 : okI (nI (40 * o + j + q)) 160 := okI_nI h2 (by omega)
  rw [ix40, ix40, nI_add, nI_add, if_pos o1, if_pos o2, nI_tn (show 40 * s + i + q < 2147483648 by omega), nI_tn (show 40 * o + j + q < 2147483648 by omega)]
theorem fm_fwd {μ0 : Sm} {s i o j n : Nat} (hs : s < 4) (ho : o < 4) (hi : i + n ≤ 40) (hj : j + n ≤ 40) (hd : s ≠ o ∨ j ≤ i) : ∀ (d c k : Nat) (μ : Sm), c + d = n → d < k → CyJ μ0 μ (40 * o + j) (40 * s + i) 0 c → ∃ μ', f_X9_copy_121 (nI s) (nI i) (nI o) (nI j) (nI n) k 0 (nI c) μ = some (nI n, μ') ∧ CyJ μ0 μ' (40 * o + j) (40 * s + i) 0 n := by
  intro d
  induction d with
  | zero =>
    intro c k μ hc hk hJ
    obtain ⟨k, rfl⟩ : ∃ q, k = q + 1 := ⟨k - 1, by omega⟩
    have e : c = n := by omega
    subst e
    refine ⟨μ, ?_, hJ⟩
    rw [f_X9_copy_121, if_pos (by rw [nI_leI (by omega) (by omega)]; omega)]
  | succ d ih =>
    intro c k μ hc hk hJ
    obtain ⟨k, rfl⟩ : ∃ q, k = q + 1 := ⟨k - 1, by omega⟩
    obtain ⟨h1, h2, h3, h4⟩ := hJ
    rw [f_X9_copy_121, if_neg (by rw [nI_leI (by omega) (by omega)]; omega), if_pos (show (0 : Int32) = 0 from rfl), fm_145 (by omega) (by omega), nI_1]
    refine ih (c + 1) k _ (by omega) (by omega) ⟨fun a ha => by rw [upm_n ha]; exact h1 a ha, h2, fun q q1 q2 => ?_, fun x hx => ?_⟩
    · rw [upm_e]
      by_cases e : q = c
      · rw [if_pos (by omega), e]
        exact h4 _ (by omega)
      · rw [if_neg (by omega)]
        exact h3 q q1 (by omega)
    · rw [upm_e, if_neg (by omega)]
      exact h4 x (by omega)
theorem fm_bwd {μ0 : Sm} {s i o j n : Nat} (hs : s < 4) (ho : o < 4) (hi : i + n ≤ 40) (hj : j + n ≤ 40) (hd : s = o ∧ i < j) : ∀ (d c k : Nat) (μ : Sm), c + d = n → d < k → CyJ μ0 μ (40 * o + j) (40 * s + i) d n → ∃ μ', f_X9_copy_121 (nI s) (nI i) (nI o) (nI j) (nI n) k 1 (nI c) μ = some (nI n, μ') ∧ CyJ μ0 μ' (40 * o + j) (40 * s + i) 0 n := by
  intro d
  induction d with
  | zero =>
    intro c k μ hc hk hJ
    obtain ⟨k, rfl⟩ : ∃ q, k = q + 1 := ⟨k - 1, by omega⟩
    have e : c = n := by omega
    subst e
    refine ⟨μ, ?_, hJ⟩
    rw [f_X9_copy_121, if_pos (by rw [nI_leI (by omega) (by omega)]; omega)]
  | succ d ih =>
    intro c k μ hc hk hJ
    obtain ⟨k, rfl⟩ : ∃ q, k = q + 1 := ⟨k - 1, by omega⟩
    obtain ⟨h1, h2, h3, h4⟩ := hJ
    have ez : nI n - 1 - nI c = nI d := by
      rw [show (1 : Int32) = nI 1 from rfl, nI_sub (by omega), nI_sub (by omega)]
      congr 1; omega
    rw [f_X9_copy_121, if_neg (by rw [nI_leI (by omega) (by omega)]; omega), if_neg one_ne, ez, fm_145 (by omega) (by omega), nI_1]
    refine ih (c + 1) k _ (by omega) (by omega) ⟨fun a ha => by rw [upm_n ha]; exact h1 a ha, h2, fun q q1 q2 => ?_, fun x hx => ?_⟩
    · rw [upm_e]
      by_cases e : q = d
      · rw [if_pos (by omega), e]
        exact h4 _ (by omega)
      · rw [if_neg (by omega)]
        exact h3 q (by omega) q2
    · rw [upm_e, if_neg (by omega)]
      exact h4 x (by omega)
theorem pub_copy {σ : Sg} {μ : Sm} (h : Inv σ μ) (x y u w v : Int32) : Like (f_X8_copy x y u w v σ) (f_X9_copy x y u w v μ) := by
  have hI := h
  obtain ⟨m, n0, r, Ts, hP⟩ := h
  have e0 : (0 : Int32).toInt = 0 := by decide
  unfold f_X8_copy f_X9_copy
  rw [fe_isSheet, fm_isSheet, Option.bind_some, Option.bind_some]
  simp only []
  by_cases hx : 0 ≤ x.toInt ∧ x.toInt < 4
  · obtain ⟨s, hs, rfl⟩ := one_ex (n := 4) hx (by omega)
    have ok4 : okI (nI s) 4 := okI_nI (by omega) (by omega)
    rw [if_pos hx, if_neg one_ne, if_neg one_ne, fe_isSheet, fm_isSheet, Option.bind_some, Option.bind_some]
    simp only []
    by_cases hu : 0 ≤ u.toInt ∧ u.toInt < 4
    · obtain ⟨o, ho, rfl⟩ := one_ex (n := 4) hu (by omega)
      have oko : okI (nI o) 4 := okI_nI (by omega) (by omega)
      rw [if_pos hu, if_neg one_ne, if_neg one_ne]
      simp only [if_pos ok4, if_pos oko, nI_tn (show s < 2147483648 by omega), nI_tn (show o < 2147483648 by omega), fe_missing hs, fe_missing ho, Option.bind_some]
      rcases hP.2.2.2.2.2.2.2 s hs with ⟨h1, h2⟩ | ⟨so, z, hso, hz, h1, h2, h3, h4, h5, h6⟩
      · rw [if_pos h1, h2, if_neg one_ne, if_pos rfl]
        exact like_same hI _
      · rw [h1, if_neg (nI_nem1 (by omega)), if_pos rfl, h2, if_neg one_ne]
        rcases hP.2.2.2.2.2.2.2 o ho with ⟨k1, k2⟩ | ⟨so', z', hso', hz', k1, k2, k3, k4, k5, k6⟩
        · rw [if_pos k1, k2, if_neg one_ne, if_pos rfl]
          exact like_same hI _
        · have k1' : (if σ (73 + 3 * o) 0 = -1 then (1 : Int32) else 0) = 0 := by rw [k1, if_neg (nI_nem1 (by omega))]
          rw [k1', if_pos rfl, k2, if_neg one_ne]
          by_cases hso2 : nI so = nI so'
          · rw [if_pos (show nI so = σ (73 + 3 * o) 0 by rw [k1]; exact hso2), if_pos (show μ.1 41 s = μ.1 41 o by rw [h3, k3]; exact hso2), fe_range hs h4 hz, Option.bind_some]
            simp only []
            rw [fe_range ho k4 hz', h5, k5]
            have hv := i32_rng v
            have es : 0 ≤ v.toInt → (nI z - v).toInt = (z : Int) - v.toInt := fun hv0 => by
              rw [i32_sub (by rw [nI_ti (by omega)]; omega) (by rw [nI_ti (by omega)]; omega), nI_ti (by omega)]
            have es' : 0 ≤ v.toInt → (nI z' - v).toInt = (z' : Int) - v.toInt := fun hv0 => by
              rw [i32_sub (by rw [nI_ti (by omega)]; omega) (by rw [nI_ti (by omega)]; omega), nI_ti (by omega)]
            by_cases hc1 : 0 ≤ y.toInt ∧ 0 ≤ v.toInt ∧ y.toInt + v.toInt ≤ z
            · rw [if_pos hc1, if_neg one_ne, Option.bind_some]
              simp only []
              by_cases hc2 : 0 ≤ w.toInt ∧ 0 ≤ v.toInt ∧ w.toInt + v.toInt ≤ z'
              · obtain ⟨n, hn, rfl⟩ := one_ex (x := v) (n := 41) (by omega) (by omega)
                obtain ⟨i, hi, rfl⟩ := one_ex (x := y) (n := 41) (by omega) (by omega)
                obtain ⟨j, hj, rfl⟩ := one_ex (x := w) (n := 41) (by omega) (by omega)
                rw [nI_ti (by omega), nI_ti (by omega)] at hc1
                rw [nI_ti (by omega), nI_ti (by omega)] at hc2
                have p0 : ∀ k, k < 41 → ¬ nI k < 0 := fun k hk => by rw [i32_lt, e0, nI_ti (by omega)]; omega
                have hcc : (¬ nI i < 0 ∧ ¬ nI j < 0 ∧ ¬ nI n < 0 ∧ (nI i).toNatClampNeg + (nI n).toNatClampNeg ≤ 40 ∧ (nI j).toNatClampNeg + (nI n).toNatClampNeg ≤ 40) := by
                  rw [nI_tn (by omega), nI_tn (by omega), nI_tn (by omega)]
                  exact ⟨p0 i hi, p0 j hj, p0 n hn, by omega, by omega⟩
                rw [if_pos (show 0 ≤ (nI j).toInt ∧ 0 ≤ (nI n).toInt ∧ (nI j).toInt + (nI n).toInt ≤ z' by rw [nI_ti (by omega), nI_ti (by omega)]; omega), if_neg one_ne, if_pos hcc]
                have q1 : ¬ nI z - nI n < nI i := by rw [i32_lt, es (by rw [nI_ti (by omega)]; omega), nI_ti (by omega), nI_ti (by omega)]; omega
                have q2 : nI j ≤ nI z' - nI n := by rw [i32_le, es' (by rw [nI_ti (by omega)]; omega), nI_ti (by omega), nI_ti (by omega)]; omega
                rw [if_neg (p0 n hn), if_neg (p0 i hi), if_neg (p0 j hj), if_neg q1, if_pos q2]
                simp only [nI_tn (show i < 2147483648 by omega), nI_tn (show j < 2147483648 by omega), nI_tn (show n < 2147483648 by omega)]
                have fin : ∀ μ', CyJ μ μ' (40 * o + j) (40 * s + i) 0 n → InvP (upA σ (75 + 3 * o) (va_cpy (σ (75 + 3 * s)) (σ (75 + 3 * o)) i j n)) μ' m n0 r Ts := by
                  rintro μ' ⟨c1, c2, c3, c4⟩
                  refine hP.sheet (fun a ha => upA_n (by omega)) (fun a ha => c1 a (by omega)) c2 (fun t ht => ?_)
                  by_cases e : t = o
                  · subst e
                    refine Or.inr ⟨so', z', hso', hz', by rw [upA_n (by omega)]; exact k1, by rw [c1 40 (by omega)]; exact k2, by rw [c1 41 (by omega)]; exact k3, by rw [upA_n (by omega)]; exact k4, by rw [c1 42 (by omega)]; exact k5, fun x hx => ?_⟩
                    rw [upA_s, cpy_go]
                    by_cases hin : j ≤ x ∧ x < j + n
                    · rw [if_pos hin, h6 _ (by omega)]
                      have := c3 (x - j) (by omega) (by omega)
                      rw [show 40 * t + j + (x - j) = 40 * t + x by omega] at this
                      rw [this, show 40 * s + (i + (x - j)) = 40 * s + i + (x - j) by omega]
                    · rw [if_neg hin, k6 x hx]
                      exact (c4 _ (by omega)).symm
                  · exact (hP.2.2.2.2.2.2.2 t ht).other (fun a a1 a2 => upA_n (by omega)) (by rw [c1 40 (by omega)]) (by rw [c1 41 (by omega)]) (by rw [c1 42 (by omega)]) (fun x hx => c4 _ (by omega))
                have J0 : ∀ lo hi', lo = hi' → CyJ μ μ (40 * o + j) (40 * s + i) lo hi' := fun lo hi' e => ⟨fun _ _ => rfl, rfl, fun q q1 q2 => absurd q2 (by omega), fun _ _ => rfl⟩
                by_cases hso3 : nI s = nI o
                · rw [if_pos hso3]
                  have eso : s = o := by
                    have := congrArg Int32.toInt hso3
                    rw [nI_ti (by omega), nI_ti (by omega)] at this
                    omega
                  by_cases hji : nI j ≤ nI i
                  · rw [if_pos hji]
                    rw [nI_leI (by omega) (by omega)] at hji
                    obtain ⟨μ', g1, g2⟩ := fm_fwd (μ0 := μ) (s := s) (i := i) (o := o) (j := j) (n := n) hs ho (by omega) (by omega) (Or.inr hji) n 0 5000 μ (by omega) (by omega) (J0 0 0 rfl)
                    have g1' : f_X9_copy_121 (nI s) (nI i) (nI o) (nI j) (nI n) 5000 0 0 μ = _ := g1
                    rw [g1']
                    exact ⟨_, _, _, rfl, rfl, (fin μ' g2).inv⟩
                  · rw [if_neg hji]
                    rw [nI_leI (by omega) (by omega)] at hji
                    obtain ⟨μ', g1, g2⟩ := fm_bwd (μ0 := μ) (s := s) (i := i) (o := o) (j := j) (n := n) hs ho (by omega) (by omega) ⟨eso, by omega⟩ n 0 5000 μ (by omega) (by omega) (J0 n n rfl)
                    have g1' : f_X9_copy_121 (nI s) (nI i) (nI o) (nI j) (nI n) 5000 1 0 μ = _ := g1
                    rw [g1']
                    exact ⟨_, _, _, rfl, rfl, (fin μ' g2).inv⟩
                · rw [if_neg hso3]
                  obtain ⟨μ', g1, g2⟩ := fm_fwd (μ0 := μ) (s := s) (i := i) (o := o) (j := j) (n := n) hs ho (by omega) (by omega) (Or.inl (fun e => hso3 (by rw [e]))) n 0 5000 μ (by omega) (by omega) (J0 0 0 rfl)
                  have g1' : f_X9_copy_121 (nI s) (nI i) (nI o) (nI j) (nI n) 5000 0 0 μ = _ := g1
                  rw [g1']
                  exact ⟨_, _, _, rfl, rfl, (fin μ' g2).inv⟩
              · rw [if_neg hc2, if_pos rfl, if_neg (show ¬ v < 0 by rw [i32_lt, e0]; omega), if_neg (show ¬ y < 0 by rw [i32_lt, e0]; omega)]
                by_cases hw : w < 0
                · rw [if_pos hw]
                  exact like_same hI _
                · rw [if_neg hw]
                  rw [i32_lt, e0] at hw
                  rw [if_neg (show ¬ nI z - v < y by rw [i32_lt, es hc1.2.1]; omega), if_neg (show ¬ w ≤ nI z' - v by rw [i32_le, es' hc1.2.1]; omega)]
                  exact like_same hI _
            · rw [if_neg hc1, if_pos rfl]
              by_cases hv0 : v < 0
              · rw [if_pos hv0]
                exact like_same hI _
              · rw [if_neg hv0]
                rw [i32_lt, e0] at hv0
                by_cases hy0 : y < 0
                · rw [if_pos hy0]
                  exact like_same hI _
                · rw [if_neg hy0]
                  rw [i32_lt, e0] at hy0
                  by_cases hw : w < 0
                  · rw [if_pos hw]
                    exact like_same hI _
                  · rw [if_neg hw, if_pos (show nI z - v < y by rw [i32_lt, es (by omega)]; omega)]
                    exact like_same hI _
          · rw [if_neg (show ¬ nI so = σ (73 + 3 * o) 0 by rw [k1]; exact hso2), if_neg (show ¬ μ.1 41 s = μ.1 41 o by rw [h3, k3]; exact hso2)]
            exact like_same hI _
    · rw [if_neg hu, if_pos rfl, if_pos rfl]
      exact like_same hI _
  · rw [if_neg hx, if_pos rfl, if_pos rfl]
    exact like_same hI _
