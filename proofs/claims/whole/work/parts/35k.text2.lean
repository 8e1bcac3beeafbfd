/-! text -/
theorem cp_text {μ0 : Sm} {m t : Nat} (hm : m < 6) (ht : t ≤ 160) (h3 : μ0.1 3 0 = nI m) (h6 : μ0.1 6 0 = nI t) : ∀ (e K k : Nat) (μ : Sm), K + e = t → e < k → CpJ μ0 μ 1 (160 * m) 5 0 K → ∃ μ', f_X9_text_14 k (nI K) μ = f_X9_text_14 1 (nI t) μ' ∧ CpJ μ0 μ' 1 (160 * m) 5 0 t := by
  intro e
  induction e with
  | zero =>
    intro K k μ hK hk hJ
    obtain ⟨k, rfl⟩ : ∃ q, k = q + 1 := ⟨k - 1, by omega⟩
    have eK : K = t := by omega
    subst eK
    refine ⟨μ, ?_, hJ⟩
    have h6' : μ.1 6 0 = nI K := by rw [hJ.1 6 (by omega)]; exact h6
    have hle : nI K ≤ nI K := by rw [nI_leI (by omega) (by omega)]; omega
    rw [f_X9_text_14, f_X9_text_14, h6', if_pos hle, if_pos hle]
  | succ e ih =>
    intro K k μ hK hk hJ
    obtain ⟨k, rfl⟩ : ∃ q, k = q + 1 := ⟨k - 1, by omega⟩
    have i1 : okI (nI K) 160 := okI_nI (by omega) (by omega)
    have i2 : okI (nI (160 * m + K)) 960 := okI_nI (by omega) (by omega)
    have key := ih (K + 1) k _ (by omega) (by omega) (hJ.step (by decide))
    have z0 : 0 + K = K := by omega
    rw [z0] at key
    have h6' : μ.1 6 0 = nI t := by rw [hJ.1 6 (by omega)]; exact h6
    have h3' : μ.1 3 0 = nI m := by rw [hJ.1 3 (by omega)]; exact h3
    have ix : (160 : Int32) * nI m + nI K = nI (160 * m + K) := by rw [show (160 : Int32) = nI 160 from rfl, nI_mul, nI_add]
    rw [f_X9_text_14, h6', if_neg (show ¬ nI t ≤ nI K by rw [nI_leI (by omega) (by omega)]; omega), if_pos i1, h3', ix, if_pos i2, nI_1, nI_tn (show K < 2147483648 by omega), nI_tn (show 160 * m + K < 2147483648 by omega)]
    exact key
theorem isN_Byt {b : Nat → Int32} {n : Nat} (h : ∀ j, j < n → isN (b j) 256) : Byt b n := h
theorem TxC.mk {σ : Sg} {t : Nat} {b : Nat → Int32} {n : Nat} {q : List Int32 × List Int32 × List Int32} (h : pText b n = .ok q) (h1 : offT (tT q.1 q.2.1 q.2.2) 3 ≤ 160) (h2 : ∀ pt, pt < 3 → σ (45 + 3 * t) pt = nI (offT (tT q.1 q.2.1 q.2.2) (pt + 1)) ∧ ∀ j, j < (tT q.1 q.2.1 q.2.2 pt).length → σ (44 + 3 * t) (offT (tT q.1 q.2.1 q.2.2) pt + j) = (tT q.1 q.2.1 q.2.2 pt).getD j 0) : TxC σ t (tT q.1 q.2.1 q.2.2) :=
  ⟨h1, fun pt hpt => ⟨(h2 pt hpt).1, (h2 pt hpt).2, pText_d h pt⟩⟩
theorem nI_nem1 {k : Nat} (h : k < 2147483648) : ¬ nI k = -1 := by
  intro hc
  have h1 := congrArg Int32.toInt hc
  rw [nI_ti h] at h1
  have e : (-1 : Int32).toInt = -1 := by decide
  rw [e] at h1
  omega
theorem HoR.eqM2 {σ : Sg} {i n r : Nat} {μ ν : Sm} (h : HoR σ i μ n r) (f : ∀ a, 7 ≤ a → a < 12 → ν.1 a = μ.1 a) : HoR σ i ν n r := by
  obtain ⟨h1, h2, h3, h4, h5⟩ := h
  refine ⟨h1, ?_, ?_, ?_, ?_⟩
  · rw [f 7 (by omega) (by omega)]; exact h2
  · rw [f 8 (by omega) (by omega)]; exact h3
  · rw [f 9 (by omega) (by omega), f 10 (by omega) (by omega)]; exact h4
  · rw [f 11 (by omega) (by omega)]; exact h5
theorem RgM.eq2 {m m' n r : Nat} {μ ν : Sm} (h : RgM μ m n r) (f : ∀ a, 7 ≤ a → a < 13 → ν.1 a = μ.1 a) (f4 : ν.1 4 = μ.1 4) (hm : m ≤ m') (hm6 : m' ≤ 6) : RgM ν m' n r := by
  have := h.rm
  refine ⟨h.n5, hm6, by omega, ?_, ?_, ?_, ?_, ?_, ?_⟩
  · rw [f 12 (by omega) (by omega)]; exact h.hn
  · rw [f4]; exact h.hr
  · rw [f 7 (by omega) (by omega)]; exact h.ni
  · rw [f 8 (by omega) (by omega)]; exact h.ho
  · rw [f 9 (by omega) (by omega), f 10 (by omega) (by omega)]; exact h.ps
  · rw [f 11 (by omega) (by omega)]; exact h.cs
theorem pub_text {σ : Sg} {μ : Sm} (h : Inv σ μ) : Like (f_X8_text σ) (f_X9_text μ) := by
  have hI := h
  obtain ⟨m, n, r, Ts, hP⟩ := h
  obtain ⟨hR, hL, hO, h4, h5, h6, h7, h8⟩ := id hP
  obtain ⟨t, t1, t2, t3, t4⟩ := id h6
  have m6 := hO.rg.m6
  have hL41 := hL.1
  by_cases hm : m = 6
  · unfold f_X8_text f_X9_text f_X2_isFull
    rw [hL41, h5, hm, if_neg (by decide), if_pos (show nI 6 = 6 from rfl), Option.bind_some]
    simp only []
    rw [if_neg one_ne]
    exact like_same hI _
  · have hm' : m < 6 := by omega
    have hne : ¬ nI m = 6 := nI_ne (a := m) (b := 6) (by omega) (by omega) (by omega)
    obtain ⟨μ1, g1, c1, c2, c3, c4⟩ := cp_text hm' t1 h5 t3 t 0 5000 μ (by omega) (by omega) CpJ.rf
    have g1' : f_X9_text_14 5000 0 μ = _ := g1
    have e6 : μ1.1 6 0 = nI t := by rw [c1 6 (by omega)]; exact t3
    have e3 : μ1.1 3 0 = nI m := by rw [c1 3 (by omega)]; exact h5
    have okm : okI (nI m) 6 := okI_nI (by omega) (by omega)
    obtain ⟨μ2, hμ2⟩ : ∃ y, y = upm (upm μ1 2 m (nI t)) 6 0 0 := ⟨_, rfl⟩
    have f2 : ∀ a, a ≠ 2 → a ≠ 6 → a ≠ 1 → μ2.1 a = μ.1 a := fun a a1 a2 a3 => by rw [hμ2, upm_n a2, upm_n a1]; exact c1 a a3
    have f2J : μ2.2 = μ.2 := by rw [hμ2]; exact c2
    have w2 : ∀ k, μ2.1 2 k = if k = m then nI t else μ.1 2 k := fun k => by rw [hμ2, upm_n (by omega), upm_e, c1 2 (by omega)]
    have w1 : μ2.1 1 = μ1.1 1 := by rw [hμ2, upm_n (by omega), upm_n (by omega)]
    have wb : ∀ j, j < t → σ 34 j = μ2.1 1 (160 * m + j) := fun j hj => by
      have := c3 j hj
      rw [Nat.zero_add] at this
      rw [w1, this]; exact (t4 j hj).1
    have wo : ∀ k j, k < m → j < 160 → μ2.1 1 (160 * k + j) = μ.1 1 (160 * k + j) := fun k j hk hj => by rw [w1]; exact c4 _ (by omega)
    have hb : Byt (fun j => μ2.1 1 (160 * m + j)) t := fun j hj => by
      show isN (μ2.1 1 (160 * m + j)) 256
      rw [← wb j hj, (t4 j hj).1]; exact (t4 j hj).2
    have hbC : Byt (σ 34) t := fun j hj => by
      show isN (σ 34 j) 256
      rw [(t4 j hj).1]; exact (t4 j hj).2
    have hcg : pText (σ 34) t = pText (fun j => μ2.1 1 (160 * m + j)) t := pText_congr wb
    have hC := fe_read (t := m) (by omega) t2 t1 hbC
    have hM := fm_read (μ := μ2) (n := t) (t := m) hm' (by rw [w2, if_pos rfl]) t1 hb 0
    have hTx : ∀ (ν : Sm), ν.1 1 = μ2.1 1 → ν.1 2 = μ2.1 2 → TxM ν m Ts := by
      intro ν n1 n2
      refine ⟨m6, fun k hk => ?_⟩
      obtain ⟨z, q, z1, z2, z3, z4, z5⟩ := hO.tx.2 k hk
      refine ⟨z, q, ?_, z2, ?_, ?_, z5⟩
      · rw [n2, w2, if_neg (by omega)]; exact z1
      · intro j hj
        show ∃ a, a < 256 ∧ ν.1 1 (160 * k + j) = nI a
        rw [n1, wo k j hk (by omega)]; exact z3 j hj
      · rw [← z4]
        refine pText_congr (fun j hj => ?_)
        show ν.1 1 (160 * k + j) = μ.1 1 (160 * k + j)
        rw [n1, wo k j hk (by omega)]
    unfold f_X8_text f_X9_text f_X2_isFull f_X2_nextText
    rw [hL41, h5, if_neg hne, if_pos (show nI m < 6 by rw [show (6 : Int32) = nI 6 from rfl, nI_ltI (by omega) (by omega)]; omega), Option.bind_some]
    simp only []
    rw [if_pos trivial, hL41, if_neg (show ¬ (5 : Int32) < nI m by rw [show (5 : Int32) = nI 5 from rfl, i32_gtn (by omega), nI_ti (by omega)]; omega), if_pos okm, Option.bind_some]
    simp only []
    rw [nI_tn (show m < 2147483648 by omega), if_pos (show m < 7 by omega), g1', f_X9_text_14, e6, if_pos (show nI t ≤ nI t by rw [nI_leI (by omega) (by omega)]; omega), e3, if_pos okm, nI_tn (show m < 2147483648 by omega), ← hμ2]
    have e3' : μ2.1 3 0 = nI m := by rw [f2 3 (by omega) (by omega) (by omega)]; exact h5
    rw [e3']
    rw [← hcg] at hM
    cases hp : pText (σ 34) t with
    | error f =>
      rw [hp] at hC hM
      obtain ⟨σ', q1, q2, q3, q4⟩ := hC
      obtain ⟨v, μ', p1, ⟨p2, p2'⟩, p3, p4⟩ := hM
      rw [q1, p1, Option.bind_some, Option.bind_some]
      simp only []
      rw [if_neg (nI_nem1 (k := f) (by omega)), p2, if_neg one_ne, p2']
      have fC : ∀ a, (a < 35 ∨ a = 41 ∨ (43 ≤ a ∧ a < 43 + 3 * m) ∨ 64 ≤ a) → σ' a = σ a := fun a ha => q3 a (by omega) (by omega) (by omega) (by omega) (by omega) (by omega) (by omega) (by omega) (by omega)
      have fM : ∀ a, (a < 13 ∨ 28 ≤ a) → a ≠ 2 → a ≠ 6 → a ≠ 1 → μ'.1 a = μ.1 a := fun a ha a1 a2 a3 => (p3 a (by omega) (by omega) (by omega) (by omega) (by omega) (by omega) (by omega) (by omega)).trans (f2 a a1 a2 a3)
      refine ⟨_, σ', μ', rfl, rfl, m, n, r, Ts, ?_, ?_, ?_, ?_, ?_, ?_, ?_, ?_⟩
      · exact (hR.keepC (fun a ha => fC a (by omega))).eqM2 (fun a a1 a2 => fM a (by omega) (by omega) (by omega) (by omega))
      · exact ⟨by rw [fC 41 (by omega)]; exact hL.1, hL.2.1, hL.2.2.1, fun k hk => (hL.2.2.2 k hk).keep (fC _ (by omega)) (fC _ (by omega))⟩
      · refine ⟨hO.rg.eq2 (fun a a1 a2 => fM a (by omega) (by omega) (by omega) (by omega)) (fM 4 (by omega) (by omega) (by omega) (by omega)) (Nat.le_refl _) m6, hTx μ' (p3 1 (by omega) (by omega) (by omega) (by omega) (by omega) (by omega) (by omega) (by omega)) (p3 2 (by omega) (by omega) (by omega) (by omega) (by omega) (by omega) (by omega) (by omega)), ?_⟩
        intro pl hpl
        rw [p4 28 (by omega), f2J, fM 29 (by omega) (by omega) (by omega) (by omega)]
        exact hO.me pl hpl
      · rw [fM 7 (by omega) (by omega) (by omega) (by omega)]; exact h4
      · rw [fM 3 (by omega) (by omega) (by omega) (by omega)]; exact h5
      · refine ⟨0, by omega, q2, ?_, fun j hj => absurd hj (by omega)⟩
        rw [p3 6 (by omega) (by omega) (by omega) (by omega) (by omega) (by omega) (by omega) (by omega), hμ2, upm_e, if_pos rfl]
        rfl
      · exact h7.keep (fun a a1 a2 => fC a (by omega)) (fun a a1 a2 => fM a (by omega) (by omega) (by omega) (by omega)) (fun p _ => by rw [fM 9 (by omega) (by omega) (by omega) (by omega)]) (Nat.le_refl _) (Nat.le_refl _)
      · exact fun s hs => (h8 s hs).keep hs (fun a a1 a2 => fC a (by omega)) (fun a a1 a2 => fM a (by omega) (by omega) (by omega) (by omega))
    | ok q =>
      rw [hp] at hC hM
      obtain ⟨σ', q1, q2, q3, q4, q5⟩ := hC
      obtain ⟨μ', p1, p2, p3, p4⟩ := hM
      have fC : ∀ a, (a < 35 ∨ a = 41 ∨ (43 ≤ a ∧ a < 43 + 3 * m) ∨ 64 ≤ a) → σ' a = σ a := fun a ha => q3 a (by omega) (by omega) (by omega) (by omega) (by omega) (by omega) (by omega) (by omega) (by omega)
      have fM : ∀ a, (a < 13 ∨ 28 ≤ a) → a ≠ 2 → a ≠ 6 → a ≠ 1 → μ'.1 a = μ.1 a := fun a ha a1 a2 a3 => (p3 a (by omega) (by omega) (by omega) (by omega) (by omega) (by omega) (by omega) (by omega)).trans (f2 a a1 a2 a3)
      have e41 : σ' 41 0 = nI m := by rw [fC 41 (by omega)]; exact hL.1
      have e3'' : μ'.1 3 0 = nI m := by rw [fM 3 (by omega) (by omega) (by omega) (by omega)]; exact h5
      unfold f_X2_keepNext
      rw [q1, p1, Option.bind_some, Option.bind_some]
      simp only []
      rw [if_pos trivial, Option.bind_some]
      simp only []
      rw [if_pos p2, e41, e3'', nI_1, if_neg (show ¬ (6 : Int32) < nI (m + 1) by rw [show (6 : Int32) = nI 6 from rfl, i32_gtn (by omega), nI_ti (by omega)]; omega)]
      have em : nI (m + 1) - 1 = nI m := by rw [show (1 : Int32) = nI 1 from rfl, nI_sub (by omega)]; rfl
      have k41 : (up σ' 41 0 (nI (m + 1))) 41 0 = nI (m + 1) := by rw [up_s, upd_s]
      have k3 : (upm μ' 3 0 (nI (m + 1))).1 3 0 = nI (m + 1) := by rw [upm_e, if_pos rfl]
      rw [k41, k3, em]
      obtain ⟨X, hX⟩ : ∃ y, y = tT q.1 q.2.1 q.2.2 := ⟨_, rfl⟩
      have hXC : TxC σ' m X := by rw [hX]; exact TxC.mk hp q4 q5
      obtain ⟨Ts', hTs⟩ : ∃ y : Nat → Nat → List Int32, y = fun k => if k = m then X else Ts k := ⟨_, rfl⟩
      have tm : Ts' m = X := by rw [hTs]; exact if_pos rfl
      have tk : ∀ k, k < m → Ts' k = Ts k := fun k hk => by rw [hTs]; exact if_neg (by omega)
      refine ⟨_, _, _, rfl, rfl, m + 1, n, r, Ts', ?_, ?_, ?_, ?_, ?_, ?_, ?_, ?_⟩
      · exact (hR.keepC (fun a ha => by rw [up_n (by omega)]; exact fC a (by omega))).eqM2 (fun a a1 a2 => by rw [upm_n (by omega)]; exact fM a (by omega) (by omega) (by omega) (by omega))
      · refine ⟨k41, by omega, by omega, fun k hk => ?_⟩
        by_cases e : k = m
        · rw [e, tm]
          exact hXC.keep (up_n (by omega)) (up_n (by omega))
        · rw [tk k (by omega)]
          exact (hL.2.2.2 k (by omega)).keep (by rw [up_n (by omega)]; exact fC _ (by omega)) (by rw [up_n (by omega)]; exact fC _ (by omega))
      · refine ⟨hO.rg.eq2 (fun a a1 a2 => by rw [upm_n (by omega)]; exact fM a (by omega) (by omega) (by omega) (by omega)) (by rw [upm_n (by omega)]; exact fM 4 (by omega) (by omega) (by omega) (by omega)) (by omega) (by omega), ?_, ?_⟩
        · have n1 : (upm μ' 3 0 (nI (m + 1))).1 1 = μ2.1 1 := by rw [upm_n (by omega)]; exact p3 1 (by omega) (by omega) (by omega) (by omega) (by omega) (by omega) (by omega) (by omega)
          have n2 : (upm μ' 3 0 (nI (m + 1))).1 2 = μ2.1 2 := by rw [upm_n (by omega)]; exact p3 2 (by omega) (by omega) (by omega) (by omega) (by omega) (by omega) (by omega) (by omega)
          have hT := hTx (upm μ' 3 0 (nI (m + 1))) n1 n2
          refine ⟨by omega, fun k hk => ?_⟩
          by_cases e : k = m
          · subst e
            refine ⟨t, q, ?_, t1, ?_, ?_, by rw [tm, hX]⟩
            · rw [n2, w2, if_pos rfl]
            · rw [n1]; exact hb
            · rw [n1, ← hcg]; exact hp
          · rw [tk k (by omega)]
            exact hT.2 k (by omega)
        · intro pl hpl
          have e28 : (upm μ' 3 0 (nI (m + 1))).2 28 pl = μ.2 28 pl := by
            show μ'.2 28 pl = μ.2 28 pl
            rw [p4 28 (by omega), f2J]
          rw [e28, upm_n (by omega), fM 29 (by omega) (by omega) (by omega) (by omega)]
          rcases hO.me pl hpl with z | ⟨t', w', tr', nb', ni', nw', ta', ho', y1, y2, y3, y4, y5, y6, y7, y8, y9, y10⟩
          · exact Or.inl z
          · exact Or.inr ⟨t', w', tr', nb', ni', nw', ta', ho', by omega, y2, y3, y4, y5, y6, y7, y8, y9, by rw [tk t' y1]; exact y10⟩
      · rw [upm_n (by omega), fM 7 (by omega) (by omega) (by omega) (by omega)]; exact h4
      · exact k3
      · refine ⟨0, by omega, by rw [up_n (by omega)]; exact q2, ?_, fun j hj => absurd hj (by omega)⟩
        rw [upm_n (by omega), p3 6 (by omega) (by omega) (by omega) (by omega) (by omega) (by omega) (by omega) (by omega), hμ2, upm_e, if_pos rfl]
        rfl
      · exact h7.keep (fun a a1 a2 => by rw [up_n (by omega)]; exact fC a (by omega)) (fun a a1 a2 => by rw [upm_n (by omega)]; exact fM a (by omega) (by omega) (by omega) (by omega)) (fun p _ => by rw [upm_n (by omega), fM 9 (by omega) (by omega) (by omega) (by omega)]) (by omega) (Nat.le_refl _)
      · exact fun s hs => (h8 s hs).keep hs (fun a a1 a2 => by rw [up_n (by omega)]; exact fC a (by omega)) (fun a a1 a2 => by rw [upm_n (by omega)]; exact fM a (by omega) (by omega) (by omega) (by omega))
