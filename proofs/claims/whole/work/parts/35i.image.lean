/-! image, back; laid aside, laid back -/
theorem memo_fr {μ ν : Sm} {m : Nat} {Ts : Nat → Nat → List Int32} (h : MemoI μ m Ts) (h1 : ν.1 29 = μ.1 29) (h2 : ν.2 = μ.2) : MemoI ν m Ts := by
  intro pl hpl
  rw [h1, h2]
  exact h pl hpl
theorem fm_image (μ : Sm) : ∃ μ', f_X9_image μ = some (μ.1 12 0, μ') ∧ (∀ a, (a < 34 ∨ 40 ≤ a) → μ'.1 a = μ.1 a) ∧ μ'.2 = μ.2 ∧ (∀ j, j < 15 → μ'.1 34 j = μ.1 10 j) ∧ (∀ j, j < 18 → μ'.1 35 j = μ.1 11 j) ∧ μ'.1 36 0 = μ.1 12 0 ∧ μ'.1 37 0 = μ.1 7 0 ∧ μ'.1 38 0 = μ.1 8 0 ∧ μ'.1 39 0 = μ.1 4 0 := by
  obtain ⟨μ1, g1, c1, c2, c3, c4⟩ := cp_image_2 (μ0 := μ) 15 0 5000 μ (by omega) (by omega) CpJ.rf
  obtain ⟨μ2, q1, d1, d2, d3, d4⟩ := cp_image_28 (μ0 := μ1) 18 0 5000 μ1 (by omega) (by omega) CpJ.rf
  have g1' : f_X9_image_2 5000 0 μ = _ := g1
  have q1' : f_X9_image_28 5000 0 μ1 = _ := q1
  have hf : ∀ a, a ≠ 34 → a ≠ 35 → μ2.1 a = μ.1 a := fun a a1 a2 => (d1 a a2).trans (c1 a a1)
  refine ⟨upm (upm (upm (upm μ2 36 0 (μ.1 12 0)) 37 0 (μ.1 7 0)) 38 0 (μ.1 8 0)) 39 0 (μ.1 4 0), ?_, ?_, ?_, ?_, ?_, ?_, ?_, ?_, ?_⟩
  · unfold f_X9_image
    rw [g1', q1', f_X9_image_28, if_pos (show (18 : Int32) ≤ nI 18 by decide), Option.bind_some, hf 12 (by omega) (by omega)]
    have k7 : (upm μ2 36 0 (μ.1 12 0)).1 7 0 = μ.1 7 0 := by rw [upm_n (by omega), hf 7 (by omega) (by omega)]
    have k8 : (upm (upm μ2 36 0 (μ.1 12 0)) 37 0 (μ.1 7 0)).1 8 0 = μ.1 8 0 := by rw [upm_n (by omega), upm_n (by omega), hf 8 (by omega) (by omega)]
    have k4 : (upm (upm (upm μ2 36 0 (μ.1 12 0)) 37 0 (μ.1 7 0)) 38 0 (μ.1 8 0)).1 4 0 = μ.1 4 0 := by rw [upm_n (by omega), upm_n (by omega), upm_n (by omega), hf 4 (by omega) (by omega)]
    rw [k7, k8, k4]
    have k12 : (upm (upm (upm (upm μ2 36 0 (μ.1 12 0)) 37 0 (μ.1 7 0)) 38 0 (μ.1 8 0)) 39 0 (μ.1 4 0)).1 12 0 = μ.1 12 0 := by rw [upm_n (by omega), upm_n (by omega), upm_n (by omega), upm_n (by omega), hf 12 (by omega) (by omega)]
    rw [k12]
  · intro a ha
    rw [upm_n (by omega), upm_n (by omega), upm_n (by omega), upm_n (by omega)]
    exact hf a (by omega) (by omega)
  · exact d2.trans c2
  · intro j hj
    rw [upm_n (by omega), upm_n (by omega), upm_n (by omega), upm_n (by omega), d1 34 (by omega)]
    have := c3 j hj
    rw [Nat.zero_add] at this
    exact this
  · intro j hj
    rw [upm_n (by omega), upm_n (by omega), upm_n (by omega), upm_n (by omega)]
    have := d3 j hj
    rw [Nat.zero_add] at this
    rw [this, c1 11 (by omega)]
  · rw [upm_n (by omega), upm_n (by omega), upm_n (by omega), upm_e, if_pos rfl]
  · rw [upm_n (by omega), upm_n (by omega), upm_e, if_pos rfl]
  · rw [upm_n (by omega), upm_e, if_pos rfl]
  · rw [upm_e, if_pos rfl]
theorem fm_back {μ : Sm} (h : μ.1 36 0 ≠ -1) : ∃ μ', f_X9_back μ = some (μ.1 36 0, μ') ∧ (∀ a, a ≠ 4 → a ≠ 7 → a ≠ 8 → a ≠ 10 → a ≠ 11 → a ≠ 12 → μ'.1 a = μ.1 a) ∧ μ'.2 = μ.2 ∧ (∀ j, j < 15 → μ'.1 10 j = μ.1 34 j) ∧ (∀ j, j < 18 → μ'.1 11 j = μ.1 35 j) ∧ μ'.1 12 0 = μ.1 36 0 ∧ μ'.1 7 0 = μ.1 37 0 ∧ μ'.1 8 0 = μ.1 38 0 ∧ μ'.1 4 0 = μ.1 39 0 := by
  obtain ⟨μ1, g1, c1, c2, c3, c4⟩ := cp_back_13 (μ0 := μ) 15 0 5000 μ (by omega) (by omega) CpJ.rf
  obtain ⟨μ2, q1, d1, d2, d3, d4⟩ := cp_back_39 (μ0 := μ1) 18 0 5000 μ1 (by omega) (by omega) CpJ.rf
  have g1' : f_X9_back_13 5000 0 μ = _ := g1
  have q1' : f_X9_back_39 5000 0 μ1 = _ := q1
  have hf : ∀ a, a ≠ 10 → a ≠ 11 → μ2.1 a = μ.1 a := fun a a1 a2 => (d1 a a2).trans (c1 a a1)
  refine ⟨upm (upm (upm (upm μ2 12 0 (μ.1 36 0)) 7 0 (μ.1 37 0)) 8 0 (μ.1 38 0)) 4 0 (μ.1 39 0), ?_, ?_, ?_, ?_, ?_, ?_, ?_, ?_, ?_⟩
  · unfold f_X9_back
    rw [if_neg h, g1', q1', f_X9_back_39, if_pos (show (18 : Int32) ≤ nI 18 by decide), Option.bind_some, hf 36 (by omega) (by omega)]
    have k7 : (upm μ2 12 0 (μ.1 36 0)).1 37 0 = μ.1 37 0 := by rw [upm_n (by omega), hf 37 (by omega) (by omega)]
    have k8 : (upm (upm μ2 12 0 (μ.1 36 0)) 7 0 (μ.1 37 0)).1 38 0 = μ.1 38 0 := by rw [upm_n (by omega), upm_n (by omega), hf 38 (by omega) (by omega)]
    have k4 : (upm (upm (upm μ2 12 0 (μ.1 36 0)) 7 0 (μ.1 37 0)) 8 0 (μ.1 38 0)).1 39 0 = μ.1 39 0 := by rw [upm_n (by omega), upm_n (by omega), upm_n (by omega), hf 39 (by omega) (by omega)]
    rw [k7, k8, k4]
    have k12 : (upm (upm (upm (upm μ2 12 0 (μ.1 36 0)) 7 0 (μ.1 37 0)) 8 0 (μ.1 38 0)) 4 0 (μ.1 39 0)).1 12 0 = μ.1 36 0 := by rw [upm_n (by omega), upm_n (by omega), upm_n (by omega), upm_e, if_pos rfl]
    rw [k12]
  · intro a a1 a2 a3 a4 a5 a6
    rw [upm_n (by omega), upm_n (by omega), upm_n (by omega), upm_n (by omega)]
    exact hf a (by omega) (by omega)
  · exact d2.trans c2
  · intro j hj
    rw [upm_n (by omega), upm_n (by omega), upm_n (by omega), upm_n (by omega), d1 10 (by omega)]
    have := c3 j hj
    rw [Nat.zero_add] at this
    exact this
  · intro j hj
    rw [upm_n (by omega), upm_n (by omega), upm_n (by omega), upm_n (by omega)]
    have := d3 j hj
    rw [Nat.zero_add] at this
    rw [this, c1 35 (by omega)]
  · rw [upm_n (by omega), upm_n (by omega), upm_n (by omega), upm_e, if_pos rfl]
  · rw [upm_n (by omega), upm_n (by omega), upm_e, if_pos rfl]
  · rw [upm_n (by omega), upm_e, if_pos rfl]
  · rw [upm_e, if_pos rfl]
/-- laid aside -/
def Asd (μ0 μ : Sm) : Prop := (∀ a, (a < 13 ∨ 34 ≤ a) → a ≠ 7 → a ≠ 10 → a ≠ 11 → μ.1 a = μ0.1 a) ∧ (∀ j, j < 15 → μ.1 32 j = μ0.1 10 j) ∧ (∀ j, j < 18 → μ.1 32 (15 + j) = μ0.1 11 j) ∧ μ.1 32 33 = μ0.1 7 0
theorem Asd.go {μ0 μ ν : Sm} (h : Asd μ0 μ) (f : ∀ a, (a < 13 ∨ 34 ≤ a) → a ≠ 7 → a ≠ 10 → a ≠ 11 → ν.1 a = μ.1 a) (g : ν.1 32 = μ.1 32) : Asd μ0 ν := by
  obtain ⟨h1, h2, h3, h4⟩ := h
  refine ⟨fun a a1 a2 a3 a4 => (f a a1 a2 a3 a4).trans (h1 a a1 a2 a3 a4), ?_, ?_, ?_⟩
  · rw [g]; exact h2
  · rw [g]; exact h3
  · rw [g]; exact h4
theorem Asd.p {μ0 μ ν : Sm} (h : Asd μ0 μ) (f : FrP μ ν) : Asd μ0 ν := h.go (fun a a1 a2 a3 a4 => f a (by omega) a2 a3 a4) (f 32 (by omega) (by omega) (by omega) (by omega))
theorem Asd.s {μ0 μ ν : Sm} (h : Asd μ0 μ) (f : FrS μ ν) : Asd μ0 ν := h.go (fun a a1 a2 a3 a4 => f a (by omega)) (f 32 (by omega))
theorem fm_aside (μ : Sm) : ∃ μ', f_X9_laysAside μ = some μ' ∧ (∀ a, a ≠ 32 → μ'.1 a = μ.1 a) ∧ μ'.2 = μ.2 ∧ Asd μ μ' := by
  obtain ⟨μ1, g1, c1, c2, c3, c4⟩ := cp_laysAside_2 (μ0 := μ) 15 0 5000 μ (by omega) (by omega) CpJ.rf
  obtain ⟨μ2, q1, d1, d2, d3, d4⟩ := cp_laysAside_28 (μ0 := μ1) 18 0 5000 μ1 (by omega) (by omega) CpJ.rf
  have g1' : f_X9_laysAside_2 5000 0 μ = _ := g1
  have q1' : f_X9_laysAside_28 5000 0 μ1 = _ := q1
  have hf : ∀ a, a ≠ 32 → μ2.1 a = μ.1 a := fun a a1 => (d1 a a1).trans (c1 a a1)
  refine ⟨upm μ2 32 33 (μ.1 7 0), ?_, ?_, ?_, ?_, ?_, ?_, ?_⟩
  · unfold f_X9_laysAside
    rw [g1', q1', f_X9_laysAside_28, if_pos (show (18 : Int32) ≤ nI 18 by decide), hf 7 (by omega)]
    rfl
  · intro a ha
    rw [upm_n ha]; exact hf a ha
  · exact d2.trans c2
  · intro a a1 a2 a3 a4
    rw [upm_n (by omega)]; exact hf a (by omega)
  · intro j hj
    have := c3 j hj
    rw [Nat.zero_add] at this
    rw [upm_e, if_neg (by omega), d4 j (by omega), this]
  · intro j hj
    have := d3 j hj
    rw [Nat.zero_add] at this
    rw [upm_e, if_neg (by omega), this, c1 11 (by omega)]
  · rw [upm_e, if_pos rfl]
theorem fm_laidBack {μ0 μ : Sm} (h : Asd μ0 μ) : ∃ μ', f_X9_laysBack μ = some μ' ∧ FrB μ0 μ' ∧ (∀ a, a ≠ 7 → a ≠ 10 → a ≠ 11 → μ'.1 a = μ.1 a) ∧ μ'.2 = μ.2 := by
  obtain ⟨h1, h2, h3, h4⟩ := h
  obtain ⟨μ1, g1, c1, c2, c3, c4⟩ := cp_laysBack_2 (μ0 := μ) 15 0 5000 μ (by omega) (by omega) CpJ.rf
  obtain ⟨μ2, q1, d1, d2, d3, d4⟩ := cp_laysBack_28 (μ0 := μ1) 18 0 5000 μ1 (by omega) (by omega) CpJ.rf
  have g1' : f_X9_laysBack_2 5000 0 μ = _ := g1
  have q1' : f_X9_laysBack_28 5000 0 μ1 = _ := q1
  have hf : ∀ a, a ≠ 10 → a ≠ 11 → μ2.1 a = μ.1 a := fun a a1 a2 => (d1 a a2).trans (c1 a a1)
  refine ⟨upm μ2 7 0 (μ0.1 7 0), ?_, ⟨?_, ?_, ?_, ?_⟩, ?_, ?_⟩
  · unfold f_X9_laysBack
    rw [g1', q1', f_X9_laysBack_28, if_pos (show (18 : Int32) ≤ nI 18 by decide), hf 32 (by omega) (by omega)]
    have e33 : (33 : Int32).toNatClampNeg = 33 := by decide
    rw [e33, h4]
  · intro a a1 a2 a3 a4
    rw [upm_n a2, hf a a3 a4]; exact h1 a a1 a2 a3 a4
  · rw [upm_e, if_pos rfl]
  · intro j hj
    have := c3 j hj
    rw [Nat.zero_add] at this
    rw [upm_n (by omega), d1 10 (by omega), this, h2 j hj]
  · intro j hj
    have := d3 j hj
    rw [Nat.zero_add] at this
    rw [upm_n (by omega), this, c1 32 (by omega), h3 j hj]
  · intro a a1 a2 a3
    rw [upm_n a1]; exact hf a a2 a3
  · exact d2.trans c2
theorem HoR.eqM {σ : Sg} {i n r : Nat} {μ ν : Sm} (h : HoR σ i μ n r) (f : ∀ a, a < 13 → ν.1 a = μ.1 a) : HoR σ i ν n r := by
  obtain ⟨h1, h2, h3, h4, h5⟩ := h
  refine ⟨h1, ?_, ?_, ?_, ?_⟩
  · rw [f 7 (by omega)]; exact h2
  · rw [f 8 (by omega)]; exact h3
  · rw [f 9 (by omega), f 10 (by omega)]; exact h4
  · rw [f 11 (by omega)]; exact h5
theorem HoM.eqM {m n r : Nat} {Ts : Nat → Nat → List Int32} {μ ν : Sm} (h : HoM μ m n r Ts) (f : ∀ a, a < 13 → ν.1 a = μ.1 a) (hM : MemoI ν m Ts) : HoM ν m n r Ts := by
  refine ⟨⟨h.rg.n5, h.rg.m6, h.rg.rm, ?_, ?_, ?_, ?_, ?_, ?_⟩, h.tx.keep (f 1 (by omega)) (f 2 (by omega)), hM⟩
  · rw [f 12 (by omega)]; exact h.rg.hn
  · rw [f 4 (by omega)]; exact h.rg.hr
  · rw [f 7 (by omega)]; exact h.rg.ni
  · rw [f 8 (by omega)]; exact h.rg.ho
  · rw [f 9 (by omega), f 10 (by omega)]; exact h.rg.ps
  · rw [f 11 (by omega)]; exact h.rg.cs
theorem pub_image {σ : Sg} {μ : Sm} (h : Inv σ μ) : Like (f_X8_image σ) (f_X9_image μ) := by
  obtain ⟨m, n, r, Ts, hP⟩ := h
  obtain ⟨hR, hL, hO, h4, h5, h6, h7, h8⟩ := id hP
  have n5 := hO.rg.n5
  obtain ⟨σ', g1, t1, t2, t3, t4⟩ := fe_takeFrom (σ := σ) (i := 2) (j := 0) (by omega) (by omega) (by omega)
  obtain ⟨μ', q1, q2, q3, q4, q5, q6, q7, q8, q9⟩ := fm_image μ
  obtain ⟨r1, r2, r3, r4', r5⟩ := id hR
  refine ⟨μ.1 12 0, up σ' 33 0 1, μ', ?_, q1, m, n, r, Ts, ?_, ?_, ?_, ?_, ?_, ?_, ?_, ?_⟩
  · unfold f_X8_image
    rw [g1, Option.bind_some]
    have e : (up σ' 33 0 1) (11 * 2 + 3) 0 = μ.1 12 0 := by
      rw [up_n (by omega), t2 3 (by omega), r1.2.1, hO.rg.hn]
    rw [e]
  · exact (hR.keepC (fun a ha => by rw [up_n (by omega), t1 a (by omega)])).eqM (fun a ha => q2 a (by omega))
  · exact hL.keep (fun a a1 a2 a3 => by rw [up_n (by omega), t1 a (by omega)])
  · exact hO.eqM (fun a ha => q2 a (by omega)) (memo_fr hO.me (q2 29 (by omega)) q3)
  · rw [q2 7 (by omega)]; exact h4
  · rw [q2 3 (by omega)]; exact h5
  · exact h6.keep (by rw [up_n (by omega), t1 34 (by omega)]) (by rw [up_n (by omega), t1 35 (by omega)]) (q2 5 (by omega)) (q2 6 (by omega))
  · refine Or.inr ⟨by rw [up_s, upd_s], n, r, Nat.le_refl _, hO.rg.rm, ?_, ?_, ?_, ?_, ?_, ?_, ?_, ?_, ?_, ?_⟩
    · rw [q6]; exact hO.rg.hn
    · rw [q9]; exact hO.rg.hr
    · rw [up_n (by omega), show σ' 25 0 = σ (11 * 0 + 3) 0 from t2 3 (by omega)]; exact r1.2.1
    · rw [up_n (by omega), show σ' 24 0 = σ (11 * 0 + 2) 0 from t2 2 (by omega)]; exact r1.2.2.2
    · rw [up_n (by omega), show σ' 22 0 = σ (11 * 0) 0 from t2 0 (by omega), q7]; exact r2
    · rw [up_n (by omega), show σ' 23 0 = σ (11 * 0 + 1) 0 from t2 1 (by omega), q8]; exact r3
    · rw [q7]; exact h4
    · rw [q8]; exact hO.rg.ho
    · intro p hp
      obtain ⟨b1, b2, b3, b4⟩ := r4' p hp
      obtain ⟨w1, w2, w3, w4⟩ := hO.rg.ps p hp
      rw [up_n (by omega), up_n (by omega), up_n (by omega), up_n (by omega), show σ' 26 p = σ (11 * 0 + 4) p from t3 4 (by omega) (by omega) p (by omega), show σ' 27 p = σ (11 * 0 + 5) p from t3 5 (by omega) (by omega) p (by omega), show σ' 28 p = σ (11 * 0 + 6) p from t3 6 (by omega) (by omega) p (by omega), show σ' 29 p = σ (11 * 0 + 7) p from t3 7 (by omega) (by omega) p (by omega), q2 9 (by omega), q4 _ (by omega), q4 _ (by omega), q4 _ (by omega)]
      exact ⟨b1, b2, b3, b4, w2, w3, w4⟩
    · intro c hc
      obtain ⟨b1, b2, b3⟩ := r5 c hc
      obtain ⟨w1, w2, w3⟩ := hO.rg.cs c hc
      rw [up_n (by omega), up_n (by omega), up_n (by omega), show σ' 30 c = σ (11 * 0 + 8) c from t4 8 (by omega) (by omega) c hc, show σ' 31 c = σ (11 * 0 + 9) c from t4 9 (by omega) (by omega) c hc, show σ' 32 c = σ (11 * 0 + 10) c from t4 10 (by omega) (by omega) c hc, q5 _ (by omega), q5 _ (by omega), q5 _ (by omega)]
      exact ⟨b1, b2, b3, w1, w2, w3⟩
  · exact fun s hs => (h8 s hs).keep hs (fun a a1 a2 => by rw [up_n (by omega), t1 a (by omega)]) (fun a a1 a2 => q2 a (by omega))
theorem pub_back {σ : Sg} {μ : Sm} (h : Inv σ μ) : Like (f_X8_back σ) (f_X9_back μ) := by
  have hI := h
  obtain ⟨m, n, r, Ts, hP⟩ := h
  obtain ⟨hR, hL, hO, h4, h5, h6, h7, h8⟩ := id hP
  rcases id h7 with ⟨k1, k2⟩ | ⟨k1, k, q, k2, k3, k4, k5, k6, k7, k8, k9, k10, k11, k12, k13⟩
  · unfold f_X8_back f_X9_back
    rw [k1, k2, if_pos rfl, if_pos rfl]
    exact like_same hI _
  · have n5 := hO.rg.n5
    have hne : μ.1 36 0 ≠ -1 := by
      rw [k4]
      intro hc
      have := congrArg Int32.toInt hc
      rw [nI_ti (by omega)] at this
      have e : (-1 : Int32).toInt = -1 := by decide
      omega
    obtain ⟨σ', g1, t1, t2, t3, t4⟩ := fe_takeFrom (σ := σ) (i := 0) (j := 2) (by omega) (by omega) (by omega)
    obtain ⟨μ', q1, q2, q3, q4, q5, q6, q7, q8, q9⟩ := fm_back hne
    have e3 : σ' (11 * 0 + 3) 0 = nI k := by rw [t2 3 (by omega)]; exact k6
    have hC : ∀ a, 11 ≤ a → σ' a = σ a := fun a ha => t1 a (by omega)
    have hMq : ∀ a, a ≠ 4 → a ≠ 7 → a ≠ 8 → a ≠ 10 → a ≠ 11 → a ≠ 12 → μ'.1 a = μ.1 a := q2
    refine ⟨nI k, σ', μ', ?_, by rw [q1, k4], m, k, q, Ts, ?_, ?_, ?_, ?_, ?_, ?_, ?_, ?_⟩
    · unfold f_X8_back
      rw [k1, if_neg one_ne, g1, Option.bind_some, e3]
    · refine ⟨⟨by omega, e3, by omega, ?_⟩, ?_, ?_, ?_, ?_⟩
      · rw [t2 2 (by omega)]; exact k7
      · rw [show σ' (11 * 0) 0 = σ (11 * 2) 0 from t2 0 (by omega), q7]; exact k8
      · rw [t2 1 (by omega), q8]; exact k9
      · intro p hp
        obtain ⟨b1, b2, b3, b4, -⟩ := k12 p hp
        rw [t3 4 (by omega) (by omega) p (by omega), t3 5 (by omega) (by omega) p (by omega), t3 6 (by omega) (by omega) p (by omega), t3 7 (by omega) (by omega) p (by omega), q2 9 (by omega) (by omega) (by omega) (by omega) (by omega) (by omega), q4 _ (by omega), q4 _ (by omega), q4 _ (by omega)]
        exact ⟨b1, b2, b3, b4⟩
      · intro c hc
        obtain ⟨b1, b2, b3, -⟩ := k13 c hc
        rw [t4 8 (by omega) (by omega) c hc, t4 9 (by omega) (by omega) c hc, t4 10 (by omega) (by omega) c hc, q5 _ (by omega), q5 _ (by omega), q5 _ (by omega)]
        exact ⟨b1, b2, b3⟩
    · exact hL.keep (fun a a1 a2 a3 => hC a (by omega))
    · refine ⟨⟨by omega, hO.rg.m6, k3, ?_, ?_, ?_, ?_, ?_, ?_⟩, hO.tx.keep (q2 1 (by omega) (by omega) (by omega) (by omega) (by omega) (by omega)) (q2 2 (by omega) (by omega) (by omega) (by omega) (by omega) (by omega)), memo_fr hO.me (q2 29 (by omega) (by omega) (by omega) (by omega) (by omega) (by omega)) q3⟩
      · rw [q6]; exact k4
      · rw [q9]; exact k5
      · rw [q7]; exact isN_mono k10 (by omega)
      · rw [q8]; exact k11
      · intro p hp
        obtain ⟨b1, b2, b3, b4, w2, w3, w4⟩ := k12 p hp
        rw [q2 9 (by omega) (by omega) (by omega) (by omega) (by omega) (by omega), q4 _ (by omega), q4 _ (by omega), q4 _ (by omega)]
        exact ⟨(hO.rg.ps p (by omega)).1, w2, w3, w4⟩
      · intro c hc
        obtain ⟨b1, b2, b3, w1, w2, w3⟩ := k13 c hc
        rw [q5 _ (by omega), q5 _ (by omega), q5 _ (by omega)]
        exact ⟨w1, w2, w3⟩
    · rw [q7]; exact k10
    · rw [q2 3 (by omega) (by omega) (by omega) (by omega) (by omega) (by omega)]; exact h5
    · exact h6.keep (hC _ (by omega)) (hC _ (by omega)) (q2 5 (by omega) (by omega) (by omega) (by omega) (by omega) (by omega)) (q2 6 (by omega) (by omega) (by omega) (by omega) (by omega) (by omega))
    · have hk : Kp σ μ m k := Or.inr ⟨k1, k, q, Nat.le_refl _, k3, k4, k5, k6, k7, k8, k9, k10, k11, k12, k13⟩
      exact hk.keep (fun a a1 a2 => hC a (by omega)) (fun a a1 a2 => q2 a (by omega) (by omega) (by omega) (by omega) (by omega) (by omega)) (fun p _ => by rw [q2 9 (by omega) (by omega) (by omega) (by omega) (by omega) (by omega)]) (Nat.le_refl _) (Nat.le_refl _)
    · exact fun s hs => (h8 s hs).keep hs (fun a a1 a2 => hC a (by omega)) (fun a a1 a2 => q2 a (by omega) (by omega) (by omega) (by omega) (by omega) (by omega))
