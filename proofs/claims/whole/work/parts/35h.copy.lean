/-! Rows copied, in the reference -/
def CpJ (μ0 μ : Sm) (d o s q K : Nat) : Prop := (∀ a, a ≠ d → μ.1 a = μ0.1 a) ∧ μ.2 = μ0.2 ∧ (∀ j, j < K → μ.1 d (o + j) = μ0.1 s (q + j)) ∧ ∀ j, (j < o ∨ o + K ≤ j) → μ.1 d j = μ0.1 d j
theorem CpJ.rf {μ : Sm} {d o s q : Nat} : CpJ μ μ d o s q 0 := ⟨fun _ _ => rfl, rfl, fun _ h => absurd h (by omega), fun _ _ => rfl⟩
theorem CpJ.step {μ0 μ : Sm} {d o s q K : Nat} (h : CpJ μ0 μ d o s q K) (hs : s ≠ d) : CpJ μ0 (upm μ d (o + K) (μ.1 s (q + K))) d o s q (K + 1) := by
  obtain ⟨h1, h2, h3, h4⟩ := h
  refine ⟨fun a ha => by rw [upm_n ha]; exact h1 a ha, h2, fun j hj => ?_, fun j hj => ?_⟩
  · rw [upm_e, h1 s hs]
    by_cases e : j = K
    · rw [if_pos (by omega), e]
    · rw [if_neg (by omega)]; exact h3 j (by omega)
  · rw [upm_e, if_neg (by omega)]; exact h4 j (by omega)
theorem ix15 (k : Nat) : (15 : Int32) + nI k = nI (15 + k) := by rw [show (15 : Int32) = nI 15 from rfl, nI_add]
theorem cp_image_28 {μ0 : Sm} : ∀ (e K k : Nat) (μ : Sm), K + e = 18 → e < k → CpJ μ0 μ 35 0 11 0 K → ∃ μ', f_X9_image_28 k (nI K) μ = f_X9_image_28 1 (nI 18) μ' ∧ CpJ μ0 μ' 35 0 11 0 18 := by
  intro e
  induction e with
  | zero =>
    intro K k μ hK hk hJ
    obtain ⟨k, rfl⟩ : ∃ q, k = q + 1 := ⟨k - 1, by omega⟩
    have eK : K = 18 := by omega
    subst eK
    refine ⟨μ, ?_, hJ⟩
    rw [f_X9_image_28, f_X9_image_28, if_pos (show (18 : Int32) ≤ nI 18 by decide), if_pos (show (18 : Int32) ≤ nI 18 by decide)]
  | succ e ih =>
    intro K k μ hK hk hJ
    obtain ⟨k, rfl⟩ : ∃ q, k = q + 1 := ⟨k - 1, by omega⟩
    have i1 : okI (nI (0 + K)) 18 := okI_nI (by omega) (by omega)
    have i2 : okI (nI (0 + K)) 18 := okI_nI (by omega) (by omega)
    have i0 : okI (nI K) 18 := okI_nI (by omega) (by omega)
    have z0 : 0 + K = K := by omega
    simp only [z0] at i1 i2
    have key := ih (K + 1) k _ (by omega) (by omega) (hJ.step (by decide))
    simp only [z0] at key
    rw [f_X9_image_28, if_neg (show ¬ (18 : Int32) ≤ nI K by rw [show (18 : Int32) = nI 18 from rfl, nI_leI (by omega) (by omega)]; omega), if_pos i1, if_pos i2, nI_1, nI_tn (show K < 2147483648 by omega)]
    exact key
theorem cp_image_2 {μ0 : Sm} : ∀ (e K k : Nat) (μ : Sm), K + e = 15 → e < k → CpJ μ0 μ 34 0 10 0 K → ∃ μ', f_X9_image_2 k (nI K) μ = f_X9_image_28 5000 0 μ' ∧ CpJ μ0 μ' 34 0 10 0 15 := by
  intro e
  induction e with
  | zero =>
    intro K k μ hK hk hJ
    obtain ⟨k, rfl⟩ : ∃ q, k = q + 1 := ⟨k - 1, by omega⟩
    have eK : K = 15 := by omega
    subst eK
    refine ⟨μ, ?_, hJ⟩
    rw [f_X9_image_2, if_pos (show (15 : Int32) ≤ nI 15 by decide)]
  | succ e ih =>
    intro K k μ hK hk hJ
    obtain ⟨k, rfl⟩ : ∃ q, k = q + 1 := ⟨k - 1, by omega⟩
    have i1 : okI (nI (0 + K)) 15 := okI_nI (by omega) (by omega)
    have i2 : okI (nI (0 + K)) 15 := okI_nI (by omega) (by omega)
    have i0 : okI (nI K) 15 := okI_nI (by omega) (by omega)
    have z0 : 0 + K = K := by omega
    simp only [z0] at i1 i2
    have key := ih (K + 1) k _ (by omega) (by omega) (hJ.step (by decide))
    simp only [z0] at key
    rw [f_X9_image_2, if_neg (show ¬ (15 : Int32) ≤ nI K by rw [show (15 : Int32) = nI 15 from rfl, nI_leI (by omega) (by omega)]; omega), if_pos i1, if_pos i2, nI_1, nI_tn (show K < 2147483648 by omega)]
    exact key
theorem cp_back_39 {μ0 : Sm} : ∀ (e K k : Nat) (μ : Sm), K + e = 18 → e < k → CpJ μ0 μ 11 0 35 0 K → ∃ μ', f_X9_back_39 k (nI K) μ = f_X9_back_39 1 (nI 18) μ' ∧ CpJ μ0 μ' 11 0 35 0 18 := by
  intro e
  induction e with
  | zero =>
    intro K k μ hK hk hJ
    obtain ⟨k, rfl⟩ : ∃ q, k = q + 1 := ⟨k - 1, by omega⟩
    have eK : K = 18 := by omega
    subst eK
    refine ⟨μ, ?_, hJ⟩
    rw [f_X9_back_39, f_X9_back_39, if_pos (show (18 : Int32) ≤ nI 18 by decide), if_pos (show (18 : Int32) ≤ nI 18 by decide)]
  | succ e ih =>
    intro K k μ hK hk hJ
    obtain ⟨k, rfl⟩ : ∃ q, k = q + 1 := ⟨k - 1, by omega⟩
    have i1 : okI (nI (0 + K)) 18 := okI_nI (by omega) (by omega)
    have i2 : okI (nI (0 + K)) 18 := okI_nI (by omega) (by omega)
    have i0 : okI (nI K) 18 := okI_nI (by omega) (by omega)
    have z0 : 0 + K = K := by omega
    simp only [z0] at i1 i2
    have key := ih (K + 1) k _ (by omega) (by omega) (hJ.step (by decide))
    simp only [z0] at key
    rw [f_X9_back_39, if_neg (show ¬ (18 : Int32) ≤ nI K by rw [show (18 : Int32) = nI 18 from rfl, nI_leI (by omega) (by omega)]; omega), if_pos i1, if_pos i2, nI_1, nI_tn (show K < 2147483648 by omega)]
    exact key
theorem cp_back_13 {μ0 : Sm} : ∀ (e K k : Nat) (μ : Sm), K + e = 15 → e < k → CpJ μ0 μ 10 0 34 0 K → ∃ μ', f_X9_back_13 k (nI K) μ = f_X9_back_39 5000 0 μ' ∧ CpJ μ0 μ' 10 0 34 0 15 := by
  intro e
  induction e with
  | zero =>
    intro K k μ hK hk hJ
    obtain ⟨k, rfl⟩ : ∃ q, k = q + 1 := ⟨k - 1, by omega⟩
    have eK : K = 15 := by omega
    subst eK
    refine ⟨μ, ?_, hJ⟩
    rw [f_X9_back_13, if_pos (show (15 : Int32) ≤ nI 15 by decide)]
  | succ e ih =>
    intro K k μ hK hk hJ
    obtain ⟨k, rfl⟩ : ∃ q, k = q + 1 := ⟨k - 1, by omega⟩
    have i1 : okI (nI (0 + K)) 15 := okI_nI (by omega) (by omega)
    have i2 : okI (nI (0 + K)) 15 := okI_nI (by omega) (by omega)
    have i0 : okI (nI K) 15 := okI_nI (by omega) (by omega)
    have z0 : 0 + K = K := by omega
    simp only [z0] at i1 i2
    have key := ih (K + 1) k _ (by omega) (by omega) (hJ.step (by decide))
    simp only [z0] at key
    rw [f_X9_back_13, if_neg (show ¬ (15 : Int32) ≤ nI K by rw [show (15 : Int32) = nI 15 from rfl, nI_leI (by omega) (by omega)]; omega), if_pos i1, if_pos i2, nI_1, nI_tn (show K < 2147483648 by omega)]
    exact key
theorem cp_laysAside_28 {μ0 : Sm} : ∀ (e K k : Nat) (μ : Sm), K + e = 18 → e < k → CpJ μ0 μ 32 15 11 0 K → ∃ μ', f_X9_laysAside_28 k (nI K) μ = f_X9_laysAside_28 1 (nI 18) μ' ∧ CpJ μ0 μ' 32 15 11 0 18 := by
  intro e
  induction e with
  | zero =>
    intro K k μ hK hk hJ
    obtain ⟨k, rfl⟩ : ∃ q, k = q + 1 := ⟨k - 1, by omega⟩
    have eK : K = 18 := by omega
    subst eK
    refine ⟨μ, ?_, hJ⟩
    rw [f_X9_laysAside_28, f_X9_laysAside_28, if_pos (show (18 : Int32) ≤ nI 18 by decide), if_pos (show (18 : Int32) ≤ nI 18 by decide)]
  | succ e ih =>
    intro K k μ hK hk hJ
    obtain ⟨k, rfl⟩ : ∃ q, k = q + 1 := ⟨k - 1, by omega⟩
    have i1 : okI (nI (0 + K)) 18 := okI_nI (by omega) (by omega)
    have i2 : okI (nI (15 + K)) 34 := okI_nI (by omega) (by omega)
    have i0 : okI (nI K) 18 := okI_nI (by omega) (by omega)
    have z0 : 0 + K = K := by omega
    simp only [z0] at i1 i2
    have key := ih (K + 1) k _ (by omega) (by omega) (hJ.step (by decide))
    simp only [z0] at key
    rw [f_X9_laysAside_28, if_neg (show ¬ (18 : Int32) ≤ nI K by rw [show (18 : Int32) = nI 18 from rfl, nI_leI (by omega) (by omega)]; omega), ix15, if_pos i1, if_pos i2, nI_1, nI_tn (show K < 2147483648 by omega), nI_tn (show 15 + K < 2147483648 by omega)]
    exact key
theorem cp_laysAside_2 {μ0 : Sm} : ∀ (e K k : Nat) (μ : Sm), K + e = 15 → e < k → CpJ μ0 μ 32 0 10 0 K → ∃ μ', f_X9_laysAside_2 k (nI K) μ = f_X9_laysAside_28 5000 0 μ' ∧ CpJ μ0 μ' 32 0 10 0 15 := by
  intro e
  induction e with
  | zero =>
    intro K k μ hK hk hJ
    obtain ⟨k, rfl⟩ : ∃ q, k = q + 1 := ⟨k - 1, by omega⟩
    have eK : K = 15 := by omega
    subst eK
    refine ⟨μ, ?_, hJ⟩
    rw [f_X9_laysAside_2, if_pos (show (15 : Int32) ≤ nI 15 by decide)]
  | succ e ih =>
    intro K k μ hK hk hJ
    obtain ⟨k, rfl⟩ : ∃ q, k = q + 1 := ⟨k - 1, by omega⟩
    have i1 : okI (nI (0 + K)) 15 := okI_nI (by omega) (by omega)
    have i2 : okI (nI (0 + K)) 34 := okI_nI (by omega) (by omega)
    have i0 : okI (nI K) 15 := okI_nI (by omega) (by omega)
    have z0 : 0 + K = K := by omega
    simp only [z0] at i1 i2
    have key := ih (K + 1) k _ (by omega) (by omega) (hJ.step (by decide))
    simp only [z0] at key
    rw [f_X9_laysAside_2, if_neg (show ¬ (15 : Int32) ≤ nI K by rw [show (15 : Int32) = nI 15 from rfl, nI_leI (by omega) (by omega)]; omega), if_pos i1, if_pos i2, nI_1, nI_tn (show K < 2147483648 by omega)]
    exact key
theorem cp_laysBack_28 {μ0 : Sm} : ∀ (e K k : Nat) (μ : Sm), K + e = 18 → e < k → CpJ μ0 μ 11 0 32 15 K → ∃ μ', f_X9_laysBack_28 k (nI K) μ = f_X9_laysBack_28 1 (nI 18) μ' ∧ CpJ μ0 μ' 11 0 32 15 18 := by
  intro e
  induction e with
  | zero =>
    intro K k μ hK hk hJ
    obtain ⟨k, rfl⟩ : ∃ q, k = q + 1 := ⟨k - 1, by omega⟩
    have eK : K = 18 := by omega
    subst eK
    refine ⟨μ, ?_, hJ⟩
    rw [f_X9_laysBack_28, f_X9_laysBack_28, if_pos (show (18 : Int32) ≤ nI 18 by decide), if_pos (show (18 : Int32) ≤ nI 18 by decide)]
  | succ e ih =>
    intro K k μ hK hk hJ
    obtain ⟨k, rfl⟩ : ∃ q, k = q + 1 := ⟨k - 1, by omega⟩
    have i1 : okI (nI (15 + K)) 34 := okI_nI (by omega) (by omega)
    have i2 : okI (nI (0 + K)) 18 := okI_nI (by omega) (by omega)
    have i0 : okI (nI K) 18 := okI_nI (by omega) (by omega)
    have z0 : 0 + K = K := by omega
    simp only [z0] at i1 i2
    have key := ih (K + 1) k _ (by omega) (by omega) (hJ.step (by decide))
    simp only [z0] at key
    rw [f_X9_laysBack_28, if_neg (show ¬ (18 : Int32) ≤ nI K by rw [show (18 : Int32) = nI 18 from rfl, nI_leI (by omega) (by omega)]; omega), ix15, if_pos i1, if_pos i2, nI_1, nI_tn (show K < 2147483648 by omega), nI_tn (show 15 + K < 2147483648 by omega)]
    exact key
theorem cp_laysBack_2 {μ0 : Sm} : ∀ (e K k : Nat) (μ : Sm), K + e = 15 → e < k → CpJ μ0 μ 10 0 32 0 K → ∃ μ', f_X9_laysBack_2 k (nI K) μ = f_X9_laysBack_28 5000 0 μ' ∧ CpJ μ0 μ' 10 0 32 0 15 := by
  intro e
  induction e with
  | zero =>
    intro K k μ hK hk hJ
    obtain ⟨k, rfl⟩ : ∃ q, k = q + 1 := ⟨k - 1, by omega⟩
    have eK : K = 15 := by omega
    subst eK
    refine ⟨μ, ?_, hJ⟩
    rw [f_X9_laysBack_2, if_pos (show (15 : Int32) ≤ nI 15 by decide)]
  | succ e ih =>
    intro K k μ hK hk hJ
    obtain ⟨k, rfl⟩ : ∃ q, k = q + 1 := ⟨k - 1, by omega⟩
    have i1 : okI (nI (0 + K)) 34 := okI_nI (by omega) (by omega)
    have i2 : okI (nI (0 + K)) 15 := okI_nI (by omega) (by omega)
    have i0 : okI (nI K) 15 := okI_nI (by omega) (by omega)
    have z0 : 0 + K = K := by omega
    simp only [z0] at i1 i2
    have key := ih (K + 1) k _ (by omega) (by omega) (hJ.step (by decide))
    simp only [z0] at key
    rw [f_X9_laysBack_2, if_neg (show ¬ (15 : Int32) ≤ nI K by rw [show (15 : Int32) = nI 15 from rfl, nI_leI (by omega) (by omega)]; omega), if_pos i1, if_pos i2, nI_1, nI_tn (show K < 2147483648 by omega)]
    exact key
