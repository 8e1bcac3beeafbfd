/-! A house taken from another -/
theorem cpy_at {F G : Nat → Int32} {n k : Nat} : va_cpy F G 0 0 n k = if k < n then F k else G k := by
  unfold va_cpy
  by_cases h : k < n
  · rw [if_pos h, if_pos (by omega)]
    congr 1; omega
  · rw [if_neg h, if_neg (by omega)]
def TkF (σ σ' : Sg) (i j : Nat) : Prop := (∀ a, (a < 11 * i ∨ 11 * i + 11 ≤ a) → σ' a = σ a) ∧ (∀ k, k < 4 → σ' (11 * i + k) 0 = σ (11 * j + k) 0) ∧ (∀ k, 4 ≤ k → k < 8 → ∀ p, p < 5 → σ' (11 * i + k) p = σ (11 * j + k) p) ∧ ∀ k, 8 ≤ k → k < 11 → ∀ c, c < 6 → σ' (11 * i + k) c = σ (11 * j + k) c
/-- one number, one row taken: what stands then -/
def TkJ (σ σ' : Sg) (i j K : Nat) : Prop := (∀ a, (a < 11 * i ∨ 11 * i + 11 ≤ a) → σ' a = σ a) ∧ (∀ k, k < 4 → k < K → σ' (11 * i + k) 0 = σ (11 * j + k) 0) ∧ (∀ k, 4 ≤ k → k < 8 → k < K → ∀ p, p < 5 → σ' (11 * i + k) p = σ (11 * j + k) p) ∧ ∀ k, 8 ≤ k → k < 11 → k < K → ∀ c, c < 6 → σ' (11 * i + k) c = σ (11 * j + k) c
theorem TkJ.num {σ τ : Sg} {i j K : Nat} (hij : i ≠ j) (hi : i < 3) (hj : j < 3) (h : TkJ σ τ i j K) (hK : K < 4) : TkJ σ (up τ (11 * i + K) 0 (τ (11 * j + K) 0)) i j (K + 1) := by
  obtain ⟨h1, h2, h3, h4⟩ := h
  refine ⟨fun a ha => by rw [up_n (by omega)]; exact h1 a ha, fun k k1 k2 => ?_, fun k k1 k2 k3 => absurd k3 (by omega), fun k k1 k2 k3 => absurd k3 (by omega)⟩
  rw [h1 (11 * j + K) (by omega)]
  by_cases e : k = K
  · rw [e, up_s, upd_s]
  · rw [up_n (by omega)]; exact h2 k k1 (by omega)
theorem TkJ.one {σ τ : Sg} {i j K : Nat} (hij : i ≠ j) (hi : i < 3) (hj : j < 3) (h : TkJ σ τ i j K) (hK : 4 ≤ K) (hK2 : K < 8) : TkJ σ (upA τ (11 * i + K) (va_cpy (τ (11 * j + K)) (τ (11 * i + K)) 0 0 5)) i j (K + 1) := by
  obtain ⟨h1, h2, h3, h4⟩ := h
  refine ⟨fun a ha => by rw [upA_n (by omega)]; exact h1 a ha, fun k k1 k2 => ?_, fun k k1 k2 k3 p hp => ?_, fun k k1 k2 k3 => absurd k3 (by omega)⟩
  · rw [upA_n (by omega)]; exact h2 k k1 (by omega)
  · by_cases e : k = K
    · rw [e, upA_s, cpy_at, if_pos hp, h1 (11 * j + K) (by omega)]
    · rw [upA_n (by omega)]; exact h3 k k1 k2 (by omega) p hp
theorem TkJ.cup {σ τ : Sg} {i j K : Nat} (hij : i ≠ j) (hi : i < 3) (hj : j < 3) (h : TkJ σ τ i j K) (hK : 8 ≤ K) (hK2 : K < 11) : TkJ σ (upA τ (11 * i + K) (va_cpy (τ (11 * j + K)) (τ (11 * i + K)) 0 0 6)) i j (K + 1) := by
  obtain ⟨h1, h2, h3, h4⟩ := h
  refine ⟨fun a ha => by rw [upA_n (by omega)]; exact h1 a ha, fun k k1 k2 => ?_, fun k k1 k2 k3 p hp => ?_, fun k k1 k2 k3 p hp => ?_⟩
  · rw [upA_n (by omega)]; exact h2 k k1 (by omega)
  · rw [upA_n (by omega)]; exact h3 k k1 k2 (by omega) p hp
  · by_cases e : k = K
    · rw [e, upA_s, cpy_at, if_pos hp, h1 (11 * j + K) (by omega)]
    · rw [upA_n (by omega)]; exact h4 k k1 k2 (by omega) p hp
theorem fe_takeFrom {σ : Sg} {i j : Nat} (hij : i ≠ j) (hi : i < 3) (hj : j < 3) : ∃ σ', f_X1_takeFrom i j σ = some σ' ∧ TkF σ σ' i j := by
  have c5 : (¬ (0 : Int32) < 0 ∧ ¬ (0 : Int32) < 0 ∧ ¬ (5 : Int32) < 0 ∧ ((0 : Int32)).toNatClampNeg + ((5 : Int32)).toNatClampNeg ≤ 5 ∧ ((0 : Int32)).toNatClampNeg + ((5 : Int32)).toNatClampNeg ≤ 5) := by decide
  have c6 : (¬ (0 : Int32) < 0 ∧ ¬ (0 : Int32) < 0 ∧ ¬ (6 : Int32) < 0 ∧ ((0 : Int32)).toNatClampNeg + ((6 : Int32)).toNatClampNeg ≤ 6 ∧ ((0 : Int32)).toNatClampNeg + ((6 : Int32)).toNatClampNeg ≤ 6) := by decide
  have J0 : TkJ σ σ i j 0 := ⟨fun _ _ => rfl, fun _ _ h => absurd h (by omega), fun _ _ _ h => absurd h (by omega), fun _ _ _ h => absurd h (by omega)⟩
  have J1 := J0.num hij hi hj (by omega)
  have J2 := J1.num hij hi hj (by omega)
  have J3 := J2.num hij hi hj (by omega)
  have J4 := J3.num hij hi hj (by omega)
  have J5 := J4.one hij hi hj (by omega) (by omega)
  have J6 := J5.one hij hi hj (by omega) (by omega)
  have J7 := J6.one hij hi hj (by omega) (by omega)
  have J8 := J7.one hij hi hj (by omega) (by omega)
  have J9 := J8.cup hij hi hj (by omega) (by omega)
  have J10 := J9.cup hij hi hj (by omega) (by omega)
  have J11 := J10.cup hij hi hj (by omega) (by omega)
  refine ⟨_, ?_, ⟨J11.1, fun k hk => J11.2.1 k hk (by omega), fun k k1 k2 => J11.2.2.1 k k1 k2 (by omega), fun k k1 k2 => J11.2.2.2 k k1 k2 (by omega)⟩⟩
  unfold f_X1_takeFrom
  simp only [if_pos hi, if_pos hj, Option.bind_some, if_pos c5, if_pos c6]
  rfl
theorem TkF.R {σ σ' : Sg} {μ : Sm} {i j n r : Nat} (h : TkF σ σ' i j) (hi : i < 3) (hR : HoR σ j μ n r) : HoR σ' i μ n r := by
  obtain ⟨h1, h2, h3, h4⟩ := h
  obtain ⟨⟨r1, r2, r3, r4⟩, r5, r6, r7, r8⟩ := hR
  refine ⟨⟨hi, by rw [h2 3 (by omega)]; exact r2, r3, by rw [h2 2 (by omega)]; exact r4⟩, ?_, ?_, ?_, ?_⟩
  · rw [show σ' (11 * i) 0 = σ (11 * j) 0 from h2 0 (by omega)]; exact r5
  · rw [h2 1 (by omega)]; exact r6
  · intro p hp
    rw [h3 4 (by omega) (by omega) p (by omega), h3 5 (by omega) (by omega) p (by omega), h3 6 (by omega) (by omega) p (by omega), h3 7 (by omega) (by omega) p (by omega)]
    exact r7 p hp
  · intro c hc
    rw [h4 8 (by omega) (by omega) c hc, h4 9 (by omega) (by omega) c hc, h4 10 (by omega) (by omega) c hc]
    exact r8 c hc
