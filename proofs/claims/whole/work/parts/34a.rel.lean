/-! Class and reference beside each other -/
/-- house i of the class is the reference's -/
def HoR (σ : Sg) (i : Nat) (μ : Sm) (n r : Nat) : Prop :=
  HsC σ i n r ∧ σ (11 * i) 0 = μ.1 7 0 ∧ σ (11 * i + 1) 0 = μ.1 8 0 ∧
  (∀ p, p < n → σ (11 * i + 4) p = μ.1 9 p ∧ σ (11 * i + 5) p = μ.1 10 (3 * p) ∧ σ (11 * i + 6) p = μ.1 10 (3 * p + 1) ∧ σ (11 * i + 7) p = μ.1 10 (3 * p + 2)) ∧
  ∀ c, c < 6 → σ (11 * i + 8) c = μ.1 11 (3 * c) ∧ σ (11 * i + 9) c = μ.1 11 (3 * c + 1) ∧ σ (11 * i + 10) c = μ.1 11 (3 * c + 2)
/-- what is kept of a house -/
def Kp (σ : Sg) (μ : Sm) (m n : Nat) : Prop := (σ 33 0 = 0 ∧ μ.1 36 0 = -1) ∨ (σ 33 0 = 1 ∧ ∃ k q, k ≤ n ∧ q < m ∧ μ.1 36 0 = nI k ∧ μ.1 39 0 = nI q ∧ σ 25 0 = nI k ∧ σ 24 0 = nI q ∧ σ 22 0 = μ.1 37 0 ∧ σ 23 0 = μ.1 38 0 ∧ isN (μ.1 37 0) 1000 ∧ isN (μ.1 38 0) 24 ∧
  (∀ p, p < k → σ 26 p = μ.1 9 p ∧ σ 27 p = μ.1 34 (3 * p) ∧ σ 28 p = μ.1 34 (3 * p + 1) ∧ σ 29 p = μ.1 34 (3 * p + 2) ∧ isN (μ.1 34 (3 * p)) 10 ∧ isN (μ.1 34 (3 * p + 1)) 100 ∧ isN (μ.1 34 (3 * p + 2)) 100) ∧
  ∀ c, c < 6 → σ 30 c = μ.1 35 (3 * c) ∧ σ 31 c = μ.1 35 (3 * c + 1) ∧ σ 32 c = μ.1 35 (3 * c + 2) ∧ isN (μ.1 35 (3 * c)) 100 ∧ isN (μ.1 35 (3 * c + 1)) 10 ∧ isN (μ.1 35 (3 * c + 2)) 100)
/-- a sheet -/
def ShR (σ : Sg) (μ : Sm) (s : Nat) : Prop := (σ (73 + 3 * s) 0 = -1 ∧ μ.1 40 s = 0) ∨ ∃ so z, so < 3 ∧ z ≤ 40 ∧ σ (73 + 3 * s) 0 = nI so ∧ μ.1 40 s = 1 ∧ μ.1 41 s = nI so ∧ σ (74 + 3 * s) 0 = nI z ∧ μ.1 42 s = nI z ∧ ∀ j, j < z → σ (75 + 3 * s) j = μ.1 43 (40 * s + j)
/-- the tape -/
def Tp (σ : Sg) (μ : Sm) : Prop := ∃ t, t ≤ 160 ∧ σ 35 0 = nI t ∧ μ.1 6 0 = nI t ∧ ∀ j, j < t → σ 34 j = μ.1 5 j ∧ isN (μ.1 5 j) 256
def InvP (σ : Sg) (μ : Sm) (m n r : Nat) (Ts : Nat → Nat → List Int32) : Prop :=
  HoR σ 0 μ n r ∧ LawC σ m Ts ∧ HoM μ m n r Ts ∧ isN (μ.1 7 0) 1000 ∧ μ.1 3 0 = nI m ∧ Tp σ μ ∧ Kp σ μ m n ∧ ∀ s, s < 4 → ShR σ μ s
def Inv (σ : Sg) (μ : Sm) : Prop := ∃ m n r Ts, InvP σ μ m n r Ts
/-- the same answer, and all holds again -/
def Like (a : Option (Int32 × Sg)) (b : Option (Int32 × Sm)) : Prop := ∃ v σ' μ', a = some (v, σ') ∧ b = some (v, μ') ∧ Inv σ' μ'
/-- what no thought touches, in the class -/
def FrT (σ σ' : Sg) : Prop := ∀ a, (a < 11 ∨ (22 ≤ a ∧ a < 36) ∨ a = 41 ∨ (43 ≤ a ∧ a < 64) ∨ 73 ≤ a) → σ' a = σ a
theorem FrT.rf {σ : Sg} : FrT σ σ := fun _ _ => rfl
theorem FrT.tr {σ τ υ : Sg} (h1 : FrT σ τ) (h2 : FrT τ υ) : FrT σ υ := fun a h => (h2 a h).trans (h1 a h)
/-- what no thought leaves otherwise, in the reference -/
def FrB (μ μ' : Sm) : Prop := (∀ a, (a < 13 ∨ 34 ≤ a) → a ≠ 7 → a ≠ 10 → a ≠ 11 → μ'.1 a = μ.1 a) ∧ μ'.1 7 0 = μ.1 7 0 ∧ (∀ j, j < 15 → μ'.1 10 j = μ.1 10 j) ∧ ∀ j, j < 18 → μ'.1 11 j = μ.1 11 j
theorem FrB.rf {μ : Sm} : FrB μ μ := ⟨fun _ _ _ _ _ => rfl, rfl, fun _ _ => rfl, fun _ _ => rfl⟩
theorem FrB.tr {μ ν ξ : Sm} (h1 : FrB μ ν) (h2 : FrB ν ξ) : FrB μ ξ := ⟨fun a a1 a2 a3 a4 => (h2.1 a a1 a2 a3 a4).trans (h1.1 a a1 a2 a3 a4), h2.2.1.trans h1.2.1, fun j hj => (h2.2.2.1 j hj).trans (h1.2.2.1 j hj), fun j hj => (h2.2.2.2 j hj).trans (h1.2.2.2 j hj)⟩
theorem FrS.b {μ ν : Sm} (h : FrS μ ν) : FrB μ ν := ⟨fun a a1 _ _ _ => h a (by omega), by rw [h 7 (by omega)], fun j _ => by rw [h 10 (by omega)], fun j _ => by rw [h 11 (by omega)]⟩
theorem FrB.rg {μ ν : Sm} {m n r : Nat} (f : FrB μ ν) (h : RgM μ m n r) : RgM ν m n r := by
  obtain ⟨f1, f2, f3, f4⟩ := f
  have n5 := h.n5
  refine ⟨h.n5, h.m6, h.rm, ?_, ?_, ?_, ?_, ?_, ?_⟩
  · rw [f1 12 (by omega) (by omega) (by omega) (by omega)]; exact h.hn
  · rw [f1 4 (by omega) (by omega) (by omega) (by omega)]; exact h.hr
  · rw [f2]; exact h.ni
  · rw [f1 8 (by omega) (by omega) (by omega) (by omega)]; exact h.ho
  · intro p hp
    rw [f1 9 (by omega) (by omega) (by omega) (by omega), f3 _ (by omega), f3 _ (by omega), f3 _ (by omega)]
    exact h.ps p hp
  · intro c hc
    rw [f4 _ (by omega), f4 _ (by omega), f4 _ (by omega)]
    exact h.cs c hc
theorem FrB.ho {μ ν : Sm} {m n r : Nat} {Ts : Nat → Nat → List Int32} (f : FrB μ ν) (h : HoM μ m n r Ts) (hM : MemoI ν m Ts) : HoM ν m n r Ts :=
  ⟨f.rg h.rg, h.tx.keep (f.1 1 (by omega) (by omega) (by omega) (by omega)) (f.1 2 (by omega) (by omega) (by omega) (by omega)), hM⟩
theorem HsC.tl {σ σ' : Sg} {i n r : Nat} (h : HsC σ i n r) (f : FrT σ σ') (hi : i = 0 ∨ i = 2) : HsC σ' i n r := h.keep (f _ (by omega)) (f _ (by omega))
theorem HoR.keepM {σ : Sg} {i n r : Nat} {μ ν : Sm} (h : HoR σ i μ n r) (g : FrB μ ν) : HoR σ i ν n r := by
  obtain ⟨h1, h2, h3, h4, h5⟩ := h
  obtain ⟨g1, g2, g3, g4⟩ := g
  have n5 := h1.2.2.1
  refine ⟨h1, ?_, ?_, ?_, ?_⟩
  · rw [g2]; exact h2
  · rw [g1 8 (by omega) (by omega) (by omega) (by omega)]; exact h3
  · intro p hp
    rw [g1 9 (by omega) (by omega) (by omega) (by omega), g3 _ (by omega), g3 _ (by omega), g3 _ (by omega)]
    exact h4 p hp
  · intro c hc
    rw [g4 _ (by omega), g4 _ (by omega), g4 _ (by omega)]
    exact h5 c hc
theorem HoR.keepC {σ σ' : Sg} {n r : Nat} {μ : Sm} (h : HoR σ 0 μ n r) (f : ∀ a, a < 11 → σ' a = σ a) : HoR σ' 0 μ n r := by
  obtain ⟨h1, h2, h3, h4, h5⟩ := h
  refine ⟨h1.keep (f _ (by omega)) (f _ (by omega)), ?_, ?_, ?_, ?_⟩
  · rw [f _ (by omega)]; exact h2
  · rw [f _ (by omega)]; exact h3
  · rw [f (11 * 0 + 4) (by omega), f (11 * 0 + 5) (by omega), f (11 * 0 + 6) (by omega), f (11 * 0 + 7) (by omega)]; exact h4
  · rw [f (11 * 0 + 8) (by omega), f (11 * 0 + 9) (by omega), f (11 * 0 + 10) (by omega)]; exact h5
theorem Kp.keep {σ σ' : Sg} {μ ν : Sm} {m n m' n' : Nat} (h : Kp σ μ m n) (f : ∀ a, 22 ≤ a → a < 34 → σ' a = σ a) (g : ∀ a, 34 ≤ a → a < 40 → ν.1 a = μ.1 a) (h9 : ∀ p, p < n → ν.1 9 p = μ.1 9 p) (hm : m ≤ m') (hn : n ≤ n') : Kp σ' ν m' n' := by
  unfold Kp at *
  rw [f 33 (by omega) (by omega), f 25 (by omega) (by omega), f 24 (by omega) (by omega), f 22 (by omega) (by omega), f 23 (by omega) (by omega), f 26 (by omega) (by omega), f 27 (by omega) (by omega), f 28 (by omega) (by omega), f 29 (by omega) (by omega), f 30 (by omega) (by omega), f 31 (by omega) (by omega), f 32 (by omega) (by omega), g 34 (by omega) (by omega), g 35 (by omega) (by omega), g 36 (by omega) (by omega), g 37 (by omega) (by omega), g 38 (by omega) (by omega), g 39 (by omega) (by omega)]
  rcases h with h | ⟨h1, k, q, h2, h3, h4, h5, h6, h7, h8, h10, h11, h12, h13, h14⟩
  · exact Or.inl h
  · refine Or.inr ⟨h1, k, q, by omega, by omega, h4, h5, h6, h7, h8, h10, h11, h12, fun p hp => ?_, h14⟩
    rw [h9 p (by omega)]
    exact h13 p hp
theorem ShR.keep {σ σ' : Sg} {μ ν : Sm} {s : Nat} (h : ShR σ μ s) (hs : s < 4) (f : ∀ a, 73 + 3 * s ≤ a → a < 76 + 3 * s → σ' a = σ a) (g : ∀ a, 40 ≤ a → a < 44 → ν.1 a = μ.1 a) : ShR σ' ν s := by
  unfold ShR at *
  rw [f (73 + 3 * s) (by omega) (by omega), f (74 + 3 * s) (by omega) (by omega), f (75 + 3 * s) (by omega) (by omega), g 40 (by omega) (by omega), g 41 (by omega) (by omega), g 42 (by omega) (by omega), g 43 (by omega) (by omega)]
  exact h
theorem Tp.keep {σ σ' : Sg} {μ ν : Sm} (h : Tp σ μ) (f4 : σ' 34 = σ 34) (f5 : σ' 35 = σ 35) (g5 : ν.1 5 = μ.1 5) (g6 : ν.1 6 = μ.1 6) : Tp σ' ν := by
  unfold Tp at *
  rw [f4, f5, g5, g6]
  exact h
/-- a thought changes nothing -/
theorem InvP.think {σ σ' : Sg} {μ ν : Sm} {m n r : Nat} {Ts : Nat → Nat → List Int32} (h : InvP σ μ m n r Ts) (f : FrT σ σ') (g : FrB μ ν) (hM : MemoI ν m Ts) : InvP σ' ν m n r Ts := by
  obtain ⟨h1, h2, h3, h4, h5, h6, h7, h8⟩ := h
  refine ⟨(h1.keepC (fun a ha => f a (by omega))).keepM g, h2.keep (fun a a1 a2 a3 => f a (by omega)), g.ho h3 hM, ?_, ?_, ?_, ?_, ?_⟩
  · rw [g.2.1]; exact h4
  · rw [g.1 3 (by omega) (by omega) (by omega) (by omega)]; exact h5
  · exact h6.keep (f _ (by omega)) (f _ (by omega)) (g.1 5 (by omega) (by omega) (by omega) (by omega)) (g.1 6 (by omega) (by omega) (by omega) (by omega))
  · exact h7.keep (fun a a1 a2 => f a (by omega)) (fun a a1 a2 => g.1 a (by omega) (by omega) (by omega) (by omega)) (fun p _ => by rw [g.1 9 (by omega) (by omega) (by omega) (by omega)]) (Nat.le_refl _) (Nat.le_refl _)
  · exact fun s hs => (h8 s hs).keep hs (fun a a1 a2 => f a (by omega)) (fun a a1 a2 => g.1 a (by omega) (by omega) (by omega) (by omega))
theorem InvP.inv {σ : Sg} {μ : Sm} {m n r : Nat} {Ts : Nat → Nat → List Int32} (h : InvP σ μ m n r Ts) : Inv σ μ := ⟨m, n, r, Ts, h⟩
/-! what is asked of a number -/
theorem l32_ti (v : Int32) : v.toInt64.toInt = v.toInt := Int32.toInt_toInt64 v
theorem f_in (v lo hi : Int64) (μ : Sm) : f_X9_in v lo hi μ = some (if lo.toInt ≤ v.toInt ∧ v.toInt ≤ hi.toInt then 1 else 0, μ) := by
  unfold f_X9_in
  by_cases h1 : v.toInt < lo.toInt
  · rw [if_pos (lg_neg.mpr h1), if_neg (by omega)]
  · rw [if_neg (fun h => h1 (lg_neg.mp h))]
    by_cases h2 : hi.toInt < v.toInt
    · rw [if_pos (lg_pos.mpr h2), if_neg (by omega)]
    · rw [if_neg (fun h => h2 (lg_pos.mp h)), if_pos (by omega)]
theorem b01_or {c : Prop} [Decidable c] : ((if c then (1 : Int32) else 0) = 0 ∨ (if c then (1 : Int32) else 0) = 1) := by
  by_cases h : c
  · rw [if_pos h]; exact Or.inr rfl
  · rw [if_neg h]; exact Or.inl rfl
theorem fm_isCup (x : Int32) (μ : Sm) : f_X9_isCup x μ = some (if 0 ≤ x.toInt ∧ x.toInt < 6 then 1 else 0, μ) := by
  unfold f_X9_isCup
  have e0 : (0 : Int64).toInt = 0 := by decide
  have e5 : (5 : Int64).toInt = 5 := by decide
  rw [f_in, Option.bind_some, if_pos b01_or, l32_ti, e0, e5]
  by_cases h : 0 ≤ x.toInt ∧ x.toInt < 6
  · rw [if_pos h, if_pos (by omega)]
  · rw [if_neg h, if_neg (by omega)]
theorem fm_isOne {μ : Sm} {n : Nat} (hn : μ.1 12 0 = nI n) (hn5 : n ≤ 5) (x : Int32) : f_X9_isOne x μ = some (if 0 ≤ x.toInt ∧ x.toInt < n then 1 else 0, μ) := by
  unfold f_X9_isOne
  have e0 : (0 : Int64).toInt = 0 := by decide
  have e1 : (1 : Int32).toInt = 1 := by decide
  have en : (nI n - 1).toInt = (n : Int) - 1 := by rw [i32_sub (by rw [nI_ti (by omega), e1]; omega) (by rw [nI_ti (by omega), e1]; omega), nI_ti (by omega), e1]
  rw [f_in, Option.bind_some, if_pos b01_or, l32_ti, l32_ti, e0, hn, en]
  by_cases h : 0 ≤ x.toInt ∧ x.toInt < n
  · rw [if_pos h, if_pos (by omega)]
  · rw [if_neg h, if_neg (by omega)]
theorem fe_isCup (x : Int32) (σ : Sg) : f_X8_isCup x σ = some (if 0 ≤ x.toInt ∧ x.toInt < 6 then 1 else 0, σ) := by
  unfold f_X8_isCup
  have e0 : (0 : Int32).toInt = 0 := by decide
  have e6 : (6 : Int32).toInt = 6 := by decide
  by_cases h : 0 ≤ x.toInt ∧ x.toInt < 6
  · rw [if_pos h, if_neg (by rw [i32_lt, e0]; omega), if_neg (by rw [i32_le, e6]; omega)]
  · rw [if_neg h]
    by_cases h1 : x < 0
    · rw [if_pos h1]
    · rw [if_neg h1, if_pos (by rw [i32_lt, e0] at h1; rw [i32_le, e6]; omega)]
theorem fe_lodgesI {σ : Sg} {i n r : Nat} (h : HsC σ i n r) (x : Int32) : f_X1_lodges i x σ = some (if 0 ≤ x.toInt ∧ x.toInt < n then 1 else 0, σ) := by
  have hn := h.2.2.1
  have e0 : (0 : Int32).toInt = 0 := by decide
  by_cases hx : 0 ≤ x.toInt ∧ x.toInt < n
  · rw [if_pos hx]
    obtain ⟨k, h2, h3⟩ := nI_ex (n := 5) (v := x) (by rw [i32_le, e0]; omega) (by rw [i32_le, nI_ti (by omega)]; omega) (by omega)
    rw [h3, nI_ti (by omega)] at hx
    rw [h3]
    exact fe_lodges h (by omega)
  · rw [if_neg hx]
    exact fe_lodgesN h (by rw [i32_lt, i32_le, nI_ti (by omega), e0]; omega)
theorem one_ex {x : Int32} {n : Nat} (h : 0 ≤ x.toInt ∧ x.toInt < n) (hn : n < 2147483648) : ∃ k, k < n ∧ x = nI k := by
  have e0 : (0 : Int32).toInt = 0 := by decide
  obtain ⟨k, h2, h3⟩ := nI_ex (n := n) (v := x) (by rw [i32_le, e0]; omega) (by rw [i32_le, nI_ti (by omega)]; omega) (by omega)
  rw [h3, nI_ti (by omega)] at h
  exact ⟨k, by omega, h3⟩
