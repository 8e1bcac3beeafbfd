/-! sheet, cell -/
theorem fe_isSheet (x : Int32) (σ : Sg) : f_X8_isSheet x σ = some (if 0 ≤ x.toInt ∧ x.toInt < 4 then 1 else 0, σ) := by
  unfold f_X8_isSheet
  have e0 : (0 : Int32).toInt = 0 := by decide
  have e4 : (4 : Int32).toInt = 4 := by decide
  by_cases h : 0 ≤ x.toInt ∧ x.toInt < 4
  · rw [if_pos h, if_neg (by rw [i32_lt, e0]; omega), if_neg (by rw [i32_le, e4]; omega)]
  · rw [if_neg h]
    by_cases h1 : x < 0
    · rw [if_pos h1]
    · rw [if_neg h1, if_pos (by rw [i32_lt, e0] at h1; rw [i32_le, e4]; omega)]
theorem fm_isSheet (x : Int32) (μ : Sm) : f_X9_isSheet x μ = some (if 0 ≤ x.toInt ∧ x.toInt < 4 then 1 else 0, μ) := by
  unfold f_X9_isSheet
  have e0 : (0 : Int64).toInt = 0 := by decide
  have e3 : (3 : Int64).toInt = 3 := by decide
  rw [f_in, Option.bind_some, if_pos b01_or, l32_ti, e0, e3]
  by_cases h : 0 ≤ x.toInt ∧ x.toInt < 4
  · rw [if_pos h, if_pos (by omega)]
  · rw [if_neg h, if_neg (by omega)]
theorem InvP.sheet {σ σ' : Sg} {μ μ' : Sm} {m n r : Nat} {Ts : Nat → Nat → List Int32} (h : InvP σ μ m n r Ts) (f : ∀ a, a < 73 → σ' a = σ a) (g : ∀ a, a < 40 → μ'.1 a = μ.1 a) (gJ : μ'.2 = μ.2) (hS : ∀ s, s < 4 → ShR σ' μ' s) : InvP σ' μ' m n r Ts := by
  obtain ⟨q1, q2, q3, q4, q5, q6, q7, q8⟩ := h
  exact ⟨(q1.keepC (fun a ha => f a (by omega))).eqM (fun a ha => g a (by omega)), q2.keep (fun a a1 a2 a3 => f a (by omega)), q3.eqM (fun a ha => g a (by omega)) (memo_fr q3.me (g 29 (by omega)) gJ), by rw [g 7 (by omega)]; exact q4, by rw [g 3 (by omega)]; exact q5, q6.keep (f _ (by omega)) (f _ (by omega)) (g 5 (by omega)) (g 6 (by omega)), q7.keep (fun a a1 a2 => f a (by omega)) (fun a a1 a2 => g a (by omega)) (fun p _ => by rw [g 9 (by omega)]) (Nat.le_refl _) (Nat.le_refl _), hS⟩
theorem ShR.other {σ σ' : Sg} {μ μ' : Sm} {t : Nat} (h : ShR σ μ t) (f : ∀ a, 73 + 3 * t ≤ a → a < 76 + 3 * t → σ' a = σ a) (g0 : μ'.1 40 t = μ.1 40 t) (g1 : μ'.1 41 t = μ.1 41 t) (g2 : μ'.1 42 t = μ.1 42 t) (g3 : ∀ j, j < 40 → μ'.1 43 (40 * t + j) = μ.1 43 (40 * t + j)) : ShR σ' μ' t := by
  unfold ShR at *
  rw [f (73 + 3 * t) (by omega) (by omega), f (74 + 3 * t) (by omega) (by omega), f (75 + 3 * t) (by omega) (by omega), g0, g1, g2]
  rcases h with h | ⟨so, z, h1, h2, h3, h4, h5, h6, h7, h8⟩
  · exact Or.inl h
  · exact Or.inr ⟨so, z, h1, h2, h3, h4, h5, h6, h7, fun j hj => by rw [g3 j (by omega)]; exact h8 j hj⟩
theorem fe_become_loop {σ0 : Sg} {s : Nat} {x y : Int32} (hs : s < 4) : ∀ (d c k : Nat) (σ : Sg), c + d = 40 → d < k → (∀ a, a ≠ 75 + 3 * s → σ a = σ0 a) → (∀ j, j < c → σ (75 + 3 * s) j = 0) → ∃ σ', f_X5_become_21 s x y k (nI c) σ = some σ' ∧ (∀ a, a ≠ 75 + 3 * s → σ' a = σ0 a) ∧ ∀ j, j < 40 → σ' (75 + 3 * s) j = 0 := by
  intro d
  induction d with
  | zero =>
    intro c k σ hc hk h1 h2
    obtain ⟨k, rfl⟩ : ∃ q, k = q + 1 := ⟨k - 1, by omega⟩
    have e : c = 40 := by omega
    subst e
    refine ⟨σ, ?_, h1, h2⟩
    rw [f_X5_become_21, if_pos hs, if_pos (by decide)]
  | succ d ih =>
    intro c k σ hc hk h1 h2
    obtain ⟨k, rfl⟩ : ∃ q, k = q + 1 := ⟨k - 1, by omega⟩
    have ok : okI (nI c) 40 := okI_nI (by omega) (by omega)
    rw [f_X5_become_21, if_pos hs, if_neg (by rw [show (40 : Int32) = nI 40 from rfl, nI_leI (by omega) (by omega)]; omega), if_pos ok, nI_1, nI_tn (show c < 2147483648 by omega)]
    refine ih (c + 1) k _ (by omega) (by omega) (fun a ha => by rw [up_n ha]; exact h1 a ha) (fun j hj => ?_)
    rw [up_s]
    by_cases e : j = c
    · rw [e, upd_s]
    · rw [upd_n e]; exact h2 j (by omega)
theorem fe_become {σ : Sg} {s z : Nat} (hs : s < 4) (hz : z ≤ 40) (x : Int32) : ∃ σ', f_X5_become s x (nI z) σ = some σ' ∧ (∀ a, a ≠ 73 + 3 * s → a ≠ 74 + 3 * s → a ≠ 75 + 3 * s → σ' a = σ a) ∧ σ' (73 + 3 * s) 0 = x ∧ σ' (74 + 3 * s) 0 = nI z ∧ ∀ j, j < 40 → σ' (75 + 3 * s) j = 0 := by
  have e0 : (0 : Int32).toInt = 0 := by decide
  have ec : (if (0 : Int32) < (if nI z < (40 : Int32) then nI z else (40 : Int32)) then (if nI z < (40 : Int32) then nI z else (40 : Int32)) else (0 : Int32)) = nI z := by
    have e1 : (if nI z < (40 : Int32) then nI z else (40 : Int32)) = nI z := by
      by_cases h : z = 40
      · rw [h]; decide
      · rw [if_pos (by rw [show (40 : Int32) = nI 40 from rfl, nI_ltI (by omega) (by omega)]; omega)]
    rw [e1]
    by_cases h : z = 0
    · rw [h]; decide
    · rw [if_pos (by rw [i32_lt, e0, nI_ti (by omega)]; omega)]
  obtain ⟨σ1, h1⟩ : ∃ y, y = up (up σ (73 + 3 * s) 0 x) (74 + 3 * s) 0 (nI z) := ⟨_, rfl⟩
  obtain ⟨σ', g1, g2, g3⟩ := fe_become_loop (σ0 := σ1) (x := x) (y := nI z) hs 40 0 5000 σ1 (by omega) (by omega) (fun _ _ => rfl) (fun j hj => absurd hj (by omega))
  refine ⟨σ', ?_, fun a a1 a2 a3 => ?_, ?_, ?_, g3⟩
  · unfold f_X5_become
    rw [if_pos hs, ec, Option.bind_some, ← h1]
    exact g1
  · rw [g2 a a3, h1, up_n a2, up_n a1]
  · rw [g2 _ (by omega), h1, up_n (by omega), up_s, upd_s]
  · rw [g2 _ (by omega), h1, up_s, upd_s]
theorem ix40 (s k : Nat) : (40 : Int32) * nI s + nI k = nI (40 * s + k) := by rw [show (40 : Int32) = nI 40 from rfl, nI_mul, nI_add]
theorem fm_zero {μ0 : Sm} {s so z : Nat} (hs : s < 4) (hso : so < 3) (hz : z ≤ 40) : ∀ (d c k : Nat) (μ : Sm), c + d = z → d < k → (∀ a, a ≠ 43 → μ.1 a = μ0.1 a) → μ.2 = μ0.2 → (∀ j, j < c → μ.1 43 (40 * s + j) = 0) → (∀ j, (j < 40 * s ∨ 40 * s + 40 ≤ j) → μ.1 43 j = μ0.1 43 j) → ∃ μ', f_X9_sheet_77 (nI s) (nI so) (nI z) k (nI c) μ = some (1, μ') ∧ (∀ a, a ≠ 43 → μ'.1 a = μ0.1 a) ∧ μ'.2 = μ0.2 ∧ (∀ j, j < z → μ'.1 43 (40 * s + j) = 0) ∧ ∀ j, (j < 40 * s ∨ 40 * s + 40 ≤ j) → μ'.1 43 j = μ0.1 43 j := by
  have e0 : (0 : Int32).toInt = 0 := by decide
  intro d
  induction d with
  | zero =>
    intro c k μ hc hk h1 h2 h3 h4
    obtain ⟨k, rfl⟩ : ∃ q, k = q + 1 := ⟨k - 1, by omega⟩
    have e : c = z := by omega
    subst e
    refine ⟨μ, ?_, h1, h2, h3, h4⟩
    rw [f_X9_sheet_77, if_pos (by rw [nI_leI (by omega) (by omega)]; omega)]
  | succ d ih =>
    intro c k μ hc hk h1 h2 h3 h4
    obtain ⟨k, rfl⟩ : ∃ q, k = q + 1 := ⟨k - 1, by omega⟩
    have ok : okI (nI (40 * s + c)) 160 := okI_nI (by omega) (by omega)
    rw [f_X9_sheet_77, if_neg (by rw [nI_leI (by omega) (by omega)]; omega), if_neg (by rw [i32_lt, e0, nI_ti (by omega)]; omega), ix40, if_pos ok, nI_1, nI_tn (show 40 * s + c < 2147483648 by omega)]
    refine ih (c + 1) k _ (by omega) (by omega) (fun a ha => by rw [upm_n ha]; exact h1 a ha) h2 (fun j hj => ?_) (fun j hj => ?_)
    · rw [upm_e]
      by_cases e : j = c
      · rw [if_pos (by omega)]
      · rw [if_neg (by omega)]; exact h3 j (by omega)
    · rw [upm_e, if_neg (by omega)]; exact h4 j hj
/-- a sheet made anew, in both -/
theorem sim_sheet {σ : Sg} {μ : Sm} {m n r s so z : Nat} {Ts : Nat → Nat → List Int32} (hP : InvP σ μ m n r Ts) (hs : s < 4) (hso : so < 3) (hz : z ≤ 40) :
    ∃ σ' μ', f_X5_become s (nI so) (nI z) σ = some σ' ∧ f_X9_sheet (nI s) (nI so) (nI z) μ = some (1, μ') ∧ InvP σ' μ' m n r Ts ∧ (∀ a, a < 73 → σ' a = σ a) ∧ (∀ a, a < 40 → μ'.1 a = μ.1 a) ∧ μ'.2 = μ.2 ∧ σ' (73 + 3 * s) 0 = nI so ∧ σ' (74 + 3 * s) 0 = nI z ∧ μ'.1 40 s = 1 ∧ μ'.1 41 s = nI so ∧ μ'.1 42 s = nI z := by
  have e0 : (0 : Int32).toInt = 0 := by decide
  obtain ⟨σ', g1, g2, g3, g4, g5⟩ := fe_become (σ := σ) hs hz (nI so)
  obtain ⟨μ1, hμ⟩ : ∃ y, y = upm (upm (upm μ 40 s 1) 41 s (nI so)) 42 s (nI z) := ⟨_, rfl⟩
  obtain ⟨μ', q1, q2, q3, q4, q5⟩ := fm_zero (μ0 := μ1) hs hso hz z 0 5000 μ1 (by omega) (by omega) (fun _ _ => rfl) rfl (fun j hj => absurd hj (by omega)) (fun _ _ => rfl)
  have ok4 : okI (nI s) 4 := okI_nI (by omega) (by omega)
  have w0 : ∀ t, μ'.1 40 t = if t = s then 1 else μ.1 40 t := fun t => by rw [q2 40 (by omega), hμ, upm_n (by omega), upm_n (by omega), upm_e]
  have w1 : ∀ t, μ'.1 41 t = if t = s then nI so else μ.1 41 t := fun t => by rw [q2 41 (by omega), hμ, upm_n (by omega), upm_e, upm_n (by omega)]
  have w2 : ∀ t, μ'.1 42 t = if t = s then nI z else μ.1 42 t := fun t => by rw [q2 42 (by omega), hμ, upm_e, upm_n (by omega), upm_n (by omega)]
  have wf : ∀ a, a < 40 → μ'.1 a = μ.1 a := fun a ha => by rw [q2 a (by omega), hμ, upm_n (by omega), upm_n (by omega), upm_n (by omega)]
  have w43 : ∀ j, (j < 40 * s ∨ 40 * s + 40 ≤ j) → μ'.1 43 j = μ.1 43 j := fun j hj => by rw [q5 j hj, hμ, upm_n (by omega), upm_n (by omega), upm_n (by omega)]
  have wJ : μ'.2 = μ.2 := by rw [q3, hμ]; rfl
  refine ⟨σ', μ', g1, ?_, hP.sheet (fun a ha => g2 a (by omega) (by omega) (by omega)) wf wJ (fun t ht => ?_), fun a ha => g2 a (by omega) (by omega) (by omega), wf, wJ, g3, g4, by rw [w0, if_pos rfl], by rw [w1, if_pos rfl], by rw [w2, if_pos rfl]⟩
  · have l1 : (-1 : Int64).toInt = -1 := by decide
    have l2 : (2 : Int64).toInt = 2 := by decide
    have q1' : f_X9_sheet_77 (nI s) (nI so) (nI z) 5000 0 μ1 = _ := q1
    have nso : ¬ nI so < 0 := by rw [i32_lt, e0, nI_ti (by omega)]; omega
    have nz : ¬ nI z < 0 := by rw [i32_lt, e0, nI_ti (by omega)]; omega
    have vb : vp_nar .boolean (1 : Int32) = 1 := by decide
    unfold f_X9_sheet f_X9_sheet_34 f_X9_sheet_45 f_X9_sheet_59
    rw [fm_isSheet, if_pos (by rw [nI_ti (by omega)]; omega), Option.bind_some]
    simp only []
    rw [if_neg one_ne, f_in, l32_ti, l1, l2, if_pos (by rw [nI_ti (by omega)]; omega), Option.bind_some]
    simp only []
    rw [if_neg one_ne, if_neg nso, if_pos (show nI z ≤ 40 by rw [show (40 : Int32) = nI 40 from rfl, nI_leI (by omega) (by omega)]; omega), if_neg nso, if_pos (show 0 ≤ nI z by rw [i32_le, e0, nI_ti (by omega)]; omega), if_neg nso, if_pos ok4, if_pos ok4, if_pos ok4, vb, nI_tn (show s < 2147483648 by omega), ← hμ]
    exact q1'
  · by_cases e : t = s
    · subst e
      refine Or.inr ⟨so, z, hso, hz, g3, by rw [w0, if_pos rfl], by rw [w1, if_pos rfl], g4, by rw [w2, if_pos rfl], fun j hj => ?_⟩
      rw [g5 j (by omega), q4 j hj]
    · exact (hP.2.2.2.2.2.2.2 t ht).other (fun a a1 a2 => g2 a (by omega) (by omega) (by omega)) (by rw [w0, if_neg e]) (by rw [w1, if_neg e]) (by rw [w2, if_neg e]) (fun j hj => w43 _ (by omega))
