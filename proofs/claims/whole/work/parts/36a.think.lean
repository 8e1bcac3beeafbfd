/-! Nights in thought: run, drawn -/
/-- the house that is thought on, beside the reference, whose rows lie aside -/
def Thk (σ0 : Sg) (μ0 : Sm) (m n r : Nat) (Ts : Nat → Nat → List Int32) (σ : Sg) (μ : Sm) (k : Nat) : Prop :=
  HoR σ 1 μ n r ∧ LawC σ m Ts ∧ HoM μ m n r Ts ∧ FrT σ0 σ ∧ Asd μ0 μ ∧ isN (μ.1 7 0) (1000 + k)
theorem TkF.frT {σ σ' : Sg} (h : TkF σ σ' 1 0) : FrT σ σ' := fun a ha => h.1 a (by omega)
theorem think_on {σ : Sg} {μ : Sm} {m n r : Nat} {Ts : Nat → Nat → List Int32} (hP : InvP σ μ m n r Ts) : ∃ σ' μ', f_X1_takeFrom 1 0 σ = some σ' ∧ f_X9_laysAside μ = some μ' ∧ Thk σ μ m n r Ts σ' μ' 0 ∧ TkF σ σ' 1 0 ∧ (∀ a, a ≠ 32 → μ'.1 a = μ.1 a) := by
  obtain ⟨hR, hL, hO, h4, h5, h6, h7, h8⟩ := id hP
  obtain ⟨σ', g1, g2⟩ := fe_takeFrom (σ := σ) (i := 1) (j := 0) (by omega) (by omega) (by omega)
  obtain ⟨μ', q1, q2, q3, q4⟩ := fm_aside μ
  refine ⟨σ', μ', g1, q1, ⟨?_, ?_, ?_, g2.frT, q4, ?_⟩, g2, q2⟩
  · exact (g2.R (by omega) hR).eqM (fun a ha => q2 a (by omega))
  · exact hL.keep (fun a a1 a2 a3 => g2.1 a (by omega))
  · exact hO.eqM (fun a ha => q2 a (by omega)) (memo_fr hO.me (q2 29 (by omega)) q3)
  · rw [q2 7 (by omega)]; exact h4
theorem think_pass {σ0 σ : Sg} {μ0 μ : Sm} {m n r k : Nat} {Ts : Nat → Nat → List Int32} (h : Thk σ0 μ0 m n r Ts σ μ k) (hk : k < 3000) :
    ∃ v σ' μ', f_X3_pass 1 σ = some (v, σ') ∧ f_X9_passes μ = some (v, μ') ∧ Thk σ0 μ0 m n r Ts σ' μ' (k + 1) := by
  obtain ⟨hR, hL, hO, hF, hA, h4⟩ := h
  obtain ⟨v, σ', μ', g1, g2, g3, g4, g5, g6, g7⟩ := sim_pass hR hL hO (isN_mono h4 (by omega))
  refine ⟨v, σ', μ', g1, g2, g3, g4, g5, hF.tr (fun a ha => g6 a (by omega) (by omega) (by omega) (by omega) (by omega)), hA.p g7.fr, ?_⟩
  rw [g7.2.1]
  exact isN_up (k := 1000 + k) (by omega) h4
theorem think_off {σ0 σ : Sg} {μ0 μ : Sm} {m n r k : Nat} {Ts : Nat → Nat → List Int32} (hP : InvP σ0 μ0 m n r Ts) (h : Thk σ0 μ0 m n r Ts σ μ k) :
    ∃ μ', f_X9_laysBack μ = some μ' ∧ InvP σ μ' m n r Ts ∧ FrB μ0 μ' := by
  obtain ⟨hR, hL, hO, hF, hA, h4⟩ := h
  obtain ⟨μ', q1, q2, q3, q4⟩ := fm_laidBack hA
  exact ⟨μ', q1, hP.think hF q2 (memo_fr hO.me (q3 29 (by omega) (by omega) (by omega)) q4), q2⟩
theorem run_loop {σ0 : Sg} {μ0 : Sm} {m n r p cp N w : Nat} {Ts : Nat → Nat → List Int32} (hP : InvP σ0 μ0 m n r Ts) (hp : p < n) (hcp : cp < 6) (hN : N ≤ 40) (hw : w < 3) : ∀ (d c k : Nat) (σ : Sg) (μ : Sm) (y : Int32), c + d = N → d < k → Thk σ0 μ0 m n r Ts σ μ c →
    Like (f_X8_run_59 (nI p) (nI cp) (nI N) (nI w) k y (nI c) σ) (f_X9_run_53 (nI p) (nI cp) (nI N) (nI w) k y (nI c) μ) := by
  intro d
  induction d with
  | zero =>
    intro c k σ μ y hc hk hT
    obtain ⟨k, rfl⟩ : ∃ q, k = q + 1 := ⟨k - 1, by omega⟩
    have e : c = N := by omega
    subst e
    have n5 := hT.2.2.1.rg.n5
    have i5 : okI (nI p) 5 := okI_nI (by omega) (by omega)
    have i6 : okI (nI cp) 6 := okI_nI (by omega) (by omega)
    have j1 : okI (nI (3 * p + 1)) 15 := okI_nI (by omega) (by omega)
    have j2 : okI (nI (3 * cp + 2)) 18 := okI_nI (by omega) (by omega)
    obtain ⟨μ', q1, q2, q3⟩ := think_off hP hT
    rw [f_X8_run_59, f_X9_run_53, if_pos (Int32.le_refl _), if_pos (Int32.le_refl _), ix3_1, ix3_2, if_pos i5, if_pos i6, if_pos j1, if_pos j2, nI_tn (show p < 2147483648 by omega), nI_tn (show cp < 2147483648 by omega), nI_tn (show 3 * p + 1 < 2147483648 by omega), nI_tn (show 3 * cp + 2 < 2147483648 by omega), q1, Option.bind_some, Option.bind_some, Option.bind_some, (hT.1.2.2.2.1 p hp).2.2.1, (hT.1.2.2.2.2 cp hcp).2.2]
    match w, hw with
    | 0, _ => exact ⟨_, _, _, rfl, rfl, q2.inv⟩
    | 1, _ => exact ⟨_, _, _, rfl, rfl, q2.inv⟩
    | 2, _ => exact ⟨_, _, _, rfl, rfl, q2.inv⟩
  | succ d ih =>
    intro c k σ μ y hc hk hT
    obtain ⟨k, rfl⟩ : ∃ q, k = q + 1 := ⟨k - 1, by omega⟩
    obtain ⟨v, σ', μ', g1, g2, g3⟩ := think_pass hT (by omega)
    rw [f_X8_run_59, f_X9_run_53, if_neg (show ¬ nI N ≤ nI c by rw [nI_leI (by omega) (by omega)]; omega), if_neg (show ¬ nI N ≤ nI c by rw [nI_leI (by omega) (by omega)]; omega), g1, g2, Option.bind_some, Option.bind_some, nI_1]
    exact ih (c + 1) k σ' μ' _ (by omega) (by omega) g3
theorem pub_run {σ : Sg} {μ : Sm} (h : Inv σ μ) (x y u w : Int32) : Like (f_X8_run x y u w σ) (f_X9_run x y u w μ) := by
  have hI := h
  obtain ⟨m, n, r, Ts, hP⟩ := h
  obtain ⟨hR, hL, hO, h4, h5, h6, h7, h8⟩ := id hP
  have n5 := hO.rg.n5
  have l0 : (0 : Int64).toInt = 0 := by decide
  have l40 : (40 : Int64).toInt = 40 := by decide
  have l2 : (2 : Int64).toInt = 2 := by decide
  unfold f_X8_run f_X9_run
  rw [fe_lodgesI hR.1, fm_isOne hO.rg.hn n5, Option.bind_some, Option.bind_some]
  simp only [fe_isCup, fm_isCup, f_in, l32_ti, l0, l40, l2, Option.bind_some]
  by_cases hx : 0 ≤ x.toInt ∧ x.toInt < n
  · rw [if_pos hx, if_neg one_ne, if_neg one_ne]
    by_cases hy : 0 ≤ y.toInt ∧ y.toInt < 6
    · rw [if_pos hy, if_neg one_ne, if_neg one_ne]
      by_cases hu : 0 ≤ u.toInt ∧ u.toInt ≤ 40
      · rw [if_pos hu, if_neg one_ne, if_neg (i32_ge0.mpr hu.1), if_neg (show ¬ (40 : Int32) < u by rw [show (40 : Int32) = nI 40 from rfl, i32_gtn (by omega)]; omega)]
        by_cases hw : 0 ≤ w.toInt ∧ w.toInt ≤ 2
        · rw [if_pos hw, if_neg one_ne, if_neg (i32_ge0.mpr hw.1), if_pos (show w ≤ (2 : Int32) by rw [show (2 : Int32) = nI 2 from rfl, i32_len (by omega)]; omega)]
          obtain ⟨p, hp, rfl⟩ := one_ex hx (by omega)
          obtain ⟨cp, hcp, rfl⟩ := one_ex (n := 6) hy (by omega)
          obtain ⟨N, hN, rfl⟩ := one_ex (x := u) (n := 41) (by omega) (by omega)
          obtain ⟨q, hq, rfl⟩ := one_ex (x := w) (n := 3) (by omega) (by omega)
          obtain ⟨σ', μ', g1, g2, g3, -, -⟩ := think_on hP
          rw [g1, g2, Option.bind_some, Option.bind_some]
          exact run_loop hP hp hcp (by omega) hq N 0 5000 σ' μ' 0 (by omega) (by omega) g3
        · rw [if_neg hw, if_pos rfl]
          by_cases w0 : w < 0
          · rw [if_pos w0]; exact like_same hI _
          · rw [if_neg w0, if_neg (show ¬ w ≤ (2 : Int32) by rw [i32_ge0] at w0; rw [show (2 : Int32) = nI 2 from rfl, i32_len (by omega)]; omega)]; exact like_same hI _
      · rw [if_neg hu, if_pos rfl]
        by_cases u0 : u < 0
        · rw [if_pos u0]; exact like_same hI _
        · rw [if_neg u0, if_pos (show (40 : Int32) < u by rw [i32_ge0] at u0; rw [i32_lt, show (40 : Int32).toInt = 40 by decide]; omega)]; exact like_same hI _
    · rw [if_neg hy, if_pos rfl, if_pos rfl]; exact like_same hI _
  · rw [if_neg hx, if_pos rfl, if_pos rfl]; exact like_same hI _
/-! drawn -/
theorem Thk.news {σ0 σ : Sg} {μ0 μ : Sm} {m n r p k : Nat} {Ts : Nat → Nat → List Int32} (h : Thk σ0 μ0 m n r Ts σ μ k) (hp : p < n) :
    ∃ w σ' μ', f_X1_bringNews 1 (nI p) σ = some σ' ∧ f_X9_tells1 (nI p) μ = some (w, μ') ∧ Thk σ0 μ0 m n r Ts σ' μ' k := by
  obtain ⟨hR, hL, hO, hF, hA, h4⟩ := h
  obtain ⟨σ', μ', g1, g2, g3, g4, g5, g6⟩ := sim_news hR hO hp
  refine ⟨_, σ', μ', g1, g2, g3, hL.keep (fun a a1 a2 a3 => g5 a (by omega) (by omega)), g4, hF.tr (fun a ha => g5 a (by omega) (by omega)), hA.go (fun a a1 a2 a3 a4 => g6 a a3) (g6 32 (by omega)), ?_⟩
  rw [g6 7 (by omega)]; exact h4
theorem drawn_loop {σ0 : Sg} {μ0 : Sm} {m n r N : Nat} {Ts : Nat → Nat → List Int32} (hP : InvP σ0 μ0 m n r Ts) (hN : N ≤ 40) (x : Int32) : ∀ (d c k : Nat) (σ : Sg) (μ : Sm) (y z : Int32), c + d = N → d < k → Thk σ0 μ0 m n r Ts σ μ c →
    ∃ v σ' μ', f_X8_pouredBySeed_19 x (nI N) k y z (nI c) σ = some (v, σ') ∧ f_X9_pouredDrawn_12 x (nI N) k z y (nI c) μ = some (v, μ') ∧ InvP σ' μ' m n r Ts := by
  intro d
  induction d with
  | zero =>
    intro c k σ μ y z hc hk hT
    obtain ⟨k, rfl⟩ : ∃ q, k = q + 1 := ⟨k - 1, by omega⟩
    have e : c = N := by omega
    subst e
    obtain ⟨μ', q1, q2, q3⟩ := think_off hP hT
    rw [f_X8_pouredBySeed_19, f_X9_pouredDrawn_12, if_pos (Int32.le_refl _), if_pos (Int32.le_refl _), q1, Option.bind_some]
    exact ⟨_, _, _, rfl, rfl, q2⟩
  | succ d ih =>
    intro c k σ μ y z hc hk hT
    obtain ⟨k, rfl⟩ : ∃ q, k = q + 1 := ⟨k - 1, by omega⟩
    have n5 := hT.2.2.1.rg.n5
    rw [f_X8_pouredBySeed_19, f_X9_pouredDrawn_12, if_neg (show ¬ nI N ≤ nI c by rw [nI_leI (by omega) (by omega)]; omega), if_neg (show ¬ nI N ≤ nI c by rw [nI_leI (by omega) (by omega)]; omega), Option.bind_some, Option.bind_some]
    generalize w_ushr ((z * (1103515245 : Int32)) + (12345 : Int32)) (9 : Int32) - w_ushr ((z * (1103515245 : Int32)) + (12345 : Int32)) (9 : Int32) / (8 : Int32) * (8 : Int32) = q
    generalize (z * (1103515245 : Int32)) + (12345 : Int32) = z'
    rw [fe_lodgesI hT.1.1, fm_isOne hT.2.2.1.rg.hn n5, Option.bind_some, Option.bind_some]
    simp only []
    by_cases hq : 0 ≤ q.toInt ∧ q.toInt < n
    · obtain ⟨p, hp, rfl⟩ := one_ex hq (by omega)
      obtain ⟨w, σ1, μ1, a1, a2, a3⟩ := hT.news hp
      obtain ⟨v, σ2, μ2, b1, b2, b3⟩ := think_pass a3 (by omega)
      rw [if_pos hq, if_neg one_ne, if_neg one_ne, a1, a2, Option.bind_some, Option.bind_some]
      unfold f_X8_pouredBySeed_68 f_X9_pouredDrawn_53
      rw [b1, b2, Option.bind_some, Option.bind_some, nI_1]
      exact ih (c + 1) k σ2 μ2 _ _ (by omega) (by omega) b3
    · obtain ⟨v, σ2, μ2, b1, b2, b3⟩ := think_pass hT (by omega)
      rw [if_neg hq, if_pos rfl, if_pos rfl]
      unfold f_X8_pouredBySeed_68 f_X9_pouredDrawn_53
      rw [b1, b2, Option.bind_some, Option.bind_some, nI_1]
      exact ih (c + 1) k σ2 μ2 _ _ (by omega) (by omega) b3
theorem sim_drawn {σ : Sg} {μ : Sm} {m n r N : Nat} {Ts : Nat → Nat → List Int32} (hP : InvP σ μ m n r Ts) (hN : N ≤ 40) (x : Int32) :
    ∃ v σ' μ', f_X8_pouredBySeed x (nI N) σ = some (v, σ') ∧ f_X9_pouredDrawn x (nI N) μ = some (v, μ') ∧ InvP σ' μ' m n r Ts := by
  obtain ⟨σ', μ', g1, g2, g3, -, -⟩ := think_on hP
  unfold f_X8_pouredBySeed f_X9_pouredDrawn
  rw [g1, g2, Option.bind_some, Option.bind_some]
  exact drawn_loop hP hN x N 0 5000 σ' μ' 0 x (by omega) (by omega) g3
theorem pub_drawn {σ : Sg} {μ : Sm} (h : Inv σ μ) (x y : Int32) : Like (f_X8_drawn x y σ) (f_X9_drawn x y μ) := by
  have hI := h
  obtain ⟨m, n, r, Ts, hP⟩ := h
  have l0 : (0 : Int64).toInt = 0 := by decide
  have l40 : (40 : Int64).toInt = 40 := by decide
  unfold f_X8_drawn f_X9_drawn
  rw [f_in, l32_ti, l0, l40, Option.bind_some]
  simp only []
  by_cases hy : 0 ≤ y.toInt ∧ y.toInt ≤ 40
  · rw [if_pos hy, if_neg one_ne, if_neg (i32_ge0.mpr hy.1), if_pos (show y ≤ (40 : Int32) by rw [show (40 : Int32) = nI 40 from rfl, i32_len (by omega)]; omega)]
    obtain ⟨N, hN, rfl⟩ := one_ex (x := y) (n := 41) (by omega) (by omega)
    obtain ⟨v, σ', μ', g1, g2, g3⟩ := sim_drawn hP (show N ≤ 40 by omega) x
    rw [g1, g2, Option.bind_some, Option.bind_some]
    exact ⟨_, _, _, rfl, rfl, g3.inv⟩
  · rw [if_neg hy, if_pos rfl]
    by_cases y0 : y < 0
    · rw [if_pos y0]; exact like_same hI _
    · rw [if_neg y0, if_neg (show ¬ y ≤ (40 : Int32) by rw [i32_ge0] at y0; rw [show (40 : Int32) = nI 40 from rfl, i32_len (by omega)]; omega)]; exact like_same hI _
