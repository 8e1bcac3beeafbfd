/-! wakes -/
theorem i32_ge0 {x : Int32} : ¬ x < 0 ↔ 0 ≤ x.toInt := by
  have e0 : (0 : Int32).toInt = 0 := by decide
  rw [i32_lt, e0]; omega
theorem i32_gtn {x : Int32} {k : Nat} (hk : k < 2147483648) : ¬ nI k < x ↔ x.toInt ≤ k := by
  rw [i32_lt, nI_ti hk]; omega
theorem i32_len {x : Int32} {k : Nat} (hk : k < 2147483648) : x ≤ nI k ↔ x.toInt ≤ k := by
  rw [i32_le, nI_ti hk]
def admits (x1 x2 x3 : Int32) : Prop := (0 ≤ x1.toInt ∧ x1.toInt ≤ 5) ∧ (0 ≤ x2.toInt ∧ x2.toInt ≤ 9) ∧ (0 ≤ x3.toInt ∧ x3.toInt ≤ 99)
theorem fe_admit {σ : Sg} {i n r : Nat} (h : HsC σ i n r) (x1 x2 x3 : Int32) :
    (¬ admits x1 x2 x3 → f_X1_admit i x1 x2 x3 σ = some (-2, σ)) ∧ (admits x1 x2 x3 → n = 5 → f_X1_admit i x1 x2 x3 σ = some (-4, σ)) ∧
    (admits x1 x2 x3 → n < 5 → f_X1_admit i x1 x2 x3 σ = some (nI n, up (up (up (up (up σ (11 * i + 4) n x1) (11 * i + 5) n x2) (11 * i + 6) n x3) (11 * i + 7) n 0) (11 * i + 3) 0 (nI (n + 1)))) := by
  have hi := h.1
  have h3 := h.2.1
  have n5 := h.2.2.1
  unfold admits f_X1_admit
  rw [if_pos hi]
  refine ⟨fun hn => ?_, fun ha hn => ?_, fun ha hn => ?_⟩
  · by_cases a1 : x1 < 0
    · rw [if_pos a1]
    · rw [if_neg a1]
      rw [i32_ge0] at a1
      by_cases a2 : (5 : Int32) < x1
      · rw [if_pos a2]
      · rw [if_neg a2]
        rw [show (5 : Int32) = nI 5 from rfl, i32_gtn (by omega)] at a2
        by_cases a3 : x2 < 0
        · rw [if_pos a3]
        · rw [if_neg a3]
          rw [i32_ge0] at a3
          by_cases a4 : (9 : Int32) < x2
          · rw [if_pos a4]
          · rw [if_neg a4]
            rw [show (9 : Int32) = nI 9 from rfl, i32_gtn (by omega)] at a4
            by_cases a5 : x3 < 0
            · rw [if_pos a5]
            · rw [if_neg a5]
              rw [i32_ge0] at a5
              rw [if_neg]
              intro a6
              rw [show (99 : Int32) = nI 99 from rfl, i32_len (by omega)] at a6
              omega
  · rw [if_neg (i32_ge0.mpr ha.1.1), if_neg (by rw [show (5 : Int32) = nI 5 from rfl, i32_gtn (by omega)]; omega), if_neg (i32_ge0.mpr ha.2.1.1), if_neg (by rw [show (9 : Int32) = nI 9 from rfl, i32_gtn (by omega)]; omega), if_neg (i32_ge0.mpr ha.2.2.1), if_pos (by rw [show (99 : Int32) = nI 99 from rfl, i32_len (by omega)]; omega), h3, hn, if_neg (by decide)]
  · have ok : okI (nI n) 5 := okI_nI (by omega) (by omega)
    rw [if_neg (i32_ge0.mpr ha.1.1), if_neg (by rw [show (5 : Int32) = nI 5 from rfl, i32_gtn (by omega)]; omega), if_neg (i32_ge0.mpr ha.2.1.1), if_neg (by rw [show (9 : Int32) = nI 9 from rfl, i32_gtn (by omega)]; omega), if_neg (i32_ge0.mpr ha.2.2.1), if_pos (by rw [show (99 : Int32) = nI 99 from rfl, i32_len (by omega)]; omega), h3, if_pos (by rw [show (5 : Int32) = nI 5 from rfl, nI_ltI (by omega) (by omega)]; omega), if_pos ok, nI_tn (show n < 2147483648 by omega)]
    have c1 : (up σ (11 * i + 4) n x1) (11 * i + 3) 0 = nI n := by rw [up_n (by omega)]; exact h3
    rw [c1, if_pos ok, nI_tn (show n < 2147483648 by omega), Option.bind_some]
    have c2 : (up (up σ (11 * i + 4) n x1) (11 * i + 5) n x2) (11 * i + 3) 0 = nI n := by rw [up_n (by omega)]; exact c1
    rw [c2, if_pos ok, nI_tn (show n < 2147483648 by omega)]
    have c3 : (up (up (up σ (11 * i + 4) n x1) (11 * i + 5) n x2) (11 * i + 6) n x3) (11 * i + 3) 0 = nI n := by rw [up_n (by omega)]; exact c2
    rw [c3, if_pos ok, nI_tn (show n < 2147483648 by omega), Option.bind_some]
    have c4 : (up (up (up (up σ (11 * i + 4) n x1) (11 * i + 5) n x2) (11 * i + 6) n x3) (11 * i + 7) n 0) (11 * i + 3) 0 = nI n := by rw [up_n (by omega)]; exact c3
    rw [c4, nI_1, up_s, upd_s, show (1 : Int32) = nI 1 from rfl, nI_sub (by omega)]
    rfl
theorem fm_wakes {μ : Sm} {n : Nat} (hn : μ.1 12 0 = nI n) (n5 : n ≤ 5) (x1 x2 x3 : Int32) :
    (¬ admits x1 x2 x3 → f_X9_wakes x1 x2 x3 μ = some (-2, μ)) ∧ (admits x1 x2 x3 → n = 5 → f_X9_wakes x1 x2 x3 μ = some (-4, μ)) ∧
    (admits x1 x2 x3 → n < 5 → f_X9_wakes x1 x2 x3 μ = some (nI n, upm (upm (upm (upm (upm μ 9 n x1) 10 (3 * n) x2) 10 (3 * n + 1) x3) 10 (3 * n + 2) 0) 12 0 (nI (n + 1)))) := by
  have l0 : (0 : Int64).toInt = 0 := by decide
  have l5 : (5 : Int64).toInt = 5 := by decide
  have l9 : (9 : Int64).toInt = 9 := by decide
  have l99 : (99 : Int64).toInt = 99 := by decide
  unfold admits f_X9_wakes
  rw [f_in, Option.bind_some, l32_ti, l0, l5]
  simp only [f_in, l32_ti, l0, l9, l99, Option.bind_some]
  refine ⟨fun ha => ?_, fun ha hn5 => ?_, fun ha hn5 => ?_⟩
  · by_cases a1 : 0 ≤ x1.toInt ∧ x1.toInt ≤ 5
    · rw [if_pos a1, if_neg one_ne]
      by_cases a2 : 0 ≤ x2.toInt ∧ x2.toInt ≤ 9
      · rw [if_pos a2, if_neg one_ne]
        rw [if_neg (fun a3 => ha ⟨a1, a2, a3⟩), if_pos rfl]
      · rw [if_neg a2, if_pos rfl]
    · rw [if_neg a1, if_pos rfl]
  · rw [if_pos ha.1, if_neg one_ne, if_pos ha.2.1, if_neg one_ne, if_pos ha.2.2, if_neg one_ne, hn, hn5, if_pos (by decide)]
  · have ok : okI (nI n) 5 := okI_nI (by omega) (by omega)
    have i0 : okI (nI (3 * n)) 15 := okI_nI (by omega) (by omega)
    have i1 : okI (nI (3 * n + 1)) 15 := okI_nI (by omega) (by omega)
    have i2 : okI (nI (3 * n + 2)) 15 := okI_nI (by omega) (by omega)
    rw [if_pos ha.1, if_neg one_ne, if_pos ha.2.1, if_neg one_ne, if_pos ha.2.2, if_neg one_ne, hn, if_neg (show ¬ nI n = 5 by intro hc; rw [show (5 : Int32) = nI 5 from rfl, i32_eq, nI_ti (by omega), nI_ti (by omega)] at hc; omega), if_pos ok, nI_tn (show n < 2147483648 by omega)]
    have c1 : (upm μ 9 n x1).1 12 0 = nI n := by rw [upm_n (by omega)]; exact hn
    rw [c1, ix3_0, if_pos i0, nI_tn (show 3 * n < 2147483648 by omega)]
    have c2 : (upm (upm μ 9 n x1) 10 (3 * n) x2).1 12 0 = nI n := by rw [upm_n (by omega)]; exact c1
    rw [c2, ix3_1, if_pos i1, nI_tn (show 3 * n + 1 < 2147483648 by omega)]
    have c3 : (upm (upm (upm μ 9 n x1) 10 (3 * n) x2) 10 (3 * n + 1) x3).1 12 0 = nI n := by rw [upm_n (by omega)]; exact c2
    rw [c3, ix3_2, if_pos i2, nI_tn (show 3 * n + 2 < 2147483648 by omega)]
    have c4 : (upm (upm (upm (upm μ 9 n x1) 10 (3 * n) x2) 10 (3 * n + 1) x3) 10 (3 * n + 2) 0).1 12 0 = nI n := by rw [upm_n (by omega)]; exact c3
    rw [c4, nI_1, upm_e, if_pos rfl, show (1 : Int32) = nI 1 from rfl, nI_sub (by omega)]
    rfl
/-- a new one comes, or doesn't, in both -/
theorem sim_wakes {σ : Sg} {μ : Sm} (h : Inv σ μ) (x1 x2 x3 : Int32) : ∃ v σ' μ', f_X1_admit 0 x1 x2 x3 σ = some (v, σ') ∧ f_X9_wakes x1 x2 x3 μ = some (v, μ') ∧ Inv σ' μ' ∧ (∀ a, 11 ≤ a → σ' a = σ a) ∧ (∀ a, 13 ≤ a → μ'.1 a = μ.1 a) := by
  obtain ⟨m, n, r, Ts, hP⟩ := h
  obtain ⟨hR, hL, hO, h4, h5, h6, h7, h8⟩ := id hP
  have n5 := hO.rg.n5
  obtain ⟨c1, c2, c3⟩ := fe_admit hR.1 x1 x2 x3
  obtain ⟨d1, d2, d3⟩ := fm_wakes hO.rg.hn n5 x1 x2 x3
  by_cases ha : admits x1 x2 x3
  · by_cases hn : n = 5
    · exact ⟨_, _, _, c2 ha hn, d2 ha hn, hP.inv, fun _ _ => rfl, fun _ _ => rfl⟩
    · have hn' : n < 5 := by omega
      refine ⟨_, _, _, c3 ha hn', d3 ha hn', ⟨m, n + 1, r, Ts, ?_, ?_, ?_, ?_, ?_, ?_, ?_, ?_⟩, ?_, ?_⟩
      · obtain ⟨⟨r1, r2, r3, r4⟩, r5, r6, r7, r8⟩ := hR
        refine ⟨⟨r1, by rw [up_s, upd_s], by omega, ?_⟩, ?_, ?_, ?_, ?_⟩
        · rw [up_n (by omega), up_n (by omega), up_n (by omega), up_n (by omega), up_n (by omega)]; exact r4
        · rw [up_n (by omega), up_n (by omega), up_n (by omega), up_n (by omega), up_n (by omega), upm_n (by omega), upm_n (by omega), upm_n (by omega), upm_n (by omega), upm_n (by omega)]; exact r5
        · rw [up_n (by omega), up_n (by omega), up_n (by omega), up_n (by omega), up_n (by omega), upm_n (by omega), upm_n (by omega), upm_n (by omega), upm_n (by omega), upm_n (by omega)]; exact r6
        · intro p hp
          have k4 : (up (up (up (up (up σ (11 * 0 + 4) n x1) (11 * 0 + 5) n x2) (11 * 0 + 6) n x3) (11 * 0 + 7) n 0) (11 * 0 + 3) 0 (nI (n + 1))) (11 * 0 + 4) p = if p = n then x1 else σ (11 * 0 + 4) p := by
            rw [up_n (by omega), up_n (by omega), up_n (by omega), up_n (by omega), up_s]; rfl
          have k5 : (up (up (up (up (up σ (11 * 0 + 4) n x1) (11 * 0 + 5) n x2) (11 * 0 + 6) n x3) (11 * 0 + 7) n 0) (11 * 0 + 3) 0 (nI (n + 1))) (11 * 0 + 5) p = if p = n then x2 else σ (11 * 0 + 5) p := by
            rw [up_n (by omega), up_n (by omega), up_n (by omega), up_s]; rfl
          have k6 : (up (up (up (up (up σ (11 * 0 + 4) n x1) (11 * 0 + 5) n x2) (11 * 0 + 6) n x3) (11 * 0 + 7) n 0) (11 * 0 + 3) 0 (nI (n + 1))) (11 * 0 + 6) p = if p = n then x3 else σ (11 * 0 + 6) p := by
            rw [up_n (by omega), up_n (by omega), up_s]; rfl
          have k7 : (up (up (up (up (up σ (11 * 0 + 4) n x1) (11 * 0 + 5) n x2) (11 * 0 + 6) n x3) (11 * 0 + 7) n 0) (11 * 0 + 3) 0 (nI (n + 1))) (11 * 0 + 7) p = if p = n then 0 else σ (11 * 0 + 7) p := by
            rw [up_n (by omega), up_s]; rfl
          rw [k4, k5, k6, k7]
          rw [upm_n (by omega), upm_n (by omega), upm_n (by omega), upm_n (by omega), upm_e, upm_n (by omega), upm_e, upm_e, upm_e, upm_n (by omega), upm_e, upm_e, upm_e, upm_e, upm_e, upm_e]
          rw [if_neg (show ¬ 3 * p = 3 * n + 2 by omega), if_neg (show ¬ 3 * p = 3 * n + 1 by omega), if_neg (show ¬ 3 * p + 1 = 3 * n + 2 by omega), if_neg (show ¬ 3 * p + 1 = 3 * n by omega), if_neg (show ¬ 3 * p + 2 = 3 * n + 1 by omega), if_neg (show ¬ 3 * p + 2 = 3 * n by omega)]
          by_cases e : p = n
          · subst e
            simp only [if_true]
            exact ⟨trivial, trivial, trivial, trivial⟩
          · rw [if_neg e, if_neg e, if_neg e, if_neg e, if_neg e, if_neg (by omega), if_neg (by omega), if_neg (by omega)]
            exact r7 p (by omega)
        · intro c hc
          rw [up_n (by omega), up_n (by omega), up_n (by omega), up_n (by omega), up_n (by omega), up_n (by omega), up_n (by omega), up_n (by omega), up_n (by omega), up_n (by omega), up_n (by omega), up_n (by omega), up_n (by omega), up_n (by omega), up_n (by omega), upm_n (by omega), upm_n (by omega), upm_n (by omega), upm_n (by omega), upm_n (by omega)]
          exact r8 c hc
      · exact hL.keep (fun a a1 a2 a3 => by rw [up_n (by omega), up_n (by omega), up_n (by omega), up_n (by omega), up_n (by omega)])
      · refine ⟨⟨by omega, hO.rg.m6, hO.rg.rm, ?_, ?_, ?_, ?_, ?_, ?_⟩, hO.tx.keep ?_ ?_, memo_up (memo_up (memo_up (memo_up (memo_up hO.me (by omega)) (by omega)) (by omega)) (by omega)) (by omega)⟩
        · rw [upm_e, if_pos rfl]
        · rw [upm_n (by omega), upm_n (by omega), upm_n (by omega), upm_n (by omega), upm_n (by omega)]; exact hO.rg.hr
        · rw [upm_n (by omega), upm_n (by omega), upm_n (by omega), upm_n (by omega), upm_n (by omega)]; exact hO.rg.ni
        · rw [upm_n (by omega), upm_n (by omega), upm_n (by omega), upm_n (by omega), upm_n (by omega)]; exact hO.rg.ho
        · intro p hp
          rw [upm_n (by omega), upm_n (by omega), upm_n (by omega), upm_n (by omega), upm_e, upm_n (by omega), upm_e, upm_e, upm_e, upm_n (by omega), upm_e, upm_e, upm_e, upm_e, upm_e, upm_e]
          rw [if_neg (show ¬ 3 * p = 3 * n + 2 by omega), if_neg (show ¬ 3 * p = 3 * n + 1 by omega), if_neg (show ¬ 3 * p + 1 = 3 * n + 2 by omega), if_neg (show ¬ 3 * p + 1 = 3 * n by omega), if_neg (show ¬ 3 * p + 2 = 3 * n + 1 by omega), if_neg (show ¬ 3 * p + 2 = 3 * n by omega)]
          obtain ⟨q1, q2, q3⟩ := ha
          obtain ⟨k1, w1, w2⟩ := one_ex (x := x1) (n := 6) (by omega) (by omega)
          obtain ⟨k2, w3, w4⟩ := one_ex (x := x2) (n := 10) (by omega) (by omega)
          obtain ⟨k3, w5, w6⟩ := one_ex (x := x3) (n := 100) (by omega) (by omega)
          by_cases e : p = n
          · subst e
            simp only [if_true]
            exact ⟨⟨k1, w1, w2⟩, ⟨k2, w3, w4⟩, ⟨k3, w5, w6⟩, isN_0 (by omega)⟩
          · rw [if_neg e, if_neg (by omega), if_neg (by omega), if_neg (by omega)]
            exact hO.rg.ps p (by omega)
        · rw [upm_n (by omega), upm_n (by omega), upm_n (by omega), upm_n (by omega), upm_n (by omega)]; exact hO.rg.cs
        · rw [upm_n (by omega), upm_n (by omega), upm_n (by omega), upm_n (by omega), upm_n (by omega)]
        · rw [upm_n (by omega), upm_n (by omega), upm_n (by omega), upm_n (by omega), upm_n (by omega)]
      · rw [upm_n (by omega), upm_n (by omega), upm_n (by omega), upm_n (by omega), upm_n (by omega)]; exact h4
      · rw [upm_n (by omega), upm_n (by omega), upm_n (by omega), upm_n (by omega), upm_n (by omega)]; exact h5
      · exact h6.keep (by rw [up_n (by omega), up_n (by omega), up_n (by omega), up_n (by omega), up_n (by omega)]) (by rw [up_n (by omega), up_n (by omega), up_n (by omega), up_n (by omega), up_n (by omega)]) (by rw [upm_n (by omega), upm_n (by omega), upm_n (by omega), upm_n (by omega), upm_n (by omega)]) (by rw [upm_n (by omega), upm_n (by omega), upm_n (by omega), upm_n (by omega), upm_n (by omega)])
      · exact h7.keep (fun a a1 a2 => by rw [up_n (by omega), up_n (by omega), up_n (by omega), up_n (by omega), up_n (by omega)]) (fun a a1 a2 => by rw [upm_n (by omega), upm_n (by omega), upm_n (by omega), upm_n (by omega), upm_n (by omega)]) (fun p hp => by rw [upm_n (by omega), upm_n (by omega), upm_n (by omega), upm_n (by omega), upm_e, if_neg (by omega)]) (Nat.le_refl _) (by omega)
      · exact fun s hs => (h8 s hs).keep hs (fun a a1 a2 => by rw [up_n (by omega), up_n (by omega), up_n (by omega), up_n (by omega), up_n (by omega)]) (fun a a1 a2 => by rw [upm_n (by omega), upm_n (by omega), upm_n (by omega), upm_n (by omega), upm_n (by omega)])
      · exact fun a a1 => by rw [up_n (by omega), up_n (by omega), up_n (by omega), up_n (by omega), up_n (by omega)]
      · exact fun a a1 => by rw [upm_n (by omega), upm_n (by omega), upm_n (by omega), upm_n (by omega), upm_n (by omega)]
  · exact ⟨_, _, _, c1 ha, d1 ha, hP.inv, fun _ _ => rfl, fun _ _ => rfl⟩
theorem pub_wakes {σ : Sg} {μ : Sm} (h : Inv σ μ) (x1 x2 x3 : Int32) : Like (f_X8_wakes x1 x2 x3 σ) (f_X9_wakes x1 x2 x3 μ) := by
  obtain ⟨v, σ', μ', g1, g2, g3, -⟩ := sim_wakes h x1 x2 x3
  unfold f_X8_wakes
  rw [g1, g2, Option.bind_some]
  exact ⟨_, _, _, rfl, rfl, g3⟩
