/-! The calls: eased, force, feed, night, news -/
theorem one_ne : ¬ (1 : Int32) = 0 := by decide
theorem like_same {σ : Sg} {μ : Sm} (h : Inv σ μ) (v : Int32) : Like (some (v, σ)) (some (v, μ)) := ⟨v, σ, μ, rfl, rfl, h⟩
theorem pub_eased {σ : Sg} {μ : Sm} (h : Inv σ μ) (x : Int32) : Like (f_X8_eased x σ) (f_X9_eased x μ) := by
  obtain ⟨m, n, r, Ts, hP⟩ := h
  obtain ⟨hR, hL, hO, h4, h5, h6, h7, h8⟩ := id hP
  unfold f_X8_eased f_X9_eased
  rw [fe_lodgesI hR.1, fm_isOne hO.rg.hn hO.rg.n5, Option.bind_some, Option.bind_some]
  simp only []
  by_cases hx : 0 ≤ x.toInt ∧ x.toInt < n
  · obtain ⟨p, hp, rfl⟩ := one_ex hx (by have := hO.rg.n5; omega)
    rw [if_pos hx, if_neg (by decide), if_neg (by decide)]
    obtain ⟨F, hF⟩ := fe_ease hR.1 hL hO.rg.rm hp
    obtain ⟨μ', g1, g2, g3⟩ := fm_eased hO hp
    rw [hF, g1, Option.bind_some, Option.bind_some]
    refine ⟨_, _, _, rfl, ?_, (hP.think (σ' := upA σ 42 F) (fun a ha => upA_n (by omega)) g2.b g3).inv⟩
    have e : sE (Ts r) (σ (11 * 0 + 4) p) (σ (11 * 0 + 5) p) (σ (11 * 0 + 6) p) (σ (11 * 0 + 7) p) (σ (11 * 0) 0) (σ (11 * 0 + 1) 0) = eM μ (Ts r) p := hR.e (Ts r) hp
    rw [e]
  · rw [if_neg hx, if_pos rfl, if_pos rfl]
    exact like_same hP.inv _
theorem LawC.txt {σ : Sg} {m : Nat} {Ts : Nat → Nat → List Int32} (h : LawC σ m Ts) (x : Int32) : f_X2_hasText x σ = some (if 0 ≤ x.toInt ∧ x.toInt < m then 1 else 0, σ) := by
  obtain ⟨h1, h2, h3, h4⟩ := h
  have e0 : (0 : Int32).toInt = 0 := by decide
  unfold f_X2_hasText
  rw [h1]
  by_cases hx : 0 ≤ x.toInt ∧ x.toInt < m
  · rw [if_pos hx, if_neg (by rw [i32_lt, e0]; omega), if_neg (by rw [i32_le, nI_ti (by omega)]; omega)]
  · rw [if_neg hx]
    by_cases h0 : x < 0
    · rw [if_pos h0]
    · rw [if_neg h0, if_pos (by rw [i32_lt, e0] at h0; rw [i32_le, nI_ti (by omega)]; omega)]
theorem fm_inT {μ : Sm} {m : Nat} (hm : μ.1 3 0 = nI m) (hm6 : m ≤ 6) (x : Int32) : f_X9_in x.toInt64 0 (μ.1 3 0 - 1).toInt64 μ = some (if 0 ≤ x.toInt ∧ x.toInt < m then 1 else 0, μ) := by
  have e0 : (0 : Int64).toInt = 0 := by decide
  have e1 : (1 : Int32).toInt = 1 := by decide
  have en : (nI m - 1).toInt = (m : Int) - 1 := by rw [i32_sub (by rw [nI_ti (by omega), e1]; omega) (by rw [nI_ti (by omega), e1]; omega), nI_ti (by omega), e1]
  rw [f_in, l32_ti, l32_ti, e0, hm, en]
  by_cases h : 0 ≤ x.toInt ∧ x.toInt < m
  · rw [if_pos h, if_pos (by omega)]
  · rw [if_neg h, if_neg (by omega)]
/-- another text rules -/
theorem HoR.rule {σ : Sg} {i n r q : Nat} {μ : Sm} (h : HoR σ i μ n r) : HoR (up σ (11 * i + 2) 0 (nI q)) i (upm μ 4 0 (nI q)) n q := by
  obtain ⟨h1, h2, h3, h4, h5⟩ := h
  have hi := h1.1
  refine ⟨⟨h1.1, by rw [up_n (by omega)]; exact h1.2.1, h1.2.2.1, by rw [up_s, upd_s]⟩, ?_, ?_, ?_, ?_⟩
  · rw [up_n (by omega), upm_n (by omega)]; exact h2
  · rw [up_n (by omega), upm_n (by omega)]; exact h3
  · rw [up_n (by omega), up_n (by omega), up_n (by omega), up_n (by omega), upm_n (by omega), upm_n (by omega)]; exact h4
  · rw [up_n (by omega), up_n (by omega), up_n (by omega), upm_n (by omega)]; exact h5
theorem HoM.rule {μ : Sm} {m n r q : Nat} {Ts : Nat → Nat → List Int32} (h : HoM μ m n r Ts) (hq : q < m) : HoM (upm μ 4 0 (nI q)) m n q Ts := by
  refine ⟨⟨h.rg.n5, h.rg.m6, hq, ?_, ?_, ?_, ?_, ?_, ?_⟩, h.tx.keep (upm_n (by omega)) (upm_n (by omega)), memo_up h.me (by omega)⟩
  · rw [upm_n (by omega)]; exact h.rg.hn
  · rw [upm_e, if_pos rfl]
  · rw [upm_n (by omega)]; exact h.rg.ni
  · rw [upm_n (by omega)]; exact h.rg.ho
  · rw [upm_n (by omega), upm_n (by omega)]; exact h.rg.ps
  · rw [upm_n (by omega)]; exact h.rg.cs
theorem pub_force {σ : Sg} {μ : Sm} (h : Inv σ μ) (x : Int32) : Like (f_X8_force x σ) (f_X9_force x μ) := by
  obtain ⟨m, n, r, Ts, hP⟩ := h
  obtain ⟨hR, hL, hO, h4, h5, h6, h7, h8⟩ := id hP
  have hm6 := hO.rg.m6
  unfold f_X8_force f_X9_force
  rw [hL.txt, fm_inT h5 hm6, Option.bind_some, Option.bind_some]
  simp only []
  by_cases hx : 0 ≤ x.toInt ∧ x.toInt < m
  · obtain ⟨q, hq, rfl⟩ := one_ex hx (by omega)
    rw [if_pos hx, if_neg (by decide), if_neg (by decide), hR.1.2.2.2, hO.rg.hr]
    refine ⟨_, _, _, rfl, rfl, m, n, q, Ts, hR.rule, hL.keep (fun a a1 a2 a3 => up_n (by omega)), hO.rule hq, ?_, ?_, ?_, ?_, ?_⟩
    · rw [upm_n (by omega)]; exact h4
    · rw [upm_n (by omega)]; exact h5
    · exact h6.keep (up_n (by omega)) (up_n (by omega)) (upm_n (by omega)) (upm_n (by omega))
    · exact h7.keep (fun a a1 a2 => up_n (by omega)) (fun a a1 a2 => upm_n (by omega)) (fun p _ => by rw [upm_n (by omega)]) (Nat.le_refl _) (Nat.le_refl _)
    · exact fun s hs => (h8 s hs).keep hs (fun a a1 a2 => up_n (by omega)) (fun a a1 a2 => upm_n (by omega))
  · rw [if_neg hx, if_pos rfl, if_pos rfl]
    exact like_same hP.inv _
theorem pub_feed {σ : Sg} {μ : Sm} (h : Inv σ μ) (x : Int32) : Like (f_X8_feed x σ) (f_X9_feed x μ) := by
  obtain ⟨m, n, r, Ts, hP⟩ := h
  obtain ⟨hR, hL, hO, h4, h5, h6, h7, h8⟩ := id hP
  obtain ⟨t, t1, t2, t3, t4⟩ := h6
  have e0 : (0 : Int32).toInt = 0 := by decide
  have e255 : (255 : Int32).toInt = 255 := by decide
  have l0 : (0 : Int64).toInt = 0 := by decide
  have l255 : (255 : Int64).toInt = 255 := by decide
  unfold f_X8_feed f_X9_feed
  rw [f_in, Option.bind_some, l32_ti, l0, l255]
  simp only []
  by_cases hx : 0 ≤ x.toInt ∧ x.toInt < (256 : Nat)
  · obtain ⟨b, hb, rfl⟩ := one_ex hx (by omega)
    rw [if_neg (by rw [i32_lt, e0]; omega), if_pos (by rw [i32_le, e255]; omega), if_pos (show 0 ≤ (nI b).toInt ∧ (nI b).toInt ≤ 255 by omega), if_neg (show ¬ (1 : Int32) = 0 by decide)]
    unfold f_X4_take
    by_cases ht : t = 160
    · subst ht
      rw [t2, t3, if_neg (by decide), Option.bind_some, if_pos rfl, if_pos (by decide)]
      exact like_same hP.inv _
    · have ok : okI (nI t) 160 := okI_nI (by omega) (by omega)
      rw [t2, if_pos (by rw [show (160 : Int32) = nI 160 from rfl, nI_ltI (by omega) (by omega)]; omega), if_pos ok, Option.bind_some, t3, if_neg (show ¬ nI t = 160 by intro hc; rw [show (160 : Int32) = nI 160 from rfl, i32_eq, nI_ti (by omega), nI_ti (by omega)] at hc; omega), if_pos ok]
      simp only []
      rw [if_neg one_ne, nI_tn (show t < 2147483648 by omega)]
      have c35 : (up σ 34 t (nI b)) 35 0 = nI t := by rw [up_n (by omega)]; exact t2
      have c6 : (upm μ 5 t (nI b)).1 6 0 = nI t := by rw [upm_n (by omega)]; exact t3
      rw [c35, c6, nI_1]
      obtain ⟨σ', hσ⟩ : ∃ y, y = up (up σ 34 t (nI b)) 35 0 (nI (t + 1)) := ⟨_, rfl⟩
      obtain ⟨μ', hμ⟩ : ∃ y, y = upm (upm μ 5 t (nI b)) 6 0 (nI (t + 1)) := ⟨_, rfl⟩
      have fC : ∀ a, a ≠ 34 → a ≠ 35 → σ' a = σ a := fun a a1 a2 => by rw [hσ, up_n a2, up_n a1]
      have fM : ∀ a, a ≠ 5 → a ≠ 6 → μ'.1 a = μ.1 a := fun a a1 a2 => by rw [hμ, upm_n a2, upm_n a1]
      have mM : MemoI μ' m Ts := by rw [hμ]; exact memo_up (memo_up hO.me (by omega)) (by omega)
      have w35 : σ' 35 0 = nI (t + 1) := by rw [hσ, up_s, upd_s]
      have w6 : μ'.1 6 0 = nI (t + 1) := by rw [hμ, upm_e, if_pos rfl]
      have w34 : ∀ j, σ' 34 j = if j = t then nI b else σ 34 j := fun j => by rw [hσ, up_n (by omega), up_s]; rfl
      have w5 : ∀ j, μ'.1 5 j = if j = t then nI b else μ.1 5 j := fun j => by rw [hμ, upm_n (by omega), upm_e]
      rw [← hσ, ← hμ, w35, w6]
      refine ⟨nI (t + 1), σ', μ', rfl, rfl, m, n, r, Ts, ?_, hL.keep (fun a a1 a2 a3 => fC a (by omega) (by omega)), ?_, ?_, ?_, ?_, ?_, ?_⟩
      · obtain ⟨r1, r2, r3, r4, r5⟩ := hR.keepC (σ' := σ') (fun a a1 => fC a (by omega) (by omega))
        refine ⟨r1, ?_, ?_, ?_, ?_⟩
        · rw [fM 7 (by omega) (by omega)]; exact r2
        · rw [fM 8 (by omega) (by omega)]; exact r3
        · rw [fM 9 (by omega) (by omega), fM 10 (by omega) (by omega)]; exact r4
        · rw [fM 11 (by omega) (by omega)]; exact r5
      · refine ⟨⟨hO.rg.n5, hO.rg.m6, hO.rg.rm, ?_, ?_, ?_, ?_, ?_, ?_⟩, hO.tx.keep (fM 1 (by omega) (by omega)) (fM 2 (by omega) (by omega)), mM⟩
        · rw [fM 12 (by omega) (by omega)]; exact hO.rg.hn
        · rw [fM 4 (by omega) (by omega)]; exact hO.rg.hr
        · rw [fM 7 (by omega) (by omega)]; exact hO.rg.ni
        · rw [fM 8 (by omega) (by omega)]; exact hO.rg.ho
        · rw [fM 9 (by omega) (by omega), fM 10 (by omega) (by omega)]; exact hO.rg.ps
        · rw [fM 11 (by omega) (by omega)]; exact hO.rg.cs
      · rw [fM 7 (by omega) (by omega)]; exact h4
      · rw [fM 3 (by omega) (by omega)]; exact h5
      · refine ⟨t + 1, by omega, w35, w6, fun j hj => ?_⟩
        rw [w34, w5]
        by_cases e : j = t
        · rw [if_pos e, if_pos e]; exact ⟨rfl, b, hb, rfl⟩
        · rw [if_neg e, if_neg e]; exact t4 j (by omega)
      · exact h7.keep (fun a a1 a2 => fC a (by omega) (by omega)) (fun a a1 a2 => fM a (by omega) (by omega)) (fun p _ => by rw [fM 9 (by omega) (by omega)]) (Nat.le_refl _) (Nat.le_refl _)
      · exact fun s hs => (h8 s hs).keep hs (fun a a1 a2 => fC a (by omega) (by omega)) (fun a a1 a2 => fM a (by omega) (by omega))
  · rw [if_neg (show ¬ (0 ≤ x.toInt ∧ x.toInt ≤ 255) by omega), if_pos (show (0 : Int32) = 0 from rfl)]
    by_cases hx0 : x < 0
    · rw [if_pos hx0]
      exact like_same hP.inv _
    · rw [if_neg hx0, if_neg (by rw [i32_lt, e0] at hx0; rw [i32_le, e255]; omega)]
      exact like_same hP.inv _
theorem pub_night {σ : Sg} {μ : Sm} (h : Inv σ μ) : Like (f_X8_night σ) (f_X9_night μ) := by
  obtain ⟨m, n, r, Ts, hP⟩ := h
  obtain ⟨hR, hL, hO, h4, h5, h6, h7, h8⟩ := id hP
  obtain ⟨ni, n1, n2⟩ := id h4
  have e7 : σ (11 * 0) 0 = nI ni := by rw [hR.2.1]; exact n2
  unfold f_X8_night f_X9_night
  rw [e7, n2]
  by_cases hn : ni = 999
  · subst hn
    rw [if_neg (by decide), if_pos (by decide)]
    exact like_same hP.inv _
  · obtain ⟨v, σ', μ', g1, g2, g3, g4, g5, g6, g7⟩ := sim_pass hR hL hO (isN_mono h4 (by omega))
    rw [if_pos (by rw [show (999 : Int32) = nI 999 from rfl, nI_ltI (by omega) (by omega)]; omega), if_neg (by intro hc; rw [show (999 : Int32) = nI 999 from rfl, i32_eq, nI_ti (by omega), nI_ti (by omega)] at hc; omega), g1, g2, Option.bind_some, Option.bind_some]
    have fC : ∀ a, a ≠ 42 → a ≠ 0 → a ≠ 6 → a ≠ 10 → (a < 64 ∨ 69 ≤ a) → σ' a = σ a := fun a a1 a2 a3 a4 a5 => g6 a a1 (by omega) (by omega) (by omega) a5
    have fM := g7.fr
    refine ⟨v, σ', μ', rfl, rfl, m, n, r, Ts, g3, g4, g5, ?_, ?_, ?_, ?_, ?_⟩
    · rw [g7.2.1, n2, nI_1]; exact ⟨ni + 1, by omega, rfl⟩
    · rw [fM 3 (by omega) (by omega) (by omega) (by omega)]; exact h5
    · exact h6.keep (fC _ (by omega) (by omega) (by omega) (by omega) (by omega)) (fC _ (by omega) (by omega) (by omega) (by omega) (by omega)) (fM 5 (by omega) (by omega) (by omega) (by omega)) (fM 6 (by omega) (by omega) (by omega) (by omega))
    · exact h7.keep (fun a a1 a2 => fC a (by omega) (by omega) (by omega) (by omega) (by omega)) (fun a a1 a2 => fM a (by omega) (by omega) (by omega) (by omega)) (fun p _ => by rw [fM 9 (by omega) (by omega) (by omega) (by omega)]) (Nat.le_refl _) (Nat.le_refl _)
    · exact fun s hs => (h8 s hs).keep hs (fun a a1 a2 => fC a (by omega) (by omega) (by omega) (by omega) (by omega)) (fun a a1 a2 => fM a (by omega) (by omega) (by omega) (by omega))
/-- one has news, in both -/
theorem sim_news {σ : Sg} {μ : Sm} {i m n r p : Nat} {Ts : Nat → Nat → List Int32} (hR : HoR σ i μ n r) (hO : HoM μ m n r Ts) (hp : p < n) :
    ∃ σ' μ', f_X1_bringNews i (nI p) σ = some σ' ∧ f_X9_tells1 (nI p) μ = some (μ.1 10 (3 * p + 1), μ') ∧ HoR σ' i μ' n r ∧ HoM μ' m n r Ts ∧ (∀ a, a ≠ 11 * i + 6 → a ≠ 11 * i + 7 → σ' a = σ a) ∧ (∀ a, a ≠ 10 → μ'.1 a = μ.1 a) := by
  have hi := hR.1.1
  have n5 := hO.rg.n5
  have i5 : okI (nI p) 5 := okI_nI (by omega) (by omega)
  have i1 : okI (nI (3 * p + 1)) 15 := okI_nI (by omega) (by omega)
  have i2 : okI (nI (3 * p + 2)) 15 := okI_nI (by omega) (by omega)
  obtain ⟨v, hv⟩ : ∃ y, y = clI (μ.1 10 (3 * p + 2) + 1) 0 99 := ⟨_, rfl⟩
  refine ⟨up (up σ (11 * i + 7) p v) (11 * i + 6) p 0, upm (upm μ 10 (3 * p + 2) v) 10 (3 * p + 1) 0, ?_, ?_, ?_, ?_, ?_, ?_⟩
  · unfold f_X1_bringNews
    rw [if_pos hi, fe_lodges hR.1 hp, Option.bind_some]
    simp only []
    rw [if_neg (by decide), if_pos i5, fe_bounded, Option.bind_some, if_pos i5, if_pos i5, nI_tn (show p < 2147483648 by omega), (hR.2.2.2.1 p hp).2.2.2, ← hv]
  · unfold f_X9_tells1
    rw [ix3_1, ix3_2, if_pos i1, if_pos i2, fe_within, Option.bind_some, if_pos i2, if_pos i1, Option.bind_some, nI_tn (show 3 * p + 1 < 2147483648 by omega), nI_tn (show 3 * p + 2 < 2147483648 by omega), ← hv]
  · obtain ⟨r1, r2, r3, r4, r5⟩ := hR
    refine ⟨r1.keep (by rw [up_n (by omega), up_n (by omega)]) (by rw [up_n (by omega), up_n (by omega)]), ?_, ?_, ?_, ?_⟩
    · rw [up_n (by omega), up_n (by omega), upm_n (by omega), upm_n (by omega)]; exact r2
    · rw [up_n (by omega), up_n (by omega), upm_n (by omega), upm_n (by omega)]; exact r3
    · intro q hq
      obtain ⟨b1, b2, b3, b4⟩ := r4 q hq
      rw [up_n (by omega), up_n (by omega), up_n (by omega), up_n (by omega), up_s, up_n (show 11 * i + 7 ≠ 11 * i + 6 by omega), up_s, upm_n (by omega), upm_n (by omega), upm_e, upm_e, upm_e, upm_e, upm_e, upm_e, if_neg (show ¬ 3 * q = 3 * p + 1 by omega), if_neg (show ¬ 3 * q = 3 * p + 2 by omega), if_neg (show ¬ 3 * q + 1 = 3 * p + 2 by omega), if_neg (show ¬ 3 * q + 2 = 3 * p + 1 by omega)]
      refine ⟨b1, b2, ?_, ?_⟩
      · by_cases e : q = p
        · rw [e, upd_s, if_pos rfl]
        · rw [upd_n e, up_n (by omega), if_neg (by omega)]; exact b3
      · by_cases e : q = p
        · rw [e, upd_s, if_pos rfl]
        · rw [upd_n e, if_neg (by omega)]; exact b4
    · rw [up_n (by omega), up_n (by omega), up_n (by omega), up_n (by omega), up_n (by omega), up_n (by omega), upm_n (by omega), upm_n (by omega)]; exact r5
  · refine ⟨⟨hO.rg.n5, hO.rg.m6, hO.rg.rm, ?_, ?_, ?_, ?_, ?_, ?_⟩, hO.tx.keep (by rw [upm_n (by omega), upm_n (by omega)]) (by rw [upm_n (by omega), upm_n (by omega)]), memo_up (memo_up hO.me (by omega)) (by omega)⟩
    · rw [upm_n (by omega), upm_n (by omega)]; exact hO.rg.hn
    · rw [upm_n (by omega), upm_n (by omega)]; exact hO.rg.hr
    · rw [upm_n (by omega), upm_n (by omega)]; exact hO.rg.ni
    · rw [upm_n (by omega), upm_n (by omega)]; exact hO.rg.ho
    · intro q hq
      obtain ⟨b1, b2, b3, b4⟩ := hO.rg.ps q hq
      rw [upm_n (by omega), upm_n (by omega), upm_e, upm_e, upm_e, upm_e, upm_e, upm_e, if_neg (show ¬ 3 * q = 3 * p + 1 by omega), if_neg (show ¬ 3 * q = 3 * p + 2 by omega), if_neg (show ¬ 3 * q + 1 = 3 * p + 2 by omega), if_neg (show ¬ 3 * q + 2 = 3 * p + 1 by omega)]
      refine ⟨b1, b2, ?_, ?_⟩
      · by_cases e : q = p
        · rw [if_pos (by omega)]; exact isN_0 (by omega)
        · rw [if_neg (by omega)]; exact b3
      · by_cases e : q = p
        · rw [if_pos (by omega), hv]; exact isN_R99.mpr (R99_clI _)
        · rw [if_neg (by omega)]; exact b4
    · rw [upm_n (by omega), upm_n (by omega)]; exact hO.rg.cs
  · intro a a1 a2
    rw [up_n a1, up_n a2]
  · intro a a1
    rw [upm_n a1, upm_n a1]
theorem pub_news {σ : Sg} {μ : Sm} (h : Inv σ μ) (x : Int32) : Like (f_X8_news x σ) (f_X9_news x μ) := by
  obtain ⟨m, n, r, Ts, hP⟩ := h
  obtain ⟨hR, hL, hO, h4, h5, h6, h7, h8⟩ := id hP
  unfold f_X8_news f_X9_news
  rw [fe_lodgesI hR.1, fm_isOne hO.rg.hn hO.rg.n5, Option.bind_some, Option.bind_some]
  simp only []
  by_cases hx : 0 ≤ x.toInt ∧ x.toInt < n
  · have n5 := hO.rg.n5
    obtain ⟨p, hp, rfl⟩ := one_ex hx (by omega)
    have i5 : okI (nI p) 5 := okI_nI (by omega) (by omega)
    obtain ⟨σ', μ', g1, g2, g3, g4, g5, g6⟩ := sim_news hR hO hp
    rw [if_pos hx, if_neg one_ne, if_neg one_ne, if_pos i5, g1, g2, Option.bind_some, Option.bind_some, nI_tn (show p < 2147483648 by omega), (hR.2.2.2.1 p hp).2.2.1]
    refine ⟨_, σ', μ', rfl, rfl, m, n, r, Ts, g3, hL.keep (fun a a1 a2 a3 => g5 a (by omega) (by omega)), g4, ?_, ?_, ?_, ?_, ?_⟩
    · rw [g6 7 (by omega)]; exact h4
    · rw [g6 3 (by omega)]; exact h5
    · exact h6.keep (g5 _ (by omega) (by omega)) (g5 _ (by omega) (by omega)) (g6 5 (by omega)) (g6 6 (by omega))
    · exact h7.keep (fun a a1 a2 => g5 a (by omega) (by omega)) (fun a a1 a2 => g6 a (by omega)) (fun p _ => by rw [g6 9 (by omega)]) (Nat.le_refl _) (Nat.le_refl _)
    · exact fun s hs => (h8 s hs).keep hs (fun a a1 a2 => g5 a (by omega) (by omega)) (fun a a1 a2 => g6 a (by omega))
  · rw [if_neg hx, if_pos rfl, if_pos rfl]
    exact like_same hP.inv _
