/-! best -/
theorem cW0 (w : Nat → Int32) (a : Int32) : cW w 0 a 6 = a := by
  rw [cW, if_pos (by decide), cW, if_pos (by decide), cW, if_pos (by decide), cW, if_pos (by decide), cW, if_pos (by decide), cW, if_pos (by decide), cW]
theorem MeJ.frT {σ0 σ : Sg} {T : Nat → List Int32} {n p : Nat} (h : MeJ σ0 σ T n p) : FrT σ0 σ := fun a ha => h.1 a (by omega) (by omega)
theorem like_of {σ : Sg} {μ : Sm} {m n r : Nat} {Ts : Nat → Nat → List Int32} (hP : InvP σ μ m n r Ts) {σ' : Sg} {μ' : Sm} {v w : Int32} {a : Option (Int32 × Sg)} {b : Option (Int32 × Sm)} (ha : a = some (v, σ')) (hb : b = some (w, μ')) (e : v = w) (hF : FrT σ σ') (hB : FrB μ μ') (hM : MemoI μ' m Ts) : Like a b :=
  ⟨w, σ', μ', by rw [ha, e], hb, (hP.think hF hB hM).inv⟩
theorem pub_best {σ : Sg} {μ : Sm} (h : Inv σ μ) (x : Int32) : Like (f_X8_best x σ) (f_X9_best x μ) := by
  obtain ⟨m, n, r, Ts, hP⟩ := h
  obtain ⟨hR, hL, hO, h4, h5, h6, h7, h8⟩ := id hP
  have n5 := hO.rg.n5
  have l0 : (0 : Int64).toInt = 0 := by decide
  have l5 : (5 : Int64).toInt = 5 := by decide
  obtain ⟨σ', g1, g2, g3⟩ := fe_measure hR.1 hL hO.rg.rm
  have hn := g2.2.1
  have hF := g2.frT
  unfold f_X8_best f_X9_best
  rw [g1, Option.bind_some, f_in, l32_ti, l0, l5, Option.bind_some]
  simp only []
  by_cases hx : 0 ≤ x.toInt ∧ x.toInt ≤ 5
  · obtain ⟨q, hq, rfl⟩ := one_ex (x := x) (n := 6) (by omega) (by omega)
    rw [if_pos hx, if_neg one_ne, hO.rg.hn]
    -- the three of the reference
    have m0 : ∀ k, k < 100 → ∀ ν, Fr13 μ ν → MemoI ν m Ts → ∃ μ', f_X9_mostBut (nI k) (-1) (-1) ν = some (mstO σ' n k, μ') ∧ Fr13 μ μ' ∧ MemoI μ' m Ts := by
      intro k hk ν f1 f2
      obtain ⟨μ', a1, a2, a3, a4⟩ := fm_mostBut (f1.ho hO f2) (nI k) (-1) (-1)
      rw [cutM_13 f1] at a1
      exact ⟨μ', by rw [mstO_eq g2 g3 hR hO.rg hk]; exact a1, f1.tr a2, a3⟩
    have m1 : ∀ k, k < 6 → ∀ ν, Fr13 μ ν → MemoI ν m Ts → ∃ μ', f_X9_mostBut (-1) (nI k) (-1) ν = some (mstW σ' n k 0, μ') ∧ Fr13 μ μ' ∧ MemoI μ' m Ts := by
      intro k hk ν f1 f2
      obtain ⟨μ', a1, a2, a3, a4⟩ := fm_mostBut (f1.ho hO f2) (-1) (nI k) (-1)
      rw [cutM_13 f1] at a1
      exact ⟨μ', by rw [mstW_eq g2 g3 hR hO.rg hk (Or.inl ⟨rfl, rfl, rfl⟩)]; exact a1, f1.tr a2, a3⟩
    have m2 : ∀ k, k < 6 → ∀ ν, Fr13 μ ν → MemoI ν m Ts → ∃ μ', f_X9_mostBut (-1) (-1) (nI k) ν = some (mstD σ' n k, μ') ∧ Fr13 μ μ' ∧ MemoI μ' m Ts := by
      intro k hk ν f1 f2
      obtain ⟨μ', a1, a2, a3, a4⟩ := fm_mostBut (f1.ho hO f2) (-1) (-1) (nI k)
      rw [cutM_13 f1] at a1
      exact ⟨μ', by rw [show mstD σ' n k = _ from mstW_eq g2 g3 hR hO.rg hk (Or.inr ⟨rfl, rfl, rfl⟩)]; exact a1, f1.tr a2, a3⟩
    have hMr := mnA_is (V := cutV n (upd (σ' 70) 0 0) (σ' 71) (σ' 72)) (2 ^ n - 1)
    match q, hq with
    | 0, _ =>
      rw [if_pos (show nI 0 = 0 from rfl), if_neg (show ¬ (2 : Int32) ≤ nI 0 by decide)]
      by_cases hn0 : n = 0
      · subst hn0
        have c1 : f_X0_leastLost σ' = some (-1, σ') := by
          have h1 : f_X0_leastLost σ' = f_X0_leastLost_6 (4999 + 1) (-1) (-1) 0 σ' := rfl
          rw [h1, f_X0_leastLost_6, hn, if_pos (show nI 0 ≤ 0 by decide)]
        have c2 : f_X9_best_38 (nI 0) 5000 (-1) 0 (nI 0) 0 μ = some (-1, μ) := by
          have h1 : f_X9_best_38 (nI 0) 5000 (-1) 0 (nI 0) 0 μ = f_X9_best_38 (nI 0) (4999 + 1) (-1) 0 (nI 0) 0 μ := rfl
          rw [h1, f_X9_best_38, if_pos (show nI 0 ≤ 0 by decide), if_pos (by decide)]
        rw [c1, Option.bind_some]
        exact like_of hP rfl c2 rfl hF FrB.rf hO.me
      · have hM0 : 0 ≤ (mstO σ' n 0).toInt := by
          have := cutM_rng hO.rg (Ts r) (nI 0) (-1) (-1)
          rw [mstO_eq g2 g3 hR hO.rg (by omega), ← (mnA_is (V := cutM μ (Ts r) n (nI 0) (-1) (-1)) (2 ^ n - 1)).2.1]
          exact (this _).1
        obtain ⟨μ', b1, b2, b3⟩ := fm_best0 (q := 0) (L := n) (M := mstO σ' n) (by omega) (by omega) hO.me (fun k hk ν f1 f2 => by
          rw [if_neg (show ¬ (2 : Int32) ≤ nI 0 by decide)]; exact m0 k (by omega) ν f1 f2)
        rw [if_pos (by decide)] at b1
        rw [fe_leastLost hn n5 (by omega) hM0, Option.bind_some]
        exact like_of hP rfl b1 rfl hF b2.b b3
    | 1, _ =>
      rw [if_neg (show ¬ nI 1 = 0 by decide), if_pos (show nI 1 = 1 from rfl), if_neg (show ¬ (2 : Int32) ≤ nI 1 by decide)]
      by_cases hn0 : n = 0
      · subst hn0
        have c1 : f_X0_leastLost σ' = some (-1, σ') := by
          have h1 : f_X0_leastLost σ' = f_X0_leastLost_6 (4999 + 1) (-1) (-1) 0 σ' := rfl
          rw [h1, f_X0_leastLost_6, hn, if_pos (show nI 0 ≤ 0 by decide)]
        have c2 : f_X9_best_38 (nI 1) 5000 (-1) 0 (nI 0) 0 μ = some (0, μ) := by
          have h1 : f_X9_best_38 (nI 1) 5000 (-1) 0 (nI 0) 0 μ = f_X9_best_38 (nI 1) (4999 + 1) (-1) 0 (nI 0) 0 μ := rfl
          rw [h1, f_X9_best_38, if_pos (show nI 0 ≤ 0 by decide), if_neg (by decide)]
        have c3 : f_X0_mostWithoutOne (-1) σ' = some (0, σ') := by
          unfold f_X0_mostWithoutOne
          have e : mnV (cutC σ' 0) (2 ^ 0 - 1) = 0 := by
            rw [show 2 ^ 0 - 1 = 0 by decide, mnV]
            show cutV 0 (σ' 70) (σ' 71) (σ' 72) 0 = 0
            unfold cutV
            rw [cU, cS, cW0]
          rw [if_pos (by decide), fe_mostC hn (by omega), Option.bind_some, e]
        rw [c1, Option.bind_some]
        simp only []
        rw [c3, Option.bind_some]
        exact like_of hP rfl c2 rfl hF FrB.rf hO.me
      · have hM0 : 0 ≤ (mstO σ' n 0).toInt := by
          have := cutM_rng hO.rg (Ts r) (nI 0) (-1) (-1)
          rw [mstO_eq g2 g3 hR hO.rg (by omega), ← (mnA_is (V := cutM μ (Ts r) n (nI 0) (-1) (-1)) (2 ^ n - 1)).2.1]
          exact (this _).1
        have hle := xA_le (M := mstO σ' n) (n - 1)
        obtain ⟨μ', b1, b2, b3⟩ := fm_best0 (q := 1) (L := n) (M := mstO σ' n) (by omega) (by omega) hO.me (fun k hk ν f1 f2 => by
          rw [if_neg (show ¬ (2 : Int32) ≤ nI 1 by decide)]; exact m0 k (by omega) ν f1 f2)
        rw [if_neg (by decide)] at b1
        rw [fe_leastLost hn n5 (by omega) hM0, Option.bind_some]
        simp only []
        rw [fe_without hn n5 (show xA (mstO σ' n) (n - 1) < n by omega), Option.bind_some]
        exact like_of hP rfl b1 rfl hF b2.b b3
    | 2, _ =>
      obtain ⟨μ', b1, b2, b3⟩ := fm_best0 (q := 2) (L := 6) (M := fun k => mstW σ' n k 0) (by omega) (by omega) hO.me (fun k hk ν f1 f2 => by
        rw [if_pos (show (2 : Int32) ≤ nI 2 by decide), if_neg (show ¬ (4 : Int32) ≤ nI 2 by decide)]; exact m1 k hk ν f1 f2)
      rw [if_pos (by decide)] at b1
      rw [if_neg (show ¬ nI 2 = 0 by decide), if_neg (show ¬ nI 2 = 1 by decide), if_pos (show nI 2 = 2 from rfl), if_pos (show (2 : Int32) ≤ nI 2 by decide), fe_emptiest hn n5, Option.bind_some]
      exact like_of hP rfl b1 rfl hF b2.b b3
    | 3, _ =>
      obtain ⟨μ', b1, b2, b3⟩ := fm_best0 (q := 3) (L := 6) (M := fun k => mstW σ' n k 0) (by omega) (by omega) hO.me (fun k hk ν f1 f2 => by
        rw [if_pos (show (2 : Int32) ≤ nI 3 by decide), if_neg (show ¬ (4 : Int32) ≤ nI 3 by decide)]; exact m1 k hk ν f1 f2)
      have hle := xA_le (M := fun k => mstW σ' n k 0) 5
      rw [if_neg (by decide)] at b1
      rw [if_neg (show ¬ nI 3 = 0 by decide), if_neg (show ¬ nI 3 = 1 by decide), if_neg (show ¬ nI 3 = 2 by decide), if_pos (show nI 3 = 3 from rfl), if_pos (show (2 : Int32) ≤ nI 3 by decide), fe_emptiest hn n5, Option.bind_some]
      simp only []
      rw [fe_withWant hn n5 (show xA (fun k => mstW σ' n k 0) 5 < 6 by omega), Option.bind_some]
      exact like_of hP rfl b1 rfl hF b2.b b3
    | 4, _ =>
      obtain ⟨μ', b1, b2, b3⟩ := fm_best0 (q := 4) (L := 6) (M := mstD σ' n) (by omega) (by omega) hO.me (fun k hk ν f1 f2 => by
        rw [if_pos (show (2 : Int32) ≤ nI 4 by decide), if_pos (show (4 : Int32) ≤ nI 4 by decide)]; exact m2 k hk ν f1 f2)
      rw [if_pos (by decide)] at b1
      rw [if_neg (show ¬ nI 4 = 0 by decide), if_neg (show ¬ nI 4 = 1 by decide), if_neg (show ¬ nI 4 = 2 by decide), if_neg (show ¬ nI 4 = 3 by decide), if_pos (show nI 4 = 4 from rfl), if_pos (show (2 : Int32) ≤ nI 4 by decide), fe_dearest hn n5, Option.bind_some]
      exact like_of hP rfl b1 rfl hF b2.b b3
    | 5, _ =>
      obtain ⟨μ', b1, b2, b3⟩ := fm_best0 (q := 5) (L := 6) (M := mstD σ' n) (by omega) (by omega) hO.me (fun k hk ν f1 f2 => by
        rw [if_pos (show (2 : Int32) ≤ nI 5 by decide), if_pos (show (4 : Int32) ≤ nI 5 by decide)]; exact m2 k hk ν f1 f2)
      have hle := xA_le (M := mstD σ' n) 5
      rw [if_neg (by decide)] at b1
      rw [if_neg (show ¬ nI 5 = 0 by decide), if_neg (show ¬ nI 5 = 1 by decide), if_neg (show ¬ nI 5 = 2 by decide), if_neg (show ¬ nI 5 = 3 by decide), if_neg (show ¬ nI 5 = 4 by decide), if_pos (show nI 5 = 5 from rfl), if_pos (show (2 : Int32) ≤ nI 5 by decide), fe_dearest hn n5, Option.bind_some]
      simp only []
      rw [fe_oneMore hn n5 (show xA (mstD σ' n) 5 < 6 by omega), Option.bind_some]
      exact like_of hP rfl b1 rfl hF b2.b b3
  · have hne : ∀ k : Nat, k ≤ 5 → ¬ x = nI k := fun k hk hc => hx (by rw [hc, nI_ti (by omega)]; omega)
    rw [if_neg hx, if_pos rfl, if_neg (show ¬ x = 0 from hne 0 (by omega)), if_neg (show ¬ x = 1 from hne 1 (by omega)), if_neg (show ¬ x = 2 from hne 2 (by omega)), if_neg (show ¬ x = 3 from hne 3 (by omega)), if_neg (show ¬ x = 4 from hne 4 (by omega)), if_neg (show ¬ x = 5 from hne 5 (by omega))]
    exact like_of hP rfl rfl rfl hF FrB.rf hO.me
/-! pour -/
def fQ (h w : Nat → Int32) : Nat → Int32
  | 0 => 0
  | c + 1 => if h c = w c then fQ h w c ||| ((1 : Int32) <<< (nI c &&& 31)) else fQ h w c
theorem fQ_congr {h h' w w' : Nat → Int32} : ∀ c, (∀ d, d < c → h d = h' d ∧ w d = w' d) → fQ h w c = fQ h' w' c
  | 0, _ => rfl
  | c + 1, e => by
    unfold fQ
    rw [fQ_congr c (fun d hd => e d (by omega)), (e c (by omega)).1, (e c (by omega)).2]
theorem fe_full {σ : Sg} {i : Nat} (hi : i < 3) : ∀ (d c k : Nat), c + d = 6 → d < k → f_X1_fullCups_4 i k (fQ (σ (11 * i + 10)) (σ (11 * i + 8)) c) (nI c) σ = some (fQ (σ (11 * i + 10)) (σ (11 * i + 8)) 6, σ) := by
  intro d
  induction d with
  | zero =>
    intro c k hc hk
    obtain ⟨k, rfl⟩ : ∃ q, k = q + 1 := ⟨k - 1, by omega⟩
    have e : c = 6 := by omega
    subst e
    rw [f_X1_fullCups_4, if_pos hi, if_pos (show (6 : Int32) ≤ nI 6 by decide)]
  | succ d ih =>
    intro c k hc hk
    obtain ⟨k, rfl⟩ : ∃ q, k = q + 1 := ⟨k - 1, by omega⟩
    have ok : okI (nI c) 6 := okI_nI (by omega) (by omega)
    have key := ih (c + 1) k (by omega) (by omega)
    rw [fQ] at key
    rw [f_X1_fullCups_4, if_pos hi, if_neg (show ¬ (6 : Int32) ≤ nI c by rw [show (6 : Int32) = nI 6 from rfl, nI_leI (by omega) (by omega)]; omega), if_pos ok, if_pos ok, nI_1, nI_tn (show c < 2147483648 by omega)]
    by_cases h : σ (11 * i + 10) c = σ (11 * i + 8) c
    · rw [if_pos h] at key ⊢; exact key
    · rw [if_neg h] at key ⊢; exact key
theorem fm_full {μ0 μ : Sm} (x y : Int32) (hA : Asd μ0 μ) : ∃ μ', FrB μ0 μ' ∧ (∀ a, a ≠ 7 → a ≠ 10 → a ≠ 11 → μ'.1 a = μ.1 a) ∧ μ'.2 = μ.2 ∧ ∀ (d c k : Nat), c + d = 6 → d < k → f_X9_pouredNow_14 x k y (fQ (fun c => μ.1 11 (3 * c + 2)) (fun c => μ.1 11 (3 * c)) c) (nI c) μ = some (if x = 4 then fQ (fun c => μ.1 11 (3 * c + 2)) (fun c => μ.1 11 (3 * c)) 6 else y, μ') := by
  obtain ⟨μ', q1, q2, q3, q4⟩ := fm_laidBack hA
  refine ⟨μ', q2, q3, q4, ?_⟩
  intro d
  induction d with
  | zero =>
    intro c k hc hk
    obtain ⟨k, rfl⟩ : ∃ q, k = q + 1 := ⟨k - 1, by omega⟩
    have e : c = 6 := by omega
    subst e
    rw [f_X9_pouredNow_14, if_pos (show (6 : Int32) ≤ nI 6 by decide), q1, Option.bind_some]
    split <;> rfl
  | succ d ih =>
    intro c k hc hk
    obtain ⟨k, rfl⟩ : ∃ q, k = q + 1 := ⟨k - 1, by omega⟩
    have ok0 : okI (nI (3 * c)) 18 := okI_nI (by omega) (by omega)
    have ok2 : okI (nI (3 * c + 2)) 18 := okI_nI (by omega) (by omega)
    have key := ih (c + 1) k (by omega) (by omega)
    rw [fQ] at key
    rw [f_X9_pouredNow_14, if_neg (show ¬ (6 : Int32) ≤ nI c by rw [show (6 : Int32) = nI 6 from rfl, nI_leI (by omega) (by omega)]; omega), ix3_2, ix3_0, if_pos ok2, if_pos ok0, nI_tn (show 3 * c + 2 < 2147483648 by omega), nI_tn (show 3 * c < 2147483648 by omega)]
    unfold f_X9_pouredNow_50
    rw [nI_1]
    by_cases h : μ.1 11 (3 * c + 2) = μ.1 11 (3 * c)
    · rw [if_pos h] at key ⊢; exact key
    · rw [if_neg h] at key ⊢; rw [zsh c (by omega), Int32.or_zero]; exact key
theorem sim_poured {σ0 σ : Sg} {μ : Sm} {m n r : Nat} {Ts : Nat → Nat → List Int32} (hR : HoR σ 1 μ n r) (hL : LawC σ m Ts) (hO : HoM μ m n r Ts) (h4 : isN (μ.1 7 0) 1000) (hF : FrT σ0 σ) (x : Int32) :
    ∃ v b σ' μ', f_X3_pourAll 1 σ = some (v, σ') ∧ f_X1_fullCups 1 σ' = some (b, σ') ∧ f_X9_pouredNow x μ = some (if x = 4 then b else v, μ') ∧ FrT σ0 σ' ∧ FrB μ μ' ∧ MemoI μ' m Ts := by
  obtain ⟨μ1, q1, q2, q3, q4⟩ := fm_aside μ
  have hR1 : HoR σ 1 μ1 n r := hR.eqM (fun a ha => q2 a (by omega))
  have hO1 : HoM μ1 m n r Ts := hO.eqM (fun a ha => q2 a (by omega)) (memo_fr hO.me (q2 29 (by omega)) q3)
  obtain ⟨σ2, a1, a2⟩ := fe_pourAll hR1.1 hL hO1.rg.rm (hR1.wt hO1.rg)
  obtain ⟨μ2, b1, b2, b3⟩ := fm_passes hO1
  obtain ⟨μ', c1, c2, c3, c4⟩ := fm_full (μ0 := μ) (μ := μ2) x (pdv (yM μ1 (Ts r)) (sM μ1 (Ts r)) (wM μ1) n) (q4.p b2.fr)
  have e : pdv (yC σ 1 (Ts r)) (sC σ 1 (Ts r)) (σ (11 * 1 + 8)) n = pdv (yM μ1 (Ts r)) (sM μ1 (Ts r)) (wM μ1) n := pdv_congr n (fun q hq => hR1.y (Ts r) hq) (fun q d hq hd => hR1.s (Ts r) hq hd) (fun d hd => (hR1.2.2.2.2 d hd).1)
  rw [e] at a1
  have eh : fQ (σ2 (11 * 1 + 10)) (σ2 (11 * 1 + 8)) 6 = fQ (fun c => μ2.1 11 (3 * c + 2)) (fun c => μ2.1 11 (3 * c)) 6 := fQ_congr 6 (fun c hc => by
    obtain ⟨w1, w2, w3⟩ := b2.2.2.2.1 c hc
    refine ⟨?_, ?_⟩
    · rw [a2.2.1 c hc, w3]
      exact hdv_congr n (fun q hq => hR1.y (Ts r) hq) (fun q d hq hd => hR1.s (Ts r) hq hd) (fun d hd => (hR1.2.2.2.2 d hd).1) c hc
    · rw [a2.1 (11 * 1 + 8) (by omega) (by omega) (by omega), w1]
      exact (hR1.2.2.2.2 c hc).1)
  refine ⟨_, fQ (σ2 (11 * 1 + 10)) (σ2 (11 * 1 + 8)) 6, σ2, μ', a1, ?_, ?_, hF.tr (fun a ha => a2.1 a (by omega) (by omega) (by omega)), c1, memo_fr b3 (c2 29 (by omega) (by omega) (by omega)) c3⟩
  · unfold f_X1_fullCups
    rw [if_pos (by omega)]
    exact fe_full (i := 1) (by omega) 6 0 5000 (by omega) (by omega)
  · unfold f_X9_pouredNow
    rw [q1, Option.bind_some, b1, Option.bind_some, eh]
    exact c4 6 0 5000 (by omega) (by omega)
def stV (y s : Nat → Int32) : Nat → Int32
  | 0 => 0
  | p + 1 => if y p ≤ 0 then stV y s p else stV y s p ||| s p
theorem stV_congr {y y' s s' : Nat → Int32} : ∀ c, (∀ d, d < c → y d = y' d ∧ s d = s' d) → stV y s c = stV y' s' c
  | 0, _ => rfl
  | c + 1, e => by
    unfold stV
    rw [stV_congr c (fun d hd => e d (by omega)), (e c (by omega)).1, (e c (by omega)).2]
theorem fe_starve {n : Nat} {σ : Sg} (hn : σ 69 0 = nI n) (n5 : n ≤ 5) : ∀ (d c k : Nat), c + d = n → d < k → f_X0_starved_4 k (stV (σ 70) (σ 71) c) (nI c) σ = some (63 &&& (stV (σ 70) (σ 71) n ^^^ -1), σ) := by
  intro d
  induction d with
  | zero =>
    intro c k hc hk
    obtain ⟨k, rfl⟩ : ∃ q, k = q + 1 := ⟨k - 1, by omega⟩
    have e : c = n := by omega
    subst e
    rw [f_X0_starved_4, hn, if_pos (Int32.le_refl _)]
  | succ d ih =>
    intro c k hc hk
    obtain ⟨k, rfl⟩ : ∃ q, k = q + 1 := ⟨k - 1, by omega⟩
    have ok : okI (nI c) 5 := okI_nI (by omega) (by omega)
    have key := ih (c + 1) k (by omega) (by omega)
    rw [stV] at key
    rw [f_X0_starved_4, hn, if_neg (show ¬ nI n ≤ nI c by rw [nI_leI (by omega) (by omega)]; omega), if_pos ok, if_pos ok, nI_1, nI_tn (show c < 2147483648 by omega)]
    by_cases h : σ 70 c ≤ 0
    · rw [if_pos h] at key ⊢; exact key
    · rw [if_neg h] at key ⊢; exact key
theorem i32_nor (a b : Int32) : (a ||| b) ^^^ -1 = (a ^^^ -1) &&& (b ^^^ -1) := by
  rw [Int32.xor_neg_one, Int32.xor_neg_one, Int32.xor_neg_one]
  exact Int32.toBitVec_inj.1 BitVec.not_or
theorem fm_starve {μ0 : Sm} {m n r : Nat} {Ts : Nat → Nat → List Int32} (hO : HoM μ0 m n r Ts) : ∀ (d c k : Nat) (μ : Sm), c + d = n → d < k → FrS μ0 μ → MemoI μ m Ts →
    ∃ μ', f_X9_starved_5 k (63 &&& (stV (yM μ0 (Ts r)) (bSu μ0 (Ts r)) c ^^^ -1)) (nI c) μ = some (63 &&& (stV (yM μ0 (Ts r)) (bSu μ0 (Ts r)) n ^^^ -1), μ') ∧ FrS μ0 μ' ∧ MemoI μ' m Ts := by
  have n5 := hO.rg.n5
  intro d
  induction d with
  | zero =>
    intro c k μ hc hk hF hM
    obtain ⟨k, rfl⟩ : ∃ q, k = q + 1 := ⟨k - 1, by omega⟩
    have e : c = n := by omega
    subst e
    refine ⟨μ, ?_, hF, hM⟩
    rw [f_X9_starved_5, hF 12 (by omega), hO.rg.hn, if_pos (Int32.le_refl _)]
  | succ d ih =>
    intro c k μ hc hk hF hM
    obtain ⟨k, rfl⟩ : ∃ q, k = q + 1 := ⟨k - 1, by omega⟩
    have hO1 := hO.keep hF hM
    obtain ⟨μ1, g1, g2, g3⟩ := fm_yields hO1 (show c < n by omega)
    rw [hF.f13.y] at g1
    rw [f_X9_starved_5, hF 12 (by omega), hO.rg.hn, if_neg (show ¬ nI n ≤ nI c by rw [nI_leI (by omega) (by omega)]; omega), g1, Option.bind_some]
    simp only [nI_1]
    by_cases h : yM μ0 (Ts r) c ≤ 0
    · have key := ih (c + 1) k μ1 (by omega) (by omega) (hF.tr g2) g3
      rw [stV, if_pos h] at key
      rw [if_pos h, Int32.and_self]
      exact key
    · obtain ⟨μ2, b1, b2, b3⟩ := fm_suitSet (hO1.keep g2 g3) (show c < n by omega)
      have e : bS (sM μ1 (Ts r) c) 6 = bSu μ0 (Ts r) c := by unfold bSu; rw [(hF.tr g2).f13.s]
      rw [e] at b1
      have key := ih (c + 1) k μ2 (by omega) (by omega) ((hF.tr g2).tr b2) b3
      rw [stV, if_neg h, i32_nor, ← Int32.and_assoc] at key
      rw [if_neg h, b1, Option.bind_some]
      exact key
theorem pub_pour {σ : Sg} {μ : Sm} (h : Inv σ μ) (x : Int32) : Like (f_X8_pour x σ) (f_X9_pour x μ) := by
  obtain ⟨m, n, r, Ts, hP⟩ := h
  obtain ⟨hR, hL, hO, h4, h5, h6, h7, h8⟩ := id hP
  have n5 := hO.rg.n5
  have l0 : (0 : Int64).toInt = 0 := by decide
  have l5 : (5 : Int64).toInt = 5 := by decide
  obtain ⟨σ1, a1, a2⟩ := fe_takeFrom (σ := σ) (i := 1) (j := 0) (by omega) (by omega) (by omega)
  have hL1 : LawC σ1 m Ts := hL.keep (fun a a1 a3 a4 => a2.1 a (by omega))
  have hR0 : HoR σ1 0 μ n r := hR.keepC (fun a ha => a2.1 a (by omega))
  have hR1 : HoR σ1 1 μ n r := a2.R (by omega) hR
  obtain ⟨σ', g1, g2, g3⟩ := fe_measure hR0.1 hL1 hO.rg.rm
  have hn := g2.2.1
  have hF : FrT σ σ' := a2.frT.tr g2.frT
  have eC := cut_eq g2 g3 hR0 hO.rg
  have hR2 : HoR σ' 1 μ n r := by
    obtain ⟨r1, r2, r3, r4, r5⟩ := hR1
    refine ⟨r1.keep (g2.1 _ (by omega) (by omega)) (g2.1 _ (by omega) (by omega)), ?_, ?_, ?_, ?_⟩
    · rw [g2.1 _ (by omega) (by omega)]; exact r2
    · rw [g2.1 _ (by omega) (by omega)]; exact r3
    · rw [g2.1 (11 * 1 + 4) (by omega) (by omega), g2.1 (11 * 1 + 5) (by omega) (by omega), g2.1 (11 * 1 + 6) (by omega) (by omega), g2.1 (11 * 1 + 7) (by omega) (by omega)]; exact r4
    · rw [g2.1 (11 * 1 + 8) (by omega) (by omega), g2.1 (11 * 1 + 9) (by omega) (by omega), g2.1 (11 * 1 + 10) (by omega) (by omega)]; exact r5
  have hL2 : LawC σ' m Ts := hL1.keep (fun a b1 b2 b3 => g2.1 a b3 (by omega))
  unfold f_X8_pour f_X9_pour
  rw [a1, Option.bind_some, g1, Option.bind_some, f_in, l32_ti, l0, l5, Option.bind_some]
  simp only []
  by_cases hx : 0 ≤ x.toInt ∧ x.toInt ≤ 5
  · obtain ⟨q, hq, rfl⟩ := one_ex (x := x) (n := 6) (by omega) (by omega)
    obtain ⟨μ1, b1, b2, b3, b4⟩ := fm_mostNow hO
    rw [← eC] at b1 b4
    have hO1 := b2.ho hO b3
    have hP1 : HoR σ' 1 μ1 n r := hR2.eqM (fun a ha => b2 a (by omega))
    have h41 : isN (μ1.1 7 0) 1000 := by rw [b2 7 (by omega)]; exact h4
    obtain ⟨v3, w3, σ3, μ3, c1, c2, c3, c4, c5, c6⟩ := sim_poured hP1 hL2 hO1 h41 hF 3
    obtain ⟨v4, w4, σ4, μ4, d1, d2, d3, d4, d5, d6⟩ := sim_poured hP1 hL2 hO1 h41 hF 4
    rw [if_neg (show ¬ (3 : Int32) = 4 by decide)] at c3
    rw [if_pos rfl] at d3
    rw [if_pos hx, if_neg one_ne, b1, Option.bind_some]
    simp only []
    match q, hq with
    | 0, _ =>
      rw [if_pos (show nI 0 = 0 from rfl), if_neg (show ¬ (3 : Int32) ≤ nI 0 by decide), if_pos (show nI 0 = 0 from rfl), fe_mostC hn n5, Option.bind_some]
      exact like_of hP rfl rfl rfl hF b2.b b3
    | 1, _ =>
      rw [if_neg (show ¬ nI 1 = 0 by decide), if_pos (show nI 1 = 1 from rfl), if_neg (show ¬ (3 : Int32) ≤ nI 1 by decide), if_neg (show ¬ nI 1 = 0 by decide), if_pos (show nI 1 = 1 from rfl), fe_leastCut hn n5, Option.bind_some, b4]
      exact like_of hP rfl rfl rfl hF b2.b b3
    | 2, _ =>
      rw [if_neg (show ¬ nI 2 = 0 by decide), if_neg (show ¬ nI 2 = 1 by decide), if_pos (show nI 2 = 2 from rfl), if_neg (show ¬ (3 : Int32) ≤ nI 2 by decide), if_neg (show ¬ nI 2 = 0 by decide), if_neg (show ¬ nI 2 = 1 by decide), fe_mostC hn n5, Option.bind_some]
      simp only []
      rw [c1, Option.bind_some, c3, Option.bind_some]
      exact like_of hP rfl rfl rfl c4 (b2.b.tr c5) c6
    | 3, _ =>
      have c3' : f_X9_pouredNow (nI 3) μ1 = _ := c3
      rw [if_neg (show ¬ nI 3 = 0 by decide), if_neg (show ¬ nI 3 = 1 by decide), if_neg (show ¬ nI 3 = 2 by decide), if_pos (show nI 3 = 3 from rfl), if_pos (show (3 : Int32) ≤ nI 3 by decide), if_neg (show ¬ nI 3 = 5 by decide), c1, Option.bind_some, c3', Option.bind_some]
      exact like_of hP rfl rfl rfl c4 (b2.b.tr c5) c6
    | 4, _ =>
      have d3' : f_X9_pouredNow (nI 4) μ1 = _ := d3
      rw [if_neg (show ¬ nI 4 = 0 by decide), if_neg (show ¬ nI 4 = 1 by decide), if_neg (show ¬ nI 4 = 2 by decide), if_neg (show ¬ nI 4 = 3 by decide), if_pos (show nI 4 = 4 from rfl), if_pos (show (3 : Int32) ≤ nI 4 by decide), if_neg (show ¬ nI 4 = 5 by decide), d1, Option.bind_some]
      simp only []
      rw [d2, Option.bind_some, d3', Option.bind_some]
      exact like_of hP rfl rfl rfl d4 (b2.b.tr d5) d6
    | 5, _ =>
      obtain ⟨μ5, e1, e2, e3⟩ := fm_starve hO1 n 0 5000 μ1 (by omega) (by omega) FrS.rf b3
      have z63 : (63 : Int32) &&& (stV (yM μ1 (Ts r)) (bSu μ1 (Ts r)) 0 ^^^ -1) = 63 := by
        rw [stV]; decide
      have e0 : f_X9_starved μ1 = f_X9_starved_5 5000 (63 &&& (stV (yM μ1 (Ts r)) (bSu μ1 (Ts r)) 0 ^^^ -1)) (nI 0) μ1 := by
        rw [z63]; rfl
      have s0 : f_X0_starved σ' = some (63 &&& (stV (σ' 70) (σ' 71) n ^^^ -1), σ') := fe_starve hn n5 n 0 5000 (by omega) (by omega)
      have es : stV (σ' 70) (σ' 71) n = stV (yM μ1 (Ts r)) (bSu μ1 (Ts r)) n := stV_congr n (fun d hd => by
        refine ⟨?_, ?_⟩
        · rw [me_y g2 hR0 hd, b2.y]
        · rw [me_s g2 hR0 hd]; unfold bSu; rw [b2.s])
      rw [es] at s0
      rw [← e0] at e1
      rw [if_neg (show ¬ nI 5 = 0 by decide), if_neg (show ¬ nI 5 = 1 by decide), if_neg (show ¬ nI 5 = 2 by decide), if_neg (show ¬ nI 5 = 3 by decide), if_neg (show ¬ nI 5 = 4 by decide), if_pos (show nI 5 = 5 from rfl), if_pos (show (3 : Int32) ≤ nI 5 by decide), if_pos (show nI 5 = 5 from rfl), s0, Option.bind_some, e1, Option.bind_some]
      exact like_of hP rfl rfl rfl hF (b2.b.tr e2.f13.b) e3
  · have hne : ∀ k : Nat, k ≤ 5 → ¬ x = nI k := fun k hk hc => hx (by rw [hc, nI_ti (by omega)]; omega)
    rw [if_neg hx, if_pos rfl, if_neg (show ¬ x = 0 from hne 0 (by omega)), if_neg (show ¬ x = 1 from hne 1 (by omega)), if_neg (show ¬ x = 2 from hne 2 (by omega)), if_neg (show ¬ x = 3 from hne 3 (by omega)), if_neg (show ¬ x = 4 from hne 4 (by omega)), if_neg (show ¬ x = 5 from hne 5 (by omega))]
    exact like_of hP rfl rfl rfl hF FrB.rf hO.me
