/-! In lowest terms: blend, chance -/
def LikeJ (a : Option (Int64 × Sg)) (b : Option (Int64 × Sm)) : Prop := ∃ v σ' μ', a = some (v, σ') ∧ b = some (v, μ') ∧ Inv σ' μ'
theorem likeJ_same {σ : Sg} {μ : Sm} (h : Inv σ μ) (v : Int64) : LikeJ (some (v, σ)) (some (v, μ)) := ⟨v, σ, μ, rfl, rfl, h⟩
theorem dv32 : ∀ a, a < 100 → ∀ b, b < 100 → b ≠ 0 → nI a / nI b = nI (a / b) ∧ nI a - nI a / nI b * nI b = nI (a % b) := by decide +kernel
theorem dv64 : ∀ a, a < 100 → ∀ b, b < 100 → b ≠ 0 → lN a / lN b = lN (a / b) ∧ lN a - lN a / lN b * lN b = lN (a % b) := by decide +kernel
theorem nl64 : ∀ a, a < 100 → (nI a).toInt64 = lN a := by decide +kernel
theorem lN_up : ∀ a, a < 100 → lN a + 0 = lN a ∧ lN a + 1 = lN (a + 1) := by decide +kernel
theorem nI_z {a : Nat} (h : a < 100) : nI a = 0 ↔ a = 0 := ⟨fun q => by
  have := nI_ne (a := a) (b := 0) (by omega) (by omega)
  exact Classical.byContradiction fun r => this r q, fun q => by rw [q]; rfl⟩
theorem lN_z : ∀ a, a < 100 → (lN a = 0 ↔ a = 0) := by decide +kernel
def stp : Nat → Nat → Nat → Bool
  | 0, _, b => b == 0
  | f + 1, a, b => b == 0 || stp f b (a % b)
theorem stp_all : ∀ a, a < 100 → ∀ b, b < 100 → stp 20 a b = true := by decide +kernel
theorem low_8 {x0 x1 x2 : Int32} {τ : Sg} : ∀ (f a b turn k : Nat), stp f a b = true → turn + f ≤ 50 → f < k → a < 100 → b < 100 → f_X8_lowest_8 x0 x1 x2 k (nI a) (nI b) (nI turn) τ = f_X8_lowest_39 x0 x1 x2 (nI (Nat.gcd b a)) τ := by
  intro f
  induction f with
  | zero =>
    intro a b turn k hs ht hk ha hb
    obtain ⟨k, rfl⟩ : ∃ q, k = q + 1 := ⟨k - 1, by omega⟩
    have e : b = 0 := by simpa [stp] using hs
    subst e
    rw [f_X8_lowest_8, Nat.gcd_zero_left]
    by_cases h : (50 : Int32) ≤ nI turn
    · rw [if_pos h]
    · rw [if_neg h, if_pos (show nI 0 = 0 from rfl)]
  | succ f ih =>
    intro a b turn k hs ht hk ha hb
    obtain ⟨k, rfl⟩ : ∃ q, k = q + 1 := ⟨k - 1, by omega⟩
    rw [f_X8_lowest_8, if_neg (show ¬ (50 : Int32) ≤ nI turn by rw [show (50 : Int32) = nI 50 from rfl, nI_leI (by omega) (by omega)]; omega)]
    by_cases e : b = 0
    · subst e
      rw [if_pos (show nI 0 = 0 from rfl), Nat.gcd_zero_left]
    · have e' : ¬ nI b = 0 := fun q => e ((nI_z hb).mp q)
      have hs' : stp f b (a % b) = true := by
        unfold stp at hs
        simpa [e] using hs
      rw [if_neg e', if_pos e', (dv32 a ha b hb e).2, nI_1, ih b (a % b) (turn + 1) k hs' (by omega) (by omega) hb (by have := Nat.mod_lt a (show b > 0 by omega); omega), Nat.gcd_rec b a]
theorem low_6 {x0 x2 : Int64} {x4 : Int32} {μ : Sm} : ∀ (f a b k : Nat), stp f a b = true → f < k → a < 100 → b < 100 → f_X9_lowest_6 x0 x2 x4 k (lN a) (lN b) μ = f_X9_lowest_6 x0 x2 x4 1 (lN (Nat.gcd b a)) 0 μ := by
  intro f
  induction f with
  | zero =>
    intro a b k hs hk ha hb
    obtain ⟨k, rfl⟩ : ∃ q, k = q + 1 := ⟨k - 1, by omega⟩
    have e : b = 0 := by simpa [stp] using hs
    subst e
    rw [f_X9_lowest_6, f_X9_lowest_6, Nat.gcd_zero_left, if_pos (lg_zero.mpr (show lN 0 = 0 from rfl)), if_pos (lg_zero.mpr rfl)]
  | succ f ih =>
    intro a b k hs hk ha hb
    obtain ⟨k, rfl⟩ : ∃ q, k = q + 1 := ⟨k - 1, by omega⟩
    by_cases e : b = 0
    · subst e
      rw [f_X9_lowest_6, f_X9_lowest_6, Nat.gcd_zero_left, if_pos (lg_zero.mpr (show lN 0 = 0 from rfl)), if_pos (lg_zero.mpr rfl)]
    · have e' : ¬ lN b = 0 := fun q => e ((lN_z b hb).mp q)
      have hs' : stp f b (a % b) = true := by
        unfold stp at hs
        simpa [e] using hs
      rw [f_X9_lowest_6, if_neg (fun q => e' (lg_zero.mp q)), if_pos e', (dv64 a ha b hb e).2, ih b (a % b) k hs' (by omega) hb (by have := Nat.mod_lt a (show b > 0 by omega); omega), Nat.gcd_rec b a]
def lowV (a b t : Nat) : Int64 := lN (if t = 0 then a / Nat.gcd a b else b / Nat.gcd a b)
theorem fe_low {a b t : Nat} (hab : a ≤ b) (hb0 : 0 < b) (hb : b < 100) (ht : t < 2) (σ : Sg) : f_X8_lowest (nI a) (nI b) (nI t) σ = some (lowV a b t, σ) := by
  have hg0 : 0 < Nat.gcd a b := Nat.gcd_pos_of_pos_right a hb0
  have hgb : Nat.gcd a b ≤ b := Nat.le_of_dvd hb0 (Nat.gcd_dvd_right a b)
  have hl := low_8 (x0 := nI a) (x1 := nI b) (x2 := nI t) (τ := σ) 20 b a 0 5000 (stp_all b hb a (by omega)) (by omega) (by omega) hb (by omega)
  have hl' : f_X8_lowest_8 (nI a) (nI b) (nI t) 5000 (nI b) (nI a) 0 σ = _ := hl
  clear hl
  unfold f_X8_lowest
  have q1 : ¬ nI b = 0 := fun q => by have := (nI_z hb).mp q; omega
  have q2 : ¬ nI (Nat.gcd a b) = 0 := fun q => by have := (nI_z (show Nat.gcd a b < 100 by omega)).mp q; omega
  rw [hl', f_X8_lowest_39, if_neg q1, if_neg q2, if_pos q2, if_pos q2, (dv32 a (by omega) (Nat.gcd a b) (by omega) (by omega)).1, (dv32 b (by omega) (Nat.gcd a b) (by omega) (by omega)).1, nl64 _ (by have := Nat.div_le_self a (Nat.gcd a b); omega), nl64 _ (by have := Nat.div_le_self b (Nat.gcd a b); omega)]
  clear hl'
  have et : t = 0 ∨ t = 1 := by omega
  rcases et with rfl | rfl
  · rfl
  · rfl
theorem fm_low {a b t : Nat} (hab : a ≤ b) (hb0 : 0 < b) (hb : b < 100) (ht : t < 2) (μ : Sm) : f_X9_lowest (lN a) (lN b) (nI t) μ = some (lowV a b t, μ) := by
  have hg0 : 0 < Nat.gcd a b := Nat.gcd_pos_of_pos_right a hb0
  have hgb : Nat.gcd a b ≤ b := Nat.le_of_dvd hb0 (Nat.gcd_dvd_right a b)
  have hl := low_6 (x0 := lN a) (x2 := lN b) (x4 := nI t) (μ := μ) 20 a b 5000 (stp_all a (by omega) b hb) (by omega) (by omega) hb
  unfold f_X9_lowest
  have q2 : ¬ lN (Nat.gcd a b) = 0 := fun q => by have := (lN_z (Nat.gcd a b) (by omega)).mp q; omega
  rw [hl, Nat.gcd_comm b a, f_X9_lowest_6, if_pos (lg_zero.mpr rfl), if_pos q2, if_pos q2, (dv64 a (by omega) (Nat.gcd a b) (by omega) (by omega)).1, (dv64 b (by omega) (Nat.gcd a b) (by omega) (by omega)).1]
  clear hl
  have et : t = 0 ∨ t = 1 := by omega
  rcases et with rfl | rfl
  · rfl
  · rfl
theorem chance_loop {m n r M t : Nat} {Ts : Nat → Nat → List Int32} (hM : 1 ≤ M) (hM2 : M ≤ 20) (ht : t < 2) (x w : Int32) : ∀ (d c k cnt : Nat) (σ : Sg) (μ : Sm), c + d = M → d < k → cnt ≤ c → InvP σ μ m n r Ts →
    LikeJ (f_X8_chance_43 x (nI M) w (nI t) k (nI cnt) (nI c) σ) (f_X9_chance_45 x (nI M) w (nI t) k (lN cnt) (nI c) μ) := by
  intro d
  induction d with
  | zero =>
    intro c k cnt σ μ hc hk hcnt hP
    obtain ⟨k, rfl⟩ : ∃ q, k = q + 1 := ⟨k - 1, by omega⟩
    have e : c = M := by omega
    subst e
    rw [f_X8_chance_43, f_X9_chance_45, if_pos (Int32.le_refl _), if_pos (Int32.le_refl _), fe_low hcnt (by omega) (by omega) ht, nl64 c (by omega), fm_low hcnt (by omega) (by omega) ht]
    exact ⟨_, _, _, rfl, rfl, hP.inv⟩
  | succ d ih =>
    intro c k cnt σ μ hc hk hcnt hP
    obtain ⟨k, rfl⟩ : ∃ q, k = q + 1 := ⟨k - 1, by omega⟩
    obtain ⟨v, σ', μ', g1, g2, g3⟩ := sim_drawn hP (show 6 ≤ 40 by omega) (x + nI c)
    have g1' : f_X8_pouredBySeed (x + nI c) (6 : Int32) σ = _ := g1
    have g2' : f_X9_pouredDrawn (x + nI c) (6 : Int32) μ = _ := g2
    rw [f_X8_chance_43, f_X9_chance_45, if_neg (show ¬ nI M ≤ nI c by rw [nI_leI (by omega) (by omega)]; omega), if_neg (show ¬ nI M ≤ nI c by rw [nI_leI (by omega) (by omega)]; omega), g1', g2', Option.bind_some, Option.bind_some]
    simp only []
    rw [nI_1, nI_1, (lN_up cnt (by omega)).1, (lN_up cnt (by omega)).2]
    by_cases hv : v < w
    · rw [if_pos hv, if_pos hv]
      exact ih (c + 1) k cnt σ' μ' (by omega) (by omega) (by omega) g3
    · rw [if_neg hv, if_neg hv]
      exact ih (c + 1) k (cnt + 1) σ' μ' (by omega) (by omega) (by omega) g3
theorem i32_lit {x : Int32} {k : Nat} (hk : k < 2147483648) : nI k < x ↔ (k : Int) < x.toInt := by
  rw [i32_lt, nI_ti hk]
theorem pub_chance {σ : Sg} {μ : Sm} (h : Inv σ μ) (x y u w : Int32) : LikeJ (f_X8_chance x y u w σ) (f_X9_chance x y u w μ) := by
  have hI := h
  obtain ⟨m, n, r, Ts, hP⟩ := h
  have l0 : (0 : Int64).toInt = 0 := by decide
  have l1 : (1 : Int64).toInt = 1 := by decide
  have l20 : (20 : Int64).toInt = 20 := by decide
  have l99 : (9999 : Int64).toInt = 9999 := by decide
  have e1 : (1 : Int32).toInt = 1 := by decide
  unfold f_X8_chance f_X9_chance
  simp only [f_in, l32_ti, l0, l1, l20, l99, Option.bind_some]
  by_cases hy : 1 ≤ y.toInt ∧ y.toInt ≤ 20
  · rw [if_pos hy, if_neg one_ne, if_neg (show ¬ y < (1 : Int32) by rw [i32_lt, e1]; omega), if_neg (show ¬ (20 : Int32) < y by rw [show (20 : Int32) = nI 20 from rfl, i32_lit (by omega)]; omega)]
    by_cases hu : 0 ≤ u.toInt ∧ u.toInt ≤ 9999
    · rw [if_pos hu, if_neg one_ne, if_neg (i32_ge0.mpr hu.1), if_neg (show ¬ (9999 : Int32) < u by rw [show (9999 : Int32) = nI 9999 from rfl, i32_lit (by omega)]; omega)]
      by_cases hw : 0 ≤ w.toInt ∧ w.toInt ≤ 1
      · rw [if_pos hw, if_neg one_ne, if_neg (i32_ge0.mpr hw.1), if_pos (show w ≤ (1 : Int32) by rw [i32_le, e1]; omega)]
        obtain ⟨M, hM, rfl⟩ := one_ex (x := y) (n := 21) (by omega) (by omega)
        obtain ⟨t, ht, rfl⟩ := one_ex (x := w) (n := 2) (by omega) (by omega)
        rw [nI_ti (by omega)] at hy
        exact chance_loop (by omega) (by omega) ht x u M 0 5000 0 σ μ (by omega) (by omega) (by omega) hP
      · rw [if_neg hw, if_pos rfl]
        by_cases w0 : w < 0
        · rw [if_pos w0]; exact likeJ_same hI _
        · rw [if_neg w0, if_neg (show ¬ w ≤ (1 : Int32) by rw [i32_ge0] at w0; rw [i32_le, e1]; omega)]; exact likeJ_same hI _
    · rw [if_neg hu, if_pos rfl]
      by_cases u0 : u < 0
      · rw [if_pos u0]; exact likeJ_same hI _
      · rw [if_neg u0, if_pos (show (9999 : Int32) < u by rw [i32_ge0] at u0; rw [show (9999 : Int32) = nI 9999 from rfl, i32_lit (by omega)]; omega)]; exact likeJ_same hI _
  · rw [if_neg hy, if_pos rfl]
    by_cases y0 : y < 1
    · rw [if_pos y0]; exact likeJ_same hI _
    · rw [if_neg y0, if_pos (show (20 : Int32) < y by rw [i32_lt, e1] at y0; rw [show (20 : Int32) = nI 20 from rfl, i32_lit (by omega)]; omega)]; exact likeJ_same hI _
/-! blend -/
theorem hdv_mono {y : Nat → Int32} {s : Nat → Nat → Int32} {want : Nat → Int32} (hw : Wants want) (hy : ∀ p, R99 (y p)) {c : Nat} (hc : c < 6) : ∀ q p, p ≤ q → (hdv y s want p c).toInt ≤ (hdv y s want q c).toInt := by
  intro q
  induction q with
  | zero => intro p hp; rw [show p = 0 by omega]; exact Int.le_refl _
  | succ q ih =>
    intro p hp
    by_cases e : p = q + 1
    · rw [e]; exact Int.le_refl _
    · have h1 := ih p (by omega)
      obtain ⟨b1, b2, b3, b4⟩ := gg_rng (s := s q) (hy q) (hdv_rng hw hy (s := s) q) hc
      have e2 : hdv y s want (q + 1) c = hdv y s want q c + gg (y q) (s q) want (hdv y s want q) c := rfl
      rw [e2, b3]
      omega
theorem gg_le_hdv {y : Nat → Int32} {s : Nat → Nat → Int32} {want : Nat → Int32} (hw : Wants want) (hy : ∀ p, R99 (y p)) {c p n : Nat} (hc : c < 6) (hp : p < n) : ∃ a b, a ≤ b ∧ b < 100 ∧ gg (y p) (s p) want (hdv y s want p) c = nI a ∧ hdv y s want n c = nI b := by
  obtain ⟨b1, b2, b3, b4⟩ := gg_rng (s := s p) (hy p) (hdv_rng hw hy (s := s) p) hc
  have h1 := hdv_mono (s := s) hw hy hc n (p + 1) (by omega)
  have e2 : hdv y s want (p + 1) c = hdv y s want p c + gg (y p) (s p) want (hdv y s want p) c := rfl
  rw [e2, b3] at h1
  have h2 := (hdv_rng hw hy (s := s) p c hc).2.1
  have h3 := (hdv_rng hw hy (s := s) n c hc).2.1
  unfold R99 at h2 h3
  obtain ⟨a, a1, a2⟩ := one_ex (x := gg (y p) (s p) want (hdv y s want p) c) (n := 100) (by omega) (by omega)
  obtain ⟨b, c1, c2⟩ := one_ex (x := hdv y s want n c) (n := 100) (by omega) (by omega)
  rw [a2, c2, nI_ti (by omega), nI_ti (by omega)] at h1
  exact ⟨a, b, by omega, c1, a2, c2⟩
theorem pub_blend {σ : Sg} {μ : Sm} (h : Inv σ μ) (x y w : Int32) : LikeJ (f_X8_blend x y w σ) (f_X9_blend x y w μ) := by
  have hI := h
  obtain ⟨m, n, r, Ts, hP⟩ := h
  obtain ⟨hR, hL, hO, h4, h5, h6, h7, h8⟩ := id hP
  have n5 := hO.rg.n5
  have l0 : (0 : Int64).toInt = 0 := by decide
  have l1 : (1 : Int64).toInt = 1 := by decide
  have e1 : (1 : Int32).toInt = 1 := by decide
  unfold f_X8_blend f_X9_blend
  rw [fe_lodgesI hR.1, fm_isOne hO.rg.hn n5, Option.bind_some, Option.bind_some]
  simp only [fe_isCup, fm_isCup, f_in, l32_ti, l0, l1, Option.bind_some]
  by_cases hx : 0 ≤ x.toInt ∧ x.toInt < n
  · rw [if_pos hx, if_neg one_ne, if_neg one_ne]
    by_cases hy : 0 ≤ y.toInt ∧ y.toInt < 6
    · rw [if_pos hy, if_neg one_ne, if_neg one_ne]
      by_cases hw : 0 ≤ w.toInt ∧ w.toInt ≤ 1
      · rw [if_pos hw, if_neg one_ne, if_neg (i32_ge0.mpr hw.1), if_pos (show w ≤ (1 : Int32) by rw [i32_le, e1]; omega)]
        obtain ⟨p, hp, rfl⟩ := one_ex hx (by omega)
        obtain ⟨c, hc, rfl⟩ := one_ex (n := 6) hy (by omega)
        obtain ⟨t, ht, rfl⟩ := one_ex (x := w) (n := 2) (by omega) (by omega)
        obtain ⟨σ1, μ1, g1, g2, ⟨g3, g4, g5, g6, g7, g8⟩, -, -⟩ := think_on hP
        obtain ⟨σ2, a1, a2⟩ := fe_pourAll g3.1 g4 g5.rg.rm (g3.wt g5.rg)
        obtain ⟨μ2, b1, b2, b3⟩ := fm_passes g5
        have hA : Asd μ μ2 := g7.p b2.fr
        have hF : FrT σ σ2 := g6.tr (fun a ha => a2.1 a (by omega) (by omega) (by omega))
        obtain ⟨μ3, q1, q2, q3, q4⟩ := fm_laidBack hA
        have hP3 : InvP σ2 μ3 m n r Ts := hP.think hF q2 (memo_fr b3 (q3 29 (by omega) (by omega) (by omega)) q4)
        have i5 : okI (nI p) 5 := okI_nI (by omega) (by omega)
        have i6 : okI (nI c) 6 := okI_nI (by omega) (by omega)
        have j2 : okI (nI (3 * c + 2)) 18 := okI_nI (by omega) (by omega)
        have j3 : okI (nI (6 * p + c)) 30 := okI_nI (by omega) (by omega)
        have hwt := g3.wt g5.rg
        obtain ⟨A, B, k1, k2, k3, k4⟩ := gg_le_hdv (y := yC σ1 1 (Ts r)) (s := sC σ1 1 (Ts r)) (want := σ1 (11 * 1 + 8)) hwt (fun q => sY_rng _ _ _ _ _ _ _) hc hp
        have w1 : σ2 (64 + p) c = nI A := by rw [a2.2.2 p hp c hc]; exact k3
        have w2 : σ2 (11 * 1 + 10) c = nI B := by rw [a2.2.1 c hc]; exact k4
        have w3 : μ2.1 11 (3 * c + 2) = nI B := by
          rw [(b2.2.2.2.1 c hc).2.2, ← k4]
          exact (hdv_congr n (fun q hq => g3.y (Ts r) hq) (fun q d hq hd => g3.s (Ts r) hq hd) (fun d hd => (g3.2.2.2.2 d hd).1) c hc).symm
        have w4 : μ3.1 30 (6 * p + c) = nI A := by
          rw [q3 30 (by omega) (by omega) (by omega), b2.2.2.2.2 p c hp hc, ← k3, g3.y (Ts r) hp]
          exact gg_congr (fun d hd => ⟨(g3.s (Ts r) hp (by omega)).symm, ((g3.2.2.2.2 d (by omega)).1).symm, (hdv_congr p (fun q hq => g3.y (Ts r) (by omega)) (fun q d hq hd => g3.s (Ts r) (by omega) hd) (fun d hd => (g3.2.2.2.2 d hd).1) d (by omega)).symm⟩)
        rw [g1, g2, Option.bind_some, Option.bind_some, a1, b1, Option.bind_some, Option.bind_some]
        simp only []
        rw [if_pos i5, if_pos i6, if_pos i6, nI_tn (show p < 2147483648 by omega), nI_tn (show c < 2147483648 by omega), ix3_2, if_pos j2, nI_tn (show 3 * c + 2 < 2147483648 by omega), q1, Option.bind_some, ix6, if_pos j3, nI_tn (show 6 * p + c < 2147483648 by omega), w1, w2, w3, w4]
        by_cases hB : B = 0
        · have hA0 : A = 0 := by omega
          subst hB
          subst hA0
          rw [if_pos (show nI 0 = 0 from rfl)]
          have hl := low_8 (x0 := nI 0) (x1 := nI 0) (x2 := nI t) (τ := σ2) 20 0 0 0 5000 (stp_all 0 (by omega) 0 (by omega)) (by omega) (by omega) (by omega) (by omega)
          have hl' : f_X8_lowest_8 (nI 0) (nI 0) (nI t) 5000 (nI 0) (nI 0) 0 σ2 = _ := hl
          unfold f_X8_lowest
          rw [hl', f_X8_lowest_39, if_pos (show nI 0 = 0 from rfl), Option.bind_some]
          exact likeJ_same hP3.inv _
        · rw [if_neg (fun q => hB ((nI_z k2).mp q)), fe_low k1 (by omega) k2 ht, nl64 A (by omega), nl64 B (by omega), fm_low k1 (by omega) k2 ht, Option.bind_some, Option.bind_some]
          exact likeJ_same hP3.inv _
      · rw [if_neg hw, if_pos rfl]
        by_cases w0 : w < 0
        · rw [if_pos w0]; exact likeJ_same hI _
        · rw [if_neg w0, if_neg (show ¬ w ≤ (1 : Int32) by rw [i32_ge0] at w0; rw [i32_le, e1]; omega)]; exact likeJ_same hI _
    · rw [if_neg hy, if_pos rfl, if_pos rfl]; exact likeJ_same hI _
  · rw [if_neg hx, if_pos rfl, if_pos rfl]; exact likeJ_same hI _
