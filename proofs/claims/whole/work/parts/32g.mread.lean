theorem fm_part {μ : Sm} {b : Nat → Int32} {n t p : Nat} {key : Int32} (hk9 : ¬ key = 269) (hk7 : ¬ key = 270) (hP : PosM μ b n t p) (h25 : μ.1 25 0 = nI (5 - 5)) : ClmM (f_X9_part (if tK b n p = key then 1 else 0) μ) (pPart b n key p) μ b n t p 5 := by
  have hn := hP.1.2.2.1
  have bad34 : ∀ (x v : Int32) (ν : Sm), ν.1 26 0 = 1 → f_X9_part_34 x v ν = some (v, ν) := by
    intro x v ν h
    unfold f_X9_part_34 f_X9_part_48
    rw [fm_badS h, Option.bind_some]
    simp only []
    rw [if_pos trivial, fm_badF h, Option.bind_some, h, if_neg (by decide)]
  unfold f_X9_part
  by_cases h1 : tK b n p = key
  · simp only [if_pos h1]
    rw [if_neg (show ¬ (1 : Int32) = 0 by decide)]
    unfold f_X9_part_8
    obtain ⟨s1, s2⟩ := tS_tE hn (show ¬ tK b n p = 269 by rw [h1]; exact hk9)
    obtain ⟨μ1, c1, c2, c3, c4⟩ := stepM' hP (show ¬ tK b n p = 270 by rw [h1]; exact hk7)
    rw [hP.2.2.2.2.2.2.2, if_pos rfl, c1, Option.bind_some]
    unfold f_X9_part_19
    rw [c2.2.2.2.2.2.2.2, if_pos rfl]
    have h := m_any μ1 b n t (tE b n p) c2 (by rw [c3]; exact h25)
    cases hS : pAny b n (prv b n 5) (tE b n p) with
    | error e =>
      obtain ⟨v, μ2, b1, b2, b3⟩ := h.e1 hS
      rw [b1, Option.bind_some, bad34 _ _ _ b2.1]
      exact ClmM.err (f := e) (by unfold pPart; rw [if_pos h1, hS]) ⟨v, μ2, rfl, b2, c4.tr b3⟩
    | ok q =>
      obtain ⟨v, μ2, b1, b2, b3, b4, b5, b6⟩ := h.e2 hS
      have s59 : f_X9_isSign (59 : Int32) μ2 = some (if tK b n q.2 = (59 : Int32) then 1 else 0, μ2) := fm_isSign (c := 59) (by omega) b2
      have env1 : envM μ1 = envM μ := envM_fr c4
      rw [b1, Option.bind_some]
      unfold f_X9_part_34 f_X9_part_48
      rw [s59, Option.bind_some]
      by_cases h59 : tK b n q.2 = 59
      · simp only [if_pos h59]
        rw [if_neg (show ¬ (1 : Int32) = 0 by decide), b2.2.2.2.2.2.2.2, if_pos rfl]
        obtain ⟨s3, s4⟩ := tS_tE hn (show ¬ tK b n q.2 = 269 by rw [h59]; decide)
        obtain ⟨μ3, d1, d2, d3, d4⟩ := stepM' b2 (show ¬ tK b n q.2 = 270 by rw [h59]; decide)
        rw [d1, Option.bind_some]
        exact ClmM.fin (q := (q.1, tE b n q.2)) (by unfold pPart; rw [if_pos h1, hS]; simp only []; rw [if_pos h59]) ⟨v, μ3, rfl, d2, by rw [d3]; exact b3, c4.tr (b4.tr d4), by show tS b n p ≤ tS b n (tE b n q.2); omega, by rw [← env1]; exact b6⟩
      · simp only [if_neg h59]
        rw [if_pos trivial]
        obtain ⟨μ3, d1, d2, d3⟩ := fm_fail b2
        rw [d1, Option.bind_some, d2.1, if_neg (by decide)]
        exact ClmM.err (f := tS b n q.2) (by unfold pPart; rw [if_pos h1, hS]; simp only []; rw [if_neg h59]) ⟨v, μ3, rfl, d2, c4.tr (b4.tr d3)⟩
  · simp only [if_neg h1]
    rw [if_pos trivial]
    obtain ⟨μ3, d1, d2, d3⟩ := fm_fail hP
    rw [d1, Option.bind_some]
    unfold f_X9_part_8
    rw [d2.1, if_neg (by decide)]
    unfold f_X9_part_19
    rw [d2.1, if_neg (by decide), bad34 _ _ _ d2.1]
    exact ClmM.err (f := tS b n p) (by unfold pPart; rw [if_neg h1]) ⟨0, μ3, rfl, d2, d3⟩
/-- what a reading leaves alone -/
def FrN (μ μ' : Sm) : Prop := (∀ a, a ≠ 19 → a ≠ 20 → a ≠ 21 → a ≠ 22 → a ≠ 23 → a ≠ 25 → a ≠ 26 → a ≠ 27 → μ'.1 a = μ.1 a) ∧ ∀ a, a ≠ 24 → μ'.2 a = μ.2 a
theorem FrM.n {μ ν ξ : Sm} (h1 : FrN μ ν) (h2 : FrM ν ξ) : FrN μ ξ := ⟨fun a a1 a2 a3 a4 a5 a6 a7 a8 => (h2.1 a a3 a4 a5 a6 a7 a8).trans (h1.1 a a1 a2 a3 a4 a5 a6 a7 a8), fun a a1 => (h2.2 a a1).trans (h1.2 a a1)⟩
def pick3 (w : Int32) (x y z : Int32) : Int32 := if w = 0 then x else if w = 1 then y else z
theorem vT_of {T : Nat → List Int32} {e : Env} {pt : Nat} {v : Int32} (h : ∀ st, rRun e (T pt) st = v :: st) : vT T pt e = v := by
  unfold vT
  rw [h []]
  rfl
theorem fm_read {μ : Sm} {n t : Nat} (ht : t < 6) (hsz : μ.1 2 t = nI n) (hn : n ≤ 160) (hb : Byt (fun j => μ.1 1 (160 * t + j)) n) (w : Int32) :
    match pText (fun j => μ.1 1 (160 * t + j)) n with
    | .error f => ∃ v μ', f_X9_read (nI t) w μ = some (v, μ') ∧ BadM μ' f ∧ FrN μ μ'
    | .ok q => ∃ μ', f_X9_read (nI t) w μ = some (pick3 w (vT (tT q.1 q.2.1 q.2.2) 0 (envM μ)) (vT (tT q.1 q.2.1 q.2.2) 1 (envM μ)) (vT (tT q.1 q.2.1 q.2.2) 2 (envM μ)), μ') ∧ μ'.1 26 0 = 0 ∧ FrN μ μ' := by
  generalize hB : (fun j => μ.1 1 (160 * t + j)) = b at hb ⊢
  unfold f_X9_read
  rw [if_pos (okI_nI ht (by omega)), nI_tn (by omega), Option.bind_some]
  have e160 : (160 : Int32) * nI t = nI (160 * t) := nI_mul 160 t
  rw [e160]
  generalize hμ1 : upm (upm (upm (upm (upm μ 19 0 (nI (160 * t))) 20 0 ((upm μ 19 0 (nI (160 * t))).1 2 t)) 21 0 (0 : Int32)) 25 0 (0 : Int32)) 26 0 (0 : Int32) = μ1
  have f1 : ∀ a, a ≠ 19 → a ≠ 20 → a ≠ 21 → a ≠ 25 → a ≠ 26 → μ1.1 a = μ.1 a := fun a a1 a2 a3 a4 a5 => by
    rw [← hμ1, upm_1, up_n a5, upm_1, up_n a4, upm_1, up_n a3, upm_1, up_n a2, upm_1, up_n a1]
  have k26 : μ1.1 26 0 = 0 := by rw [← hμ1, upm_1, up_s, upd_s]
  have k25 : μ1.1 25 0 = nI (5 - 5) := by rw [← hμ1, upm_1, up_n (by decide), upm_1, up_s, upd_s]; rfl
  have k21 : μ1.1 21 0 = nI 0 := by rw [← hμ1, upm_1, up_n (by decide), upm_1, up_n (by decide), upm_1, up_s, upd_s]; rfl
  have k20 : μ1.1 20 0 = nI n := by rw [← hμ1, upm_1, up_n (by decide), upm_1, up_n (by decide), upm_1, up_n (by decide), upm_1, up_s, upd_s, upm_1, up_n (by decide)]; exact hsz
  have k19 : μ1.1 19 0 = nI (160 * t) := by rw [← hμ1, upm_1, up_n (by decide), upm_1, up_n (by decide), upm_1, up_n (by decide), upm_1, up_n (by decide), upm_1, up_s, upd_s]
  have hR : RdM μ1 b n t := ⟨k19, k20, hn, ht, fun j hj => by rw [f1 1 (by decide) (by decide) (by decide) (by decide) (by decide), ← hB], hb⟩
  have F1 : FrN μ μ1 := ⟨fun a a1 a2 a3 _ _ a6 a7 _ => f1 a a1 a2 a3 a6 a7, fun a a1 => by rw [← hμ1]; rfl⟩
  obtain ⟨μ2, g1, g2, g3, g4⟩ := stepM hR k26 (by omega) k21
  rw [g1, Option.bind_some]
  have F2 := FrM.n F1 g4
  have ev2 : envM μ2 = envM μ := by
    unfold envM
    rw [F2.1 13 (by decide) (by decide) (by decide) (by decide) (by decide) (by decide) (by decide) (by decide), F2.1 14 (by decide) (by decide) (by decide) (by decide) (by decide) (by decide) (by decide) (by decide), F2.1 15 (by decide) (by decide) (by decide) (by decide) (by decide) (by decide) (by decide) (by decide), F2.1 16 (by decide) (by decide) (by decide) (by decide) (by decide) (by decide) (by decide) (by decide), F2.1 17 (by decide) (by decide) (by decide) (by decide) (by decide) (by decide) (by decide) (by decide), F2.1 18 (by decide) (by decide) (by decide) (by decide) (by decide) (by decide) (by decide) (by decide)]
  have w0 : f_X9_isWord (121 : Int32) (105 : Int32) (101 : Int32) (108 : Int32) (100 : Int32) (115 : Int32) (0 : Int32) (0 : Int32) μ2 = some (if tK b n 0 = (256 : Int32) then 1 else 0, μ2) := fm_isWord (k := 0) (by omega) g2
  rw [w0, Option.bind_some]
  have R0 := fm_part (key := 256) (by decide) (by decide) g2 (by rw [g3]; exact k25)
  have e147 : ∀ (x y3 y4 y5 : Int32) (ν : Sm), f_X9_read_147 x w y3 y4 y5 ν = some (pick3 w y3 y4 y5, ν) := by
    intro x y3 y4 y5 ν
    unfold f_X9_read_147 pick3
    repeat' split
    all_goals rfl
  have b127 : ∀ (x y3 y4 y5 : Int32) (ν : Sm), ν.1 26 0 = 1 → f_X9_read_127 x w y3 y4 y5 ν = some (pick3 w y3 y4 y5, ν) := by
    intro x y3 y4 y5 ν h
    unfold f_X9_read_127
    rw [h, if_neg (by decide), e147]
  have b93 : ∀ (x y3 y4 : Int32) (ν : Sm), ν.1 26 0 = 1 → f_X9_read_93 x w y3 y4 ν = some (pick3 w y3 y4 0, ν) := by
    intro x y3 y4 ν h
    unfold f_X9_read_93
    rw [h, if_neg (by decide), b127 _ _ _ _ _ h]
  unfold pText
  cases h0 : pPart b n 256 0 with
  | error f =>
    obtain ⟨v, μ3, r1, r2, r3⟩ := R0.e1 h0
    simp only []
    rw [r1, Option.bind_some]
    simp only []
    rw [r2.1, if_neg (by decide), b93 _ _ _ _ r2.1]
    exact ⟨_, μ3, rfl, r2, FrM.n F2 r3⟩
  | ok q0 =>
    obtain ⟨v0, μ3, r1, r2, r3, r4, r5, r6⟩ := R0.e2 h0
    have F3 := FrM.n F2 r4
    simp only []
    rw [r1, Option.bind_some]
    simp only []
    have w1 : f_X9_isWord (115 : Int32) (117 : Int32) (105 : Int32) (116 : Int32) (115 : Int32) (0 : Int32) (0 : Int32) (0 : Int32) μ3 = some (if tK b n q0.2 = (257 : Int32) then 1 else 0, μ3) := fm_isWord (k := 1) (by omega) r2
    rw [r2.2.2.2.2.2.2.2, if_pos rfl, w1, Option.bind_some]
    have R1 := fm_part (key := 257) (by decide) (by decide) r2 r3
    have ev3 : envM μ3 = envM μ := by rw [envM_fr r4, ev2]
    cases h1 : pPart b n 257 q0.2 with
    | error f =>
      obtain ⟨v, μ4, u1, u2, u3⟩ := R1.e1 h1
      simp only []
      rw [u1, Option.bind_some]
      simp only []
      rw [b93 _ _ _ _ u2.1]
      exact ⟨_, μ4, rfl, u2, FrM.n F3 u3⟩
    | ok q1 =>
      obtain ⟨v1, μ4, u1, u2, u3, u4, u5, u6⟩ := R1.e2 h1
      have F4 := FrM.n F3 u4
      simp only []
      rw [u1, Option.bind_some]
      simp only []
      unfold f_X9_read_93
      have w2 : f_X9_isWord (101 : Int32) (97 : Int32) (115 : Int32) (101 : Int32) (115 : Int32) (0 : Int32) (0 : Int32) (0 : Int32) μ4 = some (if tK b n q1.2 = (258 : Int32) then 1 else 0, μ4) := fm_isWord (k := 2) (by omega) u2
      rw [u2.2.2.2.2.2.2.2, if_pos rfl, w2, Option.bind_some]
      have R2 := fm_part (key := 258) (by decide) (by decide) u2 u3
      have ev4 : envM μ4 = envM μ := by rw [envM_fr u4, ev3]
      cases h2 : pPart b n 258 q1.2 with
      | error f =>
        obtain ⟨v, μ5, x1, x2, x3⟩ := R2.e1 h2
        simp only []
        rw [x1, Option.bind_some]
        simp only []
        rw [b127 _ _ _ _ _ x2.1]
        exact ⟨_, μ5, rfl, x2, FrM.n F4 x3⟩
      | ok q2 =>
        obtain ⟨v2, μ5, x1, x2, x3, x4, x5, x6⟩ := R2.e2 h2
        have F5 := FrM.n F4 x4
        simp only []
        rw [x1, Option.bind_some]
        simp only []
        unfold f_X9_read_127
        rw [x2.2.2.2.2.2.2.2, if_pos rfl, x2.2.2.2.1]
        rw [ev2] at r6
        rw [ev3] at u6
        rw [ev4] at x6
        by_cases h9 : tK b n q2.2 = 269
        · rw [if_pos h9]
          have k0 : kM b n q2.2 = 0 := by
            rcases kM_tK (b := b) (n := n) (p := q2.2) with ⟨k0, _⟩ | ⟨_, _, _, t1, _⟩ | ⟨_, t2⟩ | ⟨_, hsg, t3⟩ | ⟨_, t4⟩
            · exact k0
            · rcases wTok_rng (b := b) (s := tS b n q2.2) (e := letE b n (tS b n q2.2)) 12 (Nat.le_refl _) with r | ⟨j, j1, j2, j3⟩
              · rw [t1, r] at h9; exact absurd h9 (by decide)
              · rw [t1, j2, show (269 : Int32) = nI 269 from rfl, nI_eq (by omega) (by omega)] at h9; omega
            · rw [t2] at h9; exact absurd h9 (by decide)
            · rw [t3] at h9; rw [h9] at hsg; exact absurd hsg (by decide)
            · rw [t4] at h9; exact absurd h9 (by decide)
          rw [if_pos k0, e147]
          refine ⟨μ5, ?_, x2.2.2.2.2.2.2.2, F5⟩
          have z0 : vT (tT q0.1 q1.1 q2.1) 0 (envM μ) = v0 := vT_of (T := tT q0.1 q1.1 q2.1) (pt := 0) r6
          have z1 : vT (tT q0.1 q1.1 q2.1) 1 (envM μ) = v1 := vT_of (T := tT q0.1 q1.1 q2.1) (pt := 1) u6
          have z2 : vT (tT q0.1 q1.1 q2.1) 2 (envM μ) = v2 := vT_of (T := tT q0.1 q1.1 q2.1) (pt := 2) x6
          show _ = some (pick3 w (vT (tT q0.1 q1.1 q2.1) 0 (envM μ)) (vT (tT q0.1 q1.1 q2.1) 1 (envM μ)) (vT (tT q0.1 q1.1 q2.1) 2 (envM μ)), μ5)
          rw [z0, z1, z2]
        · rw [if_neg h9]
          have k0 : ¬ kM b n q2.2 = 0 := by
            intro g
            rcases kM_tK (b := b) (n := n) (p := q2.2) with ⟨_, t0⟩ | ⟨k, _⟩ | ⟨k, _⟩ | ⟨k, _⟩ | ⟨k, _⟩
            · exact h9 t0
            · rw [k] at g; exact absurd g (by decide)
            · rw [k] at g; exact absurd g (by decide)
            · rw [k] at g; exact absurd g (by decide)
            · rw [k] at g; exact absurd g (by decide)
          obtain ⟨μ6, y1, y2, y3⟩ := fm_fail x2
          rw [if_neg k0, y1, Option.bind_some, e147]
          exact ⟨_, μ6, rfl, y2, FrM.n F5 y3⟩
