theorem rRun_lit {e : Env} {v : Int32} (h : 0 ≤ v) : ∀ st, rRun e [v] st = v :: st := fun st => by
  show rStep e v st = _
  unfold rStep
  rw [if_pos h]
theorem rRun_nm {e : Env} {t : Int32} (h : isNm t) : ∀ st, rRun e [-t] st = rNm e t :: st := fun st => by
  show rStep e (-t) st = _
  unfold rStep
  have h0 : ¬ 0 ≤ -t := by
    intro g
    obtain ⟨a, ha, e⟩ := nI_ex (v := t) (n := 267) (Int32.le_trans (by decide) h.1) h.2 (by omega)
    have h2 : 262 ≤ a := by have := h.1; rw [e, show (262 : Int32) = nI 262 from rfl, nI_leI (by omega) (by omega)] at this; exact this
    rw [e] at g
    have h3 : a = 262 ∨ a = 263 ∨ a = 264 ∨ a = 265 ∨ a = 266 ∨ a = 267 := by omega
    rcases h3 with rfl | rfl | rfl | rfl | rfl | rfl <;> revert g <;> decide
  rw [if_neg h0, if_pos (by rw [Int32.neg_neg]; exact h), Int32.neg_neg]
theorem kM_of {b : Nat → Int32} {n p : Nat} : (tK b n p = 268 → kM b n p = 2) ∧ (isNm (tK b n p) → kM b n p = 1) := by
  rcases kM_tK (b := b) (n := n) (p := p) with ⟨k0, t0⟩ | ⟨k1, hlt, hl, t1, e1⟩ | ⟨k2, t2⟩ | ⟨k3, hsg, t3⟩ | ⟨k4, t4⟩
  · rw [t0]; exact ⟨fun h => absurd h (by decide), fun h => absurd h (by decide)⟩
  · exact ⟨fun h => absurd (t1.symm.trans h) (wTok_ne 12 (by omega)), fun _ => k1⟩
  · rw [t2]; exact ⟨fun _ => k2, fun h => absurd h (by decide)⟩
  · rw [t3]
    rcases hsg with z | z | z | z | z | z | z | z <;> rw [z] <;> exact ⟨fun h => absurd h (by decide), fun h => absurd h (by decide)⟩
  · rw [t4]; exact ⟨fun h => absurd h (by decide), fun h => absurd h (by decide)⟩
theorem m_atom {rec : Nat → Sm → Option (Int32 × Sm)} {k : Nat} (hk : k ≤ 5) (h5 : ∀ k', k = k' + 1 → OkM (rec 5) (fun b n => pOne b n (prv b n k')) k') (h0 : ∀ k', k = k' + 1 → OkM (rec 0) (fun b n => pAny b n (prv b n k')) k') : OkM (fb_X9_atom rec) (fun b n => pOne b n (prv b n k)) k := by
  intro μ b n t p hP h25
  have hnn := hP.1.2.2.1
  have s45 : f_X9_isSign (45 : Int32) μ = some (if tK b n p = (45 : Int32) then 1 else 0, μ) := fm_isSign (c := 45) (by omega) hP
  have s40 : f_X9_isSign (40 : Int32) μ = some (if tK b n p = (40 : Int32) then 1 else 0, μ) := fm_isSign (c := 40) (by omega) hP
  show ClmM _ (pOne b n (prv b n k) p) μ b n t p k
  unfold fb_X9_atom
  rw [s45, Option.bind_some]
  by_cases a45 : tK b n p = 45
  · have n1 : ¬ tK b n p = 268 := by rw [a45]; decide
    have n2 : ¬ isNm (tK b n p) := by rw [a45]; decide
    simp only [if_pos a45]
    rw [if_neg (show ¬ (1 : Int32) = 0 by decide)]
    match k, hk, h5, h25 with
    | 0, _, _, h25 =>
      obtain ⟨μ', g1, g2, g3⟩ := fm_opens0 hP h25
      refine ClmM.err (f := tS b n p) (by unfold pOne; rw [if_neg n1, if_neg n2]; rfl) ⟨0, μ', ?_, g2, g3⟩
      rw [g1, Option.bind_some]; rfl
    | k + 1, hk, h5, h25 =>
      obtain ⟨s1, s2⟩ := tS_tE hnn (show ¬ tK b n p = 269 by rw [a45]; decide)
      obtain ⟨μ1, g1, g2, g3, g4⟩ := fm_opens1 (by omega) hP h25 (show ¬ tK b n p = 270 by rw [a45]; decide)
      have h := h5 k rfl μ1 b n t (tE b n p) g2 g3
      have hC : pOne b n (prv b n (k + 1)) p = (match pOne b n (prv b n k) (tE b n p) with | .error e => .error e | .ok q => .ok (q.1 ++ [-271], q.2)) := by
        unfold pOne; rw [if_neg n1, if_neg n2]
        show (if tK b n p = 45 then _ else _) = _
        rw [if_pos a45]; rfl
      rw [g1, Option.bind_some]
      simp only []
      rw [if_neg (show ¬ (1 : Int32) = 0 by decide)]
      cases hS : pOne b n (prv b n k) (tE b n p) with
      | error e =>
        obtain ⟨v, μ2, b1, b2, b3⟩ := h.e1 hS
        rw [b1, Option.bind_some]
        exact ClmM.err (f := e) (by rw [hC, hS]) ⟨-v, _, rfl, ⟨by rw [upm_1, up_n (by decide)]; exact b2.1, by rw [upm_1, up_n (by decide)]; exact b2.2⟩, g4.tr (b3.tr (FrM.put (by omega)))⟩
      | ok q =>
        obtain ⟨v, μ2, b1, b2, b3, b4, b5, b6⟩ := h.e2 hS
        rw [b1, Option.bind_some]
        have env1 : envM μ1 = envM μ := envM_fr g4
        refine ClmM.fin (q := (q.1 ++ [-271], q.2)) (by rw [hC, hS]) ⟨-v, _, rfl, b2.put25 _, ?_, g4.tr (b4.tr (FrM.put (by omega))), by show tS b n p ≤ tS b n q.2; omega, ?_⟩
        · rw [upm_1, up_s, upd_s, b3, show (1 : Int32) = nI 1 from rfl, nI_sub (by omega)]; congr 1
        · intro st
          rw [rRun_app, ← env1, b6]
          show rStep (envM μ1) (-271) (v :: st) = _
          unfold rStep
          rw [if_neg (by decide), if_neg (by decide), if_pos (by decide)]
          rfl
  · simp only [if_neg a45]
    rw [if_pos trivial, s40, Option.bind_some]
    by_cases a40 : tK b n p = 40
    · have n1 : ¬ tK b n p = 268 := by rw [a40]; decide
      have n2 : ¬ isNm (tK b n p) := by rw [a40]; decide
      simp only [if_pos a40]
      rw [if_neg (show ¬ (1 : Int32) = 0 by decide)]
      match k, hk, h0, h25 with
      | 0, _, _, h25 =>
        obtain ⟨μ', g1, g2, g3⟩ := fm_opens0 hP h25
        refine ClmM.err (f := tS b n p) (by unfold pOne; rw [if_neg n1, if_neg n2]; rfl) ⟨0, μ', ?_, g2, g3⟩
        rw [g1, Option.bind_some]; rfl
      | k + 1, hk, h0, h25 =>
        obtain ⟨s1, s2⟩ := tS_tE hnn (show ¬ tK b n p = 269 by rw [a40]; decide)
        obtain ⟨μ1, g1, g2, g3, g4⟩ := fm_opens1 (by omega) hP h25 (show ¬ tK b n p = 270 by rw [a40]; decide)
        have h := h0 k rfl μ1 b n t (tE b n p) g2 g3
        have hC : pOne b n (prv b n (k + 1)) p = (match pAny b n (prv b n k) (tE b n p) with | .error e => .error e | .ok q => if tK b n q.2 = 41 then .ok (q.1, tE b n q.2) else .error (tS b n q.2)) := by
          unfold pOne; rw [if_neg n1, if_neg n2]
          show (if tK b n p = 45 then _ else if tK b n p = 40 then _ else _) = _
          rw [if_neg a45, if_pos a40]; rfl
        rw [g1, Option.bind_some]
        simp only []
        rw [if_neg (show ¬ (1 : Int32) = 0 by decide)]
        have e71 : ∀ (ν : Sm) (v : Int32) (f : Nat), BadM ν f → fb_X9_atom_71 rec v ν = some (v, upm ν 25 0 (ν.1 25 0 - 1)) := by
          intro ν v f hb
          unfold fb_X9_atom_71
          rw [show (upm ν 25 0 (ν.1 25 0 - (1 : Int32))).1 26 0 = 1 by rw [upm_1, up_n (by decide)]; exact hb.1, if_neg (by decide)]
        have bad71 : ∀ (ν : Sm) (f : Nat), BadM ν f → BadM (upm ν 25 0 (ν.1 25 0 - 1)) f := fun ν f hb => ⟨by rw [upm_1, up_n (by decide)]; exact hb.1, by rw [upm_1, up_n (by decide)]; exact hb.2⟩
        cases hS : pAny b n (prv b n k) (tE b n p) with
        | error e =>
          obtain ⟨v, μ2, b1, b2, b3⟩ := h.e1 hS
          rw [b1, Option.bind_some]
          simp only []
          rw [fm_badS b2.1, Option.bind_some]
          simp only []
          rw [if_pos trivial, fm_badF b2.1, Option.bind_some, e71 μ2 v e b2]
          exact ClmM.err (f := e) (by rw [hC, hS]) ⟨v, _, rfl, bad71 μ2 e b2, g4.tr (b3.tr (FrM.put (by omega)))⟩
        | ok q =>
          obtain ⟨v, μ2, b1, b2, b3, b4, b5, b6⟩ := h.e2 hS
          have s41 : f_X9_isSign (41 : Int32) μ2 = some (if tK b n q.2 = (41 : Int32) then 1 else 0, μ2) := fm_isSign (c := 41) (by omega) b2
          rw [b1, Option.bind_some]
          simp only []
          rw [s41, Option.bind_some]
          have env1 : envM μ1 = envM μ := envM_fr g4
          by_cases a41 : tK b n q.2 = 41
          · simp only [if_pos a41]
            rw [if_neg (show ¬ (1 : Int32) = 0 by decide)]
            have b2' := b2.put25 (μ2.1 25 0 - (1 : Int32))
            obtain ⟨s3, s4⟩ := tS_tE hnn (show ¬ tK b n q.2 = 269 by rw [a41]; decide)
            obtain ⟨μ3, c1, c2, c3, c4⟩ := stepM' b2' (show ¬ tK b n q.2 = 270 by rw [a41]; decide)
            refine ClmM.fin (q := (q.1, tE b n q.2)) (by rw [hC, hS]; simp only []; rw [if_pos a41]) ⟨v, μ3, ?_, c2, ?_, g4.tr (b4.tr ((FrM.put (by omega)).tr c4)), by show tS b n p ≤ tS b n (tE b n q.2); omega, by rw [← env1]; exact b6⟩
            · unfold fb_X9_atom_71
              rw [show (upm μ2 25 0 (μ2.1 25 0 - (1 : Int32))).1 26 0 = 0 by rw [upm_1, up_n (by decide)]; exact b2.2.2.2.2.2.2.2, if_pos rfl, c1, Option.bind_some]
            · rw [c3, upm_1, up_s, upd_s, b3, show (1 : Int32) = nI 1 from rfl, nI_sub (by omega)]; congr 1
          · simp only [if_neg a41]
            rw [if_pos trivial]
            obtain ⟨μ3, c1, c2, c3⟩ := fm_fail b2
            rw [c1, Option.bind_some, e71 μ3 v _ c2]
            exact ClmM.err (f := tS b n q.2) (by rw [hC, hS]; simp only []; rw [if_neg a41]) ⟨v, _, rfl, bad71 μ3 _ c2, g4.tr (b4.tr (c3.tr (FrM.put (by omega))))⟩
    · simp only [if_neg a40]
      rw [if_pos trivial, hP.2.2.2.2.2.2.2, if_pos rfl, hP.2.2.2.1]
      have hErr : ¬ tK b n p = 268 → ¬ isNm (tK b n p) → pOne b n (prv b n k) p = .error (tS b n p) := by
        intro n1 n2
        unfold pOne
        rw [if_neg n1, if_neg n2]
        cases prv b n k with
        | none => rfl
        | some x =>
          show (if tK b n p = 45 then _ else if tK b n p = 40 then _ else _) = _
          rw [if_neg a45, if_neg a40]
      by_cases h268 : tK b n p = 268
      · have k2 := kM_of.1 h268
        obtain ⟨s1, s2⟩ := tS_tE hnn (show ¬ tK b n p = 269 by rw [h268]; decide)
        obtain ⟨μ1, c1, c2, c3, c4⟩ := stepM' hP (show ¬ tK b n p = 270 by rw [h268]; decide)
        obtain ⟨a, ha, e⟩ := tL_ge h268
        rw [if_pos k2, c1, Option.bind_some, hP.2.2.2.2.2.1 k2]
        exact ClmM.fin (q := ([tL b n p], tE b n p)) (by unfold pOne; rw [if_pos h268]) ⟨tL b n p, μ1, rfl, c2, by rw [c3]; exact h25, c4, by show tS b n p ≤ tS b n (tE b n p); omega, rRun_lit (by rw [e]; exact nI_pos' (by omega))⟩
      · have hk2 : ¬ kM b n p = 2 := by
          intro g
          rcases kM_tK (b := b) (n := n) (p := p) with ⟨q, _⟩ | ⟨q, _⟩ | ⟨q, t2⟩ | ⟨q, _⟩ | ⟨q, _⟩
          · rw [q] at g; exact absurd g (by decide)
          · rw [q] at g; exact absurd g (by decide)
          · exact h268 t2
          · rw [q] at g; exact absurd g (by decide)
          · rw [q] at g; exact absurd g (by decide)
        rw [if_neg hk2]
        unfold fb_X9_atom_123
        rw [hP.2.2.2.2.2.2.2, if_pos rfl, hP.2.2.2.1]
        by_cases hnm : isNm (tK b n p)
        · have k1 := kM_of.2 hnm
          obtain ⟨s1, s2⟩ := tS_tE hnn (show ¬ tK b n p = 269 from fun g => by rw [g] at hnm; exact absurd hnm (by decide))
          obtain ⟨μ1, c1, c2, c3, c4⟩ := stepM' hP (show ¬ tK b n p = 270 from fun g => by rw [g] at hnm; exact absurd hnm (by decide))
          rw [if_pos k1, (fm_name hP).1 hnm, Option.bind_some]
          simp only []
          rw [hP.2.2.2.2.2.2.2, if_pos rfl, c1, Option.bind_some]
          exact ClmM.fin (q := ([-(tK b n p)], tE b n p)) (by unfold pOne; rw [if_neg h268, if_pos hnm]) ⟨_, μ1, rfl, c2, by rw [c3]; exact h25, c4, by show tS b n p ≤ tS b n (tE b n p); omega, rRun_nm hnm⟩
        · refine ClmM.err (hErr h268 hnm) ?_
          by_cases k1 : kM b n p = 1
          · obtain ⟨μ1, c1, c2, c3⟩ := (fm_name hP).2 hnm
            rw [if_pos k1, c1, Option.bind_some]
            simp only []
            rw [c2.1, if_neg (by decide)]
            exact ⟨_, μ1, rfl, c2, c3⟩
          · obtain ⟨μ1, c1, c2, c3⟩ := fm_fail hP
            rw [if_neg k1, c1, Option.bind_some]
            exact ⟨_, μ1, rfl, c2, c3⟩
theorem m_grpAll : ∀ (k : Nat), k ≤ 5 → (∀ d, 6 * k + 1 ≤ d → OkM (grpM d 5) (fun b n => pOne b n (prv b n k)) k) ∧ (∀ d, 6 * k + 4 ≤ d → OkM (grpM d 2) (fun b n => pNot b n (prv b n k)) k) ∧ (∀ d, 6 * k + 6 ≤ d → OkM (grpM d 0) (fun b n => pAny b n (prv b n k)) k) := by
  intro k
  induction k with
  | zero =>
    intro hk
    have g5 : ∀ d, 1 ≤ d → OkM (grpM d 5) (fun b n => pOne b n (prv b n 0)) 0 := by
      intro d hd
      obtain ⟨d, rfl⟩ : ∃ e, d = e + 1 := ⟨d - 1, by omega⟩
      exact m_atom hk (fun k' h => absurd h (by omega)) (fun k' h => absurd h (by omega))
    have g4 : ∀ d, 2 ≤ d → OkM (grpM d 4) (fun b n => pTerm b n (prv b n 0)) 0 := by
      intro d hd
      obtain ⟨d, rfl⟩ : ∃ e, d = e + 1 := ⟨d - 1, by omega⟩
      exact m_term (g5 d (by omega))
    have g3 : ∀ d, 3 ≤ d → OkM (grpM d 3) (fun b n => pSum b n (prv b n 0)) 0 := by
      intro d hd
      obtain ⟨d, rfl⟩ : ∃ e, d = e + 1 := ⟨d - 1, by omega⟩
      exact m_added (g4 d (by omega))
    have g2 : ∀ d, 4 ≤ d → OkM (grpM d 2) (fun b n => pNot b n (prv b n 0)) 0 := by
      intro d hd
      obtain ⟨d, rfl⟩ : ∃ e, d = e + 1 := ⟨d - 1, by omega⟩
      exact m_not hk (g3 d (by omega)) (fun k' h => absurd h (by omega))
    have g1 : ∀ d, 5 ≤ d → OkM (grpM d 1) (fun b n => pAnd b n (prv b n 0)) 0 := by
      intro d hd
      obtain ⟨d, rfl⟩ : ∃ e, d = e + 1 := ⟨d - 1, by omega⟩
      exact m_both (g2 d (by omega))
    have g0 : ∀ d, 6 ≤ d → OkM (grpM d 0) (fun b n => pAny b n (prv b n 0)) 0 := by
      intro d hd
      obtain ⟨d, rfl⟩ : ∃ e, d = e + 1 := ⟨d - 1, by omega⟩
      exact m_either (g1 d (by omega))
    exact ⟨fun d hd => g5 d (by omega), fun d hd => g2 d (by omega), fun d hd => g0 d (by omega)⟩
  | succ k ih =>
    intro hk
    obtain ⟨i5, i2, i0⟩ := ih (by omega)
    have g5 : ∀ d, 6 * k + 7 ≤ d → OkM (grpM d 5) (fun b n => pOne b n (prv b n (k + 1))) (k + 1) := by
      intro d hd
      obtain ⟨d, rfl⟩ : ∃ e, d = e + 1 := ⟨d - 1, by omega⟩
      refine m_atom hk (fun k' h => ?_) (fun k' h => ?_)
      · obtain rfl : k = k' := by omega
        exact i5 d (by omega)
      · obtain rfl : k = k' := by omega
        exact i0 d (by omega)
    have g4 : ∀ d, 6 * k + 8 ≤ d → OkM (grpM d 4) (fun b n => pTerm b n (prv b n (k + 1))) (k + 1) := by
      intro d hd
      obtain ⟨d, rfl⟩ : ∃ e, d = e + 1 := ⟨d - 1, by omega⟩
      exact m_term (g5 d (by omega))
    have g3 : ∀ d, 6 * k + 9 ≤ d → OkM (grpM d 3) (fun b n => pSum b n (prv b n (k + 1))) (k + 1) := by
      intro d hd
      obtain ⟨d, rfl⟩ : ∃ e, d = e + 1 := ⟨d - 1, by omega⟩
      exact m_added (g4 d (by omega))
    have g2 : ∀ d, 6 * k + 10 ≤ d → OkM (grpM d 2) (fun b n => pNot b n (prv b n (k + 1))) (k + 1) := by
      intro d hd
      obtain ⟨d, rfl⟩ : ∃ e, d = e + 1 := ⟨d - 1, by omega⟩
      refine m_not hk (g3 d (by omega)) (fun k' h => ?_)
      obtain rfl : k = k' := by omega
      exact i2 d (by omega)
    have g1 : ∀ d, 6 * k + 11 ≤ d → OkM (grpM d 1) (fun b n => pAnd b n (prv b n (k + 1))) (k + 1) := by
      intro d hd
      obtain ⟨d, rfl⟩ : ∃ e, d = e + 1 := ⟨d - 1, by omega⟩
      exact m_both (g2 d (by omega))
    have g0 : ∀ d, 6 * k + 12 ≤ d → OkM (grpM d 0) (fun b n => pAny b n (prv b n (k + 1))) (k + 1) := by
      intro d hd
      obtain ⟨d, rfl⟩ : ∃ e, d = e + 1 := ⟨d - 1, by omega⟩
      exact m_either (g1 d (by omega))
    exact ⟨fun d hd => g5 d (by omega), fun d hd => g2 d (by omega), fun d hd => g0 d (by omega)⟩
theorem m_any : OkM f_X9_either (fun b n => pAny b n (prv b n 5)) 5 := (m_grpAll 5 (by omega)).2.2 64 (by omega)
