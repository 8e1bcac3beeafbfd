theorem tok_congr {b : Nat → Int32} {n p q : Nat} (h : tS b n p = tS b n q) : tE b n p = tE b n q ∧ kM b n p = kM b n q ∧ tL b n p = tL b n q ∧ tK b n p = tK b n q := by
  unfold tE kM tL tK
  rw [h]
  exact ⟨rfl, rfl, rfl, rfl⟩
theorem NxJ.from {μ ν μ' : Sm} {b : Nat → Int32} {n p q : Nat} (h : NxJ ν μ' b n q) (hs : tS b n p = tS b n q) (h1 : ∀ a, a ≠ 21 → a ≠ 22 → a ≠ 23 → ν.1 a = μ.1 a) (h2 : ∀ a, a ≠ 24 → ν.2 a = μ.2 a) : NxJ μ μ' b n p := by
  obtain ⟨c1, c2, c3, c4⟩ := tok_congr hs
  obtain ⟨g1, g2, g3, g4, g5, g6, g7⟩ := h
  refine ⟨fun a a1 a2 a3 => (g1 a a1 a2 a3).trans (h1 a a1 a2 a3), fun a a1 => (g2 a a1).trans (h2 a a1), by rw [hs]; exact g3, by rw [c2]; exact g4, by rw [c2, c1]; exact g5, by rw [c2, c3]; exact g6, by rw [c2, hs]; exact g7⟩
theorem fm_sign {μ : Sm} {b : Nat → Int32} {n q : Nat} (hq : q < n) (hs : tS b n q = q) (hl : ¬ isLet (b q)) (hd : ¬ isDig (b q)) (hsg : isSg (b q)) (h21 : μ.1 21 0 = nI q) (h23 : μ.1 23 0 = nI q) : ∃ μ', f_X9_next_300 (b q) μ = some μ' ∧ NxJ μ μ' b n q := by
  have k3 : kM b n q = 3 := by unfold kM; rw [hs, if_neg (by omega), if_neg hl, if_neg hd, if_pos hsg]
  have e1 : tE b n q = q + 1 := by unfold tE; rw [hs, if_neg (by omega), if_neg hl, if_neg hd]
  refine ⟨_, rfl, fun a a1 a2 a3 => ?_, fun a a1 => ?_, ?_, ?_, ?_, ?_, ?_⟩
  · show up (up μ.1 22 0 3) 21 0 (up μ.1 22 0 3 21 0 + 1) a = μ.1 a
    rw [up_n a1, up_n a2]
  · exact upj_n a1
  · show up (up μ.1 22 0 3) 21 0 (up μ.1 22 0 3 21 0 + 1) 23 0 = _
    rw [up_n (by decide), up_n (by decide), hs, h23]
  · show up (up μ.1 22 0 3) 21 0 (up μ.1 22 0 3 21 0 + 1) 22 0 = _
    rw [up_n (by decide), up_s, upd_s, k3]
  · intro _
    show up (up μ.1 22 0 3) 21 0 (up μ.1 22 0 3 21 0 + 1) 21 0 = _
    rw [up_s, upd_s, up_n (by decide), h21, nI_1, e1]
  · intro h; rw [k3] at h; exact absurd h (by decide)
  · intro _
    rw [hs]
    exact upj_s (σ := upm μ 22 0 3) (id := 24) (j := 0) (v := (b q).toInt64)
theorem fm_next {b : Nat → Int32} {n t : Nat} : ∀ (d q f : Nat) (μ : Sm), q + d = n → d < f → RdM μ b n t → μ.1 21 0 = nI q → ∃ μ', f_X9_next_0 f μ = some μ' ∧ NxJ μ μ' b n q := by
  intro d
  induction d with
  | zero =>
    intro q f μ hq hf h h21
    obtain ⟨f, rfl⟩ : ∃ g, f = g + 1 := ⟨f - 1, by omega⟩
    have hn := h.2.2.1
    have hqn : q = n := by omega
    have hs : tS b n q = q := runE_here (by omega)
    have k0 : kM b n q = 0 := by unfold kM; rw [hs, if_pos (by omega)]
    have e1 : tE b n q = q := by unfold tE; rw [hs, if_pos (by omega)]
    have h' : RdM (upm μ 23 0 (nI q)) b n t := h.put 23 0 _ (by decide) (by decide) (by decide)
    rw [f_X9_next_0, h21, fm_byteE h (by omega) (by omega), Option.bind_some]
    simp only []
    rw [if_neg (by decide), h21, fm_byteE h (by omega) (by omega), Option.bind_some]
    simp only []
    rw [if_neg (by decide), h21, show (upm μ 23 0 (nI q)).1 21 0 = nI q by rw [upm_1, up_n (by decide)]; exact h21, fm_byteE h' (by omega) (by omega), Option.bind_some]
    simp only []
    rw [if_neg (by decide)]
    refine ⟨_, rfl, fun a a1 a2 a3 => ?_, fun _ _ => rfl, ?_, ?_, ?_, ?_, ?_⟩
    · show up (up (up (up μ.1 23 0 (nI q)) 22 0 4) 22 0 0) 23 0 (up (up (up μ.1 23 0 (nI q)) 22 0 4) 22 0 0 20 0) a = μ.1 a
      rw [up_n a3, up_n a2, up_n a2, up_n a3]
    · show up (up (up (up μ.1 23 0 (nI q)) 22 0 4) 22 0 0) 23 0 (up (up (up μ.1 23 0 (nI q)) 22 0 4) 22 0 0 20 0) 23 0 = _
      rw [up_s, upd_s, up_n (by decide), up_n (by decide), up_n (by decide), h.2.1, hs, hqn]
    · show up (up (up (up μ.1 23 0 (nI q)) 22 0 4) 22 0 0) 23 0 (up (up (up μ.1 23 0 (nI q)) 22 0 4) 22 0 0 20 0) 22 0 = _
      rw [up_n (by decide), up_s, upd_s, k0]
    · intro _
      show up (up (up (up μ.1 23 0 (nI q)) 22 0 4) 22 0 0) 23 0 (up (up (up μ.1 23 0 (nI q)) 22 0 4) 22 0 0 20 0) 21 0 = _
      rw [up_n (by decide), up_n (by decide), up_n (by decide), up_n (by decide), h21, e1]
    · intro h; rw [k0] at h; exact absurd h (by decide)
    · intro h; rw [k0] at h; exact absurd h (by decide)
  | succ d ih =>
    intro q f μ hq hf h h21
    obtain ⟨f, rfl⟩ : ∃ g, f = g + 1 := ⟨f - 1, by omega⟩
    have hn := h.2.2.1
    have hqn : q < n := by omega
    have hgo : isBl (b q) → ∃ μ', f_X9_next_26 (f_X9_next_0 f) μ = some μ' ∧ NxJ μ μ' b n q := by
      intro hb
      unfold f_X9_next_26
      rw [h21, nI_1]
      obtain ⟨μ', g1, g2⟩ := ih (q + 1) f (upm μ 21 0 (nI (q + 1))) (by omega) (by omega) (h.put 21 0 _ (by decide) (by decide) (by decide)) (by rw [upm_1, up_s, upd_s])
      exact ⟨μ', g1, g2.from (runE_next (by omega) ⟨hqn, hb⟩) (fun a a1 a2 a3 => up_n a1) (fun _ _ => rfl)⟩
    rw [f_X9_next_0, h21, fm_byte h hqn, Option.bind_some]
    simp only []
    by_cases h32 : b q = 32
    · rw [if_pos h32]; exact hgo (Or.inl h32)
    · rw [if_neg h32, h21, fm_byte h hqn, Option.bind_some]
      simp only []
      by_cases h10 : b q = 10
      · rw [if_pos h10]; exact hgo (Or.inr h10)
      · have hs : tS b n q = q := runE_here (fun h => h.2.elim h32 h10)
        have h' : RdM (upm μ 23 0 (nI q)) b n t := h.put 23 0 _ (by decide) (by decide) (by decide)
        rw [if_neg h10, h21, show (upm μ 23 0 (nI q)).1 21 0 = nI q by rw [upm_1, up_n (by decide)]; exact h21, fm_byte h' hqn, Option.bind_some]
        simp only []
        obtain ⟨a0, ha0, hb0⟩ := h.2.2.2.2.2 q hqn
        rw [if_pos (by rw [hb0]; exact nI_pos' (by omega)), fm_let, Option.bind_some]
        have k21 : (upm (upm μ 23 0 (nI q)) 22 0 (4 : Int32)).1 21 0 = nI q := by rw [upm_1, up_n (by decide), upm_1, up_n (by decide)]; exact h21
        have h'' : RdM (upm (upm μ 23 0 (nI q)) 22 0 (4 : Int32)) b n t := h'.put 22 0 _ (by decide) (by decide) (by decide)
        by_cases hl : isLet (b q)
        · simp only [if_pos hl]
          rw [if_neg (by decide)]
          have k1 : kM b n q = 1 := by unfold kM; rw [hs, if_neg (by omega), if_pos hl]
          have e1 : tE b n q = letE b n q := by unfold tE; rw [hs, if_neg (by omega), if_pos hl]
          rw [fm_letters (n - q) q 5000 (upm (upm (upm μ 23 0 (nI q)) 22 0 (4 : Int32)) 22 0 (1 : Int32)) (by omega) (by omega) (h''.put 22 0 _ (by decide) (by decide) (by decide)) (by rw [upm_1, up_n (by decide)]; exact k21)]
          refine ⟨_, rfl, fun a a1 a2 a3 => ?_, fun _ _ => rfl, ?_, ?_, ?_, ?_, ?_⟩
          · show up (up (up (up μ.1 23 0 (nI q)) 22 0 4) 22 0 1) 21 0 (nI (letE b n q)) a = μ.1 a
            rw [up_n a1, up_n a2, up_n a2, up_n a3]
          · show up (up (up (up μ.1 23 0 (nI q)) 22 0 4) 22 0 1) 21 0 (nI (letE b n q)) 23 0 = _
            rw [up_n (by decide), up_n (by decide), up_n (by decide), up_s, upd_s, hs]
          · show up (up (up (up μ.1 23 0 (nI q)) 22 0 4) 22 0 1) 21 0 (nI (letE b n q)) 22 0 = _
            rw [up_n (by decide), up_s, upd_s, k1]
          · intro _
            show up (up (up (up μ.1 23 0 (nI q)) 22 0 4) 22 0 1) 21 0 (nI (letE b n q)) 21 0 = _
            rw [up_s, upd_s, e1]
          · intro h; rw [k1] at h; exact absurd h (by decide)
          · intro h; rw [k1] at h; exact absurd h (by decide)
        · simp only [if_neg hl]
          rw [if_pos trivial, fm_dig, Option.bind_some]
          by_cases hd : isDig (b q)
          · simp only [if_pos hd]
            rw [if_neg (by decide)]
            have e1 : tE b n q = digE b n q := by unfold tE; rw [hs, if_neg (by omega), if_neg hl, if_pos hd]
            have k1 : kM b n q = if digE b n q - q ≤ 4 then 2 else 4 := by unfold kM; rw [hs, if_neg (by omega), if_neg hl, if_pos hd]
            obtain ⟨μ', g1, g2, g3, g4, g5, g6⟩ := fm_digits (b := b) (n := n) (t := t) (s := q) (n - q) q 5000 (upj (upm (upm (upm μ 23 0 (nI q)) 22 0 (4 : Int32)) 22 0 (2 : Int32)) 24 0 (0 : Int64)) (by omega) (by omega) (Nat.le_refl q) ((h''.put 22 0 _ (by decide) (by decide) (by decide)).putj 24 0 0) (by rw [upj_1, upm_1, up_n (by decide)]; exact k21) (fun _ => by rw [upj_s, Nat.sub_self]; rfl)
            rw [Nat.sub_self] at g1
            have g1 : f_X9_next_160 5000 (0 : Int32) _ = some μ' := g1
            refine ⟨μ', g1, fun a a1 a2 a3 => ?_, fun a a1 => ?_, ?_, ?_, ?_, ?_, ?_⟩
            · rw [g2 a a1 a2]
              show up (up (up μ.1 23 0 (nI q)) 22 0 4) 22 0 2 a = μ.1 a
              rw [up_n a2, up_n a2, up_n a3]
            · rw [g3 a a1]; exact upj_n a1
            · rw [g2 23 (by decide) (by decide)]
              show up (up (up μ.1 23 0 (nI q)) 22 0 4) 22 0 2 23 0 = _
              rw [up_n (by decide), up_n (by decide), up_s, upd_s, hs]
            · rw [g5, k1]
            · intro _; rw [g4, e1]
            · intro h
              rw [k1] at h
              split at h
              · rename_i h4
                rw [g6 h4]
                unfold tL
                rw [hs]
              · exact absurd h (by decide)
            · intro h
              rw [k1] at h
              split at h <;> exact absurd h (by decide)
          · simp only [if_neg hd]
            rw [if_pos trivial]
            have hfr : ∀ a, a ≠ 21 → a ≠ 22 → a ≠ 23 → (upm (upm μ 23 0 (nI q)) 22 0 (4 : Int32)).1 a = μ.1 a := fun a a1 a2 a3 => by rw [upm_1, up_n a2, upm_1, up_n a3]
            have k23 : (upm (upm μ 23 0 (nI q)) 22 0 (4 : Int32)).1 23 0 = nI q := by rw [upm_1, up_n (by decide), upm_1, up_s, upd_s]
            by_cases hsg : isSg (b q)
            · obtain ⟨μ', g1, g2⟩ := fm_sign hqn hs hl hd hsg k21 k23
              have hres : (if b q = (40 : Int32) then f_X9_next_300 (b q) (upm (upm μ 23 0 (nI q)) 22 0 (4 : Int32)) else if b q = (41 : Int32) then f_X9_next_300 (b q) (upm (upm μ 23 0 (nI q)) 22 0 (4 : Int32)) else if b q = (59 : Int32) then f_X9_next_300 (b q) (upm (upm μ 23 0 (nI q)) 22 0 (4 : Int32)) else if b q = (43 : Int32) then f_X9_next_300 (b q) (upm (upm μ 23 0 (nI q)) 22 0 (4 : Int32)) else if b q = (45 : Int32) then f_X9_next_300 (b q) (upm (upm μ 23 0 (nI q)) 22 0 (4 : Int32)) else if b q = (42 : Int32) then f_X9_next_300 (b q) (upm (upm μ 23 0 (nI q)) 22 0 (4 : Int32)) else if b q = (60 : Int32) then f_X9_next_300 (b q) (upm (upm μ 23 0 (nI q)) 22 0 (4 : Int32)) else if b q = (61 : Int32) then f_X9_next_300 (b q) (upm (upm μ 23 0 (nI q)) 22 0 (4 : Int32)) else some (upm (upm μ 23 0 (nI q)) 22 0 (4 : Int32))) = some μ' := by
                repeat' split
                all_goals first | exact g1 | skip
                rename_i q1 q2 q3 q4 q5 q6 q7 q8
                rcases hsg with z | z | z | z | z | z | z | z <;> contradiction
              refine ⟨μ', hres, g2.from rfl hfr (fun _ _ => rfl)⟩
            · have hres : (if b q = (40 : Int32) then f_X9_next_300 (b q) (upm (upm μ 23 0 (nI q)) 22 0 (4 : Int32)) else if b q = (41 : Int32) then f_X9_next_300 (b q) (upm (upm μ 23 0 (nI q)) 22 0 (4 : Int32)) else if b q = (59 : Int32) then f_X9_next_300 (b q) (upm (upm μ 23 0 (nI q)) 22 0 (4 : Int32)) else if b q = (43 : Int32) then f_X9_next_300 (b q) (upm (upm μ 23 0 (nI q)) 22 0 (4 : Int32)) else if b q = (45 : Int32) then f_X9_next_300 (b q) (upm (upm μ 23 0 (nI q)) 22 0 (4 : Int32)) else if b q = (42 : Int32) then f_X9_next_300 (b q) (upm (upm μ 23 0 (nI q)) 22 0 (4 : Int32)) else if b q = (60 : Int32) then f_X9_next_300 (b q) (upm (upm μ 23 0 (nI q)) 22 0 (4 : Int32)) else if b q = (61 : Int32) then f_X9_next_300 (b q) (upm (upm μ 23 0 (nI q)) 22 0 (4 : Int32)) else some (upm (upm μ 23 0 (nI q)) 22 0 (4 : Int32))) = some (upm (upm μ 23 0 (nI q)) 22 0 (4 : Int32)) := by
                have n1 : ¬ b q = 40 := fun z => hsg (by unfold isSg; simp [z])
                have n2 : ¬ b q = 41 := fun z => hsg (by unfold isSg; simp [z])
                have n3 : ¬ b q = 59 := fun z => hsg (by unfold isSg; simp [z])
                have n4 : ¬ b q = 43 := fun z => hsg (by unfold isSg; simp [z])
                have n5 : ¬ b q = 45 := fun z => hsg (by unfold isSg; simp [z])
                have n6 : ¬ b q = 42 := fun z => hsg (by unfold isSg; simp [z])
                have n7 : ¬ b q = 60 := fun z => hsg (by unfold isSg; simp [z])
                have n8 : ¬ b q = 61 := fun z => hsg (by unfold isSg; simp [z])
                rw [if_neg n1, if_neg n2, if_neg n3, if_neg n4, if_neg n5, if_neg n6, if_neg n7, if_neg n8]
              have k4 : kM b n q = 4 := by unfold kM; rw [hs, if_neg (by omega), if_neg hl, if_neg hd, if_neg hsg]
              refine ⟨_, hres, hfr, fun _ _ => rfl, by rw [hs]; exact k23, by rw [upm_1, up_s, upd_s, k4], fun h => absurd k4 h, fun h => ?_, fun h => ?_⟩
              · rw [k4] at h; exact absurd h (by decide)
              · rw [k4] at h; exact absurd h (by decide)
