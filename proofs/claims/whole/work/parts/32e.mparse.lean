/-! The reference's group -/
theorem loopM {ok : Int32 → Bool} {L : Nat → Int32 → Sm → Option (Int32 × Sm)} {sub : Sm → Option (Int32 × Sm)} {S : (Nat → Int32) → Nat → Nat → PR} {k : Nat} (hok : ok 269 = false) (h70 : ok 270 = false) (hbin : ∀ t, ok t = true → isBin t)
    (hB : ∀ (f : Nat) (v : Int32) (μ : Sm), μ.1 26 0 = 1 → L (f + 1) v μ = some (v, μ))
    (hN : ∀ (f : Nat) (v : Int32) (μ : Sm) (b : Nat → Int32) (n t p : Nat), PosM μ b n t p → ok (tK b n p) = false → L (f + 1) v μ = some (v, μ))
    (hY : ∀ (f : Nat) (v : Int32) (μ : Sm) (b : Nat → Int32) (n t p : Nat), PosM μ b n t p → ok (tK b n p) = true → L (f + 1) v μ = (f_X9_next μ).bind fun q6 => (sub q6).bind fun q8 => L f (rTwo (tK b n p) v q8.1) q8.2)
    (hs : OkM sub S k) : ∀ (m g f : Nat) (μ : Sm) (b : Nat → Int32) (n t p : Nat) (a : List Int32) (v : Int32), n - tS b n p ≤ m → PosM μ b n t p → μ.1 25 0 = nI (5 - k) → (∀ st, rRun (envM μ) a st = v :: st) → 200 ≤ g + tS b n p → 5000 ≤ f + tS b n p → ClmM (L f v μ) (lp ok b n (S b n) g a p) μ b n t p k := by
  intro m
  induction m with
  | zero =>
    intro g f μ b n t p a v hm hP h25 hv hg hf
    have hn := hP.1.2.2.1
    have hpn := tS_le (b := b) hP.2.1
    have he : tK b n p = 269 := by unfold tK; rw [if_pos (by omega)]
    obtain ⟨g, rfl⟩ : ∃ q, g = q + 1 := ⟨g - 1, by omega⟩
    obtain ⟨f, rfl⟩ : ∃ q, f = q + 1 := ⟨f - 1, by omega⟩
    have hr : lp ok b n (S b n) (g + 1) a p = .ok (a, p) := by unfold lp; rw [he, hok]; rfl
    rw [hr]
    exact ⟨v, μ, hN f v μ b n t p hP (by rw [he]; exact hok), hP, h25, FrM.rf, Nat.le_refl _, hv⟩
  | succ m ih =>
    intro g f μ b n t p a v hm hP h25 hv hg hf
    have hn := hP.1.2.2.1
    have hpn := tS_le (b := b) hP.2.1
    obtain ⟨g, rfl⟩ : ∃ q, g = q + 1 := ⟨g - 1, by omega⟩
    obtain ⟨f, rfl⟩ : ∃ q, f = q + 1 := ⟨f - 1, by omega⟩
    by_cases ho : ok (tK b n p) = true
    · have hne : ¬ tK b n p = 269 := fun h => by rw [h, hok] at ho; cases ho
      have hn7 : ¬ tK b n p = 270 := fun h => by rw [h, h70] at ho; cases ho
      obtain ⟨s1, s2⟩ := tS_tE hn hne
      obtain ⟨μ1, a1, a2, a3, a4⟩ := stepM' hP hn7
      have hsub := hs μ1 b n t (tE b n p) a2 (by rw [a3]; exact h25)
      have hl : lp ok b n (S b n) (g + 1) a p = match S b n (tE b n p) with | .error e => .error e | .ok q => lp ok b n (S b n) g (a ++ q.1 ++ [-(tK b n p)]) q.2 := by
        show (if ok (tK b n p) = true then _ else _) = _
        rw [if_pos ho]
        cases S b n (tE b n p) <;> rfl
      rw [hl, hY f v μ b n t p hP ho, a1, Option.bind_some]
      cases hS : S b n (tE b n p) with
      | error e =>
        obtain ⟨w, μ2, b1, b2, b3⟩ := hsub.e1 hS
        obtain ⟨f, rfl⟩ : ∃ q, f = q + 1 := ⟨f - 1, by omega⟩
        refine ⟨rTwo (tK b n p) v w, μ2, ?_, b2, a4.tr b3⟩
        rw [b1, Option.bind_some]
        exact hB f _ μ2 b2.1
      | ok q =>
        obtain ⟨w, μ2, b1, b2, b3, b4, b5, b6⟩ := hsub.e2 hS
        rw [b1, Option.bind_some]
        have env1 : envM μ1 = envM μ := envM_fr a4
        have env2 : envM μ2 = envM μ := by rw [envM_fr b4, env1]
        rw [env1] at b6
        have key := ih g f μ2 b n t q.2 (a ++ q.1 ++ [-(tK b n p)]) (rTwo (tK b n p) v w) (by omega) b2 b3 (by rw [env2]; exact rRun_bin (hbin _ ho) hv b6) (by omega) (by omega)
        show ClmM (L f (rTwo (tK b n p) v w) μ2) (lp ok b n (S b n) g (a ++ q.1 ++ [-(tK b n p)]) q.2) μ b n t p k
        cases hX : lp ok b n (S b n) g (a ++ q.1 ++ [-(tK b n p)]) q.2 with
        | error e =>
          obtain ⟨x, μ3, c1, c2, c3⟩ := key.e1 hX
          exact ⟨x, μ3, c1, c2, a4.tr (b4.tr c3)⟩
        | ok r =>
          obtain ⟨x, μ3, c1, c2, c3, c4, c5, c6⟩ := key.e2 hX
          exact ⟨x, μ3, c1, c2, c3, a4.tr (b4.tr c4), by omega, by rw [← env2]; exact c6⟩
    · have hof : ok (tK b n p) = false := by cases h : ok (tK b n p) with | true => exact absurd h ho | false => rfl
      have hr : lp ok b n (S b n) (g + 1) a p = .ok (a, p) := by show (if ok (tK b n p) = true then _ else _) = _; rw [if_neg ho]
      rw [hr]
      exact ⟨v, μ, hN f v μ b n t p hP hof, hP, h25, FrM.rf, Nat.le_refl _, hv⟩
theorem pLoopM {ok : Int32 → Bool} {m : Sm → Option (Int32 × Sm)} {L : Nat → Int32 → Sm → Option (Int32 × Sm)} {sub : Sm → Option (Int32 × Sm)} {S : (Nat → Int32) → Nat → Nat → PR} {k : Nat} (hok : ok 269 = false) (h70 : ok 270 = false) (hbin : ∀ t, ok t = true → isBin t)
    (hB : ∀ (f : Nat) (v : Int32) (μ : Sm), μ.1 26 0 = 1 → L (f + 1) v μ = some (v, μ))
    (hN : ∀ (f : Nat) (v : Int32) (μ : Sm) (b : Nat → Int32) (n t p : Nat), PosM μ b n t p → ok (tK b n p) = false → L (f + 1) v μ = some (v, μ))
    (hY : ∀ (f : Nat) (v : Int32) (μ : Sm) (b : Nat → Int32) (n t p : Nat), PosM μ b n t p → ok (tK b n p) = true → L (f + 1) v μ = (f_X9_next μ).bind fun q6 => (sub q6).bind fun q8 => L f (rTwo (tK b n p) v q8.1) q8.2)
    (hs : OkM sub S k) (hm : ∀ μ, m μ = (sub μ).bind fun q1 => L 5000 q1.1 q1.2) : OkM m (fun b n => pLoop ok b n (S b n)) k := by
  intro μ b n t p hP h25
  have h := hs μ b n t p hP h25
  show ClmM (m μ) (pLoop ok b n (S b n) p) μ b n t p k
  rw [hm]
  cases hS : S b n p with
  | error e =>
    obtain ⟨v, μ1, h1, h2, h3⟩ := h.e1 hS
    refine ClmM.err (f := e) (by unfold pLoop; rw [hS]) ⟨v, μ1, ?_, h2, h3⟩
    rw [h1, Option.bind_some]
    exact hB 4999 v μ1 h2.1
  | ok q =>
    obtain ⟨v, μ1, h1, h2, h3, h4, h5, h6⟩ := h.e2 hS
    rw [h1, Option.bind_some]
    have hR : pLoop ok b n (S b n) p = lp ok b n (S b n) 200 q.1 q.2 := by unfold pLoop; rw [hS]
    have env1 : envM μ1 = envM μ := envM_fr h4
    have key := loopM hok h70 hbin hB hN hY hs (n - tS b n q.2) 200 5000 μ1 b n t q.2 q.1 v (Nat.le_refl _) h2 h3 (by rw [env1]; exact h6) (by omega) (by omega)
    rw [hR]
    show ClmM (L 5000 v μ1) _ μ b n t p k
    cases hX : lp ok b n (S b n) 200 q.1 q.2 with
    | error e =>
      obtain ⟨x, μ3, c1, c2, c3⟩ := key.e1 hX
      exact ⟨x, μ3, c1, c2, h4.tr c3⟩
    | ok r =>
      obtain ⟨x, μ3, c1, c2, c3, c4, c5, c6⟩ := key.e2 hX
      exact ⟨x, μ3, c1, c2, c3, h4.tr c4, by omega, by rw [← env1]; exact c6⟩
theorem m_term {rec : Nat → Sm → Option (Int32 × Sm)} {S : (Nat → Int32) → Nat → Nat → PR} {k : Nat} (hs : OkM (rec 5) S k) : OkM (fb_X9_term rec) (fun b n => pLoop okMul b n (S b n)) k := by
  refine pLoopM (L := fb_X9_term_5 rec) (by decide) (by decide) okMul_b (fun f v μ h => ?_) (fun f v μ b n t p hP ho => ?_) (fun f v μ b n t p hP ho => ?_) hs (fun μ => rfl)
  · rw [fb_X9_term_5, fm_badS h, Option.bind_some]; rfl
  · have hS : f_X9_isSign (42 : Int32) μ = some (if tK b n p = (42 : Int32) then 1 else 0, μ) := fm_isSign (c := 42) (by omega) hP
    have hne : ¬ tK b n p = 42 := fun h => by rw [h] at ho; cases ho
    rw [fb_X9_term_5, hS, Option.bind_some]
    simp only [if_neg hne]
    rw [if_pos trivial]
  · have hS : f_X9_isSign (42 : Int32) μ = some (if tK b n p = (42 : Int32) then 1 else 0, μ) := fm_isSign (c := 42) (by omega) hP
    have he : tK b n p = 42 := by unfold okMul at ho; simpa using ho
    rw [fb_X9_term_5, hS, Option.bind_some]
    simp only [if_pos he]
    rw [if_neg (show ¬ (1 : Int32) = 0 by decide), he]
    rfl
theorem m_added {rec : Nat → Sm → Option (Int32 × Sm)} {S : (Nat → Int32) → Nat → Nat → PR} {k : Nat} (hs : OkM (rec 4) S k) : OkM (fb_X9_added rec) (fun b n => pLoop okAdd b n (S b n)) k := by
  refine pLoopM (L := fb_X9_added_5 rec) (by decide) (by decide) okAdd_b (fun f v μ h => ?_) (fun f v μ b n t p hP ho => ?_) (fun f v μ b n t p hP ho => ?_) hs (fun μ => rfl)
  · rw [fb_X9_added_5, fm_badS h, Option.bind_some]
    simp only []
    rw [if_pos trivial, fm_badS h, Option.bind_some]; rfl
  · have h3 : f_X9_isSign (43 : Int32) μ = some (if tK b n p = (43 : Int32) then 1 else 0, μ) := fm_isSign (c := 43) (by omega) hP
    have h5 : f_X9_isSign (45 : Int32) μ = some (if tK b n p = (45 : Int32) then 1 else 0, μ) := fm_isSign (c := 45) (by omega) hP
    have n3 : ¬ tK b n p = 43 := fun h => by rw [h] at ho; cases ho
    have n5 : ¬ tK b n p = 45 := fun h => by rw [h] at ho; cases ho
    rw [fb_X9_added_5, h3, Option.bind_some]
    simp only [if_neg n3]
    rw [if_pos trivial, h5, Option.bind_some]
    simp only [if_neg n5]
    rw [if_pos trivial]
  · have h3 : f_X9_isSign (43 : Int32) μ = some (if tK b n p = (43 : Int32) then 1 else 0, μ) := fm_isSign (c := 43) (by omega) hP
    have h5 : f_X9_isSign (45 : Int32) μ = some (if tK b n p = (45 : Int32) then 1 else 0, μ) := fm_isSign (c := 45) (by omega) hP
    have hw : ∀ c : Nat, c < 200 → tK b n p = nI c → μ.2 24 0 = (nI c).toInt64 := by
      intro c hc hcc
      have k3 : kM b n p = 3 := Classical.byContradiction fun q => tK_small q hc hcc
      rcases kM_tK (b := b) (n := n) (p := p) with ⟨q, _⟩ | ⟨q, _⟩ | ⟨q, _⟩ | ⟨q, _, t3⟩ | ⟨q, _⟩
      · rw [q] at k3; exact absurd k3 (by decide)
      · rw [q] at k3; exact absurd k3 (by decide)
      · rw [q] at k3; exact absurd k3 (by decide)
      · rw [hP.2.2.2.2.2.2.1 k3, ← t3, hcc]
      · rw [q] at k3; exact absurd k3 (by decide)
    rw [fb_X9_added_5, h3, Option.bind_some]
    by_cases n3 : tK b n p = 43
    · simp only [if_pos n3]
      rw [if_neg (show ¬ (1 : Int32) = 0 by decide), n3]
      unfold fb_X9_added_23 fb_X9_added_39
      rw [hw 43 (by omega) n3, if_pos (by decide)]
      simp only [if_neg (show ¬ (1 : Int32) = 0 by decide)]
      rfl
    · have n5 : tK b n p = 45 := by unfold okAdd at ho; simp at ho; exact ho.resolve_left n3
      simp only [if_neg n3]
      rw [if_pos trivial, h5, Option.bind_some]
      simp only [if_pos n5]
      rw [if_neg (show ¬ (1 : Int32) = 0 by decide), n5]
      unfold fb_X9_added_23 fb_X9_added_39
      rw [hw 45 (by omega) n5, if_neg (by decide)]
      simp only [if_true]
      rfl
theorem m_both {rec : Nat → Sm → Option (Int32 × Sm)} {S : (Nat → Int32) → Nat → Nat → PR} {k : Nat} (hs : OkM (rec 2) S k) : OkM (fb_X9_both rec) (fun b n => pLoop okAnd b n (S b n)) k := by
  refine pLoopM (L := fb_X9_both_5 rec) (by decide) (by decide) okAnd_b (fun f v μ h => ?_) (fun f v μ b n t p hP ho => ?_) (fun f v μ b n t p hP ho => ?_) hs (fun μ => rfl)
  · rw [fb_X9_both_5, fm_bad h, Option.bind_some]; rfl
  · have hS : f_X9_isWord (97 : Int32) (110 : Int32) (100 : Int32) (0 : Int32) (0 : Int32) (0 : Int32) (0 : Int32) (0 : Int32) μ = some (if tK b n p = (260 : Int32) then 1 else 0, μ) := fm_isWord (k := 4) (by omega) hP
    have hne : ¬ tK b n p = 260 := fun h => by rw [h] at ho; cases ho
    rw [fb_X9_both_5, hS, Option.bind_some]
    simp only [if_neg hne]
    rw [if_pos trivial]
  · have hS : f_X9_isWord (97 : Int32) (110 : Int32) (100 : Int32) (0 : Int32) (0 : Int32) (0 : Int32) (0 : Int32) (0 : Int32) μ = some (if tK b n p = (260 : Int32) then 1 else 0, μ) := fm_isWord (k := 4) (by omega) hP
    have he : tK b n p = 260 := by unfold okAnd at ho; simpa using ho
    rw [fb_X9_both_5, hS, Option.bind_some]
    simp only [if_pos he]
    rw [if_neg (show ¬ (1 : Int32) = 0 by decide), he]
    congr 1; funext q6; congr 1; funext q8
    show _ = fb_X9_both_5 rec f (if v = 0 then 0 else if q8.1 = 0 then 0 else 1) q8.2
    repeat' split
    all_goals rfl
theorem m_either {rec : Nat → Sm → Option (Int32 × Sm)} {S : (Nat → Int32) → Nat → Nat → PR} {k : Nat} (hs : OkM (rec 1) S k) : OkM (fb_X9_either rec) (fun b n => pLoop okOr b n (S b n)) k := by
  refine pLoopM (L := fb_X9_either_5 rec) (by decide) (by decide) okOr_b (fun f v μ h => ?_) (fun f v μ b n t p hP ho => ?_) (fun f v μ b n t p hP ho => ?_) hs (fun μ => rfl)
  · rw [fb_X9_either_5, fm_bad h, Option.bind_some]; rfl
  · have hS : f_X9_isWord (111 : Int32) (114 : Int32) (0 : Int32) (0 : Int32) (0 : Int32) (0 : Int32) (0 : Int32) (0 : Int32) μ = some (if tK b n p = (259 : Int32) then 1 else 0, μ) := fm_isWord (k := 3) (by omega) hP
    have hne : ¬ tK b n p = 259 := fun h => by rw [h] at ho; cases ho
    rw [fb_X9_either_5, hS, Option.bind_some]
    simp only [if_neg hne]
    rw [if_pos trivial]
  · have hS : f_X9_isWord (111 : Int32) (114 : Int32) (0 : Int32) (0 : Int32) (0 : Int32) (0 : Int32) (0 : Int32) (0 : Int32) μ = some (if tK b n p = (259 : Int32) then 1 else 0, μ) := fm_isWord (k := 3) (by omega) hP
    have he : tK b n p = 259 := by unfold okOr at ho; simpa using ho
    rw [fb_X9_either_5, hS, Option.bind_some]
    simp only [if_pos he]
    rw [if_neg (show ¬ (1 : Int32) = 0 by decide), he]
    congr 1; funext q6; congr 1; funext q8
    show _ = fb_X9_either_5 rec f (if v = 0 then (if q8.1 = 0 then 0 else 1) else 1) q8.2
    repeat' split
    all_goals rfl

theorem m_not {rec : Nat → Sm → Option (Int32 × Sm)} {k : Nat} (hk : k ≤ 5) (hs : OkM (rec 3) (fun b n => pSum b n (prv b n k)) k) (hn : ∀ k', k = k' + 1 → OkM (rec 2) (fun b n => pNot b n (prv b n k')) k') : OkM (fb_X9_not rec) (fun b n => pNot b n (prv b n k)) k := by
  intro μ b n t p hP h25
  have hnn := hP.1.2.2.1
  have hW : f_X9_isWord (110 : Int32) (111 : Int32) (116 : Int32) (0 : Int32) (0 : Int32) (0 : Int32) (0 : Int32) (0 : Int32) μ = some (if tK b n p = (261 : Int32) then 1 else 0, μ) := fm_isWord (k := 5) (by omega) hP
  show ClmM _ (pNot b n (prv b n k) p) μ b n t p k
  unfold fb_X9_not
  rw [hW, Option.bind_some]
  by_cases h1 : tK b n p = 261
  · simp only [if_pos h1]
    rw [if_neg (show ¬ (1 : Int32) = 0 by decide)]
    match k, hk, hn, h25 with
    | 0, _, _, h25 =>
      obtain ⟨μ', g1, g2, g3⟩ := fm_opens0 hP h25
      refine ClmM.err (f := tS b n p) (by unfold pNot; rw [if_pos h1]; rfl) ⟨0, μ', ?_, g2, g3⟩
      rw [g1, Option.bind_some]; rfl
    | k + 1, hk, hn, h25 =>
      obtain ⟨s1, s2⟩ := tS_tE hnn (show ¬ tK b n p = 269 by rw [h1]; decide)
      obtain ⟨μ1, g1, g2, g3, g4⟩ := fm_opens1 (by omega) hP h25 (show ¬ tK b n p = 270 by rw [h1]; decide)
      have h := hn k rfl μ1 b n t (tE b n p) g2 g3
      have hC : pNot b n (prv b n (k + 1)) p = (match pNot b n (prv b n k) (tE b n p) with | .error e => .error e | .ok q => .ok (q.1 ++ [-261], q.2)) := by
        unfold pNot; rw [if_pos h1]; rfl
      rw [g1, Option.bind_some]
      simp only []
      rw [if_neg (show ¬ (1 : Int32) = 0 by decide)]
      cases hS : pNot b n (prv b n k) (tE b n p) with
      | error e =>
        obtain ⟨v, μ2, b1, b2, b3⟩ := h.e1 hS
        rw [b1, Option.bind_some]
        have hfin : FrM μ (upm μ2 25 0 (μ2.1 25 0 - 1)) := g4.tr (b3.tr (FrM.put (by omega)))
        have hbad : BadM (upm μ2 25 0 (μ2.1 25 0 - 1)) e := ⟨by rw [upm_1, up_n (by decide)]; exact b2.1, by rw [upm_1, up_n (by decide)]; exact b2.2⟩
        refine ClmM.err (f := e) (by rw [hC, hS]) ?_
        simp only []
        split
        · exact ⟨1, _, rfl, hbad, hfin⟩
        · exact ⟨0, _, rfl, hbad, hfin⟩
      | ok q =>
        obtain ⟨v, μ2, b1, b2, b3, b4, b5, b6⟩ := h.e2 hS
        rw [b1, Option.bind_some]
        have hfin : FrM μ (upm μ2 25 0 (μ2.1 25 0 - 1)) := g4.tr (b4.tr (FrM.put (by omega)))
        have e25 : (upm μ2 25 0 (μ2.1 25 0 - 1)).1 25 0 = nI (5 - (k + 1)) := by
          rw [upm_1, up_s, upd_s, b3, show (1 : Int32) = nI 1 from rfl, nI_sub (by omega)]; congr 1
        have env1 : envM μ1 = envM μ := envM_fr g4
        have hrun : ∀ st, rRun (envM μ) (q.1 ++ [-261]) st = (if v = 0 then 1 else 0) :: st := by
          intro st
          rw [rRun_app, ← env1, b6]
          show rStep (envM μ1) (-261) (v :: st) = _
          unfold rStep
          rw [if_neg (by decide), if_neg (by decide), if_pos (by decide)]
          rfl
        refine ClmM.fin (q := (q.1 ++ [-261], q.2)) (by rw [hC, hS]) ⟨if v = 0 then 1 else 0, _, ?_, b2.put25 _, e25, hfin, by show tS b n p ≤ tS b n q.2; omega, hrun⟩
        simp only []
        split <;> rfl
  · simp only [if_neg h1]
    rw [if_pos trivial]
    have h := hs μ b n t p hP h25
    have hC : pNot b n (prv b n k) p = pCmp b n (prv b n k) p := by unfold pNot; rw [if_neg h1]
    rw [hC]
    cases hS : pSum b n (prv b n k) p with
    | error e =>
      obtain ⟨v, μ1, b1, b2, b3⟩ := h.e1 hS
      refine ClmM.err (f := e) (by unfold pCmp; rw [hS]) ⟨v, μ1, ?_, b2, b3⟩
      rw [b1, Option.bind_some]
      simp only []
      rw [fm_badS b2.1, Option.bind_some]
      simp only []
      rw [if_pos trivial, fm_badS b2.1, Option.bind_some]
      rfl
    | ok q =>
      obtain ⟨v, μ1, b1, b2, b3, b4, b5, b6⟩ := h.e2 hS
      have hCC : pCmp b n (prv b n k) p = if okCmp (tK b n q.2) = true then (match pSum b n (prv b n k) (tE b n q.2) with | .error e => .error e | .ok r => .ok (q.1 ++ r.1 ++ [-(tK b n q.2)], r.2)) else .ok q := by
        unfold pCmp; rw [hS]; rfl
      have h60 : f_X9_isSign (60 : Int32) μ1 = some (if tK b n q.2 = (60 : Int32) then 1 else 0, μ1) := fm_isSign (c := 60) (by omega) b2
      have h61 : f_X9_isSign (61 : Int32) μ1 = some (if tK b n q.2 = (61 : Int32) then 1 else 0, μ1) := fm_isSign (c := 61) (by omega) b2
      have hw : ∀ c : Nat, c < 200 → tK b n q.2 = nI c → μ1.2 24 0 = (nI c).toInt64 := by
        intro c hc hcc
        have k3 : kM b n q.2 = 3 := Classical.byContradiction fun g => tK_small g hc hcc
        rcases kM_tK (b := b) (n := n) (p := q.2) with ⟨g, _⟩ | ⟨g, _⟩ | ⟨g, _⟩ | ⟨g, _, t3⟩ | ⟨g, _⟩
        · rw [g] at k3; exact absurd k3 (by decide)
        · rw [g] at k3; exact absurd k3 (by decide)
        · rw [g] at k3; exact absurd k3 (by decide)
        · rw [b2.2.2.2.2.2.2.1 k3, ← t3, hcc]
        · rw [g] at k3; exact absurd k3 (by decide)
      have env1 : envM μ1 = envM μ := envM_fr b4
      rw [b1, Option.bind_some]
      simp only []
      rw [h60, Option.bind_some]
      have second : ∀ z : Int32, okCmp (tK b n q.2) = true → (∀ w : Int32, (if z = 0 then (if v = w then (1 : Int32) else 0) else if w ≤ v then 0 else 1) = rTwo (tK b n q.2) v w) → ClmM (fb_X9_not_93 rec v z μ1) (pCmp b n (prv b n k) p) μ b n t p k := by
        intro z ho hz
        rw [if_pos ho] at hCC
        obtain ⟨s1, s2⟩ := tS_tE hnn (show ¬ tK b n q.2 = 269 from fun h => by rw [h] at ho; cases ho)
        obtain ⟨μ2, c1, c2, c3, c4⟩ := stepM' b2 (show ¬ tK b n q.2 = 270 from fun h => by rw [h] at ho; cases ho)
        have h2 := hs μ2 b n t (tE b n q.2) c2 (by rw [c3]; exact b3)
        unfold fb_X9_not_93
        rw [c1, Option.bind_some]
        cases hS2 : pSum b n (prv b n k) (tE b n q.2) with
        | error e =>
          obtain ⟨w, μ3, d1, d2, d3⟩ := h2.e1 hS2
          rw [d1, Option.bind_some]
          refine ClmM.err (f := e) (by rw [hCC, hS2]) ?_
          have hfr := b4.tr (c4.tr d3)
          simp only []
          repeat' split
          all_goals exact ⟨_, _, rfl, d2, hfr⟩
        | ok r =>
          obtain ⟨w, μ3, d1, d2, d3, d4, d5, d6⟩ := h2.e2 hS2
          rw [d1, Option.bind_some]
          have env2 : envM μ2 = envM μ := by rw [envM_fr c4, env1]
          refine ClmM.fin (q := (q.1 ++ r.1 ++ [-(tK b n q.2)], r.2)) (by rw [hCC, hS2]) ⟨rTwo (tK b n q.2) v w, μ3, ?_, d2, d3, b4.tr (c4.tr d4), by show tS b n p ≤ tS b n r.2; omega, rRun_bin (okCmp_b _ ho) b6 (by rw [← env2]; exact d6)⟩
          rw [← hz w]
          simp only []
          repeat' split
          all_goals rfl
      by_cases a60 : tK b n q.2 = 60
      · simp only [if_pos a60]
        rw [if_neg (show ¬ (1 : Int32) = 0 by decide)]
        unfold fb_X9_not_77
        rw [hw 60 (by omega) a60, if_pos (by decide)]
        exact second 1 (by rw [a60]; rfl) (fun w => by rw [a60]; rfl)
      · simp only [if_neg a60]
        rw [if_pos trivial, h61, Option.bind_some]
        by_cases a61 : tK b n q.2 = 61
        · simp only [if_pos a61]
          rw [if_neg (show ¬ (1 : Int32) = 0 by decide)]
          unfold fb_X9_not_77
          rw [hw 61 (by omega) a61, if_neg (by decide)]
          exact second 0 (by rw [a61]; rfl) (fun w => by rw [a61]; rfl)
        · simp only [if_neg a61]
          rw [if_pos trivial]
          rw [if_neg (show ¬ okCmp (tK b n q.2) = true by unfold okCmp; simp [a60, a61])] at hCC
          exact ClmM.fin hCC ⟨v, μ1, rfl, b2, b3, b4, b5, b6⟩
