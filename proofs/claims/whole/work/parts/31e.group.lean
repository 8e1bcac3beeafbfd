/-! The reader's methods are the parser's words -/
theorem ClmC.err {res : Option (Int32 × Sg)} {R : PR} {σ : Sg} {b : Nat → Int32} {n p t : Nat} {c : List Int32} {w f : Nat} (hR : R = .error f) (h : ∃ σ', res = some (0, σ') ∧ (σ' 37 0 = nI f ∧ f ≤ n) ∧ FrR σ σ' t) : ClmC res R σ b n p t c w := by subst hR; exact h
theorem ClmC.fin {res : Option (Int32 × Sg)} {R : PR} {σ : Sg} {b : Nat → Int32} {n p t : Nat} {c : List Int32} {w : Nat} {q : List Int32 × Nat} (hR : R = .ok q) (h : ∃ σ', res = some (1, σ') ∧ PosC σ' b n q.2 ∧ TxtC σ' t (c ++ q.1) ∧ (c ++ q.1).length + w ≤ tS b n q.2 ∧ FrR σ σ' t ∧ tS b n p ≤ tS b n q.2) : ClmC res R σ b n p t c w := by subst hR; exact h
theorem ClmC.e1 {res : Option (Int32 × Sg)} {R : PR} {σ : Sg} {b : Nat → Int32} {n p t : Nat} {c : List Int32} {w f : Nat} (h : ClmC res R σ b n p t c w) (hR : R = .error f) : ∃ σ', res = some (0, σ') ∧ (σ' 37 0 = nI f ∧ f ≤ n) ∧ FrR σ σ' t := by subst hR; exact h
theorem ClmC.e2 {res : Option (Int32 × Sg)} {R : PR} {σ : Sg} {b : Nat → Int32} {n p t : Nat} {c : List Int32} {w : Nat} {q : List Int32 × Nat} (h : ClmC res R σ b n p t c w) (hR : R = .ok q) : ∃ σ', res = some (1, σ') ∧ PosC σ' b n q.2 ∧ TxtC σ' t (c ++ q.1) ∧ (c ++ q.1).length + w ≤ tS b n q.2 ∧ FrR σ σ' t ∧ tS b n p ≤ tS b n q.2 := by subst hR; exact h
theorem pLoopC {ok : Int32 → Bool} {m : Sg → Option (Int32 × Sg)} {L : Nat → Int32 → Sg → Option (Int32 × Sg)} {sub : Sg → Option (Int32 × Sg)} {S : (Nat → Int32) → Nat → Nat → PR} (hok : ok 269 = false)
    (hL : ∀ (f : Nat) (y : Int32) (τ : Sg), L (f + 1) y τ = if (160 : Int32) ≤ y then some ((1 : Int32), τ) else if ok (τ 38 0) = true then (f_X4_step τ).bind fun q6 => (sub q6).bind fun q8 => if q8.1 = 0 then some ((0 : Int32), q8.2) else if (q8.2 40 0).toNatClampNeg < 7 then (f_X6_add ((q8.2 40 0).toNatClampNeg) (-(τ 38 0)) q8.2).bind fun q12 => L f (y + (1 : Int32)) q12 else none else some ((1 : Int32), τ))
    (hs : OkC sub S) (hm : ∀ σ, m σ = (sub σ).bind fun q1 => if q1.1 = 0 then some ((0 : Int32), q1.2) else L 5000 (0 : Int32) q1.2) : OkC m (fun b n => pLoop ok b n (S b n)) := by
  intro σ b n p t c w hP hT hc
  have h := hs σ b n p t c w hP hT hc
  show ClmC (m σ) (pLoop ok b n (S b n) p) σ b n p t c w
  rw [hm]
  cases hS : S b n p with
  | error e =>
    obtain ⟨σ1, h1, h2, h3⟩ := h.e1 hS
    refine ClmC.err (f := e) (by unfold pLoop; rw [hS]) ⟨σ1, ?_, h2, h3⟩
    rw [h1, Option.bind_some]; rfl
  | ok q =>
    obtain ⟨σ1, h1, h2, h3, h4, h5, h6⟩ := h.e2 hS
    rw [h1, Option.bind_some]
    simp only []
    rw [if_neg (by decide)]
    have key := loopC (w := w) hok hL hs (n - tS b n q.2) 200 5000 0 σ1 b n q.2 t c q.1 (Nat.le_refl _) h2 h3 h4 (by omega) (by omega) (by omega)
    have key : ClmC (L 5000 (0 : Int32) σ1) _ σ1 b n q.2 t c w := key
    have hR : pLoop ok b n (S b n) p = lp ok b n (S b n) 200 q.1 q.2 := by unfold pLoop; rw [hS]
    rw [hR]
    cases hX : lp ok b n (S b n) 200 q.1 q.2 with
    | error e =>
      obtain ⟨σ4, k1, k2, k3⟩ := key.e1 hX
      exact ⟨σ4, k1, k2, h5.tr k3⟩
    | ok r =>
      obtain ⟨σ4, k1, k2, k3, k4, k5, k6⟩ := key.e2 hX
      exact ⟨σ4, k1, k2, k3, k4, h5.tr k5, by omega⟩
theorem c_termC {rec : Nat → Int32 → Sg → Option (Int32 × Sg)} {x : Int32} {S : (Nat → Int32) → Nat → Nat → PR} (hs : OkC (rec 6 x) S) : OkC (fb_X4_readTerm rec x) (fun b n => pLoop okMul b n (S b n)) := by
  refine pLoopC (L := fb_X4_readTerm_12 rec x) (by decide) (fun f y τ => ?_) hs (fun σ => rfl)
  rw [fb_X4_readTerm_12]
  by_cases h : τ 38 0 = 42
  · rw [if_pos h, h]; rfl
  · rw [if_neg h, if_neg (show ¬ okMul (τ 38 0) = true by unfold okMul; simp [h])]
theorem c_andC {rec : Nat → Int32 → Sg → Option (Int32 × Sg)} {x : Int32} {S : (Nat → Int32) → Nat → Nat → PR} (hs : OkC (rec 2 x) S) : OkC (fb_X4_readAnd rec x) (fun b n => pLoop okAnd b n (S b n)) := by
  refine pLoopC (L := fb_X4_readAnd_12 rec x) (by decide) (fun f y τ => ?_) hs (fun σ => rfl)
  rw [fb_X4_readAnd_12]
  by_cases h : τ 38 0 = 260
  · rw [if_pos h, h]; rfl
  · rw [if_neg h, if_neg (show ¬ okAnd (τ 38 0) = true by unfold okAnd; simp [h])]
theorem c_anyC {rec : Nat → Int32 → Sg → Option (Int32 × Sg)} {x : Int32} {S : (Nat → Int32) → Nat → Nat → PR} (hs : OkC (rec 1 x) S) : OkC (fb_X4_readAny rec x) (fun b n => pLoop okOr b n (S b n)) := by
  refine pLoopC (L := fb_X4_readAny_12 rec x) (by decide) (fun f y τ => ?_) hs (fun σ => rfl)
  rw [fb_X4_readAny_12]
  by_cases h : τ 38 0 = 259
  · rw [if_pos h, h]; rfl
  · rw [if_neg h, if_neg (show ¬ okOr (τ 38 0) = true by unfold okOr; simp [h])]
theorem c_sumC {rec : Nat → Int32 → Sg → Option (Int32 × Sg)} {x : Int32} {S : (Nat → Int32) → Nat → Nat → PR} (hs : OkC (rec 5 x) S) : OkC (fb_X4_readSum rec x) (fun b n => pLoop okAdd b n (S b n)) := by
  refine pLoopC (L := fb_X4_readSum_12 rec x) (by decide) (fun f y τ => ?_) hs (fun σ => rfl)
  rw [fb_X4_readSum_12]
  by_cases h : τ 38 0 = 43
  · rw [if_pos h, if_pos (show okAdd (τ 38 0) = true by rw [h]; rfl)]; rfl
  · rw [if_neg h]
    by_cases h2 : τ 38 0 = 45
    · rw [if_pos h2, if_pos (show okAdd (τ 38 0) = true by rw [h2]; rfl)]; rfl
    · rw [if_neg h2, if_neg (show ¬ okAdd (τ 38 0) = true by unfold okAdd; simp [h, h2])]
theorem c_cmpC {rec : Nat → Int32 → Sg → Option (Int32 × Sg)} {x : Int32} {pr : (Nat → Int32) → Nat → Option P3} (hs : OkC (rec 4 x) (fun b n => pSum b n (pr b n))) : OkC (fb_X4_readComparison rec x) (fun b n => pCmp b n (pr b n)) := by
  intro σ b n p t c w hP hT hc
  have h := hs σ b n p t c w hP hT hc
  show ClmC _ (pCmp b n (pr b n) p) σ b n p t c w
  unfold fb_X4_readComparison
  cases hS : pSum b n (pr b n) p with
  | error e =>
    obtain ⟨σ1, h1, h2, h3⟩ := h.e1 hS
    refine ClmC.err (f := e) (by unfold pCmp; rw [hS]) ⟨σ1, ?_, h2, h3⟩
    rw [h1, Option.bind_some]; rfl
  | ok q =>
    obtain ⟨σ1, h1, h2, h3, h4, h5, h6⟩ := h.e2 hS
    have hC : pCmp b n (pr b n) p = if okCmp (tK b n q.2) = true then (match pSum b n (pr b n) (tE b n q.2) with | .error e => .error e | .ok r => .ok (q.1 ++ r.1 ++ [-(tK b n q.2)], r.2)) else .ok q := by
      unfold pCmp; rw [hS]; rfl
    rw [h1, Option.bind_some]
    simp only []
    rw [if_neg (by decide)]
    have e8 : σ1 38 0 = tK b n q.2 := h2.2.2.2.2.2.2.2.1
    by_cases ho : okCmp (tK b n q.2) = true
    · rw [if_pos ho] at hC
      have hgo : (if σ1 38 0 = (60 : Int32) then fb_X4_readComparison_30 rec x σ1 else if σ1 38 0 = (61 : Int32) then fb_X4_readComparison_30 rec x σ1 else some ((1 : Int32), σ1)) = fb_X4_readComparison_30 rec x σ1 := by
        rw [e8]
        unfold okCmp at ho
        rw [Bool.or_eq_true, decide_eq_true_iff, decide_eq_true_iff] at ho
        rcases ho with ho | ho
        · rw [if_pos ho]
        · rw [if_neg (by rw [ho]; decide), if_pos ho]
      rw [hgo]
      have hne : ¬ tK b n q.2 = 269 := fun h => by rw [h] at ho; cases ho
      obtain ⟨s1, s2⟩ := tS_tE h2.2.2.1 hne
      obtain ⟨σ2, a1, a2, a3, a4⟩ := stepC h2 h3
      have h7 := hs σ2 b n (tE b n q.2) t (c ++ q.1) (w + 1) a2 a3 (by omega)
      unfold fb_X4_readComparison_30
      rw [a1, Option.bind_some, e8]
      cases hS2 : pSum b n (pr b n) (tE b n q.2) with
      | error e =>
        obtain ⟨σ3, b1, b2, b3⟩ := h7.e1 hS2
        refine ClmC.err (f := e) (by rw [hC, hS2]) ⟨σ3, ?_, b2, h5.tr (a4.tr b3)⟩
        rw [b1, Option.bind_some]; rfl
      | ok r =>
        obtain ⟨σ3, b1, b2, b3, b4, b5, b6⟩ := h7.e2 hS2
        have hq2 := tS_le (b := b) b2.2.2.2.1
        have hn := b2.2.2.1
        obtain ⟨σ4, d1, d2, d3, d4⟩ := addC (-(tK b n q.2)) b2 b3 (by omega)
        refine ClmC.fin (q := (q.1 ++ r.1 ++ [-(tK b n q.2)], r.2)) (by rw [hC, hS2]) ⟨σ4, ?_, d2, ?_, ?_, h5.tr (a4.tr (b5.tr d4)), by show _ ≤ tS b n r.2; omega⟩
        · rw [b1, Option.bind_some]
          simp only []
          rw [if_neg (by decide), tTn b3, if_pos b3.2.1, d1, Option.bind_some]
        · have : c ++ (q.1 ++ r.1 ++ [-(tK b n q.2)]) = c ++ q.1 ++ r.1 ++ [-(tK b n q.2)] := by simp
          rw [this]; exact d3
        · simp at b4 ⊢; omega
    · rw [if_neg ho] at hC
      rw [if_neg (fun h => ho (by rw [← e8, h]; rfl)), if_neg (fun h => ho (by rw [← e8, h]; rfl))]
      exact ClmC.fin hC ⟨σ1, rfl, h2, h3, h4, h5, h6⟩
theorem c_notC {rec : Nat → Int32 → Sg → Option (Int32 × Sg)} {k : Nat} (hk : k ≤ 5) (hs : OkC (rec 3 (nI (5 - k))) (fun b n => pCmp b n (prv b n k))) (hn : ∀ k', k = k' + 1 → OkC (rec 2 (nI (5 - k'))) (fun b n => pNot b n (prv b n k'))) : OkC (fb_X4_readNot rec (nI (5 - k))) (fun b n => pNot b n (prv b n k)) := by
  intro σ b n p t c w hP hT hc
  have e8 : σ 38 0 = tK b n p := hP.2.2.2.2.2.2.2.1
  show ClmC _ (pNot b n (prv b n k) p) σ b n p t c w
  unfold fb_X4_readNot
  rw [e8]
  by_cases h1 : tK b n p = 261
  · rw [if_pos h1]
    match k, hk, hn with
    | 0, _, _ =>
      rw [if_neg (by decide)]
      exact ClmC.err (f := tS b n p) (by unfold pNot; rw [if_pos h1]; rfl) ⟨σ, rfl, ⟨hP.2.2.2.2.2.2.1, tS_le hP.2.2.2.1⟩, FrR.rf⟩
    | k + 1, hk, hn =>
      rw [if_pos (by rw [show (5 : Int32) = nI 5 from rfl, nI_ltI (by omega) (by omega)]; omega)]
      obtain ⟨s1, s2⟩ := tS_tE hP.2.2.1 (show ¬ tK b n p = 269 by rw [h1]; decide)
      obtain ⟨σ1, a1, a2, a3, a4⟩ := stepC hP hT
      have h := hn k rfl σ1 b n (tE b n p) t c (w + 1) a2 a3 (by omega)
      rw [a1, Option.bind_some, nI_1, show 5 - (k + 1) + 1 = 5 - k by omega]
      have hC : pNot b n (prv b n (k + 1)) p = (match pNot b n (prv b n k) (tE b n p) with | .error e => .error e | .ok q => .ok (q.1 ++ [-261], q.2)) := by
        unfold pNot; rw [if_pos h1]; rfl
      cases hS : pNot b n (prv b n k) (tE b n p) with
      | error e =>
        obtain ⟨σ2, b1, b2, b3⟩ := h.e1 hS
        refine ClmC.err (f := e) (by rw [hC, hS]) ⟨σ2, ?_, b2, a4.tr b3⟩
        rw [b1, Option.bind_some]; rfl
      | ok q =>
        obtain ⟨σ2, b1, b2, b3, b4, b5, b6⟩ := h.e2 hS
        have hq2 := tS_le (b := b) b2.2.2.2.1
        have hn := b2.2.2.1
        obtain ⟨σ3, d1, d2, d3, d4⟩ := addC (-261) b2 b3 (by omega)
        refine ClmC.fin (q := (q.1 ++ [-261], q.2)) (by rw [hC, hS]) ⟨σ3, ?_, d2, by rw [← List.append_assoc]; exact d3, by simp at b4 ⊢; omega, a4.tr (b5.tr d4), by show _ ≤ tS b n q.2; omega⟩
        rw [b1, Option.bind_some]
        simp only []
        rw [if_neg (by decide), tTn b3, if_pos b3.2.1, d1, Option.bind_some]
  · rw [if_neg h1]
    have h := hs σ b n p t c w hP hT hc
    have hC : pNot b n (prv b n k) p = pCmp b n (prv b n k) p := by unfold pNot; rw [if_neg h1]
    cases hS : pCmp b n (prv b n k) p with
    | error e =>
      obtain ⟨σ1, h1, h2, h3⟩ := h.e1 hS
      refine ClmC.err (f := e) (by rw [hC, hS]) ⟨σ1, ?_, h2, h3⟩
      rw [h1, Option.bind_some]; rfl
    | ok q =>
      obtain ⟨σ1, h1, h2⟩ := h.e2 hS
      refine ClmC.fin (q := q) (by rw [hC, hS]) ⟨σ1, ?_, h2⟩
      rw [h1, Option.bind_some]; rfl
/-- readBracket, at the sign ( -/
def pBr (b : Nat → Int32) (n : Nat) (pr : Option P3) (p : Nat) : PR := match pAny b n pr (tE b n p) with | .error e => .error e | .ok q => if tK b n q.2 = 41 then .ok (q.1, tE b n q.2) else .error (tS b n q.2)
theorem c_brC {rec : Nat → Int32 → Sg → Option (Int32 × Sg)} {x : Int32} {pr : (Nat → Int32) → Nat → Option P3} (hs : OkC (rec 0 x) (fun b n => pAny b n (pr b n))) : ∀ (σ : Sg) (b : Nat → Int32) (n p t : Nat) (c : List Int32) (w : Nat), PosC σ b n p → TxtC σ t c → c.length + w ≤ tS b n p → tK b n p = 40 → ClmC (fb_X4_readBracket rec x σ) (pBr b n (pr b n) p) σ b n p t c w := by
  intro σ b n p t c w hP hT hc h40
  obtain ⟨s1, s2⟩ := tS_tE hP.2.2.1 (show ¬ tK b n p = 269 by rw [h40]; decide)
  obtain ⟨σ1, a1, a2, a3, a4⟩ := stepC hP hT
  have h := hs σ1 b n (tE b n p) t c (w + 1) a2 a3 (by omega)
  unfold fb_X4_readBracket
  rw [a1, Option.bind_some]
  cases hS : pAny b n (pr b n) (tE b n p) with
  | error e =>
    obtain ⟨σ2, b1, b2, b3⟩ := h.e1 hS
    refine ClmC.err (f := e) (by unfold pBr; rw [hS]) ⟨σ2, ?_, b2, a4.tr b3⟩
    rw [b1, Option.bind_some]; rfl
  | ok q =>
    obtain ⟨σ2, b1, b2, b3, b4, b5, b6⟩ := h.e2 hS
    have hC : pBr b n (pr b n) p = if tK b n q.2 = 41 then .ok (q.1, tE b n q.2) else .error (tS b n q.2) := by unfold pBr; rw [hS]
    have e8 : σ2 38 0 = tK b n q.2 := b2.2.2.2.2.2.2.2.1
    rw [b1, Option.bind_some]
    simp only []
    rw [if_neg (by decide), e8]
    by_cases h41 : tK b n q.2 = 41
    · rw [if_pos h41]
      rw [if_pos h41] at hC
      obtain ⟨s3, s4⟩ := tS_tE b2.2.2.1 (show ¬ tK b n q.2 = 269 by rw [h41]; decide)
      obtain ⟨σ3, d1, d2, d3, d4⟩ := stepC b2 b3
      refine ClmC.fin hC ⟨σ3, ?_, d2, d3, by show (c ++ q.1).length + w ≤ tS b n (tE b n q.2); omega, a4.tr (b5.tr d4), by show tS b n p ≤ tS b n (tE b n q.2); omega⟩
      rw [d1, Option.bind_some]
    · rw [if_neg h41]
      rw [if_neg h41] at hC
      exact ClmC.err hC ⟨σ2, rfl, ⟨b2.2.2.2.2.2.2.1, tS_le b2.2.2.2.1⟩, a4.tr b5⟩
theorem c_oneC {rec : Nat → Int32 → Sg → Option (Int32 × Sg)} {k : Nat} (hk : k ≤ 5) (h6 : ∀ k', k = k' + 1 → OkC (rec 6 (nI (5 - k'))) (fun b n => pOne b n (prv b n k'))) (h7 : ∀ k', k = k' + 1 → ∀ (σ : Sg) (b : Nat → Int32) (n p t : Nat) (c : List Int32) (w : Nat), PosC σ b n p → TxtC σ t c → c.length + w ≤ tS b n p → tK b n p = 40 → ClmC (rec 7 (nI (5 - k')) σ) (pBr b n (prv b n k') p) σ b n p t c w) : OkC (fb_X4_readOne rec (nI (5 - k))) (fun b n => pOne b n (prv b n k)) := by
  intro σ b n p t c w hP hT hc
  have e8 : σ 38 0 = tK b n p := hP.2.2.2.2.2.2.2.1
  have hn := hP.2.2.1
  have h20 : ∀ v : Int32, ¬ tK b n p = 269 → v = (if tK b n p = 268 then σ 39 0 else -(tK b n p)) → ∃ σ', fb_X4_readOne_20 rec (nI (5 - k)) σ = some (1, σ') ∧ PosC σ' b n (tE b n p) ∧ TxtC σ' t (c ++ [v]) ∧ (c ++ [v]).length + w ≤ tS b n (tE b n p) ∧ FrR σ σ' t ∧ tS b n p ≤ tS b n (tE b n p) := by
    intro v hne hv
    obtain ⟨s1, s2⟩ := tS_tE hn hne
    obtain ⟨σ1, a1, a2, a3, a4⟩ := addC v hP hT (by omega)
    obtain ⟨σ2, d1, d2, d3, d4⟩ := stepC a2 a3
    refine ⟨σ2, ?_, d2, d3, by simp; omega, a4.tr d4, by omega⟩
    unfold fb_X4_readOne_20
    rw [tTn hT, if_pos hT.2.1, e8]
    by_cases hl : tK b n p = 268
    · rw [if_pos hl]
      rw [if_pos hl] at hv
      rw [← hv, a1, Option.bind_some, d1, Option.bind_some]
    · rw [if_neg hl]
      rw [if_neg hl] at hv
      rw [← hv, a1, Option.bind_some, d1, Option.bind_some]
  show ClmC _ (pOne b n (prv b n k) p) σ b n p t c w
  unfold fb_X4_readOne
  rw [e8]
  by_cases hl : tK b n p = 268
  · rw [if_pos hl]
    obtain ⟨σ', q⟩ := h20 (tL b n p) (by rw [hl]; decide) (by rw [if_pos hl]; exact (hP.2.2.2.2.2.2.2.2 hl).symm)
    exact ClmC.fin (q := ([tL b n p], tE b n p)) (by unfold pOne; rw [if_pos hl]) ⟨σ', q⟩
  · rw [if_neg hl, fe_isName, Option.bind_some]
    by_cases hnm : isNm (tK b n p)
    · simp only [if_pos hnm]
      rw [if_neg (by decide)]
      obtain ⟨σ', q⟩ := h20 (-(tK b n p)) (fun h => by rw [h] at hnm; revert hnm; decide) (by rw [if_neg hl])
      exact ClmC.fin (q := ([-(tK b n p)], tE b n p)) (by unfold pOne; rw [if_neg hl, if_pos hnm]) ⟨σ', q⟩
    · simp only [if_neg hnm]
      rw [if_pos trivial, e8]
      match k, hk, h6, h7 with
      | 0, _, _, _ =>
        rw [if_neg (by decide)]
        exact ClmC.err (f := tS b n p) (by unfold pOne; rw [if_neg hl, if_neg hnm]; rfl) ⟨σ, rfl, ⟨hP.2.2.2.2.2.2.1, tS_le hP.2.2.2.1⟩, FrR.rf⟩
      | k + 1, hk, h6, h7 =>
        rw [if_pos (by rw [show (5 : Int32) = nI 5 from rfl, nI_ltI (by omega) (by omega)]; omega)]
        have e5 : nI (5 - (k + 1)) + (1 : Int32) = nI (5 - k) := by rw [nI_1, show 5 - (k + 1) + 1 = 5 - k by omega]
        rw [e5]
        have hC : pOne b n (prv b n (k + 1)) p = if tK b n p = 45 then (match pOne b n (prv b n k) (tE b n p) with | .error e => .error e | .ok q => .ok (q.1 ++ [-271], q.2)) else if tK b n p = 40 then pBr b n (prv b n k) p else .error (tS b n p) := by
          unfold pOne; rw [if_neg hl, if_neg hnm]; rfl
        by_cases h45 : tK b n p = 45
        · rw [if_pos h45]
          rw [if_pos h45] at hC
          obtain ⟨s1, s2⟩ := tS_tE hn (show ¬ tK b n p = 269 by rw [h45]; decide)
          obtain ⟨σ1, a1, a2, a3, a4⟩ := stepC hP hT
          have h := h6 k rfl σ1 b n (tE b n p) t c (w + 1) a2 a3 (by omega)
          rw [a1, Option.bind_some]
          cases hS : pOne b n (prv b n k) (tE b n p) with
          | error e =>
            obtain ⟨σ2, b1, b2, b3⟩ := h.e1 hS
            refine ClmC.err (f := e) (by rw [hC, hS]) ⟨σ2, ?_, b2, a4.tr b3⟩
            rw [b1, Option.bind_some]; rfl
          | ok q =>
            obtain ⟨σ2, b1, b2, b3, b4, b5, b6⟩ := h.e2 hS
            have hq2 := tS_le (b := b) b2.2.2.2.1
            obtain ⟨σ3, d1, d2, d3, d4⟩ := addC (-271) b2 b3 (by omega)
            refine ClmC.fin (q := (q.1 ++ [-271], q.2)) (by rw [hC, hS]) ⟨σ3, ?_, d2, by rw [← List.append_assoc]; exact d3, by simp at b4 ⊢; omega, a4.tr (b5.tr d4), by show _ ≤ tS b n q.2; omega⟩
            rw [b1, Option.bind_some]
            simp only []
            rw [if_neg (by decide), tTn b3, if_pos b3.2.1, d1, Option.bind_some]
        · rw [if_neg h45]
          rw [if_neg h45] at hC
          by_cases h40 : tK b n p = 40
          · rw [if_pos h40]
            rw [if_pos h40] at hC
            have h := h7 k rfl σ b n p t c w hP hT hc h40
            cases hS : pBr b n (prv b n k) p with
            | error e =>
              obtain ⟨σ1, h1, h2, h3⟩ := h.e1 hS
              refine ClmC.err (f := e) (by rw [hC, hS]) ⟨σ1, ?_, h2, h3⟩
              rw [h1, Option.bind_some]; rfl
            | ok q =>
              obtain ⟨σ1, h1, h2⟩ := h.e2 hS
              refine ClmC.fin (q := q) (by rw [hC, hS]) ⟨σ1, ?_, h2⟩
              rw [h1, Option.bind_some]; rfl
          · rw [if_neg h40]
            rw [if_neg h40] at hC
            exact ClmC.err hC ⟨σ, rfl, ⟨hP.2.2.2.2.2.2.1, tS_le hP.2.2.2.1⟩, FrR.rf⟩
/-- all of the group, with k still to be opened -/
theorem c_grpAll : ∀ (k : Nat), k ≤ 5 → (∀ d, 8 * k + 1 ≤ d → OkC (grpC d 6 (nI (5 - k))) (fun b n => pOne b n (prv b n k))) ∧ (∀ d, 8 * k + 5 ≤ d → OkC (grpC d 2 (nI (5 - k))) (fun b n => pNot b n (prv b n k))) ∧ (∀ d, 8 * k + 7 ≤ d → OkC (grpC d 0 (nI (5 - k))) (fun b n => pAny b n (prv b n k))) := by
  intro k
  induction k with
  | zero =>
    intro hk
    have g6 : ∀ d, 1 ≤ d → OkC (grpC d 6 (nI (5 - 0))) (fun b n => pOne b n (prv b n 0)) := by
      intro d hd
      obtain ⟨d, rfl⟩ : ∃ e, d = e + 1 := ⟨d - 1, by omega⟩
      exact c_oneC hk (fun k' h => absurd h (by omega)) (fun k' h => absurd h (by omega))
    have g5 : ∀ d, 2 ≤ d → OkC (grpC d 5 (nI (5 - 0))) (fun b n => pTerm b n (prv b n 0)) := by
      intro d hd
      obtain ⟨d, rfl⟩ : ∃ e, d = e + 1 := ⟨d - 1, by omega⟩
      exact c_termC (g6 d (by omega))
    have g4 : ∀ d, 3 ≤ d → OkC (grpC d 4 (nI (5 - 0))) (fun b n => pSum b n (prv b n 0)) := by
      intro d hd
      obtain ⟨d, rfl⟩ : ∃ e, d = e + 1 := ⟨d - 1, by omega⟩
      exact c_sumC (g5 d (by omega))
    have g3 : ∀ d, 4 ≤ d → OkC (grpC d 3 (nI (5 - 0))) (fun b n => pCmp b n (prv b n 0)) := by
      intro d hd
      obtain ⟨d, rfl⟩ : ∃ e, d = e + 1 := ⟨d - 1, by omega⟩
      exact c_cmpC (g4 d (by omega))
    have g2 : ∀ d, 5 ≤ d → OkC (grpC d 2 (nI (5 - 0))) (fun b n => pNot b n (prv b n 0)) := by
      intro d hd
      obtain ⟨d, rfl⟩ : ∃ e, d = e + 1 := ⟨d - 1, by omega⟩
      exact c_notC hk (g3 d (by omega)) (fun k' h => absurd h (by omega))
    have g1 : ∀ d, 6 ≤ d → OkC (grpC d 1 (nI (5 - 0))) (fun b n => pAnd b n (prv b n 0)) := by
      intro d hd
      obtain ⟨d, rfl⟩ : ∃ e, d = e + 1 := ⟨d - 1, by omega⟩
      exact c_andC (g2 d (by omega))
    have g0 : ∀ d, 7 ≤ d → OkC (grpC d 0 (nI (5 - 0))) (fun b n => pAny b n (prv b n 0)) := by
      intro d hd
      obtain ⟨d, rfl⟩ : ∃ e, d = e + 1 := ⟨d - 1, by omega⟩
      exact c_anyC (g1 d (by omega))
    exact ⟨fun d hd => g6 d (by omega), fun d hd => g2 d (by omega), fun d hd => g0 d (by omega)⟩
  | succ k ih =>
    intro hk
    obtain ⟨i6, i2, i0⟩ := ih (by omega)
    have g6 : ∀ d, 8 * k + 9 ≤ d → OkC (grpC d 6 (nI (5 - (k + 1)))) (fun b n => pOne b n (prv b n (k + 1))) := by
      intro d hd
      obtain ⟨d, rfl⟩ : ∃ e, d = e + 2 := ⟨d - 2, by omega⟩
      refine c_oneC hk (fun k' h => ?_) (fun k' h => ?_)
      · obtain rfl : k = k' := by omega
        exact i6 (d + 1) (by omega)
      · obtain rfl : k = k' := by omega
        exact c_brC (pr := fun b n => prv b n k) (i0 d (by omega))
    have g5 : ∀ d, 8 * k + 10 ≤ d → OkC (grpC d 5 (nI (5 - (k + 1)))) (fun b n => pTerm b n (prv b n (k + 1))) := by
      intro d hd
      obtain ⟨d, rfl⟩ : ∃ e, d = e + 1 := ⟨d - 1, by omega⟩
      exact c_termC (g6 d (by omega))
    have g4 : ∀ d, 8 * k + 11 ≤ d → OkC (grpC d 4 (nI (5 - (k + 1)))) (fun b n => pSum b n (prv b n (k + 1))) := by
      intro d hd
      obtain ⟨d, rfl⟩ : ∃ e, d = e + 1 := ⟨d - 1, by omega⟩
      exact c_sumC (g5 d (by omega))
    have g3 : ∀ d, 8 * k + 12 ≤ d → OkC (grpC d 3 (nI (5 - (k + 1)))) (fun b n => pCmp b n (prv b n (k + 1))) := by
      intro d hd
      obtain ⟨d, rfl⟩ : ∃ e, d = e + 1 := ⟨d - 1, by omega⟩
      exact c_cmpC (g4 d (by omega))
    have g2 : ∀ d, 8 * k + 13 ≤ d → OkC (grpC d 2 (nI (5 - (k + 1)))) (fun b n => pNot b n (prv b n (k + 1))) := by
      intro d hd
      obtain ⟨d, rfl⟩ : ∃ e, d = e + 1 := ⟨d - 1, by omega⟩
      refine c_notC hk (g3 d (by omega)) (fun k' h => ?_)
      obtain rfl : k = k' := by omega
      exact i2 d (by omega)
    have g1 : ∀ d, 8 * k + 14 ≤ d → OkC (grpC d 1 (nI (5 - (k + 1)))) (fun b n => pAnd b n (prv b n (k + 1))) := by
      intro d hd
      obtain ⟨d, rfl⟩ : ∃ e, d = e + 1 := ⟨d - 1, by omega⟩
      exact c_andC (g2 d (by omega))
    have g0 : ∀ d, 8 * k + 15 ≤ d → OkC (grpC d 0 (nI (5 - (k + 1)))) (fun b n => pAny b n (prv b n (k + 1))) := by
      intro d hd
      obtain ⟨d, rfl⟩ : ∃ e, d = e + 1 := ⟨d - 1, by omega⟩
      exact c_anyC (g1 d (by omega))
    exact ⟨fun d hd => g6 d (by omega), fun d hd => g2 d (by omega), fun d hd => g0 d (by omega)⟩
theorem c_readAny : OkC (f_X4_readAny (0 : Int32)) (fun b n => pAny b n (prv b n 5)) := (c_grpAll 5 (by omega)).2.2 64 (by omega)
