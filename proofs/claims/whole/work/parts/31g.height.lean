/-! The code's height on the stack -/
theorem litv_rng {b : Nat → Int32} {s : Nat} : ∀ m, (∀ j, j < m → isDig (b (s + j))) → m ≤ 8 → ∃ a, a < 10 ^ m ∧ litv b s m = nI a
  | 0, _, _ => ⟨0, by decide, rfl⟩
  | m + 1, h, hm => by
    obtain ⟨a, ha, e⟩ := litv_rng m (fun j hj => h j (by omega)) (by omega)
    have hd := h m (by omega)
    obtain ⟨x, hx, hxe⟩ := nI_ex (v := b (s + m)) (n := 57) (by have := hd.1; rw [i32_le] at this ⊢; exact Int.le_trans (by decide) this) hd.2 (by omega)
    have h48 : 48 ≤ x := by
      have := hd.1
      rw [hxe, show (48 : Int32) = nI 48 from rfl, nI_leI (by omega) (by omega)] at this
      exact this
    refine ⟨a * 10 + (x - 48), ?_, ?_⟩
    · rw [Nat.pow_succ]; omega
    · show litv b s m * 10 + b (s + m) - 48 = _
      rw [e, hxe, show (10 : Int32) = nI 10 from rfl, show (48 : Int32) = nI 48 from rfl, nI_mul, nI_add, nI_sub (by omega)]
      congr 1; omega
theorem tL_ge {b : Nat → Int32} {n p : Nat} (h : tK b n p = 268) : ∃ a, a < 10000 ∧ tL b n p = nI a := by
  unfold tK at h
  by_cases h1 : n ≤ tS b n p
  · rw [if_pos h1] at h; exact absurd h (by decide)
  · rw [if_neg h1] at h
    by_cases h2 : isLet (b (tS b n p))
    · rw [if_pos h2] at h; exact absurd h (wTok_ne 12 (by omega))
    · rw [if_neg h2] at h
      by_cases h3 : isDig (b (tS b n p))
      · rw [if_pos h3] at h
        by_cases h4 : digE b n (tS b n p) - tS b n p ≤ 4
        · obtain ⟨a, ha, e⟩ := litv_rng (b := b) (s := tS b n p) (digE b n (tS b n p) - tS b n p) (fun j hj => (runE_in (P := isDig) (hd := fun _ => inferInstance) (b := b) (n := n) 200 (tS b n p) (tS b n p + j) (by omega) (by show tS b n p + j < digE b n (tS b n p); omega)).2) (by omega)
          refine ⟨a, Nat.lt_of_lt_of_le ha ?_, e⟩
          exact Nat.le_trans (Nat.pow_le_pow_right (by decide) h4) (by decide)
        · rw [if_neg h4] at h; exact absurd h (by decide)
      · rw [if_neg h3] at h
        split at h
        · rename_i q; rw [h] at q; exact absurd q (by decide)
        · exact absurd h (by decide)
def Hc (c : List Int32) (w : Nat) : Prop := 1 ≤ w ∧ ∀ h rest, h + w ≤ 32 → dOK rest (h + 1) → dOK (c ++ rest) h
theorem Hc.mono {c : List Int32} {w w' : Nat} (h : Hc c w) (hw : w ≤ w') : Hc c w' := ⟨by have := h.1; omega, fun x rest hx hr => h.2 x rest (by omega) hr⟩
theorem Hc_lit {v : Int32} (h : 0 ≤ v) : Hc [v] 1 := ⟨Nat.le_refl 1, fun x rest hx hr => by
  show dOK (v :: rest) x
  unfold dOK
  rw [if_pos (Or.inl h)]
  exact ⟨by omega, hr⟩⟩
theorem Hc_nm {t : Int32} (h : isNm t) : Hc [-t] 1 := ⟨Nat.le_refl 1, fun x rest hx hr => by
  show dOK (-t :: rest) x
  unfold dOK
  rw [if_pos (Or.inr (by rw [Int32.neg_neg]; exact h))]
  exact ⟨by omega, hr⟩⟩
theorem Hc_un {c : List Int32} {w : Nat} {u : Int32} (h : Hc c w) (hu : isUn u) : Hc (c ++ [u]) w := ⟨h.1, fun x rest hx hr => by
  rw [List.append_assoc]
  refine h.2 x _ hx ?_
  show dOK (u :: rest) (x + 1)
  unfold dOK
  rw [if_neg (by rcases hu with rfl | rfl <;> decide), if_pos hu]
  exact ⟨by omega, hr⟩⟩
/-- a token that takes two -/
def isBin (t : Int32) : Prop := t = 42 ∨ t = 43 ∨ t = 45 ∨ t = 60 ∨ t = 61 ∨ t = 259 ∨ t = 260
theorem Hc_bin {c d : List Int32} {w v : Nat} {t : Int32} (h1 : Hc c w) (h2 : Hc d v) (ht : isBin t) (hv : v + 1 ≤ w) : Hc (c ++ d ++ [-t]) w := ⟨h1.1, fun x rest hx hr => by
  rw [List.append_assoc, List.append_assoc]
  refine h1.2 x _ hx (h2.2 (x + 1) _ (by omega) ?_)
  show dOK (-t :: rest) (x + 1 + 1)
  unfold dOK
  have a1 : ¬ (0 ≤ -t ∨ isNm (- -t)) := by rcases ht with rfl | rfl | rfl | rfl | rfl | rfl | rfl <;> decide
  have a2 : ¬ isUn (-t) := by rcases ht with rfl | rfl | rfl | rfl | rfl | rfl | rfl <;> decide
  rw [if_neg a1, if_neg a2]
  exact ⟨by omega, hr⟩⟩
def HR (S : Nat → PR) (w : Nat) : Prop := ∀ p q, S p = .ok q → Hc q.1 w
theorem lp_H {ok : Int32 → Bool} {b : Nat → Int32} {n v w : Nat} {sub : Nat → PR} (hok : ∀ t, ok t = true → isBin t) (hs : HR sub v) (hv : v + 1 ≤ w) : ∀ f c p q, Hc c w → lp ok b n sub f c p = .ok q → Hc q.1 w
  | 0, c, p, q, hc, h => by cases h; exact hc
  | f + 1, c, p, q, hc, h => by
    unfold lp at h
    split at h
    · rename_i ho
      cases hS : sub (tE b n p) with
      | error e => rw [hS] at h; cases h
      | ok r =>
        rw [hS] at h
        exact lp_H hok hs hv f _ _ q (Hc_bin hc (hs _ _ hS) (hok _ ho) hv) h
    · cases h; exact hc
theorem pLoop_H {ok : Int32 → Bool} {b : Nat → Int32} {n v : Nat} {sub : Nat → PR} (hok : ∀ t, ok t = true → isBin t) (hs : HR sub v) : HR (pLoop ok b n sub) (v + 1) := by
  intro p q h
  unfold pLoop at h
  cases hS : sub p with
  | error e => rw [hS] at h; cases h
  | ok r =>
    rw [hS] at h
    exact lp_H hok hs (Nat.le_refl _) 200 _ _ q ((hs _ _ hS).mono (by omega)) h
theorem okMul_b : ∀ t, okMul t = true → isBin t := fun t h => by unfold okMul at h; simp at h; exact Or.inl h
theorem okAdd_b : ∀ t, okAdd t = true → isBin t := fun t h => by unfold okAdd at h; simp at h; unfold isBin; rcases h with h | h <;> simp [h]
theorem okCmp_b : ∀ t, okCmp t = true → isBin t := fun t h => by unfold okCmp at h; simp at h; unfold isBin; rcases h with h | h <;> simp [h]
theorem okAnd_b : ∀ t, okAnd t = true → isBin t := fun t h => by unfold okAnd at h; simp at h; unfold isBin; simp [h]
theorem okOr_b : ∀ t, okOr t = true → isBin t := fun t h => by unfold okOr at h; simp at h; unfold isBin; simp [h]
theorem pCmp_H {b : Nat → Int32} {n v : Nat} {pr : Option P3} (hs : HR (pSum b n pr) v) : HR (pCmp b n pr) (v + 1) := by
  intro p q h
  unfold pCmp at h
  cases hS : pSum b n pr p with
  | error e => rw [hS] at h; cases h
  | ok r =>
    rw [hS] at h
    simp only [] at h
    split at h
    · rename_i ho
      cases hS2 : pSum b n pr (tE b n r.2) with
      | error e => rw [hS2] at h; cases h
      | ok u =>
        rw [hS2] at h
        cases h
        exact Hc_bin ((hs _ _ hS).mono (by omega)) (hs _ _ hS2) (okCmp_b _ ho) (Nat.le_refl _)
    · cases h; exact (hs _ _ hS).mono (by omega)
theorem prv_H {b : Nat → Int32} {n : Nat} : ∀ k, HR (pOne b n (prv b n k)) (1 + 5 * k) ∧ HR (pNot b n (prv b n k)) (4 + 5 * k) ∧ HR (pAny b n (prv b n k)) (6 + 5 * k) := by
  intro k
  have base : ∀ (pr : Option P3) (k : Nat), HR (pOne b n pr) (1 + 5 * k) → (∀ p q, pNot b n pr p = .ok q → tK b n p = 261 → Hc q.1 (4 + 5 * k)) → HR (pOne b n pr) (1 + 5 * k) ∧ HR (pNot b n pr) (4 + 5 * k) ∧ HR (pAny b n pr) (6 + 5 * k) := by
    intro pr k h1 hn
    have h2 : HR (pTerm b n pr) (2 + 5 * k) := by have := pLoop_H (b := b) (n := n) okMul_b h1; rw [show 1 + 5 * k + 1 = 2 + 5 * k by omega] at this; exact this
    have h3 : HR (pSum b n pr) (3 + 5 * k) := by have := pLoop_H (b := b) (n := n) okAdd_b h2; rw [show 2 + 5 * k + 1 = 3 + 5 * k by omega] at this; exact this
    have h4 : HR (pCmp b n pr) (4 + 5 * k) := by have := pCmp_H h3; rw [show 3 + 5 * k + 1 = 4 + 5 * k by omega] at this; exact this
    have h5 : HR (pNot b n pr) (4 + 5 * k) := by
      intro p q h
      by_cases ht : tK b n p = 261
      · exact hn p q h ht
      · unfold pNot at h
        rw [if_neg ht] at h
        exact h4 p q h
    have h6 : HR (pAnd b n pr) (5 + 5 * k) := by have := pLoop_H (b := b) (n := n) okAnd_b h5; rw [show 4 + 5 * k + 1 = 5 + 5 * k by omega] at this; exact this
    have h7 : HR (pAny b n pr) (6 + 5 * k) := by have := pLoop_H (b := b) (n := n) okOr_b h6; rw [show 5 + 5 * k + 1 = 6 + 5 * k by omega] at this; exact this
    exact ⟨h1, h5, h7⟩
  have leaf : ∀ (pr : Option P3) (w : Nat), 1 ≤ w → (∀ p q, ¬ tK b n p = 268 → ¬ isNm (tK b n p) → pOne b n pr p = .ok q → Hc q.1 w) → HR (pOne b n pr) w := by
    intro pr w hw hr p q h
    by_cases h1 : tK b n p = 268
    · unfold pOne at h
      rw [if_pos h1] at h
      cases h
      obtain ⟨a, ha, e⟩ := tL_ge h1
      exact (Hc_lit (by rw [e]; exact nI_pos' (by omega))).mono hw
    · by_cases h2 : isNm (tK b n p)
      · unfold pOne at h
        rw [if_neg h1, if_pos h2] at h
        cases h
        exact (Hc_nm h2).mono hw
      · exact hr p q h1 h2 h
  induction k with
  | zero =>
    refine base (prv b n 0) 0 (leaf _ _ (by omega) (fun p q h1 h2 h => ?_)) (fun p q h ht => ?_)
    · unfold pOne at h
      rw [if_neg h1, if_neg h2] at h
      cases h
    · unfold pNot at h
      rw [if_pos ht] at h
      cases h
  | succ k ih =>
    obtain ⟨i1, i2, i3⟩ := ih
    refine base (prv b n (k + 1)) (k + 1) (leaf _ _ (by omega) (fun p q h1 h2 h => ?_)) (fun p q h ht => ?_)
    · unfold pOne at h
      rw [if_neg h1, if_neg h2] at h
      have h : (if tK b n p = 45 then (match pOne b n (prv b n k) (tE b n p) with | .error e => (.error e : PR) | .ok q => .ok (q.1 ++ [-271], q.2)) else if tK b n p = 40 then (match pAny b n (prv b n k) (tE b n p) with | .error e => .error e | .ok q => if tK b n q.2 = 41 then .ok (q.1, tE b n q.2) else .error (tS b n q.2)) else .error (tS b n p)) = .ok q := h
      split at h
      · cases hS : pOne b n (prv b n k) (tE b n p) with
        | error e => rw [hS] at h; cases h
        | ok r => rw [hS] at h; cases h; exact (Hc_un (i1 _ _ hS) (Or.inr rfl)).mono (by omega)
      · split at h
        · cases hS : pAny b n (prv b n k) (tE b n p) with
          | error e => rw [hS] at h; cases h
          | ok r =>
            rw [hS] at h
            simp only [] at h
            split at h
            · cases h; exact (i3 _ _ hS).mono (by omega)
            · cases h
        · cases h
    · unfold pNot at h
      rw [if_pos ht] at h
      have h : (match pNot b n (prv b n k) (tE b n p) with | .error e => (.error e : PR) | .ok q => .ok (q.1 ++ [-261], q.2)) = .ok q := h
      cases hS : pNot b n (prv b n k) (tE b n p) with
      | error e => rw [hS] at h; cases h
      | ok r => rw [hS] at h; cases h; exact (Hc_un (i2 _ _ hS) (Or.inl rfl)).mono (by omega)
/-- a text's parts keep within the stack -/
theorem pPart_d {b : Nat → Int32} {n p : Nat} {key : Int32} {q : List Int32 × Nat} (h : pPart b n key p = .ok q) : dOK q.1 0 := by
  unfold pPart at h
  split at h
  · cases hS : pAny b n (prv b n 5) (tE b n p) with
    | error e => rw [hS] at h; cases h
    | ok r =>
      rw [hS] at h
      simp only [] at h
      split at h
      · cases h
        have := ((prv_H (b := b) (n := n) 5).2.2 _ _ hS).2 0 [] (by omega) trivial
        rw [List.append_nil] at this
        exact this
      · cases h
  · cases h
theorem pText_d {b : Nat → Int32} {n : Nat} {q : List Int32 × List Int32 × List Int32} (h : pText b n = .ok q) : ∀ pt, dOK (tT q.1 q.2.1 q.2.2 pt) 0 := by
  unfold pText at h
  cases h0 : pPart b n 256 0 with
  | error e => rw [h0] at h; cases h
  | ok q0 =>
    rw [h0] at h
    simp only [] at h
    cases h1 : pPart b n 257 q0.2 with
    | error e => rw [h1] at h; cases h
    | ok q1 =>
      rw [h1] at h
      simp only [] at h
      cases h2 : pPart b n 258 q1.2 with
      | error e => rw [h2] at h; cases h
      | ok q2 =>
        rw [h2] at h
        simp only [] at h
        split at h
        · cases h
          intro pt
          unfold tT
          split
          · exact pPart_d h0
          · split
            · exact pPart_d h1
            · exact pPart_d h2
        · cases h
