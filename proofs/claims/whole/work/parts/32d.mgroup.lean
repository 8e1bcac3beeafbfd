/-! Signs, names, faults in the reference; its group says the parser's words, and the value is the code's -/
theorem toI64_inj {x y : Int32} : x.toInt64 = y.toInt64 ↔ x = y := by
  constructor
  · intro h
    rw [i32_eq, ← Int32.toInt_toInt64 x, ← Int32.toInt_toInt64 y, h]
  · intro h; rw [h]
theorem tK_small {b : Nat → Int32} {n p : Nat} (h : ¬ kM b n p = 3) {c : Nat} (hc : c < 200) : ¬ tK b n p = nI c := by
  rcases kM_tK (b := b) (n := n) (p := p) with ⟨k0, t0⟩ | ⟨k1, hlt, hl, t1, e1⟩ | ⟨k2, t2⟩ | ⟨k3, hsg, t3⟩ | ⟨k4, t4⟩
  · rw [t0, show (269 : Int32) = nI 269 from rfl, nI_eq (by omega) (by omega)]; omega
  · rw [t1]
    rcases wTok_rng (b := b) (s := tS b n p) (e := letE b n (tS b n p)) 12 (Nat.le_refl _) with r | ⟨j, h1, h2, h3⟩
    · rw [r, show (270 : Int32) = nI 270 from rfl, nI_eq (by omega) (by omega)]; omega
    · rw [h2, nI_eq (by omega) (by omega)]; omega
  · rw [t2, show (268 : Int32) = nI 268 from rfl, nI_eq (by omega) (by omega)]; omega
  · exact absurd k3 h
  · rw [t4, show (270 : Int32) = nI 270 from rfl, nI_eq (by omega) (by omega)]; omega
theorem fm_isSign {μ : Sm} {b : Nat → Int32} {n t p c : Nat} (hc : c < 200) (h : PosM μ b n t p) : f_X9_isSign (nI c) μ = some (if tK b n p = nI c then 1 else 0, μ) := by
  obtain ⟨hR, hp, h23, h22, h21, hw2, hw3, h26⟩ := h
  unfold f_X9_isSign
  rw [h26, if_pos rfl, h22]
  by_cases k3 : kM b n p = 3
  · rw [if_pos k3, hw3 k3]
    have t3 : tK b n p = b (tS b n p) := by
      rcases kM_tK (b := b) (n := n) (p := p) with ⟨q, _⟩ | ⟨q, _⟩ | ⟨q, _⟩ | ⟨q, _, t3⟩ | ⟨q, _⟩
      · rw [q] at k3; exact absurd k3 (by decide)
      · rw [q] at k3; exact absurd k3 (by decide)
      · rw [q] at k3; exact absurd k3 (by decide)
      · exact t3
      · rw [q] at k3; exact absurd k3 (by decide)
    rw [t3]
    by_cases g : b (tS b n p) = nI c
    · rw [if_pos (lg_zero.mpr (toI64_inj.mpr g)), if_pos g]
    · rw [if_neg (fun q => g (toI64_inj.mp (lg_zero.mp q))), if_neg g]
  · rw [if_neg k3, if_neg (tK_small k3 hc)]
/-- a fault was found at f -/
def BadM (μ : Sm) (f : Nat) : Prop := μ.1 26 0 = 1 ∧ μ.1 27 0 = nI f
theorem fm_fail {μ : Sm} {b : Nat → Int32} {n t p : Nat} (h : PosM μ b n t p) : ∃ μ', f_X9_fail μ = some μ' ∧ BadM μ' (tS b n p) ∧ FrM μ μ' := by
  obtain ⟨hR, hp, h23, h22, h21, hw2, hw3, h26⟩ := h
  refine ⟨upm (upm μ 26 0 (1 : Int32)) 27 0 (nI (tS b n p)), ?_, ⟨?_, ?_⟩, (FrM.put (by omega)).tr (FrM.put (by omega))⟩
  · unfold f_X9_fail
    rw [h26, if_pos rfl, show (upm μ 26 0 (1 : Int32)).1 23 0 = nI (tS b n p) by rw [upm_1, up_n (by decide)]; exact h23]
  · rw [upm_1, up_n (by decide), upm_1, up_s, upd_s]
  · rw [upm_1, up_s, upd_s]
theorem kM_ne4 {b : Nat → Int32} {n p : Nat} (h : ¬ tK b n p = 270) : ¬ kM b n p = 4 := by
  intro k
  rcases kM_tK (b := b) (n := n) (p := p) with ⟨q, _⟩ | ⟨q, _⟩ | ⟨q, _⟩ | ⟨q, _⟩ | ⟨q, t⟩
  · rw [q] at k; exact absurd k (by decide)
  · rw [q] at k; exact absurd k (by decide)
  · rw [q] at k; exact absurd k (by decide)
  · rw [q] at k; exact absurd k (by decide)
  · exact h t
theorem stepM' {μ : Sm} {b : Nat → Int32} {n t p : Nat} (h : PosM μ b n t p) (hk : ¬ tK b n p = 270) : ∃ μ', f_X9_next μ = some μ' ∧ PosM μ' b n t (tE b n p) ∧ μ'.1 25 = μ.1 25 ∧ FrM μ μ' := by
  obtain ⟨hR, hp, h23, h22, h21, hw2, hw3, h26⟩ := h
  exact stepM hR h26 (tE_le hp) (h21 (kM_ne4 hk))
theorem PosM.put25 {μ : Sm} {b : Nat → Int32} {n t p : Nat} (h : PosM μ b n t p) (v : Int32) : PosM (upm μ 25 0 v) b n t p := by
  obtain ⟨hR, hp, h23, h22, h21, hw2, hw3, h26⟩ := h
  refine ⟨hR.put 25 0 v (by decide) (by decide) (by decide), hp, ?_, ?_, ?_, hw2, hw3, ?_⟩
  · rw [upm_1, up_n (by decide)]; exact h23
  · rw [upm_1, up_n (by decide)]; exact h22
  · rw [upm_1, up_n (by decide)]; exact h21
  · rw [upm_1, up_n (by decide)]; exact h26
theorem fm_opens0 {μ : Sm} {b : Nat → Int32} {n t p : Nat} (h : PosM μ b n t p) (h25 : μ.1 25 0 = nI 5) : ∃ μ', f_X9_opens μ = some (0, μ') ∧ BadM μ' (tS b n p) ∧ FrM μ μ' := by
  obtain ⟨μ', g1, g2, g3⟩ := fm_fail h
  refine ⟨μ', ?_, g2, g3⟩
  unfold f_X9_opens
  rw [h25, if_pos (by decide), g1, Option.bind_some]
theorem fm_opens1 {μ : Sm} {b : Nat → Int32} {n t p k : Nat} (hk5 : k < 5) (h : PosM μ b n t p) (h25 : μ.1 25 0 = nI (5 - (k + 1))) (hk : ¬ tK b n p = 270) : ∃ μ', f_X9_opens μ = some (1, μ') ∧ PosM μ' b n t (tE b n p) ∧ μ'.1 25 0 = nI (5 - k) ∧ FrM μ μ' := by
  obtain ⟨μ', g1, g2, g3, g4⟩ := stepM' (h.put25 (nI (5 - k))) hk
  refine ⟨μ', ?_, g2, by rw [g3, upm_1, up_s, upd_s], (FrM.put (by omega)).tr g4⟩
  unfold f_X9_opens
  rw [h25, if_neg (by rw [show (5 : Int32) = nI 5 from rfl, nI_eq (by omega) (by omega)]; omega), nI_1, show 5 - (k + 1) + 1 = 5 - k by omega, g1, Option.bind_some]
def envM (μ : Sm) : Env := (μ.1 13 0, μ.1 14 0, μ.1 15 0, μ.1 16 0, μ.1 17 0, μ.1 18 0)
theorem envM_fr {μ μ' : Sm} (h : FrM μ μ') : envM μ' = envM μ := by
  unfold envM
  rw [h.1 13 (by decide) (by decide) (by decide) (by decide) (by decide) (by decide), h.1 14 (by decide) (by decide) (by decide) (by decide) (by decide) (by decide), h.1 15 (by decide) (by decide) (by decide) (by decide) (by decide) (by decide), h.1 16 (by decide) (by decide) (by decide) (by decide) (by decide) (by decide), h.1 17 (by decide) (by decide) (by decide) (by decide) (by decide) (by decide), h.1 18 (by decide) (by decide) (by decide) (by decide) (by decide) (by decide)]
/-- a name's value -/
theorem fm_name {μ : Sm} {b : Nat → Int32} {n t p : Nat} (h : PosM μ b n t p) : (isNm (tK b n p) → f_X9_name μ = some (rNm (envM μ) (tK b n p), μ)) ∧ (¬ isNm (tK b n p) → ∃ μ', f_X9_name μ = some (0, μ') ∧ BadM μ' (tS b n p) ∧ FrM μ μ') := by
  have w6 : f_X9_isWord (116 : Int32) (114 : Int32) (111 : Int32) (117 : Int32) (98 : Int32) (108 : Int32) (101 : Int32) (0 : Int32) μ = some (if tK b n p = (262 : Int32) then 1 else 0, μ) := fm_isWord (k := 6) (by omega) h
  have w7 : f_X9_isWord (110 : Int32) (117 : Int32) (109 : Int32) (98 : Int32) (101 : Int32) (114 : Int32) (0 : Int32) (0 : Int32) μ = some (if tK b n p = (263 : Int32) then 1 else 0, μ) := fm_isWord (k := 7) (by omega) h
  have w8 : f_X9_isWord (110 : Int32) (105 : Int32) (103 : Int32) (104 : Int32) (116 : Int32) (0 : Int32) (0 : Int32) (0 : Int32) μ = some (if tK b n p = (264 : Int32) then 1 else 0, μ) := fm_isWord (k := 8) (by omega) h
  have w9 : f_X9_isWord (110 : Int32) (101 : Int32) (119 : Int32) (115 : Int32) (0 : Int32) (0 : Int32) (0 : Int32) (0 : Int32) μ = some (if tK b n p = (265 : Int32) then 1 else 0, μ) := fm_isWord (k := 9) (by omega) h
  have w10 : f_X9_isWord (116 : Int32) (97 : Int32) (115 : Int32) (116 : Int32) (101 : Int32) (0 : Int32) (0 : Int32) (0 : Int32) μ = some (if tK b n p = (266 : Int32) then 1 else 0, μ) := fm_isWord (k := 10) (by omega) h
  have w11 : f_X9_isWord (104 : Int32) (111 : Int32) (117 : Int32) (114 : Int32) (0 : Int32) (0 : Int32) (0 : Int32) (0 : Int32) μ = some (if tK b n p = (267 : Int32) then 1 else 0, μ) := fm_isWord (k := 11) (by omega) h
  have hex : isNm (tK b n p) → tK b n p = 262 ∨ tK b n p = 263 ∨ tK b n p = 264 ∨ tK b n p = 265 ∨ tK b n p = 266 ∨ tK b n p = 267 := by
    intro g
    obtain ⟨a, ha, e⟩ := nI_ex (v := tK b n p) (n := 267) (Int32.le_trans (by decide) g.1) g.2 (by omega)
    have h2 : 262 ≤ a := by have := g.1; rw [e, show (262 : Int32) = nI 262 from rfl, nI_leI (by omega) (by omega)] at this; exact this
    rw [e]
    have h3 : a = 262 ∨ a = 263 ∨ a = 264 ∨ a = 265 ∨ a = 266 ∨ a = 267 := by omega
    rcases h3 with rfl | rfl | rfl | rfl | rfl | rfl
    · exact Or.inl rfl
    · exact Or.inr (Or.inl rfl)
    · exact Or.inr (Or.inr (Or.inl rfl))
    · exact Or.inr (Or.inr (Or.inr (Or.inl rfl)))
    · exact Or.inr (Or.inr (Or.inr (Or.inr (Or.inl rfl))))
    · exact Or.inr (Or.inr (Or.inr (Or.inr (Or.inr rfl))))
  unfold f_X9_name
  rw [w6, Option.bind_some]
  by_cases a6 : tK b n p = 262
  · simp only [if_pos a6]
    rw [if_neg (show ¬ (1 : Int32) = 0 by decide)]
    exact ⟨fun _ => by unfold rNm; rw [if_pos a6]; rfl, fun g => absurd (by rw [a6]; decide) g⟩
  · simp only [if_neg a6]
    rw [if_pos trivial, w7, Option.bind_some]
    by_cases a7 : tK b n p = 263
    · simp only [if_pos a7]
      rw [if_neg (show ¬ (1 : Int32) = 0 by decide)]
      exact ⟨fun _ => by unfold rNm; rw [if_neg a6, if_pos a7]; rfl, fun g => absurd (by rw [a7]; decide) g⟩
    · simp only [if_neg a7]
      rw [if_pos trivial, w8, Option.bind_some]
      by_cases a8 : tK b n p = 264
      · simp only [if_pos a8]
        rw [if_neg (show ¬ (1 : Int32) = 0 by decide)]
        exact ⟨fun _ => by unfold rNm; rw [if_neg a6, if_neg a7, if_pos a8]; rfl, fun g => absurd (by rw [a8]; decide) g⟩
      · simp only [if_neg a8]
        rw [if_pos trivial, w9, Option.bind_some]
        by_cases a9 : tK b n p = 265
        · simp only [if_pos a9]
          rw [if_neg (show ¬ (1 : Int32) = 0 by decide)]
          exact ⟨fun _ => by unfold rNm; rw [if_neg a6, if_neg a7, if_neg a8, if_pos a9]; rfl, fun g => absurd (by rw [a9]; decide) g⟩
        · simp only [if_neg a9]
          rw [if_pos trivial, w10, Option.bind_some]
          by_cases a10 : tK b n p = 266
          · simp only [if_pos a10]
            rw [if_neg (show ¬ (1 : Int32) = 0 by decide)]
            exact ⟨fun _ => by unfold rNm; rw [if_neg a6, if_neg a7, if_neg a8, if_neg a9, if_pos a10]; rfl, fun g => absurd (by rw [a10]; decide) g⟩
          · simp only [if_neg a10]
            rw [if_pos trivial, w11, Option.bind_some]
            by_cases a11 : tK b n p = 267
            · simp only [if_pos a11]
              rw [if_neg (show ¬ (1 : Int32) = 0 by decide)]
              exact ⟨fun _ => by unfold rNm; rw [if_neg a6, if_neg a7, if_neg a8, if_neg a9, if_neg a10]; rfl, fun g => absurd (by rw [a11]; decide) g⟩
            · simp only [if_neg a11]
              rw [if_pos trivial]
              refine ⟨fun g => ?_, fun _ => ?_⟩
              · rcases hex g with z | z | z | z | z | z <;> contradiction
              · obtain ⟨μ', g1, g2, g3⟩ := fm_fail h
                refine ⟨μ', ?_, g2, g3⟩
                rw [g1, Option.bind_some]
/-- what a method of the group does -/
def ClmM (res : Option (Int32 × Sm)) (R : PR) (μ : Sm) (b : Nat → Int32) (n t p k : Nat) : Prop := match R with
  | .error f => ∃ v μ', res = some (v, μ') ∧ BadM μ' f ∧ FrM μ μ'
  | .ok q => ∃ v μ', res = some (v, μ') ∧ PosM μ' b n t q.2 ∧ μ'.1 25 0 = nI (5 - k) ∧ FrM μ μ' ∧ tS b n p ≤ tS b n q.2 ∧ ∀ st, rRun (envM μ) q.1 st = v :: st
theorem ClmM.err {res : Option (Int32 × Sm)} {R : PR} {μ : Sm} {b : Nat → Int32} {n t p k f : Nat} (hR : R = .error f) (h : ∃ v μ', res = some (v, μ') ∧ BadM μ' f ∧ FrM μ μ') : ClmM res R μ b n t p k := by subst hR; exact h
theorem ClmM.fin {res : Option (Int32 × Sm)} {R : PR} {μ : Sm} {b : Nat → Int32} {n t p k : Nat} {q : List Int32 × Nat} (hR : R = .ok q) (h : ∃ v μ', res = some (v, μ') ∧ PosM μ' b n t q.2 ∧ μ'.1 25 0 = nI (5 - k) ∧ FrM μ μ' ∧ tS b n p ≤ tS b n q.2 ∧ ∀ st, rRun (envM μ) q.1 st = v :: st) : ClmM res R μ b n t p k := by subst hR; exact h
theorem ClmM.e1 {res : Option (Int32 × Sm)} {R : PR} {μ : Sm} {b : Nat → Int32} {n t p k f : Nat} (h : ClmM res R μ b n t p k) (hR : R = .error f) : ∃ v μ', res = some (v, μ') ∧ BadM μ' f ∧ FrM μ μ' := by subst hR; exact h
theorem ClmM.e2 {res : Option (Int32 × Sm)} {R : PR} {μ : Sm} {b : Nat → Int32} {n t p k : Nat} {q : List Int32 × Nat} (h : ClmM res R μ b n t p k) (hR : R = .ok q) : ∃ v μ', res = some (v, μ') ∧ PosM μ' b n t q.2 ∧ μ'.1 25 0 = nI (5 - k) ∧ FrM μ μ' ∧ tS b n p ≤ tS b n q.2 ∧ ∀ st, rRun (envM μ) q.1 st = v :: st := by subst hR; exact h
def OkM (m : Sm → Option (Int32 × Sm)) (S : (Nat → Int32) → Nat → Nat → PR) (k : Nat) : Prop := ∀ (μ : Sm) (b : Nat → Int32) (n t p : Nat), PosM μ b n t p → μ.1 25 0 = nI (5 - k) → ClmM (m μ) (S b n p) μ b n t p k
theorem rRun_app (e : Env) (c d : List Int32) (st : List Int32) : rRun e (c ++ d) st = rRun e d (rRun e c st) := by unfold rRun; rw [List.foldl_append]
theorem rStep_bin {e : Env} {t : Int32} (ht : isBin t) (v w : Int32) (st : List Int32) : rStep e (-t) (w :: v :: st) = rTwo t v w :: st := by
  unfold rStep
  have a0 : ¬ 0 ≤ -t := by rcases ht with rfl | rfl | rfl | rfl | rfl | rfl | rfl <;> decide
  have a1 : ¬ isNm (- -t) := by rcases ht with rfl | rfl | rfl | rfl | rfl | rfl | rfl <;> decide
  have a2 : ¬ isUn (-t) := by rcases ht with rfl | rfl | rfl | rfl | rfl | rfl | rfl <;> decide
  rw [if_neg a0, if_neg a1, if_neg a2]
  show rTwo (- -t) v w :: st = _
  rw [Int32.neg_neg]
theorem rRun_bin {e : Env} {c d : List Int32} {t v w : Int32} (ht : isBin t) (h1 : ∀ st, rRun e c st = v :: st) (h2 : ∀ st, rRun e d st = w :: st) : ∀ st, rRun e (c ++ d ++ [-t]) st = rTwo t v w :: st := by
  intro st
  rw [rRun_app, rRun_app, h1, h2]
  exact rStep_bin ht v w st
