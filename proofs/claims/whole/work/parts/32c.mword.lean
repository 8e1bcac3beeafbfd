/-! Words and signs in the reference -/
/-- the reference stands at p -/
def PosM (μ : Sm) (b : Nat → Int32) (n t p : Nat) : Prop := RdM μ b n t ∧ p ≤ n ∧ μ.1 23 0 = nI (tS b n p) ∧ μ.1 22 0 = kM b n p ∧ (¬ kM b n p = 4 → μ.1 21 0 = nI (tE b n p)) ∧ (kM b n p = 2 → (μ.2 24 0).toInt32 = tL b n p) ∧ (kM b n p = 3 → μ.2 24 0 = (b (tS b n p)).toInt64) ∧ μ.1 26 0 = 0
def FrM (μ μ' : Sm) : Prop := (∀ a, a ≠ 21 → a ≠ 22 → a ≠ 23 → a ≠ 25 → a ≠ 26 → a ≠ 27 → μ'.1 a = μ.1 a) ∧ ∀ a, a ≠ 24 → μ'.2 a = μ.2 a
theorem FrM.rf {μ : Sm} : FrM μ μ := ⟨fun _ _ _ _ _ _ _ => rfl, fun _ _ => rfl⟩
theorem FrM.tr {μ ν ξ : Sm} (h1 : FrM μ ν) (h2 : FrM ν ξ) : FrM μ ξ := ⟨fun a a1 a2 a3 a4 a5 a6 => (h2.1 a a1 a2 a3 a4 a5 a6).trans (h1.1 a a1 a2 a3 a4 a5 a6), fun a a1 => (h2.2 a a1).trans (h1.2 a a1)⟩
theorem FrM.put {μ : Sm} {id j : Nat} {v : Int32} (h : id = 21 ∨ id = 22 ∨ id = 23 ∨ id = 25 ∨ id = 26 ∨ id = 27) : FrM μ (upm μ id j v) := ⟨fun a a1 a2 a3 a4 a5 a6 => up_n (by omega), fun _ _ => rfl⟩
/-- a step on -/
theorem stepM {μ : Sm} {b : Nat → Int32} {n t p : Nat} (h : RdM μ b n t) (h0 : μ.1 26 0 = 0) (hp : p ≤ n) (h21 : μ.1 21 0 = nI p) : ∃ μ', f_X9_next μ = some μ' ∧ PosM μ' b n t p ∧ μ'.1 25 = μ.1 25 ∧ FrM μ μ' := by
  have hn := h.2.2.1
  obtain ⟨μ', g1, g2, g3, g4, g5, g6, g7, g8⟩ := fm_next (n - p) p 5000 μ (by omega) (by omega) h h21
  refine ⟨μ', g1, ⟨h.keep (g2 1 (by decide) (by decide) (by decide)) (g2 19 (by decide) (by decide) (by decide)) (g2 20 (by decide) (by decide) (by decide)), hp, g4, g5, g6, g7, g8, by rw [g2 26 (by decide) (by decide) (by decide)]; exact h0⟩, g2 25 (by decide) (by decide) (by decide), ⟨fun a a1 a2 a3 _ _ _ => g2 a a1 a2 a3, g3⟩⟩
theorem kM_tK {b : Nat → Int32} {n p : Nat} : (kM b n p = 0 ∧ tK b n p = 269) ∨ (kM b n p = 1 ∧ tS b n p < n ∧ isLet (b (tS b n p)) ∧ tK b n p = wTok b (tS b n p) (letE b n (tS b n p)) 12 ∧ tE b n p = letE b n (tS b n p)) ∨ (kM b n p = 2 ∧ tK b n p = 268) ∨ (kM b n p = 3 ∧ isSg (b (tS b n p)) ∧ tK b n p = b (tS b n p)) ∨ (kM b n p = 4 ∧ tK b n p = 270) := by
  unfold kM tK tE
  by_cases h1 : n ≤ tS b n p
  · simp only [if_pos h1]; exact Or.inl ⟨trivial, trivial⟩
  · simp only [if_neg h1]
    by_cases h2 : isLet (b (tS b n p))
    · simp only [if_pos h2]; exact Or.inr (Or.inl ⟨trivial, by omega, h2, trivial, trivial⟩)
    · simp only [if_neg h2]
      by_cases h3 : isDig (b (tS b n p))
      · simp only [if_pos h3]
        by_cases h4 : digE b n (tS b n p) - tS b n p ≤ 4
        · simp only [if_pos h4]; exact Or.inr (Or.inr (Or.inl ⟨trivial, trivial⟩))
        · simp only [if_neg h4]; exact Or.inr (Or.inr (Or.inr (Or.inr ⟨trivial, trivial⟩)))
      · simp only [if_neg h3]
        by_cases h4 : isSg (b (tS b n p))
        · simp only [if_pos h4]; exact Or.inr (Or.inr (Or.inr (Or.inl ⟨trivial, h4, trivial⟩)))
        · simp only [if_neg h4]; exact Or.inr (Or.inr (Or.inr (Or.inr ⟨trivial, trivial⟩)))
theorem wTok_rng {b : Nat → Int32} {s e : Nat} : ∀ k, k ≤ 12 → wTok b s e k = 270 ∨ ∃ j, j < k ∧ wTok b s e k = nI (256 + j) ∧ isW b s e j
  | 0, _ => Or.inl rfl
  | k + 1, h => by
    unfold wTok
    split
    · rename_i q; exact Or.inr ⟨k, by omega, rfl, isWb_iff.mp q⟩
    · rcases wTok_rng (b := b) (s := s) (e := e) k (by omega) with r | ⟨j, h1, h2, h3⟩
      · exact Or.inl r
      · exact Or.inr ⟨j, by omega, h2, h3⟩
theorem wTok_of {b : Nat → Int32} {s e j : Nat} : ∀ k, k ≤ 12 → j < k → isW b s e j → ¬ wTok b s e k = 270
  | 0, _, h, _ => absurd h (by omega)
  | k + 1, hk, h, hw => by
    unfold wTok
    split
    · rw [show (270 : Int32) = nI 270 from rfl, nI_eq (by omega) (by omega)]; omega
    · rename_i q
      by_cases e : j = k
      · subst e; exact absurd (isWb_iff.mpr hw) q
      · exact wTok_of k (by omega) (by omega) hw
theorem words_ne : ∀ k, k < 12 → ∀ j, j < 12 → sByt.getD k [] = sByt.getD j [] → k = j := by decide +kernel
theorem isW_inj {b : Nat → Int32} {s e j k : Nat} (hj : j < 12) (hk : k < 12) (h1 : isW b s e j) (h2 : isW b s e k) : j = k := by
  refine words_ne j hj k hk ?_
  apply List.ext_getElem
  · have := h1.1; have := h2.1; omega
  · intro i i1 i2
    have a1 := h1.2 i i1
    have a2 := h2.2 i i2
    rw [List.getD_eq_getElem?_getD, List.getElem?_eq_getElem i1] at a1
    rw [List.getD_eq_getElem?_getD, List.getElem?_eq_getElem i2] at a2
    exact a1.symm.trans a2
theorem wTok_iff {b : Nat → Int32} {s e k : Nat} (hk : k < 12) : wTok b s e 12 = nI (256 + k) ↔ isW b s e k := by
  constructor
  · intro h
    rcases wTok_rng (b := b) (s := s) (e := e) 12 (Nat.le_refl _) with r | ⟨j, h1, h2, h3⟩
    · rw [r, show (270 : Int32) = nI 270 from rfl, nI_eq (by omega) (by omega)] at h; omega
    · rw [h2, nI_eq (by omega) (by omega)] at h
      have : j = k := by omega
      subst this; exact h3
  · intro h
    rcases wTok_rng (b := b) (s := s) (e := e) 12 (Nat.le_refl _) with r | ⟨j, h1, h2, h3⟩
    · exact absurd r (wTok_of 12 (Nat.le_refl _) hk h)
    · rw [h2, isW_inj h1 hk h3 h]
theorem fm_bad {μ : Sm} (h : μ.1 26 0 = 1) (x1 x2 x3 x4 x5 x6 x7 x8 : Int32) : f_X9_isWord x1 x2 x3 x4 x5 x6 x7 x8 μ = some (0, μ) := by
  unfold f_X9_isWord
  rw [h, if_neg (by decide)]
theorem fm_badS {μ : Sm} (h : μ.1 26 0 = 1) (x : Int32) : f_X9_isSign x μ = some (0, μ) := by
  unfold f_X9_isSign
  rw [h, if_neg (by decide)]
theorem fm_badF {μ : Sm} (h : μ.1 26 0 = 1) : f_X9_fail μ = some μ := by
  unfold f_X9_fail
  rw [h, if_neg (by decide)]
theorem fm_letter {μ : Sm} {b : Nat → Int32} {n t s e i : Nat} (h : RdM μ b n t) (h23 : μ.1 23 0 = nI s) (h21 : μ.1 21 0 = nI e) (he : e ≤ n) (hs : s ≤ n) (hi : i < 8) (x : Int32) : f_X9_isLetter (nI i) x μ = some (if (if s + i < e then b (s + i) = x else x = 0) then 1 else 0, μ) := by
  have hn := h.2.2.1
  unfold f_X9_isLetter
  rw [h21, h23, nI_add]
  by_cases q : s + i < e
  · rw [if_neg (by rw [nI_leI (by omega) (by omega)]; omega), fm_byte h (by omega), Option.bind_some]
    simp only [if_pos q]
    split <;> rfl
  · rw [if_pos (by rw [nI_leI (by omega) (by omega)]; omega)]
    simp only [if_neg q]
    split <;> rfl
theorem wchain {c : Prop} {hc : Decidable c} {μ : Sm} {K : Sm → Option (Int32 × Sm)} : ((some ((if c then (1 : Int32) else 0), μ)).bind fun (q : Int32 × Sm) => if q.1 = 0 then some ((0 : Int32), q.2) else K q.2) = if c then K μ else some (0, μ) := by
  rw [Option.bind_some]
  by_cases h : c
  · simp only [if_pos h]; rw [if_neg (by decide)]
  · simp only [if_neg h]; rw [if_pos trivial]
/-- the word at hand against a word w of 8 letters at most -/
theorem fm_isWord {μ : Sm} {b : Nat → Int32} {n t p k : Nat} (hk : k < 12) (h : PosM μ b n t p) : f_X9_isWord ((sByt.getD k []).getD 0 0) ((sByt.getD k []).getD 1 0) ((sByt.getD k []).getD 2 0) ((sByt.getD k []).getD 3 0) ((sByt.getD k []).getD 4 0) ((sByt.getD k []).getD 5 0) ((sByt.getD k []).getD 6 0) ((sByt.getD k []).getD 7 0) μ = some (if tK b n p = nI (256 + k) then 1 else 0, μ) := by
  obtain ⟨hR, hp, h23, h22, h21, hw2, hw3, h26⟩ := h
  have hn := hR.2.2.1
  have hsn := tS_le (b := b) hp
  unfold f_X9_isWord
  rw [h26, if_pos rfl, h22]
  have hkk : ∀ v : Nat, v < 12 → ¬ (269 : Int32) = nI (256 + v) ∧ ¬ (268 : Int32) = nI (256 + v) ∧ ¬ (270 : Int32) = nI (256 + v) := fun v hv => ⟨by rw [show (269 : Int32) = nI 269 from rfl, nI_eq (by omega) (by omega)]; omega, by rw [show (268 : Int32) = nI 268 from rfl, nI_eq (by omega) (by omega)]; omega, by rw [show (270 : Int32) = nI 270 from rfl, nI_eq (by omega) (by omega)]; omega⟩
  rcases kM_tK (b := b) (n := n) (p := p) with ⟨k0, t0⟩ | ⟨k1, hlt, hl, t1, e1⟩ | ⟨k2, t2⟩ | ⟨k3, hsg, t3⟩ | ⟨k4, t4⟩
  · rw [k0, t0, if_neg (by decide), if_neg (hkk k hk).1]
  · rw [k1, if_pos rfl, t1, h23, h21 (by rw [k1]; decide), e1]
    have hle : letE b n (tS b n p) ≤ n := runE_le 200 _ hsn
    have hlet : ∀ i, tS b n p + i < letE b n (tS b n p) → isLet (b (tS b n p + i)) := fun i hi => (runE_in (P := isLet) (hd := fun _ => inferInstance) (b := b) (n := n) 200 (tS b n p) (tS b n p + i) (by omega) hi).2
    generalize tS b n p = s at *
    generalize letE b n s = e at *
    have h21' : μ.1 21 0 = nI e := by rw [h21 (by rw [k1]; decide), e1]
    have L := fun (i : Nat) (hi : i < 8) (x : Int32) => fm_letter hR h23 h21' hle hsn hi x
    have L0 : ∀ x : Int32, f_X9_isLetter (0 : Int32) x μ = some (if (if s + 0 < e then b (s + 0) = x else x = 0) then 1 else 0, μ) := L 0 (by omega)
    have L1 : ∀ x : Int32, f_X9_isLetter (1 : Int32) x μ = some (if (if s + 1 < e then b (s + 1) = x else x = 0) then 1 else 0, μ) := L 1 (by omega)
    have L2 : ∀ x : Int32, f_X9_isLetter (2 : Int32) x μ = some (if (if s + 2 < e then b (s + 2) = x else x = 0) then 1 else 0, μ) := L 2 (by omega)
    have L3 : ∀ x : Int32, f_X9_isLetter (3 : Int32) x μ = some (if (if s + 3 < e then b (s + 3) = x else x = 0) then 1 else 0, μ) := L 3 (by omega)
    have L4 : ∀ x : Int32, f_X9_isLetter (4 : Int32) x μ = some (if (if s + 4 < e then b (s + 4) = x else x = 0) then 1 else 0, μ) := L 4 (by omega)
    have L5 : ∀ x : Int32, f_X9_isLetter (5 : Int32) x μ = some (if (if s + 5 < e then b (s + 5) = x else x = 0) then 1 else 0, μ) := L 5 (by omega)
    have L6 : ∀ x : Int32, f_X9_isLetter (6 : Int32) x μ = some (if (if s + 6 < e then b (s + 6) = x else x = 0) then 1 else 0, μ) := L 6 (by omega)
    have L7 : ∀ x : Int32, f_X9_isLetter (7 : Int32) x μ = some (if (if s + 7 < e then b (s + 7) = x else x = 0) then 1 else 0, μ) := L 7 (by omega)
    have sgn : ∀ v, v < 12 → (sByt.getD v []).length ≤ 8 ∧ ∀ i, i < 8 → (i < (sByt.getD v []).length ↔ ¬ (sByt.getD v []).getD i 0 = 0) := by decide +kernel
    obtain ⟨sl, sz⟩ := sgn k hk
    have hch : ∀ i, i < 8 → ((if s + i < e then b (s + i) = (sByt.getD k []).getD i 0 else (sByt.getD k []).getD i 0 = 0) ↔ (s + i < e ↔ i < (sByt.getD k []).length) ∧ (i < (sByt.getD k []).length → b (s + i) = (sByt.getD k []).getD i 0)) := by
      intro i hi
      have z := sz i hi
      by_cases q : s + i < e
      · rw [if_pos q]
        have hb := hlet i q
        have hb0 : ¬ b (s + i) = 0 := fun h0 => by rw [h0] at hb; revert hb; decide
        constructor
        · intro h; exact ⟨⟨fun _ => z.mpr (by rw [← h]; exact hb0), fun _ => q⟩, fun _ => h⟩
        · intro h; exact h.2 (h.1.mp q)
      · rw [if_neg q]
        constructor
        · intro h
          have : ¬ i < (sByt.getD k []).length := fun g => z.mp g h
          exact ⟨⟨fun g => absurd g q, fun g => absurd g this⟩, fun g => absurd g this⟩
        · intro h
          have : ¬ i < (sByt.getD k []).length := fun g => q (h.1.mpr g)
          exact Classical.byContradiction fun g => this (z.mpr g)
    have hall : isW b s e k ↔ (¬ nI s + 8 < nI e) ∧ ∀ i, i < 8 → (if s + i < e then b (s + i) = (sByt.getD k []).getD i 0 else (sByt.getD k []).getD i 0 = 0) := by
      have e8 : nI s + (8 : Int32) = nI (s + 8) := nI_add s 8
      rw [e8, nI_ltI (by omega) (by omega)]
      constructor
      · intro h
        refine ⟨by have := h.1; omega, fun i hi => (hch i hi).mpr ⟨⟨fun g => by have := h.1; omega, fun g => by have := h.1; omega⟩, fun g => h.2 i g⟩⟩
      · intro h
        have hlen : e - s = (sByt.getD k []).length := by
          rcases Nat.lt_trichotomy (e - s) (sByt.getD k []).length with g | g | g
          · have := ((hch (e - s) (by omega)).mp (h.2 _ (by omega))).1.mpr g; omega
          · exact g
          · have := ((hch (sByt.getD k []).length (by omega)).mp (h.2 _ (by omega))).1.mp (by omega); omega
        exact ⟨hlen, fun i hi => ((hch i (by omega)).mp (h.2 i (by omega))).2 hi⟩
    have hiff := (wTok_iff (b := b) (s := s) (e := e) hk).trans hall
    by_cases h8 : nI s + 8 < nI e
    · rw [if_pos h8, if_neg (fun g => (hiff.mp g).1 h8)]
    · rw [if_neg h8]
      rw [L0, Option.bind_some]
      by_cases c0 : (if s + 0 < e then b (s + 0) = (sByt.getD k []).getD 0 0 else (sByt.getD k []).getD 0 0 = 0)
      · simp only [if_pos c0]
        rw [if_neg (show ¬ (1 : Int32) = 0 by decide)]
        rw [L1, Option.bind_some]
        by_cases c1 : (if s + 1 < e then b (s + 1) = (sByt.getD k []).getD 1 0 else (sByt.getD k []).getD 1 0 = 0)
        · simp only [if_pos c1]
          rw [if_neg (show ¬ (1 : Int32) = 0 by decide)]
          rw [L2, Option.bind_some]
          by_cases c2 : (if s + 2 < e then b (s + 2) = (sByt.getD k []).getD 2 0 else (sByt.getD k []).getD 2 0 = 0)
          · simp only [if_pos c2]
            rw [if_neg (show ¬ (1 : Int32) = 0 by decide)]
            rw [L3, Option.bind_some]
            by_cases c3 : (if s + 3 < e then b (s + 3) = (sByt.getD k []).getD 3 0 else (sByt.getD k []).getD 3 0 = 0)
            · simp only [if_pos c3]
              rw [if_neg (show ¬ (1 : Int32) = 0 by decide)]
              rw [L4, Option.bind_some]
              by_cases c4 : (if s + 4 < e then b (s + 4) = (sByt.getD k []).getD 4 0 else (sByt.getD k []).getD 4 0 = 0)
              · simp only [if_pos c4]
                rw [if_neg (show ¬ (1 : Int32) = 0 by decide)]
                rw [L5, Option.bind_some]
                by_cases c5 : (if s + 5 < e then b (s + 5) = (sByt.getD k []).getD 5 0 else (sByt.getD k []).getD 5 0 = 0)
                · simp only [if_pos c5]
                  rw [if_neg (show ¬ (1 : Int32) = 0 by decide)]
                  rw [L6, Option.bind_some]
                  by_cases c6 : (if s + 6 < e then b (s + 6) = (sByt.getD k []).getD 6 0 else (sByt.getD k []).getD 6 0 = 0)
                  · simp only [if_pos c6]
                    rw [if_neg (show ¬ (1 : Int32) = 0 by decide)]
                    rw [L7, Option.bind_some]
                    by_cases c7 : (if s + 7 < e then b (s + 7) = (sByt.getD k []).getD 7 0 else (sByt.getD k []).getD 7 0 = 0)
                    · simp only [if_pos c7]
                      rw [if_neg (show ¬ (1 : Int32) = 0 by decide)]
                      rw [if_pos (hiff.mpr ⟨h8, fun i hi => by
                        match i, hi with
                        | 0, _ => exact c0
                        | 1, _ => exact c1
                        | 2, _ => exact c2
                        | 3, _ => exact c3
                        | 4, _ => exact c4
                        | 5, _ => exact c5
                        | 6, _ => exact c6
                        | 7, _ => exact c7
                      ⟩)]
                    · simp only [if_neg c7]
                      rw [if_pos trivial, if_neg (fun g => c7 ((hiff.mp g).2 7 (by omega)))]
                  · simp only [if_neg c6]
                    rw [if_pos trivial, if_neg (fun g => c6 ((hiff.mp g).2 6 (by omega)))]
                · simp only [if_neg c5]
                  rw [if_pos trivial, if_neg (fun g => c5 ((hiff.mp g).2 5 (by omega)))]
              · simp only [if_neg c4]
                rw [if_pos trivial, if_neg (fun g => c4 ((hiff.mp g).2 4 (by omega)))]
            · simp only [if_neg c3]
              rw [if_pos trivial, if_neg (fun g => c3 ((hiff.mp g).2 3 (by omega)))]
          · simp only [if_neg c2]
            rw [if_pos trivial, if_neg (fun g => c2 ((hiff.mp g).2 2 (by omega)))]
        · simp only [if_neg c1]
          rw [if_pos trivial, if_neg (fun g => c1 ((hiff.mp g).2 1 (by omega)))]
      · simp only [if_neg c0]
        rw [if_pos trivial, if_neg (fun g => c0 ((hiff.mp g).2 0 (by omega)))]
  · rw [k2, t2, if_neg (by decide), if_neg (hkk k hk).2.1]
  · rw [k3, t3, if_neg (by decide)]
    have hm : ∀ m : Nat, m < 200 → ¬ nI m = nI (256 + k) := fun m hm => by rw [nI_eq (by omega) (by omega)]; omega
    rw [if_neg (fun g => by
      rcases hsg with z | z | z | z | z | z | z | z
      · exact hm 40 (by omega) (z.symm.trans g)
      · exact hm 41 (by omega) (z.symm.trans g)
      · exact hm 59 (by omega) (z.symm.trans g)
      · exact hm 43 (by omega) (z.symm.trans g)
      · exact hm 45 (by omega) (z.symm.trans g)
      · exact hm 42 (by omega) (z.symm.trans g)
      · exact hm 60 (by omega) (z.symm.trans g)
      · exact hm 61 (by omega) (z.symm.trans g))]
  · rw [k4, t4, if_neg (by decide), if_neg (hkk k hk).2.2]
