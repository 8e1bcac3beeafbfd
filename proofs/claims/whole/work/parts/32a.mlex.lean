/-! The reference's next is the lexer too -/
theorem upm_1 {σ : Sm} {id j : Nat} {v : Int32} : (upm σ id j v).1 = up σ.1 id j v := rfl
theorem upm_2 {σ : Sm} {id j : Nat} {v : Int32} : (upm σ id j v).2 = σ.2 := rfl
theorem upj_1 {σ : Sm} {id j : Nat} {v : Int64} : (upj σ id j v).1 = σ.1 := rfl
theorem upj_s {σ : Sm} {id j : Nat} {v : Int64} : (upj σ id j v).2 id j = v := by
  show (if id = id then vp_updL (σ.2 id) j v else σ.2 id) j = v
  rw [if_pos rfl]
  exact if_pos rfl
theorem upj_n {σ : Sm} {id j a : Nat} {v : Int64} (h : a ≠ id) : (upj σ id j v).2 a = σ.2 a := if_neg h
theorem lg_neg {x y : Int64} : lg_cmp x y < 0 ↔ x.toInt < y.toInt := by
  have h := lg_cmp_ge x y
  rw [Int64.le_iff_toInt_le] at h
  constructor
  · intro q
    by_cases r : x.toInt < y.toInt
    · exact r
    · have := h.mpr (by omega)
      rw [i32_le] at this; rw [i32_lt] at q; omega
  · intro q
    by_cases r : (lg_cmp x y).toInt < (0 : Int32).toInt
    · exact i32_lt.mpr r
    · have := h.mp (i32_le.mpr (by omega))
      omega
theorem lg_pos {x y : Int64} : 0 < lg_cmp x y ↔ y.toInt < x.toInt := by
  unfold lg_cmp
  by_cases h1 : x > y
  · rw [if_pos h1]
    have := Int64.lt_iff_toInt_lt.mp h1
    exact ⟨fun _ => this, fun _ => by decide⟩
  · rw [if_neg h1]
    have h2 : ¬ y.toInt < x.toInt := fun q => h1 (Int64.lt_iff_toInt_lt.mpr q)
    refine ⟨fun q => ?_, fun q => absurd q h2⟩
    split at q
    · exact absurd q (by decide)
    · exact absurd q (by decide)
theorem lg_zero {x y : Int64} : lg_cmp x y = 0 ↔ x = y := by
  unfold lg_cmp
  by_cases h1 : x > y
  · rw [if_pos h1]
    exact ⟨fun h => absurd h (by decide), fun h => by subst h; exact absurd h1 (Int64.lt_irrefl)⟩
  · rw [if_neg h1]
    by_cases h2 : x = y
    · rw [if_pos h2]; exact ⟨fun _ => h2, fun _ => rfl⟩
    · rw [if_neg h2]; exact ⟨fun h => absurd h (by decide), fun h => absurd h h2⟩
theorem fm_in (x lo hi : Int64) (μ : Sm) : f_X9_in x lo hi μ = some (if lo.toInt ≤ x.toInt ∧ x.toInt ≤ hi.toInt then 1 else 0, μ) := by
  unfold f_X9_in
  by_cases h1 : lg_cmp x lo < 0
  · rw [if_pos h1, if_neg (by have := lg_neg.mp h1; omega)]
  · rw [if_neg h1]
    have a1 : ¬ x.toInt < lo.toInt := fun q => h1 (lg_neg.mpr q)
    by_cases h2 : 0 < lg_cmp x hi
    · rw [if_pos h2, if_neg (by have := lg_pos.mp h2; omega)]
    · rw [if_neg h2]
      have a2 : ¬ hi.toInt < x.toInt := fun q => h2 (lg_pos.mpr q)
      rw [if_pos (by omega)]
theorem fm_let (x : Int32) (μ : Sm) : f_X9_in x.toInt64 (97 : Int64) (122 : Int64) μ = some (if isLet x then 1 else 0, μ) := by
  rw [fm_in, Int32.toInt_toInt64]
  congr 2
  by_cases h : isLet x
  · rw [if_pos h, if_pos]
    have := h.1; have h2 := h.2
    rw [i32_le] at this h2
    exact ⟨this, h2⟩
  · rw [if_neg h, if_neg]
    intro q
    exact h ⟨i32_le.mpr q.1, i32_le.mpr q.2⟩
theorem fm_dig (x : Int32) (μ : Sm) : f_X9_in x.toInt64 (48 : Int64) (57 : Int64) μ = some (if isDig x then 1 else 0, μ) := by
  rw [fm_in, Int32.toInt_toInt64]
  congr 2
  by_cases h : isDig x
  · rw [if_pos h, if_pos]
    have := h.1; have h2 := h.2
    rw [i32_le] at this h2
    exact ⟨this, h2⟩
  · rw [if_neg h, if_neg]
    intro q
    exact h ⟨i32_le.mpr q.1, i32_le.mpr q.2⟩
/-- text t of n bytes is being read -/
def RdM (μ : Sm) (b : Nat → Int32) (n t : Nat) : Prop := μ.1 19 0 = nI (160 * t) ∧ μ.1 20 0 = nI n ∧ n ≤ 160 ∧ t < 6 ∧ (∀ j, j < n → μ.1 1 (160 * t + j) = b j) ∧ Byt b n
theorem fm_byte {μ : Sm} {b : Nat → Int32} {n t i : Nat} (h : RdM μ b n t) (hi : i < n) : f_X9_byteAt (nI i) μ = some (b i, μ) := by
  obtain ⟨h1, h2, h3, h4, h5, h6⟩ := h
  unfold f_X9_byteAt
  rw [h2, if_neg (by rw [nI_leI (by omega) (by omega)]; omega), h1, nI_add, if_pos (okI_nI (by omega) (by omega)), nI_tn (by omega), h5 i hi]
theorem fm_byteE {μ : Sm} {b : Nat → Int32} {n t i : Nat} (h : RdM μ b n t) (hi : n ≤ i) (h2 : i < 2147483648) : f_X9_byteAt (nI i) μ = some (-1, μ) := by
  obtain ⟨q1, q2, q3, q4, q5, q6⟩ := h
  unfold f_X9_byteAt
  rw [q2, if_pos (by rw [nI_leI (by omega) (by omega)]; omega)]
theorem RdM.keep {μ ν : Sm} {b : Nat → Int32} {n t : Nat} (h : RdM μ b n t) (h1 : ν.1 1 = μ.1 1) (h2 : ν.1 19 = μ.1 19) (h3 : ν.1 20 = μ.1 20) : RdM ν b n t := by
  unfold RdM at *
  rw [h1, h2, h3]
  exact h
theorem RdM.put {μ : Sm} {b : Nat → Int32} {n t : Nat} (h : RdM μ b n t) (id j : Nat) (v : Int32) (h1 : id ≠ 1) (h2 : id ≠ 19) (h3 : id ≠ 20) : RdM (upm μ id j v) b n t := by
  unfold RdM at *
  rw [upm_1, up_n (Ne.symm h1), up_n (Ne.symm h2), up_n (Ne.symm h3)]
  exact h
theorem RdM.putj {μ : Sm} {b : Nat → Int32} {n t : Nat} (h : RdM μ b n t) (id j : Nat) (v : Int64) : RdM (upj μ id j v) b n t := h
def kM (b : Nat → Int32) (n p : Nat) : Int32 := if n ≤ tS b n p then 0 else if isLet (b (tS b n p)) then 1 else if isDig (b (tS b n p)) then (if digE b n (tS b n p) - tS b n p ≤ 4 then 2 else 4) else if isSg (b (tS b n p)) then 3 else 4
/-- what next does -/
def NxJ (μ μ' : Sm) (b : Nat → Int32) (n p : Nat) : Prop := (∀ a, a ≠ 21 → a ≠ 22 → a ≠ 23 → μ'.1 a = μ.1 a) ∧ (∀ a, a ≠ 24 → μ'.2 a = μ.2 a) ∧ μ'.1 23 0 = nI (tS b n p) ∧ μ'.1 22 0 = kM b n p ∧ (¬ kM b n p = 4 → μ'.1 21 0 = nI (tE b n p)) ∧ (kM b n p = 2 → (μ'.2 24 0).toInt32 = tL b n p) ∧ (kM b n p = 3 → μ'.2 24 0 = (b (tS b n p)).toInt64)
theorem fm_letters {b : Nat → Int32} {n t : Nat} : ∀ (d q f : Nat) (μ : Sm), q + d = n → d < f → RdM μ b n t → μ.1 21 0 = nI q → f_X9_next_100 f μ = some (upm μ 21 0 (nI (letE b n q))) := by
  intro d
  induction d with
  | zero =>
    intro q f μ hq hf h h21
    obtain ⟨f, rfl⟩ : ∃ g, f = g + 1 := ⟨f - 1, by omega⟩
    have hn := h.2.2.1
    have e : letE b n q = q := runE_here (by omega)
    rw [f_X9_next_100, h21, fm_byteE h (by omega) (by omega), Option.bind_some]
    simp only []
    rw [fm_let, Option.bind_some, e, ← h21]
    simp only []
    rw [if_neg (show ¬ isLet (-1) by decide), if_pos rfl]
    show _ = some (up μ.1 21 0 (μ.1 21 0), μ.2)
    rw [up_self]
  | succ d ih =>
    intro q f μ hq hf h h21
    obtain ⟨f, rfl⟩ : ∃ g, f = g + 1 := ⟨f - 1, by omega⟩
    have hn := h.2.2.1
    rw [f_X9_next_100, h21, fm_byte h (by omega), Option.bind_some]
    simp only []
    rw [fm_let, Option.bind_some]
    by_cases hc : isLet (b q)
    · simp only [if_pos hc]
      rw [if_neg (by decide), h21, nI_1]
      have e : letE b n q = letE b n (q + 1) := runE_next (by omega) ⟨by omega, hc⟩
      rw [e, ih (q + 1) f (upm μ 21 0 (nI (q + 1))) (by omega) (by omega) (RdM.put h 21 0 _ (by decide) (by decide) (by decide)) (by rw [upm_1, up_s, upd_s])]
      show some (up (up μ.1 21 0 _) 21 0 _, μ.2) = some (up μ.1 21 0 _, μ.2)
      rw [up_up]
    · simp only [if_neg hc]
      rw [if_pos trivial]
      have e : letE b n q = q := runE_here (fun h => hc h.2)
      rw [e, ← h21]
      show _ = some (up μ.1 21 0 (μ.1 21 0), μ.2)
      rw [up_self]
theorem toI32_step (w : Int64) (x v : Int32) (h : w.toInt32 = v) : ((10 : Int64) * w + x.toInt64 - (48 : Int64)).toInt32 = v * 10 + x - 48 := by
  rw [Int64.toInt32_sub, Int64.toInt32_add, Int64.toInt32_mul, h, Int32.toInt32_toInt64, Int32.mul_comm]
  rfl
/-- a number: q digits on from s -/
theorem fm_digits {b : Nat → Int32} {n t s : Nat} : ∀ (d q f : Nat) (μ : Sm), q + d = n → d < f → s ≤ q → RdM μ b n t → μ.1 21 0 = nI q → (q - s ≤ 4 → (μ.2 24 0).toInt32 = litv b s (q - s)) →
    ∃ μ', f_X9_next_160 f (nI (q - s)) μ = some μ' ∧ (∀ a, a ≠ 21 → a ≠ 22 → μ'.1 a = μ.1 a) ∧ (∀ a, a ≠ 24 → μ'.2 a = μ.2 a) ∧ μ'.1 21 0 = nI (digE b n q) ∧ μ'.1 22 0 = (if digE b n q - s ≤ 4 then 2 else 4) ∧ (digE b n q - s ≤ 4 → (μ'.2 24 0).toInt32 = litv b s (digE b n q - s)) := by
  intro d
  have fin : ∀ q (μ : Sm), q ≤ n → n ≤ 160 → s ≤ q → digE b n q = q → μ.1 21 0 = nI q → (q - s ≤ 4 → (μ.2 24 0).toInt32 = litv b s (q - s)) → ∃ μ', (if nI (q - s) ≤ (4 : Int32) then some (upm μ 22 0 (2 : Int32)) else some (upm μ 22 0 (4 : Int32))) = some μ' ∧ (∀ a, a ≠ 21 → a ≠ 22 → μ'.1 a = μ.1 a) ∧ (∀ a, a ≠ 24 → μ'.2 a = μ.2 a) ∧ μ'.1 21 0 = nI (digE b n q) ∧ μ'.1 22 0 = (if digE b n q - s ≤ 4 then 2 else 4) ∧ (digE b n q - s ≤ 4 → (μ'.2 24 0).toInt32 = litv b s (digE b n q - s)) := by
    intro q μ hq hn hs he h21 hw
    rw [he]
    by_cases h4 : q - s ≤ 4
    · rw [if_pos (by rw [show (4 : Int32) = nI 4 from rfl, nI_leI (by omega) (by omega)]; exact h4), if_pos h4]
      exact ⟨_, rfl, fun a a1 a2 => up_n a2, fun _ _ => rfl, by rw [upm_1, up_n (by decide)]; exact h21, by rw [upm_1, up_s, upd_s], hw⟩
    · rw [if_neg (by rw [show (4 : Int32) = nI 4 from rfl, nI_leI (by omega) (by omega)]; exact h4), if_neg h4]
      exact ⟨_, rfl, fun a a1 a2 => up_n a2, fun _ _ => rfl, by rw [upm_1, up_n (by decide)]; exact h21, by rw [upm_1, up_s, upd_s], hw⟩
  induction d with
  | zero =>
    intro q f μ hq hf hs h h21 hw
    obtain ⟨f, rfl⟩ : ∃ g, f = g + 1 := ⟨f - 1, by omega⟩
    have hn := h.2.2.1
    rw [f_X9_next_160, h21, fm_byteE h (by omega) (by omega), Option.bind_some]
    simp only []
    rw [fm_dig, Option.bind_some]
    simp only []
    rw [if_neg (show ¬ isDig (-1) by decide), if_pos rfl]
    exact fin q μ (by omega) hn hs (runE_here (by omega)) h21 hw
  | succ d ih =>
    intro q f μ hq hf hs h h21 hw
    obtain ⟨f, rfl⟩ : ∃ g, f = g + 1 := ⟨f - 1, by omega⟩
    have hn := h.2.2.1
    rw [f_X9_next_160, h21, fm_byte h (by omega), Option.bind_some]
    simp only []
    rw [fm_dig, Option.bind_some]
    by_cases hc : isDig (b q)
    · simp only [if_pos hc]
      rw [if_neg (by decide)]
      have e : digE b n q = digE b n (q + 1) := runE_next (by omega) ⟨by omega, hc⟩
      have go : ∀ z : Int64, (q + 1 - s ≤ 4 → z.toInt32 = litv b s (q + 1 - s)) → ∃ μ', f_X9_next_216 (f_X9_next_160 f) (nI (q - s)) z μ = some μ' ∧ (∀ a, a ≠ 21 → a ≠ 22 → μ'.1 a = μ.1 a) ∧ (∀ a, a ≠ 24 → μ'.2 a = μ.2 a) ∧ μ'.1 21 0 = nI (digE b n q) ∧ μ'.1 22 0 = (if digE b n q - s ≤ 4 then 2 else 4) ∧ (digE b n q - s ≤ 4 → (μ'.2 24 0).toInt32 = litv b s (digE b n q - s)) := by
        intro z hz
        unfold f_X9_next_216
        rw [upj_1, h21, nI_1, nI_1, e, show q - s + 1 = q + 1 - s by omega]
        obtain ⟨μ', g1, g2, g3, g4, g5, g6⟩ := ih (q + 1) f (upm (upj μ 24 0 z) 21 0 (nI (q + 1))) (by omega) (by omega) (by omega) (RdM.put (h.putj 24 0 z) 21 0 _ (by decide) (by decide) (by decide)) (by rw [upm_1, up_s, upd_s]) (fun h4 => by rw [upm_2, upj_s]; exact hz h4)
        refine ⟨μ', g1, fun a a1 a2 => ?_, fun a a1 => ?_, g4, g5, g6⟩
        · rw [g2 a a1 a2, upm_1, up_n a1, upj_1]
        · rw [g3 a a1, upm_2, upj_n a1]
      by_cases h4 : (4 : Int32) ≤ nI (q - s)
      · rw [if_pos h4]
        rw [show (4 : Int32) = nI 4 from rfl, nI_leI (by omega) (by omega)] at h4
        exact go _ (fun h5 => absurd h5 (by omega))
      · rw [if_neg h4, h21, fm_byte h (by omega), Option.bind_some]
        rw [show (4 : Int32) = nI 4 from rfl, nI_leI (by omega) (by omega)] at h4
        refine go _ (fun h5 => ?_)
        rw [toI32_step _ _ _ (hw (by omega)), show q + 1 - s = (q - s) + 1 by omega]
        show _ = litv b s (q - s) * 10 + b (s + (q - s)) - 48
        rw [show s + (q - s) = q by omega]
    · simp only [if_neg hc]
      rw [if_pos trivial]
      exact fin q μ (by omega) hn hs (runE_here (fun h => hc h.2)) h21 hw
