/-! The class's step is the lexer's -/
def Byt (b : Nat → Int32) (n : Nat) : Prop := ∀ j, j < n → ∃ a, a < 256 ∧ b j = nI a
theorem upd_upd {f : Nat → Int32} {j : Nat} {v w : Int32} : upd (upd f j v) j w = upd f j w := by
  funext a
  by_cases h : a = j
  · subst h; rw [upd_s, upd_s]
  · rw [upd_n h, upd_n h, upd_n h]
theorem upd_self {f : Nat → Int32} {j : Nat} : upd f j (f j) = f := by
  funext a
  by_cases h : a = j
  · subst h; rw [upd_s]
  · rw [upd_n h]
theorem up_up {σ : Sg} {id j : Nat} {v w : Int32} : up (up σ id j v) id j w = up σ id j w := by
  unfold up; rw [upA_s, upA_upA, upd_upd]
theorem up_self {σ : Sg} {id j : Nat} : up σ id j (σ id j) = σ := by
  unfold up; rw [upd_self, upA_self]
theorem up_comm {σ : Sg} {id jd j k : Nat} {v w : Int32} (h : id ≠ jd) : up (up σ id j v) jd k w = up (up σ jd k w) id j v := by
  funext a
  by_cases h1 : a = id
  · subst h1
    rw [up_n h, up_s, up_s, up_n h]
  · by_cases h2 : a = jd
    · subst h2
      rw [up_s, up_n (Ne.symm h), up_n h1, up_s]
    · rw [up_n h2, up_n h1, up_n h1, up_n h2]
theorem fe_isLet (x : Int32) (σ : Sg) : f_X4_isLetter x σ = some (if isLet x then 1 else 0, σ) := by
  have e1 : (97 : Int32).toInt = 97 := rfl
  have e2 : (122 : Int32).toInt = 122 := rfl
  unfold f_X4_isLetter
  by_cases h1 : x < 97
  · rw [if_pos h1, if_neg (by intro h; have := h.1; rw [i32_le] at this; rw [i32_lt] at h1; omega)]
  · rw [if_neg h1]
    by_cases h2 : (122 : Int32) < x
    · rw [if_pos h2, if_neg (by intro h; have := h.2; rw [i32_le] at this; rw [i32_lt] at h2; omega)]
    · rw [if_neg h2, if_pos (by rw [i32_lt] at h1 h2; exact ⟨by rw [i32_le]; omega, by rw [i32_le]; omega⟩)]
theorem fe_isDig (x : Int32) (σ : Sg) : f_X4_isDigit x σ = some (if isDig x then 1 else 0, σ) := by
  have e1 : (48 : Int32).toInt = 48 := rfl
  have e2 : (57 : Int32).toInt = 57 := rfl
  unfold f_X4_isDigit
  by_cases h1 : x < 48
  · rw [if_pos h1, if_neg (by intro h; have := h.1; rw [i32_le] at this; rw [i32_lt] at h1; omega)]
  · rw [if_neg h1]
    by_cases h2 : (57 : Int32) < x
    · rw [if_pos h2, if_neg (by intro h; have := h.2; rw [i32_le] at this; rw [i32_lt] at h2; omega)]
    · rw [if_neg h2, if_pos (by rw [i32_lt] at h1 h2; exact ⟨by rw [i32_le]; omega, by rw [i32_le]; omega⟩)]
theorem sl_shift : ∀ k, k < 14 → (Int32.ofNat (sLen.getD k 0)) >>> ((0 : Int32) &&& 31) = nI (sLen.getD k 0) := by decide +kernel
theorem sl_len : ∀ k, k < 14 → sLen.getD k 0 = (sByt.getD k []).length ∧ sLen.getD k 0 < 9 := by decide +kernel
theorem sb_char : ∀ k, k < 14 → ∀ j, j < sLen.getD k 0 → (((((sByt.getD k []).getD j 0) &&& (255 : Int32))).toUInt32 % 65536).toInt32 = (sByt.getD k []).getD j 0 ∧ narrow .char (.int ((sByt.getD k []).getD j 0)) = .int ((sByt.getD k []).getD j 0) := by decide +kernel
theorem fe_len {k : Nat} (hk : k < 14) (σ : Sg) : f_J0_length_8abf5 k σ = some (nI (sLen.getD k 0), σ) := by
  unfold f_J0_length_8abf5 f_J0_coder_7d493
  rw [if_pos hk, if_pos hk, if_neg (by decide), Option.bind_some]
  simp only []
  rw [sl_shift k hk]
theorem fe_charAt {k j : Nat} (hk : k < 14) (hj : j < sLen.getD k 0) (σ : Sg) : f_J0_charAt_5068e k (nI j) σ = some ((sByt.getD k []).getD j 0, σ) := by
  obtain ⟨e1, e2⟩ := sb_char k hk j hj
  obtain ⟨l1, l2⟩ := sl_len k hk
  have ec : f_J0_checkIndex_df160 (nI j) (Int32.ofNat (sLen.getD k 0)) σ = some σ := by
    unfold f_J0_checkIndex_df160 f_J3_checkIndex_8e157
    rw [if_neg (nI_pos (by omega)), if_pos (show nI j < Int32.ofNat (sLen.getD k 0) from nI_lt hj (by omega))]
    rfl
  have e3 : f_J1_charAt_3b067 k (nI j) σ = some ((sByt.getD k []).getD j 0, σ) := by
    unfold f_J1_charAt_3b067
    rw [if_pos hk, ec, Option.bind_some, if_pos (okI_nI hj (by omega)), nI_tn (by omega), e1, if_pos e2]
  unfold f_J0_charAt_5068e f_J0_isLatin1_aae02
  rw [if_pos hk, if_pos hk, if_neg (by decide), if_pos rfl, Option.bind_some]
  simp only []
  rw [if_neg (by decide), e3, Option.bind_some]
  simp only []
  rw [if_pos e2]
/-- isSpelled -/
theorem fe_spell_loop {k s : Nat} (hk : k < 14) {σ : Sg} (h37 : σ 37 0 = nI s) (hse : s + sLen.getD k 0 ≤ 160) : ∀ (d j f : Nat), j + d = sLen.getD k 0 → d < f → ∃ r, f_X4_isSpelled_20 k f (nI j) σ = some (r, σ) ∧ ((r = 1 ∧ ∀ i, j ≤ i → i < sLen.getD k 0 → σ 34 (s + i) = (sByt.getD k []).getD i 0) ∨ (r = 0 ∧ ¬ ∀ i, j ≤ i → i < sLen.getD k 0 → σ 34 (s + i) = (sByt.getD k []).getD i 0)) := by
  intro d
  induction d with
  | zero =>
    intro j f hj hf
    obtain ⟨f, rfl⟩ : ∃ q, f = q + 1 := ⟨f - 1, by omega⟩
    have := (sl_len k hk).2
    refine ⟨1, ?_, Or.inl ⟨rfl, fun i h1 h2 => absurd h2 (by omega)⟩⟩
    rw [f_X4_isSpelled_20, if_pos hk, fe_len hk, Option.bind_some]
    simp only []
    rw [if_pos (by rw [nI_leI (by omega) (by omega)]; omega)]
  | succ d ih =>
    intro j f hj hf
    obtain ⟨f, rfl⟩ : ∃ q, f = q + 1 := ⟨f - 1, by omega⟩
    have := (sl_len k hk).2
    rw [f_X4_isSpelled_20, if_pos hk, fe_len hk, Option.bind_some]
    simp only []
    rw [if_neg (by rw [nI_leI (by omega) (by omega)]; omega), fe_charAt hk (by omega), Option.bind_some]
    simp only []
    rw [h37, nI_add, if_pos (okI_nI (by omega) (by omega)), nI_tn (by omega)]
    by_cases hc : (sByt.getD k []).getD j 0 = σ 34 (s + j)
    · rw [if_pos hc, nI_1]
      obtain ⟨r, h1, h2⟩ := ih (j + 1) f (by omega) (by omega)
      refine ⟨r, h1, h2.imp (fun h => ⟨h.1, fun i i1 i2 => ?_⟩) (fun h => ⟨h.1, fun q => h.2 (fun i i1 i2 => q i (by omega) i2)⟩)⟩
      by_cases e : i = j
      · subst e; exact hc.symm
      · exact h.2 i (by omega) i2
    · rw [if_neg hc]
      exact ⟨0, rfl, Or.inr ⟨rfl, fun h => hc (h j (Nat.le_refl _) (by omega)).symm⟩⟩
theorem fe_spell {k s e : Nat} (hk : k < 14) {σ : Sg} (h36 : σ 36 0 = nI e) (h37 : σ 37 0 = nI s) (hse : s ≤ e) (he : e ≤ 160) : f_X4_isSpelled k σ = some (if isWb (σ 34) s e k = true then 1 else 0, σ) := by
  obtain ⟨l1, l2⟩ := sl_len k hk
  unfold f_X4_isSpelled
  rw [if_pos hk, fe_len hk, Option.bind_some]
  simp only []
  rw [h36, h37, nI_sub hse]
  have hw : isWb (σ 34) s e k = true ↔ isW (σ 34) s e k := isWb_iff
  by_cases hl : sLen.getD k 0 = e - s
  · rw [if_pos (by rw [hl])]
    obtain ⟨r, h1, h2⟩ := fe_spell_loop (k := k) (s := s) hk h37 (by omega) (sLen.getD k 0) 0 5000 (by omega) (by omega)
    have h1 : f_X4_isSpelled_20 k 5000 (0 : Int32) σ = some (r, σ) := h1
    rw [h1]
    rcases h2 with ⟨rfl, q⟩ | ⟨rfl, q⟩
    · rw [if_pos (hw.mpr ⟨by omega, fun i hi => q i (by omega) (by omega)⟩)]
    · rw [if_neg (fun h => q (fun i _ i2 => (hw.mp h).2 i (by omega)))]
  · rw [if_neg (by rw [nI_eq (by omega) (by omega)]; exact hl), if_neg (fun h => hl (by have := (hw.mp h).1; omega))]
/-- the words, one by one -/
theorem fe_words {s e : Nat} {σ0 : Sg} (h36 : σ0 36 0 = nI e) (h37 : σ0 37 0 = nI s) (hse : s ≤ e) (he : e ≤ 160) : ∀ (d k f : Nat), k + d = 12 → d < f → f_X4_stepWord_50 f (nI (256 + k)) (up σ0 38 0 (wTok (σ0 34) s e k)) = some (up σ0 38 0 (wTok (σ0 34) s e 12)) := by
  intro d
  induction d with
  | zero =>
    intro k f hk hf
    obtain ⟨f, rfl⟩ : ∃ q, f = q + 1 := ⟨f - 1, by omega⟩
    have e12 : k = 12 := by omega
    subst e12
    rw [f_X4_stepWord_50, if_pos (by decide)]
  | succ d ih =>
    intro k f hk hf
    obtain ⟨f, rfl⟩ : ∃ q, f = q + 1 := ⟨f - 1, by omega⟩
    have hsp : ∀ σ : Sg, f_X7_spelling (nI (256 + k)) σ = some (k, σ) := by
      intro σ
      have : k < 12 := by omega
      unfold f_X7_spelling
      match k, this with
      | 0, _ => rfl
      | 1, _ => rfl
      | 2, _ => rfl
      | 3, _ => rfl
      | 4, _ => rfl
      | 5, _ => rfl
      | 6, _ => rfl
      | 7, _ => rfl
      | 8, _ => rfl
      | 9, _ => rfl
      | 10, _ => rfl
      | 11, _ => rfl
    rw [f_X4_stepWord_50, if_neg (by rw [show (267 : Int32) = nI 267 from rfl, nI_ltI (by omega) (by omega)]; omega), hsp, Option.bind_some]
    simp only []
    rw [if_pos (by omega)]
    rw [fe_spell (s := s) (e := e) (show k < 14 by omega) (by rw [up_n (by decide)]; exact h36) (by rw [up_n (by decide)]; exact h37) hse he, Option.bind_some]
    rw [up_n (show (34 : Nat) ≠ 38 by decide), nI_1]
    by_cases hw : isWb (σ0 34) s e k = true
    · have e2 : wTok (σ0 34) s e (k + 1) = nI (256 + k) := by unfold wTok; rw [if_pos hw]
      simp only [if_pos hw]
      rw [if_neg (by decide), up_up, ← e2]
      exact ih (k + 1) f (by omega) (by omega)
    · have e2 : wTok (σ0 34) s e (k + 1) = wTok (σ0 34) s e k := by
        show (if isWb (σ0 34) s e k = true then nI (256 + k) else wTok (σ0 34) s e k) = _
        rw [if_neg hw]
      simp only [if_neg hw]
      rw [if_pos trivial, ← e2]
      exact ih (k + 1) f (by omega) (by omega)
theorem fe_letters {n : Nat} {σ0 : Sg} (h35 : σ0 35 0 = nI n) (hn : n ≤ 160) {s : Nat} (h37 : σ0 37 0 = nI s) : ∀ (d q f : Nat), q + d = n → d < f → s ≤ q → f_X4_stepWord_0 f (up σ0 36 0 (nI q)) = some (up (up σ0 36 0 (nI (letE (σ0 34) n q))) 38 0 (wTok (σ0 34) s (letE (σ0 34) n q) 12)) := by
  intro d
  have fin : ∀ q, q ≤ n → s ≤ q → ¬ (q < n ∧ isLet (σ0 34 q)) → f_X4_stepWord_50 5000 (256 : Int32) (up (up σ0 36 0 (nI q)) 38 0 (270 : Int32)) = some (up (up σ0 36 0 (nI (letE (σ0 34) n q))) 38 0 (wTok (σ0 34) s (letE (σ0 34) n q) 12)) := by
    intro q hq hs hst
    have e : letE (σ0 34) n q = q := runE_here hst
    rw [e]
    exact fe_words (σ0 := up σ0 36 0 (nI q)) (s := s) (e := q) (by rw [up_s, upd_s]) (by rw [up_n (by decide)]; exact h37) hs (by omega) 12 0 5000 (by omega) (by omega)
  induction d with
  | zero =>
    intro q f hq hf hs
    obtain ⟨f, rfl⟩ : ∃ g, f = g + 1 := ⟨f - 1, by omega⟩
    rw [f_X4_stepWord_0, up_n (show (35 : Nat) ≠ 36 by decide), h35, up_s, upd_s, if_pos (by rw [nI_leI (by omega) (by omega)]; omega)]
    exact fin q (by omega) hs (by omega)
  | succ d ih =>
    intro q f hq hf hs
    obtain ⟨f, rfl⟩ : ∃ g, f = g + 1 := ⟨f - 1, by omega⟩
    rw [f_X4_stepWord_0, up_n (show (35 : Nat) ≠ 36 by decide), h35, up_s, upd_s, if_neg (by rw [nI_leI (by omega) (by omega)]; omega), if_pos (okI_nI (by omega) (by omega)), nI_tn (by omega), up_n (show (34 : Nat) ≠ 36 by decide), fe_isLet, Option.bind_some]
    by_cases hc : isLet (σ0 34 q)
    · simp only [if_pos hc]
      rw [if_neg (by decide), up_s, upd_s, nI_1, up_up]
      have e : letE (σ0 34) n q = letE (σ0 34) n (q + 1) := runE_next (by omega) ⟨by omega, hc⟩
      rw [e]
      exact ih (q + 1) f (by omega) (by omega) (by omega)
    · simp only [if_neg hc]
      rw [if_pos trivial]
      exact fin q (by omega) hs (fun h => hc h.2)
