/-! step, on -/
theorem fe_digits {n : Nat} {σ0 : Sg} (h35 : σ0 35 0 = nI n) (hn : n ≤ 160) {s : Nat} (h37 : σ0 37 0 = nI s) : ∀ (d q f : Nat), q + d = n → d < f → s ≤ q → f_X4_stepNumber_5 f (up (up σ0 39 0 (litv (σ0 34) s (q - s))) 36 0 (nI q)) = some (up (up (up σ0 39 0 (litv (σ0 34) s (digE (σ0 34) n q - s))) 36 0 (nI (digE (σ0 34) n q))) 38 0 (if digE (σ0 34) n q - s ≤ 4 then 268 else 270)) := by
  intro d
  have fin : ∀ q, q ≤ n → s ≤ q → ¬ (q < n ∧ isDig (σ0 34 q)) → f_X4_stepNumber_68 (up (up σ0 39 0 (litv (σ0 34) s (q - s))) 36 0 (nI q)) = some (up (up (up σ0 39 0 (litv (σ0 34) s (digE (σ0 34) n q - s))) 36 0 (nI (digE (σ0 34) n q))) 38 0 (if digE (σ0 34) n q - s ≤ 4 then 268 else 270)) := by
    intro q hq hs hst
    have e : digE (σ0 34) n q = q := runE_here hst
    rw [e]
    unfold f_X4_stepNumber_68
    rw [up_s, upd_s, up_n (show (37 : Nat) ≠ 36 by decide), up_n (show (37 : Nat) ≠ 39 by decide), h37, nI_sub hs]
    by_cases h4 : q - s ≤ 4
    · rw [if_neg (by rw [show (4 : Int32) = nI 4 from rfl, nI_ltI (by omega) (by omega)]; omega), if_pos h4]
    · rw [if_pos (by rw [show (4 : Int32) = nI 4 from rfl, nI_ltI (by omega) (by omega)]; omega), if_neg h4]
  induction d with
  | zero =>
    intro q f hq hf hs
    obtain ⟨f, rfl⟩ : ∃ g, f = g + 1 := ⟨f - 1, by omega⟩
    rw [f_X4_stepNumber_5]
    have e35 : (up (up σ0 39 0 (litv (σ0 34) s (q - s))) 36 0 (nI q)) 35 0 = nI n := by rw [up_n (by decide), up_n (by decide)]; exact h35
    have e36 : (up (up σ0 39 0 (litv (σ0 34) s (q - s))) 36 0 (nI q)) 36 0 = nI q := by rw [up_s, upd_s]
    rw [e35, e36, if_pos (by rw [nI_leI (by omega) (by omega)]; omega)]
    exact fin q (by omega) hs (by omega)
  | succ d ih =>
    intro q f hq hf hs
    obtain ⟨f, rfl⟩ : ∃ g, f = g + 1 := ⟨f - 1, by omega⟩
    rw [f_X4_stepNumber_5]
    have e35 : (up (up σ0 39 0 (litv (σ0 34) s (q - s))) 36 0 (nI q)) 35 0 = nI n := by rw [up_n (by decide), up_n (by decide)]; exact h35
    have e36 : (up (up σ0 39 0 (litv (σ0 34) s (q - s))) 36 0 (nI q)) 36 0 = nI q := by rw [up_s, upd_s]
    have e34 : (up (up σ0 39 0 (litv (σ0 34) s (q - s))) 36 0 (nI q)) 34 = σ0 34 := by rw [up_n (by decide), up_n (by decide)]
    have e39 : (up (up σ0 39 0 (litv (σ0 34) s (q - s))) 36 0 (nI q)) 39 0 = litv (σ0 34) s (q - s) := by rw [up_n (by decide), up_s, upd_s]
    rw [e35, e36, if_neg (by rw [nI_leI (by omega) (by omega)]; omega), if_pos (okI_nI (by omega) (by omega)), nI_tn (by omega), e34, fe_isDig, Option.bind_some]
    by_cases hc : isDig (σ0 34 q)
    · simp only [if_pos hc]
      rw [if_neg (by decide), e36, if_pos (okI_nI (by omega) (by omega)), nI_tn (by omega), e34, e39, Option.bind_some, up_n (show (36 : Nat) ≠ 39 by decide), e36, nI_1]
      have e : digE (σ0 34) n q = digE (σ0 34) n (q + 1) := runE_next (by omega) ⟨by omega, hc⟩
      have es : up (up (up (up σ0 39 0 (litv (σ0 34) s (q - s))) 36 0 (nI q)) 39 0 (litv (σ0 34) s (q - s) * 10 + σ0 34 q - 48)) 36 0 (nI (q + 1)) = up (up σ0 39 0 (litv (σ0 34) s (q + 1 - s))) 36 0 (nI (q + 1)) := by
        rw [up_comm (id := 36) (jd := 39) (by decide), up_up, up_up]
        have : litv (σ0 34) s (q + 1 - s) = litv (σ0 34) s (q - s) * 10 + σ0 34 q - 48 := by
          rw [show q + 1 - s = (q - s) + 1 by omega]
          unfold litv
          rw [show s + (q - s) = q by omega]
          cases h : q - s <;> rfl
        rw [this]
      rw [es, e]
      exact ih (q + 1) f (by omega) (by omega) (by omega)
    · simp only [if_neg hc]
      rw [if_pos trivial]
      exact fin q (by omega) hs (fun h => hc h.2)
theorem fe_skip {n : Nat} {σ0 : Sg} (h35 : σ0 35 0 = nI n) (hn : n ≤ 160) : ∀ (d q f : Nat), q + d = n → d < f → f_X4_step_0 f (up σ0 36 0 (nI q)) = f_X4_step_52 (up σ0 36 0 (nI (sk (σ0 34) n q))) := by
  intro d
  induction d with
  | zero =>
    intro q f hq hf
    obtain ⟨f, rfl⟩ : ∃ g, f = g + 1 := ⟨f - 1, by omega⟩
    have e : sk (σ0 34) n q = q := runE_here (by omega)
    rw [f_X4_step_0, up_n (show (35 : Nat) ≠ 36 by decide), h35, up_s, upd_s, if_pos (by rw [nI_leI (by omega) (by omega)]; omega), e]
  | succ d ih =>
    intro q f hq hf
    obtain ⟨f, rfl⟩ : ∃ g, f = g + 1 := ⟨f - 1, by omega⟩
    rw [f_X4_step_0, up_n (show (35 : Nat) ≠ 36 by decide), h35, up_s, upd_s, if_neg (by rw [nI_leI (by omega) (by omega)]; omega), if_pos (okI_nI (by omega) (by omega)), if_pos (okI_nI (by omega) (by omega)), nI_tn (by omega), up_n (show (34 : Nat) ≠ 36 by decide)]
    have go : isBl (σ0 34 q) → f_X4_step_39 (f_X4_step_0 f) (up σ0 36 0 (nI q)) = f_X4_step_52 (up σ0 36 0 (nI (sk (σ0 34) n q))) := by
      intro hb
      have e : sk (σ0 34) n q = sk (σ0 34) n (q + 1) := runE_next (by omega) ⟨by omega, hb⟩
      unfold f_X4_step_39
      rw [up_s, upd_s, nI_1, up_up, e]
      exact ih (q + 1) f (by omega) (by omega)
    by_cases h1 : σ0 34 q = 32
    · rw [if_pos h1]; exact go (Or.inl h1)
    · rw [if_neg h1]
      by_cases h2 : σ0 34 q = 10
      · rw [if_pos h2]; exact go (Or.inr h2)
      · rw [if_neg h2]
        have e : sk (σ0 34) n q = q := runE_here (fun h => h.2.elim h1 h2)
        rw [e]
/-- the signs -/
def ixF (y : Int32) : Nat → Nat → Int32
  | _, 0 => -1
  | j, d + 1 => if (sByt.getD 13 []).getD j 0 = y then nI j else ixF y (j + 1) d
theorem ix_sg : ∀ a, a < 256 → ((nI a).toUInt32 % 65536).toInt32 = nI a ∧ (ixF (nI a).toInt8.toInt32 0 8 < 0 ↔ ¬ isSg (nI a)) := by decide +kernel
theorem fe_ix_loop (x : Int32) (σ : Sg) (y : Int32) : ∀ (d j f : Nat), j + d = 8 → d < f → f_J1_indexOfChar_4cfef_7 13 x (0 : Int32) (8 : Int32) f y (nI j) σ = some (ixF y j d, σ) := by
  intro d
  induction d with
  | zero =>
    intro j f hj hf
    obtain ⟨f, rfl⟩ : ∃ g, f = g + 1 := ⟨f - 1, by omega⟩
    have e : j = 8 := by omega
    subst e
    rw [f_J1_indexOfChar_4cfef_7, if_pos (by decide), if_pos (by decide)]
    rfl
  | succ d ih =>
    intro j f hj hf
    obtain ⟨f, rfl⟩ : ∃ g, f = g + 1 := ⟨f - 1, by omega⟩
    rw [f_J1_indexOfChar_4cfef_7, if_pos (by decide), if_neg (by rw [show (8 : Int32) = nI 8 from rfl, nI_leI (by omega) (by omega)]; omega), if_pos (okI_nI (show j < sLen.getD 13 0 from by show j < 8; omega) (by decide)), nI_tn (by omega), nI_1]
    unfold ixF
    split
    · rfl
    · exact ih (j + 1) f (by omega) (by omega)
theorem fe_indexOf {a : Nat} (ha : a < 256) (σ : Sg) : f_J0_indexOf_0f7a4 13 (nI a) σ = some (ixF (nI a).toInt8.toInt32 0 8, σ) := by
  have h1 : f_J1_canEncode_9a6ad (nI a) σ = some (1, σ) := by
    unfold f_J1_canEncode_9a6ad
    rw [if_neg (nI_pos (by omega)), if_neg (by rw [show (255 : Int32) = nI 255 from rfl, nI_ltI (by omega) (by omega)]; omega)]
  have h2 : f_J1_indexOfChar_4cfef 13 (nI a) (0 : Int32) (8 : Int32) σ = some (ixF (nI a).toInt8.toInt32 0 8, σ) := by
    unfold f_J1_indexOfChar_4cfef
    rw [if_pos (by decide)]
    exact fe_ix_loop (nI a) σ (nI a).toInt8.toInt32 8 0 5000 (by omega) (by omega)
  have h3 : f_J1_indexOf_4cfef 13 (nI a) (0 : Int32) (8 : Int32) σ = some (ixF (nI a).toInt8.toInt32 0 8, σ) := by
    unfold f_J1_indexOf_4cfef
    rw [if_pos (by decide), h1, Option.bind_some]
    simp only []
    rw [if_neg (by decide), Option.bind_some]
    have e8 : (if Int32.ofNat (sLen.getD 13 0) < (8 : Int32) then Int32.ofNat (sLen.getD 13 0) else 8) = 8 := by decide +kernel
    have e0 : (if (0 : Int32) < (0 : Int32) then (0 : Int32) else 0) = 0 := by decide +kernel
    rw [e8, e0, if_pos (by decide), h2, Option.bind_some]
  unfold f_J0_indexOf_0f7a4 f_J0_indexOf_7cf53 f_J0_isLatin1_aae02
  rw [if_pos (by decide), if_pos (by decide), if_pos (by decide), if_neg (by decide), if_pos rfl, Option.bind_some]
  simp only []
  rw [if_neg (by decide), fe_len (by decide), Option.bind_some]
  simp only []
  rw [show nI (sLen.getD 13 0) = (8 : Int32) by decide +kernel, h3, Option.bind_some, Option.bind_some]
/-- what step does -/
def StJ (σ σ' : Sg) (n p : Nat) : Prop := (∀ a, a ≠ 36 → a ≠ 37 → a ≠ 38 → a ≠ 39 → σ' a = σ a) ∧ σ' 36 0 = nI (tE (σ 34) n p) ∧ σ' 37 0 = nI (tS (σ 34) n p) ∧ σ' 38 0 = tK (σ 34) n p ∧ (tK (σ 34) n p = 268 → σ' 39 0 = tL (σ 34) n p)
theorem wTok_ne {b : Nat → Int32} {s e : Nat} : ∀ k, k ≤ 12 → ¬ wTok b s e k = 268
  | 0, _ => by unfold wTok; decide
  | k + 1, h => by
    unfold wTok
    split
    · rw [show (268 : Int32) = nI 268 from rfl, nI_eq (by omega) (by omega)]; omega
    · exact wTok_ne k (by omega)
theorem fe_step {σ : Sg} {n p : Nat} (h35 : σ 35 0 = nI n) (hn : n ≤ 160) (h36 : σ 36 0 = nI p) (hp : p ≤ n) (hb : Byt (σ 34) n) : ∃ σ', f_X4_step σ = some σ' ∧ StJ σ σ' n p := by
  unfold f_X4_step
  have e0 : σ = up σ 36 0 (nI p) := by rw [← h36, up_self]
  have hsk := fe_skip (σ0 := σ) h35 hn (n - p) p 5000 (by omega) (by omega)
  rw [← e0] at hsk
  rw [hsk]
  have hs1 : p ≤ tS (σ 34) n p := tS_ge
  have hs2 : tS (σ 34) n p ≤ n := tS_le hp
  show ∃ σ', f_X4_step_52 (up σ 36 0 (nI (tS (σ 34) n p))) = some σ' ∧ StJ σ σ' n p
  generalize hs : tS (σ 34) n p = s at hs1 hs2 ⊢
  unfold f_X4_step_52
  have eτ : up (up σ 36 0 (nI s)) 37 0 ((up σ 36 0 (nI s)) 36 0) = up (up σ 37 0 (nI s)) 36 0 (nI s) := by
    rw [up_s, upd_s, up_comm (by decide)]
  rw [eτ]
  have k36 : (up (up σ 37 0 (nI s)) 36 0 (nI s)) 36 0 = nI s := by rw [up_s, upd_s]
  have k35 : (up (up σ 37 0 (nI s)) 36 0 (nI s)) 35 0 = nI n := by rw [up_n (by decide), up_n (by decide)]; exact h35
  have k34 : (up (up σ 37 0 (nI s)) 36 0 (nI s)) 34 = σ 34 := by rw [up_n (by decide), up_n (by decide)]
  rw [k36, k35]
  have j37 : ∀ a, a ≠ 36 → a ≠ 37 → a ≠ 38 → a ≠ 39 → (up σ 37 0 (nI s)) a = σ a := fun a _ a2 _ _ => up_n a2
  by_cases hend : n ≤ s
  · rw [if_neg (by rw [nI_ltI (by omega) (by omega)]; omega)]
    refine ⟨_, rfl, ?_⟩
    have t1 : tE (σ 34) n p = s := by unfold tE; rw [hs, if_pos hend]
    have t2 : tK (σ 34) n p = 269 := by unfold tK; rw [hs, if_pos hend]
    refine ⟨fun a a1 a2 a3 a4 => by rw [up_n a3, up_n a1]; exact j37 a a1 a2 a3 a4, ?_, ?_, ?_, ?_⟩
    · rw [up_n (by decide), k36, t1]
    · rw [up_n (by decide), up_n (by decide), up_s, upd_s, hs]
    · rw [up_s, upd_s, t2]
    · rw [t2]; intro h; exact absurd h (by decide)
  · rw [if_pos (by rw [nI_ltI (by omega) (by omega)]; omega), if_pos (okI_nI (by omega) (by omega)), nI_tn (by omega), k34, fe_isLet, Option.bind_some]
    have hlt : s < n := by omega
    by_cases hl : isLet (σ 34 s)
    · simp only [if_pos hl]
      rw [if_neg (by decide)]
      have t1 : tE (σ 34) n p = letE (σ 34) n s := by unfold tE; rw [hs, if_neg hend, if_pos hl]
      have t2 : tK (σ 34) n p = wTok (σ 34) s (letE (σ 34) n s) 12 := by unfold tK; rw [hs, if_neg hend, if_pos hl]
      have q := fe_letters (σ0 := up σ 37 0 (nI s)) (n := n) (by rw [up_n (by decide)]; exact h35) hn (s := s) (by rw [up_s, upd_s]) (n - s) s 5000 (by omega) (by omega) (Nat.le_refl s)
      rw [up_n (show (34 : Nat) ≠ 37 by decide)] at q
      unfold f_X4_stepWord
      rw [q, Option.bind_some]
      refine ⟨_, rfl, fun a a1 a2 a3 a4 => by rw [up_n a3, up_n a1]; exact j37 a a1 a2 a3 a4, ?_, ?_, ?_, ?_⟩
      · rw [up_n (by decide), up_s, upd_s, t1]
      · rw [up_n (by decide), up_n (by decide), up_s, upd_s, hs]
      · rw [up_s, upd_s, t2]
      · rw [t2]; intro h; exact absurd h (wTok_ne 12 (by omega))
    · simp only [if_neg hl]
      rw [if_pos trivial, k36, if_pos (okI_nI (by omega) (by omega)), nI_tn (by omega), k34, fe_isDig, Option.bind_some]
      by_cases hd : isDig (σ 34 s)
      · simp only [if_pos hd]
        rw [if_neg (by decide)]
        have t1 : tE (σ 34) n p = digE (σ 34) n s := by unfold tE; rw [hs, if_neg hend, if_neg hl, if_pos hd]
        have t2 : tK (σ 34) n p = if digE (σ 34) n s - s ≤ 4 then 268 else 270 := by unfold tK; rw [hs, if_neg hend, if_neg hl, if_pos hd]
        have q := fe_digits (σ0 := up σ 37 0 (nI s)) (n := n) (by rw [up_n (by decide)]; exact h35) hn (s := s) (by rw [up_s, upd_s]) (n - s) s 5000 (by omega) (by omega) (Nat.le_refl s)
        rw [up_n (show (34 : Nat) ≠ 37 by decide), Nat.sub_self] at q
        unfold f_X4_stepNumber
        rw [up_comm (id := 36) (jd := 39) (by decide)]
        have q : f_X4_stepNumber_5 5000 (up (up (up σ 37 0 (nI s)) 39 0 (0 : Int32)) 36 0 (nI s)) = _ := q
        rw [q, Option.bind_some]
        refine ⟨_, rfl, fun a a1 a2 a3 a4 => by rw [up_n a3, up_n a1, up_n a4]; exact j37 a a1 a2 a3 a4, ?_, ?_, ?_, ?_⟩
        · rw [up_n (by decide), up_s, upd_s, t1]
        · rw [up_n (by decide), up_n (by decide), up_n (by decide), up_s, upd_s, hs]
        · rw [up_s, upd_s, t2]
        · intro _
          rw [up_n (by decide), up_n (by decide), up_s, upd_s]
          unfold tL
          rw [hs]
      · simp only [if_neg hd]
        rw [if_pos trivial, k36, if_pos (okI_nI (by omega) (by omega)), nI_tn (by omega), k34]
        obtain ⟨a, ha, hba⟩ := hb s hlt
        obtain ⟨x1, x2⟩ := ix_sg a ha
        rw [hba, x1, fe_indexOf ha, Option.bind_some]
        simp only []
        have t1 : tE (σ 34) n p = s + 1 := by unfold tE; rw [hs, if_neg hend, if_neg hl, if_neg hd]
        have t2 : tK (σ 34) n p = if isSg (nI a) then nI a else 270 := by unfold tK; rw [hs, if_neg hend, if_neg hl, if_neg hd, hba]
        have hfin : ∀ z : Int32, z = tK (σ 34) n p → ¬ z = 268 → ∃ σ', f_X4_step_159 z (up (up σ 37 0 (nI s)) 36 0 (nI s)) = some σ' ∧ StJ σ σ' n p := by
          intro z hz hz2
          unfold f_X4_step_159
          refine ⟨_, rfl, fun a a1 a2 a3 a4 => by rw [up_n a1, up_n a3, up_n a1]; exact j37 a a1 a2 a3 a4, ?_, ?_, ?_, ?_⟩
          · rw [up_s, upd_s, up_n (show (36 : Nat) ≠ 38 by decide), k36, t1, nI_1]
          · rw [up_n (by decide), up_n (by decide), up_n (by decide), up_s, upd_s, hs]
          · rw [up_n (by decide), up_s, upd_s, hz]
          · rw [← hz]; intro h; exact absurd h hz2
        by_cases hsg : isSg (nI a)
        · rw [if_neg (fun h => x2.mp h hsg), k36, if_pos (okI_nI (by omega) (by omega)), nI_tn (by omega), k34, hba]
          refine hfin (nI a) (by rw [t2, if_pos hsg]) ?_
          rw [show (268 : Int32) = nI 268 from rfl, nI_eq (by omega) (by omega)]
          omega
        · rw [if_pos (x2.mpr hsg)]
          exact hfin 270 (by rw [t2, if_neg hsg]) (by decide)
