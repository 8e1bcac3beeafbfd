/-! A whole text -/
def pPart (b : Nat → Int32) (n : Nat) (key : Int32) (p : Nat) : PR := if tK b n p = key then (match pAny b n (prv b n 5) (tE b n p) with | .error e => .error e | .ok q => if tK b n q.2 = 59 then .ok (q.1, tE b n q.2) else .error (tS b n q.2)) else .error (tS b n p)
def pText (b : Nat → Int32) (n : Nat) : Except Nat (List Int32 × List Int32 × List Int32) := match pPart b n 256 0 with
  | .error e => .error e
  | .ok q0 => match pPart b n 257 q0.2 with
    | .error e => .error e
    | .ok q1 => match pPart b n 258 q1.2 with
      | .error e => .error e
      | .ok q2 => if tK b n q2.2 = 269 then .ok (q0.1, q1.1, q2.1) else .error (tS b n q2.2)
/-- readPart: the code comes behind, the part's end is kept -/
theorem fe_readPart {σ : Sg} {b : Nat → Int32} {n p t pt : Nat} {c : List Int32} {key : Int32} (hk : ¬ key = 269) (hpt : pt < 3) (hP : PosC σ b n p) (hT : TxtC σ t c) (hc : c.length ≤ tS b n p) :
    match pPart b n key p with
    | .error f => ∃ σ', f_X4_readPart key (nI pt) σ = some (0, σ') ∧ (σ' 37 0 = nI f ∧ f ≤ n) ∧ FrR σ σ' t
    | .ok q => ∃ σ', f_X4_readPart key (nI pt) σ = some (1, σ') ∧ PosC σ' b n q.2 ∧ TxtC σ' t (c ++ q.1) ∧ (c ++ q.1).length ≤ tS b n q.2 ∧ (∀ a, a ≠ 36 → a ≠ 37 → a ≠ 38 → a ≠ 39 → a ≠ 43 + 3 * t → a ≠ 44 + 3 * t → a ≠ 45 + 3 * t → σ' a = σ a) ∧ σ' (45 + 3 * t) pt = nI (c ++ q.1).length ∧ ∀ j, j ≠ pt → σ' (45 + 3 * t) j = σ (45 + 3 * t) j := by
  have e8 : σ 38 0 = tK b n p := hP.2.2.2.2.2.2.2.1
  unfold f_X4_readPart
  rw [e8]
  by_cases h1 : tK b n p = key
  · have hne : ¬ tK b n p = 269 := by rw [h1]; exact hk
    obtain ⟨s1, s2⟩ := tS_tE hP.2.2.1 hne
    obtain ⟨σ1, a1, a2, a3, a4⟩ := stepC hP hT
    have h := c_readAny σ1 b n (tE b n p) t c 0 a2 a3 (by omega)
    rw [if_pos h1, a1, Option.bind_some]
    cases hS : pAny b n (prv b n 5) (tE b n p) with
    | error e =>
      obtain ⟨σ2, b1, b2, b3⟩ := h.e1 hS
      have hR : pPart b n key p = .error e := by unfold pPart; rw [if_pos h1, hS]
      rw [hR]
      refine ⟨σ2, ?_, b2, a4.tr b3⟩
      rw [b1, Option.bind_some]; rfl
    | ok q =>
      obtain ⟨σ2, b1, b2, b3, b4, b5, b6⟩ := h.e2 hS
      have e8' : σ2 38 0 = tK b n q.2 := b2.2.2.2.2.2.2.2.1
      rw [b1, Option.bind_some]
      simp only []
      rw [if_neg (by decide), e8']
      by_cases h59 : tK b n q.2 = 59
      · have hR : pPart b n key p = .ok (q.1, tE b n q.2) := by unfold pPart; rw [if_pos h1, hS]; simp only []; rw [if_pos h59]
        rw [hR, if_pos h59]
        obtain ⟨s3, s4⟩ := tS_tE b2.2.2.1 (show ¬ tK b n q.2 = 269 by rw [h59]; decide)
        obtain ⟨σ3, d1, d2, d3, d4⟩ := stepC b2 b3
        have ht := d3.2.1
        have hn := d2.2.2.1
        refine ⟨up σ3 (45 + 3 * t) pt (nI (c ++ q.1).length), ?_, ?_, ?_, by show (c ++ q.1).length ≤ tS b n (tE b n q.2); omega, ?_, ?_, ?_⟩
        · rw [d1, Option.bind_some, tTn d3, if_pos ht]
          unfold f_X6_endPart
          rw [if_pos ht, if_neg (nI_pos (by omega)), if_neg (by rw [show (3 : Int32) = nI 3 from rfl, nI_leI (by omega) (by omega)]; omega), if_pos (okI_nI hpt (by omega)), nI_tn (by omega), d3.2.2.1, Option.bind_some]
        · obtain ⟨z1, z2, z3, z4, z5, z6, z7, z8, z9⟩ := d2
          exact ⟨by rw [up_n (by omega)]; exact z1, by rw [up_n (by omega)]; exact z2, z3, z4, z5, by rw [up_n (by omega)]; exact z6, by rw [up_n (by omega)]; exact z7, by rw [up_n (by omega)]; exact z8, by rw [up_n (by omega)]; exact z9⟩
        · exact d3.keep (up_n (by omega)) (up_n (by omega)) (up_n (by omega))
        · intro a q1 q2 q3 q4 q5 q6 q7
          rw [up_n q7]
          exact (a4.tr (b5.tr d4)) a q1 q2 q3 q4 q5 q6
        · rw [up_s, upd_s]
        · intro j hj
          rw [up_s, upd_n hj]
          rw [(a4.tr (b5.tr d4)) (45 + 3 * t) (by omega) (by omega) (by omega) (by omega) (by omega) (by omega)]
      · have hR : pPart b n key p = .error (tS b n q.2) := by unfold pPart; rw [if_pos h1, hS]; simp only []; rw [if_neg h59]
        rw [hR, if_neg h59]
        exact ⟨σ2, rfl, ⟨b2.2.2.2.2.2.2.1, tS_le b2.2.2.2.1⟩, a4.tr b5⟩
  · have hR : pPart b n key p = .error (tS b n p) := by unfold pPart; rw [if_neg h1]
    rw [hR, if_neg h1]
    exact ⟨σ, rfl, ⟨hP.2.2.2.2.2.2.1, tS_le hP.2.2.2.1⟩, FrR.rf⟩
/-- what a reading leaves alone -/
def FrW (σ σ' : Sg) (t : Nat) : Prop := ∀ a, a ≠ 35 → a ≠ 36 → a ≠ 37 → a ≠ 38 → a ≠ 39 → a ≠ 40 → a ≠ 43 + 3 * t → a ≠ 44 + 3 * t → a ≠ 45 + 3 * t → σ' a = σ a
def tT (c0 c1 c2 : List Int32) : Nat → List Int32 := fun i => if i = 0 then c0 else if i = 1 then c1 else c2
/-- Reader.read -/
theorem fe_read {σ : Sg} {n t : Nat} (ht : t < 7) (h35 : σ 35 0 = nI n) (hn : n ≤ 160) (hb : Byt (σ 34) n) :
    match pText (σ 34) n with
    | .error f => ∃ σ', f_X4_read t σ = some (nI f, σ') ∧ σ' 35 0 = 0 ∧ FrW σ σ' t ∧ f ≤ 160
    | .ok q => ∃ σ', f_X4_read t σ = some (-1, σ') ∧ σ' 35 0 = 0 ∧ FrW σ σ' t ∧ offT (tT q.1 q.2.1 q.2.2) 3 ≤ 160 ∧ ∀ pt, pt < 3 → σ' (45 + 3 * t) pt = nI (offT (tT q.1 q.2.1 q.2.2) (pt + 1)) ∧ ∀ j, j < (tT q.1 q.2.1 q.2.2 pt).length → σ' (44 + 3 * t) (offT (tT q.1 q.2.1 q.2.2) pt + j) = (tT q.1 q.2.1 q.2.2 pt).getD j 0 := by
  generalize hB : σ 34 = b at hb ⊢
  unfold f_X4_read
  rw [if_pos ht, up_s, upd_s, nI_tn (show t < 2147483648 by omega), if_pos ht]
  unfold f_X6_clear
  rw [if_pos ht, Option.bind_some]
  generalize hσ1 : up (up (up σ 40 0 (nI t)) (43 + 3 * t) 0 (0 : Int32)) 36 0 (0 : Int32) = σ1
  have k1 : ∀ a, a ≠ 40 → a ≠ 43 + 3 * t → a ≠ 36 → σ1 a = σ a := fun a a1 a2 a3 => by rw [← hσ1, up_n a3, up_n a2, up_n a1]
  have k34 : σ1 34 = b := by rw [k1 34 (by decide) (by omega) (by decide)]; exact hB
  have k36 : σ1 36 0 = nI 0 := by rw [← hσ1, up_s, upd_s]; rfl
  obtain ⟨σ2, s1, s2, s3, s4, s5, s6⟩ := fe_step (σ := σ1) (n := n) (p := 0) (by rw [k1 35 (by decide) (by omega) (by decide)]; exact h35) hn k36 (by omega) (by rw [k34]; exact hb)
  rw [s1, Option.bind_some]
  rw [k34] at s3 s4 s5 s6
  have hP : PosC σ2 b n 0 := ⟨by rw [s2 34 (by decide) (by decide) (by decide) (by decide)]; exact k34, by rw [s2 35 (by decide) (by decide) (by decide) (by decide), k1 35 (by decide) (by omega) (by decide)]; exact h35, hn, by omega, hb, s3, s4, s5, s6⟩
  have hT : TxtC σ2 t [] := by
    refine ⟨?_, ht, ?_, fun j hj => absurd hj (by simp)⟩
    · rw [s2 40 (by decide) (by decide) (by decide) (by decide), ← hσ1, up_n (by decide), up_n (by omega), up_s, upd_s]
    · rw [s2 _ (by omega) (by omega) (by omega) (by omega), ← hσ1, up_n (by omega), up_s, upd_s]; rfl
  have hF2 : ∀ a, a ≠ 36 → a ≠ 37 → a ≠ 38 → a ≠ 39 → a ≠ 40 → a ≠ 43 + 3 * t → σ2 a = σ a := fun a a1 a2 a3 a4 a5 a6 => by rw [s2 a a1 a2 a3 a4, k1 a a5 a6 a1]
  have e69 : ∀ (τ : Sg) (z : Int32), f_X4_read_69 t z τ = some (if z = 0 then (up τ 35 0 0) 37 0 else -1, up τ 35 0 0) := by
    intro τ z
    unfold f_X4_read_69
    split <;> rfl
  have hbad : ∀ (τ : Sg) (f : Nat), τ 37 0 = nI f → (∀ a, a ≠ 36 → a ≠ 37 → a ≠ 38 → a ≠ 39 → a ≠ 40 → a ≠ 43 + 3 * t → a ≠ 44 + 3 * t → a ≠ 45 + 3 * t → τ a = σ a) → f ≤ 160 → ∃ σ', f_X4_read_69 t (0 : Int32) τ = some (nI f, σ') ∧ σ' 35 0 = 0 ∧ FrW σ σ' t ∧ f ≤ 160 := by
    intro τ f hf hfr hle
    refine ⟨up τ 35 0 0, ?_, by rw [up_s, upd_s], fun a a0 a1 a2 a3 a4 a5 a6 a7 a8 => by rw [up_n a0]; exact hfr a a1 a2 a3 a4 a5 a6 a7 a8, hle⟩
    rw [e69, if_pos rfl, up_n (by decide), hf]
  have R0 := fe_readPart (pt := 0) (key := 256) (by decide) (by omega) hP hT (by simp)
  have e0 : f_X4_readPart (256 : Int32) (nI 0) σ2 = f_X4_readPart (256 : Int32) (0 : Int32) σ2 := rfl
  unfold pText
  cases h0 : pPart b n 256 0 with
  | error f =>
    rw [h0] at R0
    obtain ⟨τ, r1, ⟨r2, r4⟩, r3⟩ := R0
    rw [e0] at r1
    rw [r1, Option.bind_some]
    exact hbad τ f r2 (fun a a1 a2 a3 a4 a5 a6 a7 _ => by rw [r3 a a1 a2 a3 a4 a6 a7]; exact hF2 a a1 a2 a3 a4 a5 a6) (by omega)
  | ok q0 =>
    rw [h0] at R0
    obtain ⟨τ0, r1, r2, r3, r4, r5, r6, r7⟩ := R0
    rw [e0] at r1
    rw [r1, Option.bind_some]
    simp only []
    rw [if_neg (by decide)]
    simp only [List.nil_append] at r3 r4 r6
    have F0 : ∀ a, a ≠ 36 → a ≠ 37 → a ≠ 38 → a ≠ 39 → a ≠ 40 → a ≠ 43 + 3 * t → a ≠ 44 + 3 * t → a ≠ 45 + 3 * t → τ0 a = σ a := fun a a1 a2 a3 a4 a5 a6 a7 a8 => by rw [r5 a a1 a2 a3 a4 a6 a7 a8]; exact hF2 a a1 a2 a3 a4 a5 a6
    have R1 := fe_readPart (pt := 1) (key := 257) (by decide) (by omega) r2 r3 r4
    have e1 : f_X4_readPart (257 : Int32) (nI 1) τ0 = f_X4_readPart (257 : Int32) (1 : Int32) τ0 := rfl
    cases h1 : pPart b n 257 q0.2 with
    | error f =>
      rw [h1] at R1
      obtain ⟨τ, u1, ⟨u2, u4⟩, u3⟩ := R1
      rw [e1] at u1
      rw [u1, Option.bind_some]
      exact hbad τ f u2 (fun a a1 a2 a3 a4 a5 a6 a7 a8 => by rw [u3 a a1 a2 a3 a4 a6 a7]; exact F0 a a1 a2 a3 a4 a5 a6 a7 a8) (by omega)
    | ok q1 =>
      rw [h1] at R1
      obtain ⟨τ1, u1, u2, u3, u4, u5, u6, u7⟩ := R1
      rw [e1] at u1
      rw [u1, Option.bind_some]
      simp only []
      rw [if_neg (by decide)]
      have F1 : ∀ a, a ≠ 36 → a ≠ 37 → a ≠ 38 → a ≠ 39 → a ≠ 40 → a ≠ 43 + 3 * t → a ≠ 44 + 3 * t → a ≠ 45 + 3 * t → τ1 a = σ a := fun a a1 a2 a3 a4 a5 a6 a7 a8 => by rw [u5 a a1 a2 a3 a4 a6 a7 a8]; exact F0 a a1 a2 a3 a4 a5 a6 a7 a8
      have R2 := fe_readPart (pt := 2) (key := 258) (by decide) (by omega) u2 u3 u4
      have e2 : f_X4_readPart (258 : Int32) (nI 2) τ1 = f_X4_readPart (258 : Int32) (2 : Int32) τ1 := rfl
      cases h2 : pPart b n 258 q1.2 with
      | error f =>
        rw [h2] at R2
        obtain ⟨τ, v1, ⟨v2, v4⟩, v3⟩ := R2
        rw [e2] at v1
        rw [v1, Option.bind_some]
        exact hbad τ f v2 (fun a a1 a2 a3 a4 a5 a6 a7 a8 => by rw [v3 a a1 a2 a3 a4 a6 a7]; exact F1 a a1 a2 a3 a4 a5 a6 a7 a8) (by omega)
      | ok q2 =>
        rw [h2] at R2
        obtain ⟨τ2, v1, v2, v3, v4, v5, v6, v7⟩ := R2
        rw [e2] at v1
        rw [v1, Option.bind_some]
        simp only []
        rw [if_neg (show ¬ (1 : Int32) = 0 by decide)]
        have F2 : ∀ a, a ≠ 36 → a ≠ 37 → a ≠ 38 → a ≠ 39 → a ≠ 40 → a ≠ 43 + 3 * t → a ≠ 44 + 3 * t → a ≠ 45 + 3 * t → τ2 a = σ a := fun a a1 a2 a3 a4 a5 a6 a7 a8 => by rw [v5 a a1 a2 a3 a4 a6 a7 a8]; exact F1 a a1 a2 a3 a4 a5 a6 a7 a8
        have e8 : τ2 38 0 = tK b n q2.2 := v2.2.2.2.2.2.2.2.1
        have hts : tS b n q2.2 ≤ n := tS_le v2.2.2.2.1
        rw [e8]
        by_cases h9 : tK b n q2.2 = 269
        · rw [if_pos h9, if_pos h9, e69, if_neg (by decide)]
          have hl : (q0.1 ++ q1.1 ++ q2.1).length ≤ 160 := by omega
          refine ⟨_, rfl, by rw [up_s, upd_s], fun a a0 a1 a2 a3 a4 a5 a6 a7 a8 => by rw [up_n a0]; exact F2 a a1 a2 a3 a4 a5 a6 a7 a8, ?_, ?_⟩
          · show 0 + q0.1.length + q1.1.length + q2.1.length ≤ 160
            simp at hl; omega
          · intro pt hpt
            rw [up_n (by omega), up_n (by omega)]
            have st := v3.2.2.2
            match pt, hpt with
            | 0, _ =>
              refine ⟨?_, fun j hj => ?_⟩
              · rw [v7 0 (by decide), u7 0 (by decide), r6]
                show nI q0.1.length = nI (0 + q0.1.length)
                rw [Nat.zero_add]
              · have hj : j < q0.1.length := hj
                show τ2 (44 + 3 * t) (0 + j) = q0.1.getD j 0
                rw [Nat.zero_add, st j (by simp; omega), List.getD_eq_getElem?_getD, List.getD_eq_getElem?_getD, List.append_assoc, List.getElem?_append_left hj]
            | 1, _ =>
              refine ⟨?_, fun j hj => ?_⟩
              · rw [v7 1 (by decide), u6]
                show nI (q0.1 ++ q1.1).length = nI (0 + q0.1.length + q1.1.length)
                rw [Nat.zero_add, List.length_append]
              · have hj : j < q1.1.length := hj
                show τ2 (44 + 3 * t) (0 + q0.1.length + j) = q1.1.getD j 0
                rw [Nat.zero_add, st _ (by simp; omega), List.getD_eq_getElem?_getD, List.getD_eq_getElem?_getD, List.append_assoc, List.getElem?_append_right (by omega), Nat.add_sub_cancel_left, List.getElem?_append_left hj]
            | 2, _ =>
              refine ⟨?_, fun j hj => ?_⟩
              · rw [v6]
                show nI (q0.1 ++ q1.1 ++ q2.1).length = nI (0 + q0.1.length + q1.1.length + q2.1.length)
                rw [Nat.zero_add, List.length_append, List.length_append]
              · have hj : j < q2.1.length := hj
                show τ2 (44 + 3 * t) (0 + q0.1.length + q1.1.length + j) = q2.1.getD j 0
                rw [Nat.zero_add, st _ (by simp; omega), List.getD_eq_getElem?_getD, List.getD_eq_getElem?_getD, List.getElem?_append_right (by simp), List.length_append, Nat.add_sub_cancel_left]
        · rw [if_neg h9, if_neg h9]
          exact hbad τ2 (tS b n q2.2) v2.2.2.2.2.2.2.1 F2 (by omega)
