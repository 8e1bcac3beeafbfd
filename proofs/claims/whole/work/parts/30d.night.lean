/-! A night: what goes from whom into which cup; the words, and that the class says so -/
theorem i32_sub {a b : Int32} (h1 : -2147483648 ≤ a.toInt - b.toInt) (h2 : a.toInt - b.toInt ≤ 2147483647) : (a - b).toInt = a.toInt - b.toInt := by
  rw [Int32.toInt_sub]
  exact Int.bmod_eq_of_le (by omega) (by omega)
theorem i32_add {a b : Int32} (h1 : -2147483648 ≤ a.toInt + b.toInt) (h2 : a.toInt + b.toInt ≤ 2147483647) : (a + b).toInt = a.toInt + b.toInt := by
  rw [Int32.toInt_add]
  exact Int.bmod_eq_of_le (by omega) (by omega)
/-- from 0 to 99 -/
def R99 (x : Int32) : Prop := 0 ≤ x.toInt ∧ x.toInt ≤ 99
theorem R99_clI (v : Int32) : R99 (clI v 0 99) := by
  have h := clI_rng (v := v) (lo := 0) (hi := 99) (by decide)
  rw [i32_le, i32_le] at h
  exact h
theorem R99_0 : R99 0 := ⟨by decide, by decide⟩
/-- what goes into a cup, s telling whether it is suited -/
def gv (left want hold s : Int32) : Int32 := if s = 0 then 0 else clI (want - hold) 0 left
theorem gv_rng {left want hold s : Int32} (h1 : R99 left) (h2 : R99 want) (h3 : R99 hold) (h4 : hold.toInt ≤ want.toInt) : 0 ≤ (gv left want hold s).toInt ∧ (gv left want hold s).toInt ≤ left.toInt ∧ (gv left want hold s).toInt ≤ want.toInt - hold.toInt := by
  unfold R99 at *
  have e := i32_sub (a := want) (b := hold) (by omega) (by omega)
  have e0 : (0 : Int32).toInt = 0 := rfl
  unfold gv
  split
  · rw [e0]; omega
  · unfold clI
    split
    · rename_i h; rw [i32_lt] at h; rw [e0] at *; omega
    · split
      · rename_i h h'; rw [i32_lt] at h h'; omega
      · rename_i h h'; rw [i32_lt] at h h'; rw [e] at *; rw [e0] at *; omega
def lf (y : Int32) (s want hold : Nat → Int32) : Nat → Int32
  | 0 => y
  | c + 1 => lf y s want hold c - gv (lf y s want hold c) (want c) (hold c) (s c)
def gg (y : Int32) (s want hold : Nat → Int32) (c : Nat) : Int32 := gv (lf y s want hold c) (want c) (hold c) (s c)
/-- what the cups want and hold can be -/
def Cups (want hold : Nat → Int32) : Prop := ∀ c, c < 6 → R99 (want c) ∧ R99 (hold c) ∧ (hold c).toInt ≤ (want c).toInt
theorem lf_rng {y : Int32} {s want hold : Nat → Int32} (hy : R99 y) (hc : Cups want hold) : ∀ c, c ≤ 6 → R99 (lf y s want hold c) ∧ (lf y s want hold c).toInt ≤ y.toInt
  | 0, _ => ⟨hy, Int.le_refl _⟩
  | c + 1, h => by
    obtain ⟨h1, h2⟩ := lf_rng (s := s) hy hc c (by omega)
    obtain ⟨q1, q2, q3⟩ := hc c (by omega)
    obtain ⟨g1, g2, g3⟩ := gv_rng (s := s c) h1 q1 q2 q3
    unfold R99 at *
    have e := i32_sub (a := lf y s want hold c) (b := gv (lf y s want hold c) (want c) (hold c) (s c)) (by omega) (by omega)
    unfold lf
    rw [e]
    omega
theorem gg_rng {y : Int32} {s want hold : Nat → Int32} (hy : R99 y) (hc : Cups want hold) {c : Nat} (h : c < 6) : 0 ≤ (gg y s want hold c).toInt ∧ (gg y s want hold c).toInt ≤ 99 ∧ (hold c + gg y s want hold c).toInt = (hold c).toInt + (gg y s want hold c).toInt ∧ (hold c + gg y s want hold c).toInt ≤ (want c).toInt := by
  obtain ⟨h1, h2⟩ := lf_rng (s := s) hy hc c (by omega)
  obtain ⟨q1, q2, q3⟩ := hc c h
  obtain ⟨g1, g2, g3⟩ := gv_rng (s := s c) h1 q1 q2 q3
  unfold gg
  unfold R99 at *
  have e := i32_add (a := hold c) (b := gv (lf y s want hold c) (want c) (hold c) (s c)) (by omega) (by omega)
  rw [e]
  omega
/-- the class's way to it -/
theorem gv_class {left want hold : Int32} (h1 : R99 left) (h2 : R99 want) (h3 : R99 hold) (h4 : hold.toInt ≤ want.toInt) (h : (if want - hold < left then want - hold else left) ≤ 0) (s : Int32) : (if want - hold < left then want - hold else left) = gv left want hold s := by
  unfold R99 at *
  have e := i32_sub (a := want) (b := hold) (by omega) (by omega)
  have e0 : (0 : Int32).toInt = 0 := rfl
  have g := gv_rng (s := s) h1 h2 h3 h4
  rw [i32_eq]
  rw [i32_le, e0] at h
  by_cases q : want - hold < left
  · simp only [if_pos q] at h ⊢
    rw [i32_lt] at q; omega
  · simp only [if_neg q] at h ⊢
    rw [i32_lt] at q; omega
theorem gv_class2 {left want hold : Int32} (h1 : R99 left) (h2 : R99 want) (h3 : R99 hold) (h4 : hold.toInt ≤ want.toInt) (s : Int32) (hs : ¬ s = 0) : (if want - hold < left then want - hold else left) = gv left want hold s := by
  unfold R99 at *
  have e := i32_sub (a := want) (b := hold) (by omega) (by omega)
  have e0 : (0 : Int32).toInt = 0 := rfl
  unfold gv clI
  rw [if_neg hs, i32_eq]
  by_cases q : want - hold < left
  · rw [if_pos q]
    rw [i32_lt] at q
    repeat' split
    all_goals (try simp only [i32_lt] at *)
    all_goals (try omega)
  · rw [if_neg q]
    rw [i32_lt] at q
    repeat' split
    all_goals (try simp only [i32_lt] at *)
    all_goals (try omega)
/-- whom one suits, in a house -/
def sC (σ : Sg) (i : Nat) (T : Nat → List Int32) (p c : Nat) : Int32 := sS T (σ (11 * i + 4) p) (σ (11 * i + 5) p) (σ (11 * i + 6) p) (σ (11 * i + 7) p) (σ (11 * i) 0) (σ (11 * i + 1) 0) (nI c) (σ (11 * i + 9) c)
def yC (σ : Sg) (i : Nat) (T : Nat → List Int32) (p : Nat) : Int32 := sY T (σ (11 * i + 4) p) (σ (11 * i + 5) p) (σ (11 * i + 6) p) (σ (11 * i + 7) p) (σ (11 * i) 0) (σ (11 * i + 1) 0)
def eC (σ : Sg) (i : Nat) (T : Nat → List Int32) (p : Nat) : Int32 := sE T (σ (11 * i + 4) p) (σ (11 * i + 5) p) (σ (11 * i + 6) p) (σ (11 * i + 7) p) (σ (11 * i) 0) (σ (11 * i + 1) 0)
theorem sY_rng (T : Nat → List Int32) (kd nb tr nw night hour : Int32) : R99 (sY T kd nb tr nw night hour) := by
  unfold sY
  split
  · exact R99_0
  · exact R99_clI _
/-- the loop over the cups: what has become of the state -/
def PoJ (σ0 σ : Sg) (i p : Nat) (g : Nat → Int32) (c : Nat) : Prop := (∀ a, a ≠ 42 → a ≠ 11 * i + 10 → a ≠ 64 + p → σ a = σ0 a) ∧ (∀ c', σ (11 * i + 10) c' = if c' < c then σ0 (11 * i + 10) c' + g c' else σ0 (11 * i + 10) c') ∧ ∀ c', c' < c → σ (64 + p) c' = g c'
theorem PoJ.house {σ0 σ : Sg} {i p n r c : Nat} {g : Nat → Int32} (hJ : PoJ σ0 σ i p g c) (h : HsC σ0 i n r) : HsC σ i n r := h.keep (hJ.1 _ (by have := h.1; omega) (by omega) (by have := h.1; omega)) (hJ.1 _ (by have := h.1; omega) (by omega) (by have := h.1; omega))
theorem PoJ.law {σ0 σ : Sg} {i p m c : Nat} {Ts : Nat → Nat → List Int32} {g : Nat → Int32} (hi : i < 3) (hJ : PoJ σ0 σ i p g c) (h : LawC σ0 m Ts) : LawC σ m Ts := h.keep (fun a h1 h2 h3 => hJ.1 a h3 (by omega) (by omega))
theorem PoJ_sC {σ0 σ : Sg} {i p c : Nat} {g : Nat → Int32} (hi : i < 3) (hJ : PoJ σ0 σ i p g c) (T : Nat → List Int32) (q d : Nat) : sC σ i T q d = sC σ0 i T q d := by
  unfold sC
  rw [hJ.1 (11 * i + 4) (by omega) (by omega) (by omega), hJ.1 (11 * i + 5) (by omega) (by omega) (by omega), hJ.1 (11 * i + 6) (by omega) (by omega) (by omega), hJ.1 (11 * i + 7) (by omega) (by omega) (by omega), hJ.1 (11 * i) (by omega) (by omega) (by omega), hJ.1 (11 * i + 1) (by omega) (by omega) (by omega), hJ.1 (11 * i + 9) (by omega) (by omega) (by omega)]

theorem fe_pourOf_loop {σ0 : Sg} {i n r m p : Nat} {Ts : Nat → Nat → List Int32} (h : HsC σ0 i n r) (hL : LawC σ0 m Ts) (hr : r < m) (hp : p < n) {y yy : Int32} (hy : R99 y) (hc : Cups (σ0 (11 * i + 8)) (σ0 (11 * i + 10))) :
    ∀ (d c k : Nat) (σ : Sg), c + d = 6 → d < k → PoJ σ0 σ i p (gg y (sC σ0 i (Ts r) p) (σ0 (11 * i + 8)) (σ0 (11 * i + 10))) c →
      ∃ σ', f_X3_pourOf_15 i (nI p) k yy (lf y (sC σ0 i (Ts r) p) (σ0 (11 * i + 8)) (σ0 (11 * i + 10)) c) (nI c) σ = some (yy - lf y (sC σ0 i (Ts r) p) (σ0 (11 * i + 8)) (σ0 (11 * i + 10)) 6, σ') ∧ PoJ σ0 σ' i p (gg y (sC σ0 i (Ts r) p) (σ0 (11 * i + 8)) (σ0 (11 * i + 10))) 6 := by
  have hi := h.1
  have hn := h.2.2.1
  intro d
  induction d with
  | zero =>
    intro c k σ hcd hk hJ
    obtain ⟨k, rfl⟩ : ∃ q, k = q + 1 := ⟨k - 1, by omega⟩
    have hc6 : c = 6 := by omega
    subst hc6
    refine ⟨σ, ?_, hJ⟩
    rw [f_X3_pourOf_15, if_pos hi, if_pos (by decide)]
  | succ d ih =>
    intro c k σ hcd hk hJ
    obtain ⟨k, rfl⟩ : ∃ q, k = q + 1 := ⟨k - 1, by omega⟩
    have ho : okI (nI c) 6 := okI_nI (by omega) (by omega)
    have hop : okI (nI p) 5 := okI_nI (by omega) (by omega)
    have tc : (nI c).toNatClampNeg = c := nI_tn (by omega)
    have tp : (nI p).toNatClampNeg = p := nI_tn (by omega)
    have w8 : σ (11 * i + 8) = σ0 (11 * i + 8) := hJ.1 _ (by omega) (by omega) (by omega)
    have w10 : σ (11 * i + 10) c = σ0 (11 * i + 10) c := by rw [hJ.2.1 c, if_neg (by omega)]
    obtain ⟨q1, q2, q3⟩ := hc c (by omega)
    obtain ⟨l1, l2⟩ := lf_rng (s := sC σ0 i (Ts r) p) hy hc c (by omega)
    rw [f_X3_pourOf_15, if_pos hi, if_neg (by rw [show (6 : Int32) = nI 6 from rfl, nI_leI (by omega) (by omega)]; omega), if_pos ho, if_pos ho, Option.bind_some]
    simp only [tc, w8, w10]
    have step : ∀ (τ : Sg) (v : Int32), PoJ σ0 τ i p (gg y (sC σ0 i (Ts r) p) (σ0 (11 * i + 8)) (σ0 (11 * i + 10))) c → v = gg y (sC σ0 i (Ts r) p) (σ0 (11 * i + 8)) (σ0 (11 * i + 10)) c →
        ∃ σ', f_X3_pourOf_63 (f_X3_pourOf_15 i (nI p) k) i (nI p) yy (lf y (sC σ0 i (Ts r) p) (σ0 (11 * i + 8)) (σ0 (11 * i + 10)) c) (nI c) v τ = some (yy - lf y (sC σ0 i (Ts r) p) (σ0 (11 * i + 8)) (σ0 (11 * i + 10)) 6, σ') ∧ PoJ σ0 σ' i p (gg y (sC σ0 i (Ts r) p) (σ0 (11 * i + 8)) (σ0 (11 * i + 10))) 6 := by
      intro τ v hτ hv
      unfold f_X3_pourOf_63
      rw [if_pos hi, if_pos hop, if_pos ho, if_pos ho, if_pos ho, Option.bind_some]
      simp only [tc, tp]
      have hne : 11 * i + 10 ≠ 64 + p := by omega
      rw [nI_1]
      have e1 : lf y (sC σ0 i (Ts r) p) (σ0 (11 * i + 8)) (σ0 (11 * i + 10)) c - v = lf y (sC σ0 i (Ts r) p) (σ0 (11 * i + 8)) (σ0 (11 * i + 10)) (c + 1) := by rw [hv]; rfl
      rw [e1]
      refine ih (c + 1) k _ (by omega) (by omega) ⟨?_, ?_, ?_⟩
      · intro a h1 h2 h3
        rw [up_n h2, up_n h3]
        exact hτ.1 a h1 h2 h3
      · intro c'
        rw [up_s, up_n hne]
        by_cases hcc : c' = c
        · subst hcc
          rw [upd_s, if_pos (by omega), hτ.2.1 c', if_neg (by omega), hv]
        · rw [upd_n hcc, hτ.2.1 c']
          by_cases h2 : c' < c
          · rw [if_pos h2, if_pos (by omega)]
          · rw [if_neg h2, if_neg (by omega)]
      · intro c' hc'
        rw [up_n (Ne.symm hne), up_s]
        by_cases hcc : c' = c
        · subst hcc; rw [upd_s, hv]
        · rw [upd_n hcc]; exact hτ.2.2 c' (by omega)
    have hsuit : ∃ F, f_X2_suitsCup i (nI p) (nI c) σ = some (sC σ0 i (Ts r) p c, upA σ 42 F) := by
      obtain ⟨F, hF⟩ := fe_suits (hJ.house h) (hJ.law hi hL) hr hp (show c < 6 by omega)
      refine ⟨F, ?_⟩
      rw [hF]
      have := PoJ_sC hi hJ (Ts r) p c
      unfold sC at this
      rw [this]
      rfl
    have h42 : ∀ F, PoJ σ0 (upA σ 42 F) i p (gg y (sC σ0 i (Ts r) p) (σ0 (11 * i + 8)) (σ0 (11 * i + 10))) c := fun F => ⟨fun a h1 h2 h3 => by rw [upA_n h1]; exact hJ.1 a h1 h2 h3, fun c' => by rw [upA_n (by omega)]; exact hJ.2.1 c', fun c' hc' => by rw [upA_n (by omega)]; exact hJ.2.2 c' hc'⟩
    by_cases hle : (if σ0 (11 * i + 8) c - σ0 (11 * i + 10) c < lf y (sC σ0 i (Ts r) p) (σ0 (11 * i + 8)) (σ0 (11 * i + 10)) c then σ0 (11 * i + 8) c - σ0 (11 * i + 10) c else lf y (sC σ0 i (Ts r) p) (σ0 (11 * i + 8)) (σ0 (11 * i + 10)) c) ≤ 0
    · rw [if_pos hle]
      exact step σ _ hJ (gv_class l1 q1 q2 q3 hle _)
    · rw [if_neg hle]
      obtain ⟨F, hF⟩ := hsuit
      rw [hF, Option.bind_some]
      simp only []
      by_cases hs : sC σ0 i (Ts r) p c = 0
      · rw [if_pos hs]
        refine step _ _ (h42 F) ?_
        unfold gg gv
        rw [if_pos hs]
      · rw [if_neg hs]
        exact step _ _ (h42 F) (gv_class2 l1 q1 q2 q3 _ hs)
theorem fe_pourOf {σ0 : Sg} {i n r m p : Nat} {Ts : Nat → Nat → List Int32} (h : HsC σ0 i n r) (hL : LawC σ0 m Ts) (hr : r < m) (hp : p < n) (hc : Cups (σ0 (11 * i + 8)) (σ0 (11 * i + 10))) :
    ∃ σ', f_X3_pourOf i (nI p) σ0 = some (yC σ0 i (Ts r) p - lf (yC σ0 i (Ts r) p) (sC σ0 i (Ts r) p) (σ0 (11 * i + 8)) (σ0 (11 * i + 10)) 6, σ') ∧ PoJ σ0 σ' i p (gg (yC σ0 i (Ts r) p) (sC σ0 i (Ts r) p) (σ0 (11 * i + 8)) (σ0 (11 * i + 10))) 6 := by
  have hi := h.1
  unfold f_X3_pourOf
  obtain ⟨F, hF⟩ := fe_yield h hL hr hp
  rw [if_pos hi, hF, Option.bind_some]
  simp only []
  exact fe_pourOf_loop (y := yC σ0 i (Ts r) p) (yy := yC σ0 i (Ts r) p) h hL hr hp (sY_rng _ _ _ _ _ _ _) hc 6 0 5000 _ (by omega) (by omega) ⟨fun a h1 _ _ => upA_n h1, fun c' => by rw [upA_n (by omega), if_neg (by omega)], fun c' hc' => absurd hc' (by omega)⟩
