/-! What one yields, suits, is eased by, in the reference -/
theorem clI_ti {v lo hi : Int32} : (clI v lo hi).toInt = if v.toInt < lo.toInt then lo.toInt else if hi.toInt < v.toInt then hi.toInt else v.toInt := by
  unfold clI
  by_cases h1 : v < lo
  · rw [if_pos h1, if_pos (i32_lt.mp h1)]
  · rw [if_neg h1, if_neg (fun h => h1 (i32_lt.mpr h))]
    by_cases h2 : hi < v
    · rw [if_pos h2, if_pos (i32_lt.mp h2)]
    · rw [if_neg h2, if_neg (fun h => h2 (i32_lt.mpr h))]
theorem clI_99 (z : Int32) : clI (clI z 0 99) 0 99 = clI z 0 99 := by
  have e0 : (0 : Int32).toInt = 0 := by decide
  have e9 : (99 : Int32).toInt = 99 := by decide
  rw [i32_eq]
  simp only [clI_ti, e0, e9]
  repeat' split
  all_goals omega
theorem clI_20 (z : Int32) : clI (clI (clI z 0 99) 0 20) 0 99 = clI (if z < 20 then z else 20) 0 99 := by
  have e0 : (0 : Int32).toInt = 0 := by decide
  have e9 : (99 : Int32).toInt = 99 := by decide
  have e2 : (20 : Int32).toInt = 20 := by decide
  by_cases h : z < 20
  · rw [if_pos h]
    rw [i32_lt, e2] at h
    rw [i32_eq]
    simp only [clI_ti, e0, e9, e2]
    repeat' split
    all_goals omega
  · rw [if_neg h]
    rw [i32_lt, e2] at h
    rw [i32_eq]
    simp only [clI_ti, e0, e9, e2]
    repeat' split
    all_goals omega
theorem par_two : ∀ x, x < 64 → ∀ y, y < 64 → ((nI (64 * x + y) - nI (64 * x + y) / 2 * 2 = 1) ↔ ¬ (nI (64 * x + y) - nI (64 * x + y) / 2 * 2 = 0)) := by decide +kernel
theorem par_all (a : Nat) (h : a < 4096) : ((nI a - nI a / 2 * 2 = 1) ↔ ¬ (nI a - nI a / 2 * 2 = 0)) := by
  have := par_two (a / 64) (by omega) (a % 64) (by omega)
  rw [show 64 * (a / 64) + a % 64 = a by omega] at this
  exact this
theorem par_of {v : Int32} (h : isN v 4096) : (v - v / 2 * 2 = 1) ↔ ¬ (v - v / 2 * 2 = 0) := by
  obtain ⟨a, a1, a2⟩ := h
  rw [a2]; exact par_all a a1
def yM (μ : Sm) (T : Nat → List Int32) (p : Nat) : Int32 := sY T (μ.1 9 p) (μ.1 10 (3 * p)) (μ.1 10 (3 * p + 1)) (μ.1 10 (3 * p + 2)) (μ.1 7 0) (μ.1 8 0)
def sM (μ : Sm) (T : Nat → List Int32) (p c : Nat) : Int32 := sS T (μ.1 9 p) (μ.1 10 (3 * p)) (μ.1 10 (3 * p + 1)) (μ.1 10 (3 * p + 2)) (μ.1 7 0) (μ.1 8 0) (nI c) (μ.1 11 (3 * c + 1))
def eM (μ : Sm) (T : Nat → List Int32) (p : Nat) : Int32 := sE T (μ.1 9 p) (μ.1 10 (3 * p)) (μ.1 10 (3 * p + 1)) (μ.1 10 (3 * p + 2)) (μ.1 7 0) (μ.1 8 0)
theorem isN_0 {B : Nat} (h : 0 < B) : isN 0 B := ⟨0, h, by decide⟩
theorem fm_yields {μ : Sm} {m n r p : Nat} {Ts : Nat → Nat → List Int32} (h : HoM μ m n r Ts) (hp : p < n) :
    ∃ μ', f_X9_yieldsOf (nI p) μ = some (yM μ (Ts r) p, μ') ∧ FrS μ μ' ∧ MemoI μ' m Ts := by
  have hn5 := h.rg.n5
  have i5 : okI (nI p) 5 := okI_nI (by omega) (by omega)
  have i0 : okI (nI (3 * p)) 15 := okI_nI (by omega) (by omega)
  have i1 : okI (nI (3 * p + 1)) 15 := okI_nI (by omega) (by omega)
  have i2 : okI (nI (3 * p + 2)) 15 := okI_nI (by omega) (by omega)
  unfold yM sY
  unfold f_X9_yieldsOf
  rw [ix3_1]
  simp only [nI_tn (show p < 2147483648 by omega), nI_tn (show 3 * p + 1 < 2147483648 by omega)]
  rw [if_pos i5, if_pos i1]
  by_cases ht : μ.1 10 (3 * p + 1) = 0
  · rw [if_pos ht, if_pos ht]
    exact ⟨μ, rfl, FrS.rf, h.me⟩
  · rw [if_neg ht, if_neg ht]
    obtain ⟨μ1, g1, g2, g3⟩ := fm_says (w := 0) h (by omega) hp (isN_0 (B := 16) (by omega))
    rw [if_neg (by omega)] at g1
    obtain ⟨V, hV⟩ : ∃ V, V = clI (vT (Ts r) 0 (envR μ p 0)) 0 99 := ⟨_, rfl⟩
    rw [← hV] at g1
    have hV2 : clI (vT (Ts r) 0 (μ.1 10 (3 * p + 1), μ.1 10 (3 * p), μ.1 7 0, μ.1 10 (3 * p + 2), 0, μ.1 8 0)) 0 99 = V := hV.symm
    rw [hV2]
    have f10 : μ1.1 10 = μ.1 10 := g2 10 (by omega)
    have f7 : μ1.1 7 = μ.1 7 := g2 7 (by omega)
    have e54 : ∀ k : Int32, f_X9_yieldsOf_54 (nI p) k μ = some (clI (if k = 1 then (if μ.1 7 0 - μ.1 7 0 / 2 * 2 = 0 then V else V + μ.1 10 (3 * p)) else if k = 2 then 2 * V else if k = 3 then (if (if μ.1 7 0 - μ.1 7 0 / 2 * 2 = 0 then V else V + μ.1 10 (3 * p)) < 20 then (if μ.1 7 0 - μ.1 7 0 / 2 * 2 = 0 then V else V + μ.1 10 (3 * p)) else 20) else if k = 4 then 2 * V else V) 0 99, μ1) := by
      intro k
      have e86 : ∀ z : Int32, f_X9_yieldsOf_86 (nI p) k V z μ1 = some (clI (if k = 1 then z else if k = 2 then 2 * V else if k = 3 then (if z < 20 then z else 20) else if k = 4 then 2 * V else V) 0 99, μ1) := by
        intro z
        unfold f_X9_yieldsOf_86 f_X9_yieldsOf_130
        simp only [fe_within, Option.bind_some]
        by_cases k1 : k = 1
        · rw [if_pos k1, if_pos k1, clI_99]
        · rw [if_neg k1, if_neg k1]
          by_cases k3 : k = 3
          · rw [if_pos k3, if_neg (by rw [k3]; decide), if_pos k3, clI_20]
          · rw [if_neg k3, if_neg k3]
            by_cases k2 : k = 2
            · rw [if_pos k2, if_pos k2]
            · rw [if_neg k2, if_neg k2]
              by_cases k4 : k = 4
              · rw [if_pos k4, if_pos k4]
              · rw [if_neg k4, if_neg k4]
      unfold f_X9_yieldsOf_54
      have g1' : f_X9_says 0 (nI p) 0 μ = some (V, μ1) := g1
      rw [g1', Option.bind_some]
      simp only [e86, f7, f10]
      rw [ix3_0, if_pos i0, nI_tn (show 3 * p < 2147483648 by omega)]
      by_cases hpar : μ.1 7 0 - μ.1 7 0 / 2 * 2 = 0
      · rw [if_neg (fun hc => ((par_of h.rg.ni).mp hc) hpar)]
        rw [if_pos hpar]
      · rw [if_pos ((par_of h.rg.ni).mpr hpar)]
        rw [if_neg hpar]
    have e34 : f_X9_yieldsOf_34 (nI p) (μ.1 9 p) μ = if μ.1 9 p = 5 then (if μ.1 10 (3 * p + 2) ≤ 0 then f_X9_yieldsOf_54 (nI p) (μ.1 9 p) μ else some (0, μ)) else f_X9_yieldsOf_54 (nI p) (μ.1 9 p) μ := by
      unfold f_X9_yieldsOf_34
      rw [ix3_2, if_pos i2, nI_tn (show 3 * p + 2 < 2147483648 by omega)]
    rw [e34, e54]
    have c0 : clI 0 0 99 = 0 := by decide
    by_cases k4 : μ.1 9 p = 4
    · rw [if_pos k4, k4]
      by_cases hh : μ.1 8 0 < 11
      · rw [if_pos hh]
        refine ⟨μ, ?_, FrS.rf, h.me⟩
        rw [if_neg (by decide), if_neg (by decide), if_neg (by decide), if_pos rfl, if_neg (by rw [i32_le]; rw [i32_lt] at hh; omega), c0]
      · rw [if_neg hh]
        refine ⟨μ1, ?_, g2, g3⟩
        rw [if_neg (by decide)]
        rw [if_neg (by decide), if_neg (by decide), if_neg (by decide), if_pos rfl, if_neg (by decide), if_neg (by decide), if_neg (by decide), if_pos rfl, if_pos (by rw [i32_le]; rw [i32_lt] at hh; omega)]
    · rw [if_neg k4]
      by_cases k5 : μ.1 9 p = 5
      · rw [if_pos k5, k5]
        by_cases hw : μ.1 10 (3 * p + 2) ≤ 0
        · rw [if_pos hw]
          refine ⟨μ1, ?_, g2, g3⟩
          rw [if_neg (by decide), if_neg (by decide), if_neg (by decide), if_neg (by decide), if_neg (by decide), if_neg (by decide), if_neg (by decide), if_neg (by decide), if_pos rfl, if_pos hw]
        · rw [if_neg hw]
          refine ⟨μ, ?_, FrS.rf, h.me⟩
          rw [if_neg (by decide), if_neg (by decide), if_neg (by decide), if_neg (by decide), if_pos rfl, if_neg hw, c0]
      · rw [if_neg k5]
        refine ⟨μ1, ?_, g2, g3⟩
        simp only [if_neg k4, if_neg k5]
theorem fm_suits {μ : Sm} {m n r p c : Nat} {Ts : Nat → Nat → List Int32} (h : HoM μ m n r Ts) (hp : p < n) (hc : c < 6) :
    ∃ μ', f_X9_suits (nI p) (nI c) μ = some (sM μ (Ts r) p c, μ') ∧ FrS μ μ' ∧ MemoI μ' m Ts := by
  have hn5 := h.rg.n5
  have i5 : okI (nI p) 5 := okI_nI (by omega) (by omega)
  have i0 : okI (nI (3 * p)) 15 := okI_nI (by omega) (by omega)
  have i1 : okI (nI (3 * c + 1)) 18 := okI_nI (by omega) (by omega)
  have hb : ∀ z : Int32, (z = 0 ∨ z = 1) → True := fun _ _ => trivial
  unfold sM sS
  unfold f_X9_suits
  rw [ix3_1]
  simp only [nI_tn (show p < 2147483648 by omega), nI_tn (show 3 * c + 1 < 2147483648 by omega)]
  rw [if_pos i5, if_pos i1]
  have e29 : ∀ k : Int32, f_X9_suits_29 (nI p) (nI c) k μ = some (if k = 5 then 1 else if nI c = 5 then 1 else 0, μ) := by
    intro k
    unfold f_X9_suits_29
    repeat' split
    all_goals rfl
  rw [e29]
  by_cases k4 : μ.1 9 p = 4
  · rw [if_pos k4, k4]
    refine ⟨μ, ?_, FrS.rf, h.me⟩
    rfl
  · rw [if_neg k4]
    by_cases k5 : μ.1 9 p = 5
    · rw [if_pos k5, k5]
      refine ⟨μ, ?_, FrS.rf, h.me⟩
      rw [if_pos rfl, if_neg (by decide), if_neg (by decide), if_neg (by decide), if_neg (by decide), if_pos rfl]
    · rw [if_neg k5]
      obtain ⟨a, a1, a2⟩ := (h.rg.cs c hc).2.1
      obtain ⟨μ1, g1, g2, g3⟩ := fm_says (w := 1) h (by omega) hp (t := μ.1 11 (3 * c + 1)) ⟨a, by omega, a2⟩
      rw [if_pos rfl] at g1
      obtain ⟨V, hV⟩ : ∃ V, V = vT (Ts r) 1 (envR μ p (μ.1 11 (3 * c + 1))) := ⟨_, rfl⟩
      rw [← hV] at g1
      have hV2 : vT (Ts r) 1 (μ.1 10 (3 * p + 1), μ.1 10 (3 * p), μ.1 7 0, μ.1 10 (3 * p + 2), μ.1 11 (3 * c + 1), μ.1 8 0) = V := hV.symm
      rw [hV2]
      have f10 : μ1.1 10 = μ.1 10 := g2 10 (by omega)
      have g1' : f_X9_says 1 (nI p) (μ.1 11 (3 * c + 1)) μ = some (V, μ1) := g1
      rw [g1', Option.bind_some]
      simp only []
      refine ⟨μ1, ?_, g2, g3⟩
      have e61 : ∀ (k t z : Int32), (z = 0 ∨ z = 1) → k ≠ 4 → k ≠ 5 → f_X9_suits_61 (nI p) (nI c) k t z μ1 = some (if k = 1 then (if z = 0 then 0 else if t = μ.1 10 (3 * p) then 0 else 1) else if k = 2 then (if z = 0 then if 3 ≤ t then 0 else 1 else 1) else if k = 3 then (if z = 0 then (if t = 9 then 1 else 0) else if t = μ.1 10 (3 * p) then (if t = 9 then 1 else 0) else 1) else (if z = 0 then 0 else 1), μ1) := by
        intro k t z hz z4 z5
        have e86 : ∀ (w : Int32), (w = 0 ∨ w = 1) → f_X9_suits_86 (nI p) (nI c) k t z w μ1 = some (if k = 1 then w else if k = 2 then (if z = 0 then if 3 ≤ t then 0 else 1 else 1) else if k = 3 then (if w = 0 then (if t = 9 then 1 else 0) else 1) else z, μ1) := by
          intro w hw
          unfold f_X9_suits_86
          simp only [if_pos hw, if_pos hz]
          by_cases k1 : k = 1
          · rw [if_pos k1, if_pos k1]
          · rw [if_neg k1, if_neg k1]
            by_cases k3 : k = 3
            · rw [if_pos k3, if_neg (show ¬ k = 2 by rw [k3]; decide), if_pos k3]
              repeat' split
              all_goals rfl
            · rw [if_neg k3, if_neg k3]
              by_cases k2 : k = 2
              · rw [if_pos k2, if_pos k2]
                repeat' split
                all_goals rfl
              · rw [if_neg k2, if_neg k2]
        unfold f_X9_suits_61
        rw [ix3_0, if_pos i0, nI_tn (show 3 * p < 2147483648 by omega), f10, e86 0 (Or.inl rfl), e86 1 (Or.inr rfl)]
        rcases hz with hz | hz
        · subst hz
          rw [if_pos rfl]
          simp only [if_true]
        · subst hz
          rw [if_neg (by decide)]
          simp only [if_neg (show ¬ (1 : Int32) = 0 by decide)]
          by_cases ht : t = μ.1 10 (3 * p)
          · simp only [if_pos ht, if_true]
          · simp only [if_neg ht]
      rw [e61 _ _ 0 (Or.inl rfl) k4 k5, e61 _ _ 1 (Or.inr rfl) k4 k5, if_neg k4, if_neg k5]
      have n10 : ¬ (1 : Int32) = 0 := by decide
      by_cases hv : V = 0
      · simp only [if_pos hv, if_true]
      · simp only [if_neg hv, if_neg n10]
theorem fm_eased {μ : Sm} {m n r p : Nat} {Ts : Nat → Nat → List Int32} (h : HoM μ m n r Ts) (hp : p < n) :
    ∃ μ', f_X9_easedBy (nI p) μ = some (eM μ (Ts r) p, μ') ∧ FrS μ μ' ∧ MemoI μ' m Ts := by
  have hn5 := h.rg.n5
  have i5 : okI (nI p) 5 := okI_nI (by omega) (by omega)
  have i0 : okI (nI (3 * p)) 15 := okI_nI (by omega) (by omega)
  have i1 : okI (nI (3 * p + 1)) 15 := okI_nI (by omega) (by omega)
  have i2 : okI (nI (3 * p + 2)) 15 := okI_nI (by omega) (by omega)
  unfold eM sE
  unfold f_X9_easedBy
  rw [ix3_1, ix3_2]
  simp only [nI_tn (show p < 2147483648 by omega), nI_tn (show 3 * p + 1 < 2147483648 by omega), nI_tn (show 3 * p + 2 < 2147483648 by omega)]
  rw [if_pos i5, if_pos i1, if_pos i2]
  have e17 : ∀ k : Int32, f_X9_easedBy_17 (nI p) k μ = some (if k = 4 then -(μ.1 10 (3 * p)) else 0, μ) := by
    intro k
    unfold f_X9_easedBy_17
    rw [ix3_0, if_pos i0, nI_tn (show 3 * p < 2147483648 by omega)]
    repeat' split
    all_goals rfl
  rw [e17]
  obtain ⟨μ1, g1, g2, g3⟩ := fm_says (w := 2) h (by omega) hp (isN_0 (B := 16) (by omega))
  rw [if_neg (by omega)] at g1
  obtain ⟨V, hV⟩ : ∃ V, V = clI (vT (Ts r) 2 (envR μ p 0)) 0 99 := ⟨_, rfl⟩
  rw [← hV] at g1
  have hV2 : clI (vT (Ts r) 2 (μ.1 10 (3 * p + 1), μ.1 10 (3 * p), μ.1 7 0, μ.1 10 (3 * p + 2), 0, μ.1 8 0)) 0 99 = V := hV.symm
  rw [hV2]
  have e82 : ∀ k : Int32, f_X9_easedBy_82 (nI p) k μ = some (if k = 1 then V / 2 else if k = 3 then V / 2 else V, μ1) := by
    intro k
    unfold f_X9_easedBy_82
    rw [show (2 : Int32) = nI 2 from rfl, g1, Option.bind_some]
    simp only []
    repeat' split
    all_goals rfl
  have e65 : ∀ k : Int32, f_X9_easedBy_65 (nI p) k μ = if k = 3 then (if μ.1 7 0 - μ.1 7 0 / 7 * 7 = 0 then some (-1, μ) else some (V / 2, μ1)) else some (if k = 1 then V / 2 else V, μ1) := by
    intro k
    unfold f_X9_easedBy_65
    rw [e82]
    by_cases k3 : k = 3
    · simp only [if_pos k3, if_neg (show ¬ k = 1 by rw [k3]; decide)]
    · simp only [if_neg k3]
  rw [e65]
  by_cases k2 : μ.1 9 p = 2
  · rw [k2]
    refine ⟨μ, ?_, FrS.rf, h.me⟩
    rfl
  · rw [if_neg k2, if_neg k2]
    by_cases k4 : μ.1 9 p = 4
    · rw [k4]
      refine ⟨μ, ?_, FrS.rf, h.me⟩
      rfl
    · rw [if_neg k4, if_neg k4]
      by_cases k5 : μ.1 9 p = 5
      · rw [k5]
        by_cases hw : μ.1 10 (3 * p + 2) ≤ 0
        · refine ⟨μ1, ?_, g2, g3⟩
          rw [if_pos rfl, if_pos hw]
          rw [if_neg (by decide), if_neg (by decide), if_neg (by decide), if_neg (by decide), if_pos rfl, if_pos hw]
        · refine ⟨μ, ?_, FrS.rf, h.me⟩
          rw [if_pos rfl, if_neg hw, if_neg (by decide), if_neg (by decide), if_pos rfl, if_neg hw]
      · rw [if_neg k5, if_neg k5]
        by_cases k3 : μ.1 9 p = 3
        · rw [k3]
          by_cases h7 : μ.1 7 0 - μ.1 7 0 / 7 * 7 = 0
          · refine ⟨μ, ?_, FrS.rf, h.me⟩
            rw [if_pos rfl, if_pos h7, if_neg (by decide), if_pos rfl, if_pos h7]
          · refine ⟨μ1, ?_, g2, g3⟩
            rw [if_pos rfl, if_neg h7, if_neg (by decide), if_pos rfl, if_neg h7]
        · rw [if_neg k3, if_neg k3]
          exact ⟨μ1, rfl, g2, g3⟩
