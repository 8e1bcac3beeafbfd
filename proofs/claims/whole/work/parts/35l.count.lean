/-! count, taken -/
def sumH (F : Nat → Int32) : Nat → Int32
  | 0 => 0
  | c + 1 => sumH F c + F c
theorem sumH_congr {F G : Nat → Int32} : ∀ c, (∀ d, d < c → F d = G d) → sumH F c = sumH G c
  | 0, _ => rfl
  | c + 1, h => by
    unfold sumH
    rw [sumH_congr c (fun d hd => h d (by omega)), h c (by omega)]
theorem fe_held_loop {σ : Sg} {i : Nat} (hi : i < 3) : ∀ (d c k : Nat), c + d = 6 → d < k → f_X1_heldInAll_4 i k (sumH (σ (11 * i + 10)) c) (nI c) σ = some (sumH (σ (11 * i + 10)) 6, σ) := by
  intro d
  induction d with
  | zero =>
    intro c k hc hk
    obtain ⟨k, rfl⟩ : ∃ q, k = q + 1 := ⟨k - 1, by omega⟩
    have e : c = 6 := by omega
    subst e
    rw [f_X1_heldInAll_4, if_pos hi, if_pos (by decide)]
  | succ d ih =>
    intro c k hc hk
    obtain ⟨k, rfl⟩ : ∃ q, k = q + 1 := ⟨k - 1, by omega⟩
    have ok : okI (nI c) 6 := okI_nI (by omega) (by omega)
    rw [f_X1_heldInAll_4, if_pos hi, if_neg (by rw [show (6 : Int32) = nI 6 from rfl, nI_leI (by omega) (by omega)]; omega), if_pos ok, nI_1, nI_tn (show c < 2147483648 by omega)]
    exact ih (c + 1) k (by omega) (by omega)
theorem fe_held {σ : Sg} {i : Nat} (hi : i < 3) : f_X1_heldInAll i σ = some (sumH (σ (11 * i + 10)) 6, σ) := by
  unfold f_X1_heldInAll
  rw [if_pos hi]
  exact fe_held_loop hi 6 0 5000 (by omega) (by omega)
theorem fm_held_loop {μ : Sm} (x : Int32) : ∀ (d c k : Nat), c + d = 6 → d < k → f_X9_count_19 x k (sumH (fun c => μ.1 11 (3 * c + 2)) c) (nI c) μ = f_X9_count_19 x 1 (sumH (fun c => μ.1 11 (3 * c + 2)) 6) (nI 6) μ := by
  intro d
  induction d with
  | zero =>
    intro c k hc hk
    obtain ⟨k, rfl⟩ : ∃ q, k = q + 1 := ⟨k - 1, by omega⟩
    have e : c = 6 := by omega
    subst e
    rw [f_X9_count_19, f_X9_count_19, if_pos (show (6 : Int32) ≤ nI 6 by decide), if_pos (show (6 : Int32) ≤ nI 6 by decide)]
  | succ d ih =>
    intro c k hc hk
    obtain ⟨k, rfl⟩ : ∃ q, k = q + 1 := ⟨k - 1, by omega⟩
    have ok : okI (nI (3 * c + 2)) 18 := okI_nI (by omega) (by omega)
    rw [f_X9_count_19, if_neg (by rw [show (6 : Int32) = nI 6 from rfl, nI_leI (by omega) (by omega)]; omega), ix3_2, if_pos ok, nI_1, nI_tn (show 3 * c + 2 < 2147483648 by omega)]
    exact ih (c + 1) k (by omega) (by omega)
theorem pub_count {σ : Sg} {μ : Sm} (h : Inv σ μ) (x : Int32) : Like (f_X8_count x σ) (f_X9_count x μ) := by
  have hI := h
  obtain ⟨m, n, r, Ts, hP⟩ := h
  obtain ⟨hR, hL, hO, h4, h5, h6, h7, h8⟩ := id hP
  obtain ⟨t, t1, t2, t3, t4⟩ := id h6
  by_cases hx : 0 ≤ x.toInt ∧ x.toInt ≤ 5
  · obtain ⟨k, hk, rfl⟩ := one_ex (x := x) (n := 6) (by omega) (by omega)
    have hS := fm_held_loop (μ := μ) (nI k) 6 0 5000 (by omega) (by omega)
    have hS' : f_X9_count_19 (nI k) 5000 0 0 μ = _ := hS
    have eh : sumH (σ (11 * 0 + 10)) 6 = sumH (fun c => μ.1 11 (3 * c + 2)) 6 := sumH_congr 6 (fun d hd => (hR.2.2.2.2 d hd).2.2)
    unfold f_X8_count f_X9_count f_X2_size
    rw [in_lit (hi := 5) (by omega) (by omega) (by decide), Option.bind_some, Option.bind_some]
    simp only []
    rw [if_neg one_ne, hS', f_X9_count_19, if_pos (show (6 : Int32) ≤ nI 6 by decide), fe_held (by omega), eh, Option.bind_some, hR.1.2.1, hR.2.1, hL.1, t2, hR.1.2.2.2, hO.rg.hn, h5, t3, hO.rg.hr]
    match k, hk with
    | 0, _ => exact like_same hI _
    | 1, _ => exact like_same hI _
    | 2, _ => exact like_same hI _
    | 3, _ => exact like_same hI _
    | 4, _ => exact like_same hI _
    | 5, _ => exact like_same hI _
  · have l0 : (0 : Int64).toInt = 0 := by decide
    have l5 : (5 : Int64).toInt = 5 := by decide
    have hne : ∀ k : Nat, k ≤ 5 → ¬ x = nI k := fun k hk hc => hx (by rw [hc, nI_ti (by omega)]; omega)
    unfold f_X8_count f_X9_count
    rw [f_in, l32_ti, l0, l5, if_neg hx, Option.bind_some]
    rw [if_neg (show ¬ x = 0 from hne 0 (by omega)), if_neg (show ¬ x = 1 from hne 1 (by omega)), if_neg (show ¬ x = 2 from hne 2 (by omega)), if_neg (show ¬ x = 3 from hne 3 (by omega)), if_neg (show ¬ x = 4 from hne 4 (by omega)), if_neg (show ¬ x = 5 from hne 5 (by omega))]
    exact like_same hI _
/-- kind a is a kind k too -/
def und (a k : Nat) : Bool := k == 0 || (k == 1 && (a == 1 || a == 3)) || (k == 2 && (a == 2 || a == 4)) || (a == k)
theorem fe_under {σ : Sg} {a k : Nat} (ha : a < 6) (hk : k < 6) : f_X8_isUnder (nI a) (nI k) σ = some (if und a k = true then 1 else 0, σ) := by
  match a, ha with
  | 0, _ => (match k, hk with
    | 0, _ => rfl | 1, _ => rfl | 2, _ => rfl | 3, _ => rfl | 4, _ => rfl | 5, _ => rfl)
  | 1, _ => (match k, hk with
    | 0, _ => rfl | 1, _ => rfl | 2, _ => rfl | 3, _ => rfl | 4, _ => rfl | 5, _ => rfl)
  | 2, _ => (match k, hk with
    | 0, _ => rfl | 1, _ => rfl | 2, _ => rfl | 3, _ => rfl | 4, _ => rfl | 5, _ => rfl)
  | 3, _ => (match k, hk with
    | 0, _ => rfl | 1, _ => rfl | 2, _ => rfl | 3, _ => rfl | 4, _ => rfl | 5, _ => rfl)
  | 4, _ => (match k, hk with
    | 0, _ => rfl | 1, _ => rfl | 2, _ => rfl | 3, _ => rfl | 4, _ => rfl | 5, _ => rfl)
  | 5, _ => (match k, hk with
    | 0, _ => rfl | 1, _ => rfl | 2, _ => rfl | 3, _ => rfl | 4, _ => rfl | 5, _ => rfl)
theorem fm_taken {μ : Sm} {p a k f : Nat} (hp : p < 5) (ha : a < 6) (hk : k < 6) : f_X9_taken_33 (nI p) (nI k) (f + 5) (nI a) μ = some (if und a k = true then μ.1 10 (3 * p) else -13, μ) := by
  have i0 : okI (nI (3 * p)) 15 := okI_nI (by omega) (by omega)
  have e51 : ∀ (y : Int32) (μ : Sm), f_X9_taken_51 (nI p) (nI k) y μ = some (if y = nI k then μ.1 10 (3 * p) else -13, μ) := by
    intro y μ
    unfold f_X9_taken_51
    rw [ix3_0, if_pos i0, nI_tn (show 3 * p < 2147483648 by omega)]
    by_cases hy : y = nI k
    · rw [if_pos hy, if_pos hy]
    · rw [if_neg hy, if_neg hy]
  simp only [f_X9_taken_33, f_X9_over, e51]
  match a, ha with
  | 0, _ => (match k, hk with
    | 0, _ => rfl | 1, _ => rfl | 2, _ => rfl | 3, _ => rfl | 4, _ => rfl | 5, _ => rfl)
  | 1, _ => (match k, hk with
    | 0, _ => rfl | 1, _ => rfl | 2, _ => rfl | 3, _ => rfl | 4, _ => rfl | 5, _ => rfl)
  | 2, _ => (match k, hk with
    | 0, _ => rfl | 1, _ => rfl | 2, _ => rfl | 3, _ => rfl | 4, _ => rfl | 5, _ => rfl)
  | 3, _ => (match k, hk with
    | 0, _ => rfl | 1, _ => rfl | 2, _ => rfl | 3, _ => rfl | 4, _ => rfl | 5, _ => rfl)
  | 4, _ => (match k, hk with
    | 0, _ => rfl | 1, _ => rfl | 2, _ => rfl | 3, _ => rfl | 4, _ => rfl | 5, _ => rfl)
  | 5, _ => (match k, hk with
    | 0, _ => rfl | 1, _ => rfl | 2, _ => rfl | 3, _ => rfl | 4, _ => rfl | 5, _ => rfl)
theorem pub_taken {σ : Sg} {μ : Sm} (h : Inv σ μ) (x y : Int32) : Like (f_X8_taken x y σ) (f_X9_taken x y μ) := by
  have hI := h
  obtain ⟨m, n, r, Ts, hP⟩ := h
  obtain ⟨hR, hL, hO, h4, h5, h6, h7, h8⟩ := id hP
  have n5 := hO.rg.n5
  have l0 : (0 : Int64).toInt = 0 := by decide
  have l5 : (5 : Int64).toInt = 5 := by decide
  have e0 : (0 : Int32).toInt = 0 := by decide
  have e5 : (5 : Int32).toInt = 5 := by decide
  unfold f_X8_taken f_X9_taken
  by_cases hy : 0 ≤ y.toInt ∧ y.toInt ≤ 5
  · obtain ⟨k, hk, rfl⟩ := one_ex (x := y) (n := 6) (by omega) (by omega)
    rw [in_lit (hi := 5) (by omega) (by omega) (by decide), Option.bind_some]
    simp only []
    rw [if_neg one_ne, if_neg (show ¬ nI k < 0 by rw [i32_lt, e0]; omega), if_pos (show nI k ≤ 5 by rw [i32_le, e5]; omega), fe_lodgesI hR.1, fm_isOne hO.rg.hn n5, Option.bind_some, Option.bind_some]
    simp only []
    by_cases hx : 0 ≤ x.toInt ∧ x.toInt < n
    · obtain ⟨p, hp, rfl⟩ := one_ex hx (by omega)
      have ok : okI (nI p) 5 := okI_nI (by omega) (by omega)
      obtain ⟨b1, b2, b3, b4⟩ := hR.2.2.2.1 p hp
      obtain ⟨a, a1, a2⟩ := (hO.rg.ps p hp).1
      rw [if_pos hx, if_neg one_ne, if_neg one_ne, if_pos ok, if_pos ok]
      simp only [nI_tn (show p < 2147483648 by omega), if_pos ok]
      rw [b1, a2, fe_under a1 hk, fm_taken (f := 4995) (by omega) a1 hk, Option.bind_some]
      simp only []
      rw [b2]
      by_cases hu : und a k = true
      · rw [if_pos hu, if_pos hu, if_neg one_ne]
        exact like_same hI _
      · rw [if_neg hu, if_neg hu, if_pos rfl]
        exact like_same hI _
    · rw [if_neg hx, if_pos rfl, if_pos rfl]
      exact like_same hI _
  · rw [f_in, l32_ti, l0, l5, Option.bind_some]
    simp only []
    rw [if_neg hy, if_pos rfl]
    by_cases h0 : y < 0
    · rw [if_pos h0]
      exact like_same hI _
    · rw [if_neg h0, if_neg (show ¬ y ≤ 5 by rw [i32_le, e5]; rw [i32_lt, e0] at h0; omega)]
      exact like_same hI _
