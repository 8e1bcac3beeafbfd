/-! set -/
theorem InvP.house {σ σ' : Sg} {μ μ' : Sm} {m n r r' : Nat} {Ts : Nat → Nat → List Int32} (h : InvP σ μ m n r Ts) (hR : HoR σ' 0 μ' n r') (hO : HoM μ' m n r' Ts) (h7 : isN (μ'.1 7 0) 1000) (f : ∀ a, 11 ≤ a → a ≠ 42 → (a < 64 ∨ 69 ≤ a) → σ' a = σ a) (g : ∀ a, a ≠ 4 → a ≠ 7 → a ≠ 8 → a ≠ 10 → a ≠ 11 → (a < 13 ∨ 34 ≤ a) → μ'.1 a = μ.1 a) : InvP σ' μ' m n r' Ts := by
  obtain ⟨q1, q2, q3, q4, q5, q6, q7, q8⟩ := h
  refine ⟨hR, q2.keep (fun a a1 a2 a3 => f a (by omega) a3 (by omega)), hO, h7, ?_, ?_, ?_, ?_⟩
  · rw [g 3 (by omega) (by omega) (by omega) (by omega) (by omega) (by omega)]; exact q5
  · exact q6.keep (f _ (by omega) (by omega) (by omega)) (f _ (by omega) (by omega) (by omega)) (g 5 (by omega) (by omega) (by omega) (by omega) (by omega) (by omega)) (g 6 (by omega) (by omega) (by omega) (by omega) (by omega) (by omega))
  · exact q7.keep (fun a a1 a2 => f a (by omega) (by omega) (by omega)) (fun a a1 a2 => g a (by omega) (by omega) (by omega) (by omega) (by omega) (by omega)) (fun p _ => by rw [g 9 (by omega) (by omega) (by omega) (by omega) (by omega) (by omega)]) (Nat.le_refl _) (Nat.le_refl _)
  · exact fun s hs => (q8 s hs).keep hs (fun a a1 a2 => f a (by omega) (by omega) (by omega)) (fun a a1 a2 => g a (by omega) (by omega) (by omega) (by omega) (by omega) (by omega))
def mst (k : Nat) : Nat := if k = 0 then 999 else if k = 1 then 23 else if k = 2 then 9 else if k = 6 then 9 else 99
theorem fe_most {σ : Sg} {k : Nat} (hk : k < 7) : f_X8_mostOf (nI k) σ = some (nI (mst k), σ) := by
  match k, hk with
  | 0, _ => rfl
  | 1, _ => rfl
  | 2, _ => rfl
  | 3, _ => rfl
  | 4, _ => rfl
  | 5, _ => rfl
  | 6, _ => rfl
theorem fm_most {μ : Sm} {k : Nat} (hk : k < 7) : f_X9_mostOf (nI k) μ = some (nI (mst k), μ) := by
  match k, hk with
  | 0, _ => rfl
  | 1, _ => rfl
  | 2, _ => rfl
  | 3, _ => rfl
  | 4, _ => rfl
  | 5, _ => rfl
  | 6, _ => rfl
theorem mst_lt (k : Nat) : mst k < 1000 := by
  unfold mst
  repeat' split
  all_goals omega
/-- behind the place that there is -/
theorem set_go {σ : Sg} {μ : Sm} {x of v : Int32} {k : Nat} (hI : Inv σ μ) (hk : k < 7) (hx : x = nI k) (hp : f_X1_hasPlace 0 x of σ = some (1, σ)) (hq : f_X9_isOf x of μ = some (1, μ)) (go : isN v (mst k + 1) → ∃ w σ' μ', f_X1_read 0 x of σ = some (w, σ) ∧ f_X1_write 0 x of v σ = some σ' ∧ f_X9_told of x μ = some (w, μ) ∧ f_X9_lays x of v μ = some μ' ∧ Inv σ' μ') : Like (f_X8_set x of v σ) (f_X9_set x of v μ) := by
  subst hx
  have l0 : (0 : Int64).toInt = 0 := by decide
  have e0 : (0 : Int32).toInt = 0 := by decide
  have hm := mst_lt k
  unfold f_X8_set f_X9_set
  rw [if_neg (show ¬ (6 : Int32) < nI k by rw [show (6 : Int32) = nI 6 from rfl, i32_gtn (by omega), nI_ti (by omega)]; omega), hp, Option.bind_some, in_lit (hi := 6) (by omega) (by omega) (by decide), Option.bind_some]
  simp only []
  rw [if_neg one_ne, if_neg one_ne, hq, Option.bind_some]
  simp only []
  rw [if_neg one_ne, fm_most hk, Option.bind_some]
  simp only []
  rw [f_in, Option.bind_some, l32_ti, l32_ti, l0, nI_ti (by omega)]
  simp only []
  by_cases hv : 0 ≤ v.toInt ∧ v.toInt ≤ mst k
  · obtain ⟨w, σ', μ', g1, g2, g3, g4, g5⟩ := go (by
      obtain ⟨a, a1, a2⟩ := one_ex (x := v) (n := mst k + 1) (by omega) (by omega)
      exact ⟨a, a1, a2⟩)
    rw [if_pos hv, if_neg one_ne, if_neg (show ¬ v < 0 by rw [i32_lt, e0]; omega), fe_most hk, Option.bind_some]
    simp only []
    rw [if_pos (show v ≤ nI (mst k) by rw [i32_len (by omega)]; omega), g1, g3, Option.bind_some, Option.bind_some]
    simp only []
    rw [g2, g4]
    exact ⟨_, _, _, rfl, rfl, g5⟩
  · rw [if_neg hv, if_pos (show (0 : Int32) = 0 from rfl)]
    by_cases h0 : v < 0
    · rw [if_pos h0]
      exact like_same hI _
    · rw [if_neg h0, fe_most hk, Option.bind_some]
      simp only []
      rw [if_neg (show ¬ v ≤ nI (mst k) by rw [i32_len (by omega)]; rw [i32_lt, e0] at h0; omega)]
      exact like_same hI _
theorem set_no {σ : Sg} {μ : Sm} {x of v : Int32} {k : Nat} (hI : Inv σ μ) (hk : k < 7) (hx : x = nI k) (hp : f_X1_hasPlace 0 x of σ = some (0, σ)) (hq : f_X9_isOf x of μ = some (0, μ)) : Like (f_X8_set x of v σ) (f_X9_set x of v μ) := by
  subst hx
  unfold f_X8_set f_X9_set
  rw [if_neg (show ¬ (6 : Int32) < nI k by rw [show (6 : Int32) = nI 6 from rfl, i32_gtn (by omega), nI_ti (by omega)]; omega), hp, Option.bind_some, in_lit (hi := 6) (by omega) (by omega) (by decide), Option.bind_some]
  simp only []
  rw [if_neg one_ne, hq, Option.bind_some]
  exact like_same hI _
theorem pub_set {σ : Sg} {μ : Sm} (h : Inv σ μ) (x of v : Int32) : Like (f_X8_set x of v σ) (f_X9_set x of v μ) := by
  have hI := h
  obtain ⟨m, n, r, Ts, hP⟩ := h
  obtain ⟨hR, hL, hO, h4, h5, h6, h7, h8⟩ := id hP
  have n5 := hO.rg.n5
  by_cases hw : 0 ≤ x.toInt ∧ x.toInt ≤ 6
  · obtain ⟨k, hk, hx⟩ := one_ex (x := x) (n := 7) (by omega) (by omega)
    have hc : k < 2 ∨ isO k ∨ isC k := by unfold isO isC; omega
    rcases hc with hc | hc | hc
    · refine set_go hI hk hx (by rw [hx]; exact fe_hp01 (by omega) (by omega) of) (by rw [hx]; exact fm_of01 hc of) (fun hv => ?_)
      rw [hx, fe_read01 (by omega) hc, fe_write01 (by omega) hc, fm_told01 hc, fm_lays01 hc]
      have e : σ (11 * 0 + k) 0 = μ.1 (7 + k) 0 := by
        match k, hc with
        | 0, _ => exact hR.2.1
        | 1, _ => exact hR.2.2.1
      rw [e]
      refine ⟨_, _, _, rfl, rfl, rfl, rfl, m, n, r, Ts, ?_⟩
      match k, hc with
      | 0, _ => exact hP.house hR.night (hO.night (isN_mono hv (by decide))) (by rw [upm_e, if_pos rfl]; exact hv) (fun a a1 _ _ => up_n (by omega)) (fun a a1 a2 a3 a4 a5 _ => upm_n a2)
      | 1, _ => exact hP.house hR.hour (hO.hour hv) (by rw [upm_n (by omega)]; exact h4) (fun a a1 _ _ => up_n (by omega)) (fun a a1 a2 a3 a4 a5 _ => upm_n a3)
    · have hk7 : k ≠ 7 := by omega
      by_cases hof : 0 ≤ of.toInt ∧ of.toInt < n
      · obtain ⟨p, hp, rfl⟩ := one_ex hof (by omega)
        refine set_go hI hk hx (by rw [hx, fe_hpO hR.1 hc, if_pos hof]) (by rw [hx, fm_ofO hO.rg.hn n5 hc, if_pos hof]) (fun hv => ?_)
        rw [hx, fe_readO hR.1 hc hp, fe_writeO hR.1 hc hp, fm_toldO hO.rg.hn n5 hc hp, fm_laysO hc (by omega), hR.valO hc hp]
        refine ⟨_, _, _, rfl, rfl, rfl, rfl, m, n, r, Ts, hP.house (hR.laidO hc) (hO.laidO hc ?_) ?_ (fun a a1 _ _ => up_n (by unfold offO; split <;> omega)) (fun a a1 a2 a3 a4 a5 _ => ?_)⟩
        · have e : mostO k = mst k := by
            unfold isO at hc
            have : k = 2 ∨ k = 3 ∨ k = 4 := by omega
            rcases this with rfl | rfl | rfl <;> rfl
          rw [e]; exact hv
        · rw [laidO_n (by omega) (by omega)]; exact h4
        · show (laidO μ k p v).1 a = μ.1 a
          unfold laidO
          rw [if_neg hk7, upm_n a4]
      · exact set_no hI hk hx (by rw [hx, fe_hpO hR.1 hc, if_neg hof]) (by rw [hx, fm_ofO hO.rg.hn n5 hc, if_neg hof])
    · have hc2 : k = 5 ∨ k = 6 := by unfold isC at hc; omega
      by_cases hof : 0 ≤ of.toInt ∧ of.toInt < 6
      · obtain ⟨c, hcc, rfl⟩ := one_ex (n := 6) hof (by omega)
        refine set_go hI hk hx (by rw [hx, fe_hpC hR.1 hc, if_pos hof]) (by rw [hx, fm_ofC hc, if_pos hof]) (fun hv => ?_)
        rw [hx, fe_readC hR.1 hc hcc, fe_writeC hR.1 hc hcc, fm_toldC hc hcc, fm_laysC hc2 hcc, hR.valC hc hcc]
        refine ⟨_, _, _, rfl, rfl, rfl, rfl, m, n, r, Ts, ?_⟩
        rcases hc2 with rfl | rfl
        · exact hP.house (hR.cup (j := 0) (by omega)) (hO.cup (j := 0) (by omega) hv) (by rw [upm_n (by omega)]; exact h4) (fun a a1 _ _ => up_n (by unfold offC; split <;> omega)) (fun a a1 a2 a3 a4 a5 _ => upm_n a5)
        · exact hP.house (hR.cup (j := 1) (by omega)) (hO.cup (j := 1) (by omega) hv) (by rw [upm_n (by omega)]; exact h4) (fun a a1 _ _ => up_n (by unfold offC; split <;> omega)) (fun a a1 a2 a3 a4 a5 _ => upm_n a5)
      · exact set_no hI hk hx (by rw [hx, fe_hpC hR.1 hc, if_neg hof]) (by rw [hx, fm_ofC hc, if_neg hof])
  · have l0 : (0 : Int64).toInt = 0 := by decide
    have l6 : (6 : Int64).toInt = 6 := by decide
    have e0 : (0 : Int32).toInt = 0 := by decide
    unfold f_X8_set f_X9_set
    rw [f_in, l32_ti, l0, l6, if_neg hw, Option.bind_some]
    by_cases hg : (6 : Int32) < x
    · rw [if_pos hg]
      exact like_same hI _
    · rw [if_neg hg]
      rw [show (6 : Int32) = nI 6 from rfl, i32_gtn (by omega)] at hg
      rw [fe_hpN (by omega) (by rw [i32_lt, e0]; omega), Option.bind_some]
      exact like_same hI _
