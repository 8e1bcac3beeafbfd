/-! told, set -/
theorem ix3s (p : Nat) {k s : Nat} (h : s ≤ 3 * p + k) : (3 : Int32) * nI p + nI k - nI s = nI (3 * p + k - s) := by rw [ix3, nI_sub h]
theorem in_lit {μ : Sm} {k hi : Nat} (hk : k ≤ hi) (hh : hi < 1000000) {l : Int64} (hl : l.toInt = (hi : Int)) : f_X9_in (nI k).toInt64 0 l μ = some (1, μ) := by
  have l0 : (0 : Int64).toInt = 0 := by decide
  rw [f_in, l32_ti, l0, hl, nI_ti (by omega), if_pos (by omega)]
theorem fm_told01 {μ : Sm} {k : Nat} (hk : k < 2) (x : Int32) : f_X9_told x (nI k) μ = some (μ.1 (7 + k) 0, μ) := by
  unfold f_X9_told
  rw [in_lit (hi := 10) (by omega) (by omega) (by decide), Option.bind_some]
  simp only []
  rw [if_neg one_ne, fm_of01 hk, Option.bind_some]
  simp only []
  rw [if_neg one_ne]
  match k, hk with
  | 0, _ => rfl
  | 1, _ => rfl
def valO (μ : Sm) (k p : Nat) : Int32 := if k = 7 then μ.1 9 p else μ.1 10 (3 * p + (k - 2))
def valC (μ : Sm) (k c : Nat) : Int32 := μ.1 11 (3 * c + (if k = 10 then 2 else k - 5))
theorem fm_toldO {μ : Sm} {n k p : Nat} (hn : μ.1 12 0 = nI n) (n5 : n ≤ 5) (hk : isO k) (hp : p < n) : f_X9_told (nI p) (nI k) μ = some (valO μ k p, μ) := by
  have ok : okI (nI p) 5 := okI_nI (by omega) (by omega)
  unfold f_X9_told
  rw [in_lit (hi := 10) (by omega) (by omega) (by decide), Option.bind_some]
  simp only []
  rw [if_neg one_ne, fm_ofO hn n5 hk, Option.bind_some, if_pos (show 0 ≤ (nI p).toInt ∧ (nI p).toInt < n by rw [nI_ti (by omega)]; omega)]
  simp only []
  rw [if_neg one_ne]
  have ex : ∀ j, j < 3 → (3 : Int32) * nI p + nI (2 + j) - 2 = nI (3 * p + j) := fun j hj => by
    rw [show (2 : Int32) = nI 2 from rfl, ix3s p (by omega)]
    congr 1; omega
  have okx : ∀ j, j < 3 → okI (nI (3 * p + j)) 15 := fun j hj => okI_nI (by omega) (by omega)
  rcases hk with rfl | rfl | rfl | rfl
  · rw [ex 0 (by omega), if_pos (okx 0 (by omega)), nI_tn (show 3 * p + 0 < 2147483648 by omega)]
    rfl
  · rw [ex 1 (by omega), if_pos (okx 1 (by omega)), nI_tn (show 3 * p + 1 < 2147483648 by omega)]
    rfl
  · rw [ex 2 (by omega), if_pos (okx 2 (by omega)), nI_tn (show 3 * p + 2 < 2147483648 by omega)]
    rfl
  · rw [if_pos ok, nI_tn (show p < 2147483648 by omega)]
    rfl
theorem fm_toldC {μ : Sm} {k c : Nat} (hk : isC k) (hc : c < 6) : f_X9_told (nI c) (nI k) μ = some (valC μ k c, μ) := by
  unfold f_X9_told
  rw [in_lit (hi := 10) (by omega) (by omega) (by decide), Option.bind_some]
  simp only []
  rw [if_neg one_ne, fm_ofC hk, Option.bind_some, if_pos (show 0 ≤ (nI c).toInt ∧ (nI c).toInt < 6 by rw [nI_ti (by omega)]; omega)]
  simp only []
  rw [if_neg one_ne]
  have ex : ∀ j, j < 3 → (3 : Int32) * nI c + nI (5 + j) - 5 = nI (3 * c + j) := fun j hj => by
    rw [show (5 : Int32) = nI 5 from rfl, ix3s c (by omega)]
    congr 1; omega
  have okx : ∀ j, j < 3 → okI (nI (3 * c + j)) 18 := fun j hj => okI_nI (by omega) (by omega)
  rcases hk with rfl | rfl | rfl
  · rw [ex 0 (by omega), if_pos (okx 0 (by omega)), nI_tn (show 3 * c + 0 < 2147483648 by omega)]
    rfl
  · rw [ex 1 (by omega), if_pos (okx 1 (by omega)), nI_tn (show 3 * c + 1 < 2147483648 by omega)]
    rfl
  · rw [ix3_2, if_pos (okx 2 (by omega)), nI_tn (show 3 * c + 2 < 2147483648 by omega)]
    rfl
theorem HoR.valO {σ : Sg} {i n r k p : Nat} {μ : Sm} (h : HoR σ i μ n r) (hk : isO k) (hp : p < n) : σ (11 * i + offO k) p = valO μ k p := by
  obtain ⟨b1, b2, b3, b4⟩ := h.2.2.2.1 p hp
  rcases hk with rfl | rfl | rfl | rfl
  · exact b2
  · exact b3
  · exact b4
  · exact b1
theorem HoR.valC {σ : Sg} {i n r k c : Nat} {μ : Sm} (h : HoR σ i μ n r) (hk : isC k) (hc : c < 6) : σ (11 * i + offC k) c = valC μ k c := by
  obtain ⟨b1, b2, b3⟩ := h.2.2.2.2 c hc
  rcases hk with rfl | rfl | rfl
  · exact b1
  · exact b2
  · exact b3
theorem w_cases {x : Int32} (h : 0 ≤ x.toInt ∧ x.toInt ≤ 10) : ∃ k, k ≤ 10 ∧ x = nI k ∧ (k < 2 ∨ isO k ∨ isC k ∨ k = 8 ∨ k = 9) := by
  obtain ⟨k, h1, h2⟩ := one_ex (x := x) (n := 11) (by omega) (by omega)
  refine ⟨k, by omega, h2, ?_⟩
  unfold isO isC
  omega
theorem nI_ne {a b : Nat} (ha : a < 2147483648) (hb : b < 2147483648) (h : a ≠ b) : ¬ nI a = nI b := by
  intro hc
  rw [i32_eq, nI_ti ha, nI_ti hb] at hc
  omega
theorem pub_told {σ : Sg} {μ : Sm} (h : Inv σ μ) (x w : Int32) : Like (f_X8_told x w σ) (f_X9_told x w μ) := by
  obtain ⟨m, n, r, Ts, hP⟩ := h
  obtain ⟨hR, hL, hO, h4, h5, h6, h7, h8⟩ := id hP
  have n5 := hO.rg.n5
  by_cases hw : 0 ≤ w.toInt ∧ w.toInt ≤ 10
  · obtain ⟨k, hk, rfl, hc⟩ := w_cases hw
    have g10 : ¬ (10 : Int32) < nI k := by rw [show (10 : Int32) = nI 10 from rfl, i32_gtn (by omega)]; omega
    rcases hc with hc | hc | hc | hc | hc
    · rw [fm_told01 hc]
      unfold f_X8_told
      rw [if_neg (show ¬ nI k = 8 from nI_ne (a := k) (b := 8) (by omega) (by omega) (by omega)), if_neg (show ¬ nI k = 9 from nI_ne (a := k) (b := 9) (by omega) (by omega) (by omega)), if_neg g10, fe_hp01 (by omega) (by omega), Option.bind_some]
      simp only []
      rw [if_neg one_ne, fe_read01 (by omega) hc, Option.bind_some]
      have e : σ (11 * 0 + k) 0 = μ.1 (7 + k) 0 := by
        match k, hc with
        | 0, _ => exact hR.2.1
        | 1, _ => exact hR.2.2.1
      simp only []
      rw [e]
      exact like_same hP.inv _
    · unfold f_X8_told
      rw [if_neg (show ¬ nI k = 8 from nI_ne (a := k) (b := 8) (by omega) (by omega) (by omega)), if_neg (show ¬ nI k = 9 from nI_ne (a := k) (b := 9) (by omega) (by omega) (by omega)), if_neg g10, fe_hpO hR.1 hc, Option.bind_some]
      simp only []
      by_cases hx : 0 ≤ x.toInt ∧ x.toInt < n
      · obtain ⟨p, hp, rfl⟩ := one_ex hx (by omega)
        rw [fm_toldO hO.rg.hn n5 hc hp, if_pos hx, if_neg one_ne, fe_readO hR.1 hc hp, Option.bind_some, hR.valO hc hp]
        exact like_same hP.inv _
      · rw [if_neg hx, if_pos rfl]
        unfold f_X9_told
        rw [in_lit (hi := 10) (by omega) (by omega) (by decide), Option.bind_some]
        simp only []
        rw [if_neg one_ne, fm_ofO hO.rg.hn n5 hc, Option.bind_some, if_neg hx, if_pos rfl]
        exact like_same hP.inv _
    · unfold f_X8_told
      rw [if_neg (show ¬ nI k = 8 from nI_ne (a := k) (b := 8) (by omega) (by omega) (by omega)), if_neg (show ¬ nI k = 9 from nI_ne (a := k) (b := 9) (by omega) (by omega) (by omega)), if_neg g10, fe_hpC hR.1 hc, Option.bind_some]
      simp only []
      by_cases hx : 0 ≤ x.toInt ∧ x.toInt < 6
      · obtain ⟨p, hp, rfl⟩ := one_ex (n := 6) hx (by omega)
        rw [fm_toldC hc hp, if_pos hx, if_neg one_ne, fe_readC hR.1 hc hp, Option.bind_some, hR.valC hc hp]
        exact like_same hP.inv _
      · rw [if_neg hx, if_pos rfl]
        unfold f_X9_told
        rw [in_lit (hi := 10) (by omega) (by omega) (by decide), Option.bind_some]
        simp only []
        rw [if_neg one_ne, fm_ofC hc, Option.bind_some, if_neg hx, if_pos rfl]
        exact like_same hP.inv _
    · subst hc
      unfold f_X8_told f_X9_told
      rw [if_pos (show nI 8 = 8 from rfl), fe_lodgesI hR.1, Option.bind_some, in_lit (hi := 10) (by omega) (by omega) (by decide), Option.bind_some]
      have eo : f_X9_isOf (nI 8) x μ = some (if 0 ≤ x.toInt ∧ x.toInt < n then 1 else 0, μ) := by
        unfold f_X9_isOf
        rw [fm_isOne hO.rg.hn n5, Option.bind_some, if_neg (by decide), if_neg (by decide), if_neg (by decide), if_neg (by decide)]
        by_cases h : 0 ≤ x.toInt ∧ x.toInt < n
        · rw [if_pos h, if_neg one_ne]
        · rw [if_neg h, if_pos rfl]
      simp only []
      rw [if_neg one_ne, eo, Option.bind_some]
      simp only []
      by_cases hx : 0 ≤ x.toInt ∧ x.toInt < n
      · obtain ⟨p, hp, rfl⟩ := one_ex hx (by omega)
        rw [if_pos hx, if_neg one_ne, if_neg one_ne, if_pos (by decide), if_pos (by decide), if_pos (show nI 8 = 8 from rfl)]
        obtain ⟨F, hF⟩ := fe_yield hR.1 hL hO.rg.rm hp
        obtain ⟨μ', g1, g2, g3⟩ := fm_yields hO hp
        rw [hF, g1, Option.bind_some, Option.bind_some]
        have e : sY (Ts r) (σ (11 * 0 + 4) p) (σ (11 * 0 + 5) p) (σ (11 * 0 + 6) p) (σ (11 * 0 + 7) p) (σ (11 * 0) 0) (σ (11 * 0 + 1) 0) = yM μ (Ts r) p := hR.y (Ts r) hp
        rw [e]
        exact ⟨_, _, _, rfl, rfl, (hP.think (σ' := upA σ 42 F) (fun a ha => upA_n (by omega)) g2.b g3).inv⟩
      · rw [if_neg hx, if_pos rfl, if_pos rfl]
        exact like_same hP.inv _
    · subst hc
      unfold f_X8_told f_X9_told
      rw [if_neg (by decide), if_pos (show nI 9 = 9 from rfl), fe_lodgesI hR.1, Option.bind_some, in_lit (hi := 10) (by omega) (by omega) (by decide), Option.bind_some]
      have eo : f_X9_isOf (nI 9) x μ = some (if 0 ≤ x.toInt ∧ x.toInt < n then 1 else 0, μ) := by
        unfold f_X9_isOf
        rw [fm_isOne hO.rg.hn n5, Option.bind_some, if_neg (by decide), if_neg (by decide), if_neg (by decide), if_neg (by decide)]
        by_cases h : 0 ≤ x.toInt ∧ x.toInt < n
        · rw [if_pos h, if_neg one_ne]
        · rw [if_neg h, if_pos rfl]
      simp only []
      rw [if_neg one_ne, eo, Option.bind_some]
      simp only []
      by_cases hx : 0 ≤ x.toInt ∧ x.toInt < n
      · obtain ⟨p, hp, rfl⟩ := one_ex hx (by omega)
        rw [if_pos hx, if_neg one_ne, if_neg one_ne, if_pos (by decide), if_pos (by decide), if_neg (by decide), if_pos (show nI 9 = 9 from rfl)]
        obtain ⟨σ', hF, hf⟩ := fe_suitBits hR.1 hL hO.rg.rm hp
        obtain ⟨μ', g1, g2, g3⟩ := fm_suitSet hO hp
        rw [hF, g1, Option.bind_some, Option.bind_some]
        have e : bS (sC σ 0 (Ts r) p) 6 = bS (sM μ (Ts r) p) 6 := bS_congr 6 (fun d hd => hR.s (Ts r) hp hd)
        rw [e]
        exact ⟨_, _, _, rfl, rfl, (hP.think (σ' := σ') (fun a ha => hf a (by omega)) g2.b g3).inv⟩
      · rw [if_neg hx, if_pos rfl, if_pos rfl]
        exact like_same hP.inv _
  · have l0 : (0 : Int64).toInt = 0 := by decide
    have l10 : (10 : Int64).toInt = 10 := by decide
    have e0 : (0 : Int32).toInt = 0 := by decide
    unfold f_X8_told f_X9_told
    rw [f_in, l32_ti, l0, l10, Option.bind_some]
    simp only []
    rw [if_neg hw]
    rw [if_pos (show (0 : Int32) = 0 from rfl)]
    have n8 : ¬ w = 8 := fun hc => hw (by rw [hc]; decide)
    have n9 : ¬ w = 9 := fun hc => hw (by rw [hc]; decide)
    rw [if_neg n8, if_neg n9]
    by_cases hg : (10 : Int32) < w
    · rw [if_pos hg]
      exact like_same hP.inv _
    · rw [if_neg hg]
      rw [show (10 : Int32) = nI 10 from rfl, i32_gtn (by omega)] at hg
      rw [fe_hpN (by omega) (by rw [i32_lt, e0]; omega), Option.bind_some]
      simp only []
      rw [if_pos trivial]
      exact like_same hP.inv _
theorem fm_lays01 {μ : Sm} {k : Nat} (hk : k < 2) (x v : Int32) : f_X9_lays (nI k) x v μ = some (upm μ (7 + k) 0 v) := by
  unfold f_X9_lays f_X9_lays_18
  match k, hk with
  | 0, _ =>
    rw [if_neg (by decide), if_pos (show nI 0 = 0 from rfl), if_neg (by decide), upm_self]
  | 1, _ =>
    rw [if_neg (by decide), if_neg (by decide), if_pos (show nI 1 = 1 from rfl), upm_self]
def laidO (μ : Sm) (k p : Nat) (v : Int32) : Sm := if k = 7 then upm μ 9 p v else upm μ 10 (3 * p + (k - 2)) v
theorem fm_laysO {μ : Sm} {k p : Nat} (hk : isO k) (hp : p < 5) (v : Int32) : f_X9_lays (nI k) (nI p) v μ = some (laidO μ k p v) := by
  have ok : okI (nI p) 5 := okI_nI (by omega) (by omega)
  unfold f_X9_lays
  have ex : ∀ j, j < 3 → (3 : Int32) * nI p + nI (2 + j) - 2 = nI (3 * p + j) := fun j hj => by
    rw [show (2 : Int32) = nI 2 from rfl, ix3s p (by omega)]
    congr 1; omega
  have okx : ∀ j, j < 3 → okI (nI (3 * p + j)) 15 := fun j hj => okI_nI (by omega) (by omega)
  rcases hk with rfl | rfl | rfl | rfl
  · rw [ex 0 (by omega), if_pos (okx 0 (by omega)), nI_tn (show 3 * p + 0 < 2147483648 by omega)]
    rfl
  · rw [ex 1 (by omega), if_pos (okx 1 (by omega)), nI_tn (show 3 * p + 1 < 2147483648 by omega)]
    rfl
  · rw [ex 2 (by omega), if_pos (okx 2 (by omega)), nI_tn (show 3 * p + 2 < 2147483648 by omega)]
    rfl
  · rw [if_pos ok, nI_tn (show p < 2147483648 by omega)]
    rfl
theorem fm_laysC {μ : Sm} {k c : Nat} (hk : k = 5 ∨ k = 6) (hc : c < 6) (v : Int32) : f_X9_lays (nI k) (nI c) v μ = some (upm μ 11 (3 * c + (k - 5)) v) := by
  unfold f_X9_lays
  have ex : ∀ j, j < 3 → (3 : Int32) * nI c + nI (5 + j) - 5 = nI (3 * c + j) := fun j hj => by
    rw [show (5 : Int32) = nI 5 from rfl, ix3s c (by omega)]
    congr 1; omega
  have okx : ∀ j, j < 3 → okI (nI (3 * c + j)) 18 := fun j hj => okI_nI (by omega) (by omega)
  rcases hk with rfl | rfl
  · rw [ex 0 (by omega), if_pos (okx 0 (by omega)), nI_tn (show 3 * c + 0 < 2147483648 by omega)]
    rfl
  · rw [ex 1 (by omega), if_pos (okx 1 (by omega)), nI_tn (show 3 * c + 1 < 2147483648 by omega)]
    rfl
theorem fm_laysR {μ : Sm} (x v : Int32) : f_X9_lays 8 x v μ = some (upm μ 4 0 v) := rfl
theorem HoR.laidO {σ : Sg} {i n r k p : Nat} {μ : Sm} {v : Int32} (h : HoR σ i μ n r) (hk : isO k) : HoR (up σ (11 * i + offO k) p v) i (laidO μ k p v) n r := by
  rcases hk with rfl | rfl | rfl | rfl
  · exact h.row (j := 0) (by omega)
  · exact h.row (j := 1) (by omega)
  · exact h.row (j := 2) (by omega)
  · exact h.kind
def mostO (k : Nat) : Nat := if k = 2 then 9 else if k = 7 then 5 else 99
theorem HoM.laidO {μ : Sm} {m n r k p : Nat} {Ts : Nat → Nat → List Int32} {v : Int32} (h : HoM μ m n r Ts) (hk : isO k) (hv : isN v (mostO k + 1)) : HoM (laidO μ k p v) m n r Ts := by
  rcases hk with rfl | rfl | rfl | rfl
  · exact h.row (j := 0) (by omega) hv
  · exact h.row (j := 1) (by omega) hv
  · exact h.row (j := 2) (by omega) hv
  · exact h.kind hv
theorem laidO_n {μ : Sm} {k p a : Nat} {v : Int32} (h9 : a ≠ 9) (h10 : a ≠ 10) : (laidO μ k p v).1 a = μ.1 a := by
  unfold laidO
  by_cases h : k = 7
  · rw [if_pos h, upm_n h9]
  · rw [if_neg h, upm_n h10]
