/-! One alone, night by night: sleeps, film -/
/-- one in the house that is thought on, and in the reference -/
def One (σ : Sg) (μ : Sm) (p : Nat) : Prop := σ (11 * 1) 0 = μ.1 7 0 ∧ σ (11 * 1 + 1) 0 = μ.1 8 0 ∧ σ (11 * 1 + 4) p = μ.1 9 p ∧ σ (11 * 1 + 5) p = μ.1 10 (3 * p) ∧ σ (11 * 1 + 6) p = μ.1 10 (3 * p + 1) ∧ σ (11 * 1 + 7) p = μ.1 10 (3 * p + 2)
def ThO (σ0 : Sg) (μ0 : Sm) (m n r p : Nat) (Ts : Nat → Nat → List Int32) (σ : Sg) (μ : Sm) (k : Nat) : Prop :=
  HsC σ 1 n r ∧ One σ μ p ∧ LawC σ m Ts ∧ HoM μ m n r Ts ∧ FrT σ0 σ ∧ Asd μ0 μ ∧ isN (μ.1 7 0) (1000 + k)
theorem HoR.one {σ : Sg} {μ : Sm} {n r p : Nat} (h : HoR σ 1 μ n r) (hp : p < n) : One σ μ p := by
  obtain ⟨h1, h2, h3, h4, h5⟩ := h
  obtain ⟨b1, b2, b3, b4⟩ := h4 p hp
  exact ⟨h2, h3, b1, b2, b3, b4⟩
theorem Thk.one {σ0 σ : Sg} {μ0 μ : Sm} {m n r p k : Nat} {Ts : Nat → Nat → List Int32} (h : Thk σ0 μ0 m n r Ts σ μ k) (hp : p < n) : ThO σ0 μ0 m n r p Ts σ μ k := by
  obtain ⟨hR, hL, hO, hF, hA, h4⟩ := h
  exact ⟨hR.1, hR.one hp, hL, hO, hF, hA, h4⟩
theorem One.e {σ : Sg} {μ : Sm} {p : Nat} (h : One σ μ p) (T : Nat → List Int32) : eC σ 1 T p = eM μ T p := by
  obtain ⟨h1, h2, h3, h4, h5, h6⟩ := h
  unfold eC eM
  rw [h1, h2, h3, h4, h5, h6]
theorem one_night {σ0 σ : Sg} {μ0 μ : Sm} {m n r p k : Nat} {Ts : Nat → Nat → List Int32} (h : ThO σ0 μ0 m n r p Ts σ μ k) (hp : p < n) (hk : k < 3000) :
    ∃ σ' v μ', f_X2_easeOne 1 (nI p) σ = some σ' ∧ f_X9_passes μ = some (v, μ') ∧ ThO σ0 μ0 m n r p Ts (up σ' (11 * 1) 0 (σ' (11 * 1) 0 + 1)) μ' (k + 1) := by
  obtain ⟨hH, hE, hL, hO, hF, hA, h4⟩ := h
  have n5 := hO.rg.n5
  obtain ⟨F, hf⟩ := fe_easeOne hH hL hO.rg.rm hp
  obtain ⟨μ', q1, q2, q3⟩ := fm_passes hO
  obtain ⟨σ1, hσ⟩ : ∃ y, y = up (upA σ 42 F) (11 * 1 + 6) p (clI (σ (11 * 1 + 6) p - eC σ 1 (Ts r) p) 0 99) := ⟨_, rfl⟩
  rw [← hσ] at hf
  have fr : ∀ a, a ≠ 42 → a ≠ 11 * 1 + 6 → σ1 a = σ a := fun a a1 a2 => by rw [hσ, up_n a2, upA_n a1]
  have w6 : σ1 (11 * 1 + 6) p = clI (σ (11 * 1 + 6) p - eC σ 1 (Ts r) p) 0 99 := by rw [hσ, up_s, upd_s]
  have fr2 : ∀ a, a ≠ 42 → a ≠ 11 * 1 + 6 → a ≠ 11 * 1 → (up σ1 (11 * 1) 0 (σ1 (11 * 1) 0 + 1)) a = σ a := fun a a1 a2 a3 => by rw [up_n a3]; exact fr a a1 a2
  obtain ⟨e1, e2, e3, e4, e5, e6⟩ := id hE
  obtain ⟨b1, b2, b3⟩ := q2.2.2.1 p (by omega)
  refine ⟨σ1, _, μ', hf, q1, hH.keep (fr2 _ (by omega) (by omega) (by omega)) (fr2 _ (by omega) (by omega) (by omega)), ⟨?_, ?_, ?_, ?_, ?_, ?_⟩, hL.keep (fun a a1 a2 a3 => fr2 a a3 (by omega) (by omega)), q2.ho hO (isN_mono h4 (by omega)) q3, hF.tr (fun a ha => fr2 a (by omega) (by omega) (by omega)), hA.p q2.fr, ?_⟩
  · rw [up_s, upd_s, fr _ (by omega) (by omega), q2.2.1, e1]
  · rw [fr2 _ (by omega) (by omega) (by omega), q2.fr 8 (by omega) (by omega) (by omega) (by omega)]; exact e2
  · rw [fr2 _ (by omega) (by omega) (by omega), q2.fr 9 (by omega) (by omega) (by omega) (by omega)]; exact e3
  · rw [fr2 _ (by omega) (by omega) (by omega), b1]; exact e4
  · rw [up_n (by omega), w6, b2, if_pos hp, e5, hE.e]
  · rw [fr2 _ (by omega) (by omega) (by omega), b3]; exact e6
  · rw [q2.2.1]
    exact isN_up (k := 1000 + k) (by omega) h4
theorem ThO.fr {σ0 σ : Sg} {μ0 μ μ' : Sm} {m n r p k : Nat} {Ts : Nat → Nat → List Int32} {F : Nat → Int32} (h : ThO σ0 μ0 m n r p Ts σ μ k) (f : FrS μ μ') (hM : MemoI μ' m Ts) : ThO σ0 μ0 m n r p Ts (upA σ 42 F) μ' k := by
  obtain ⟨hH, ⟨e1, e2, e3, e4, e5, e6⟩, hL, hO, hF, hA, h4⟩ := h
  refine ⟨hH.keep (upA_n (by omega)) (upA_n (by omega)), ⟨?_, ?_, ?_, ?_, ?_, ?_⟩, hL.keep (fun a a1 a2 a3 => upA_n a3), hO.keep f hM, hF.tr (fun a ha => upA_n (by omega)), hA.s f, ?_⟩
  · rw [upA_n (by omega), f 7 (by omega)]; exact e1
  · rw [upA_n (by omega), f 8 (by omega)]; exact e2
  · rw [upA_n (by omega), f 9 (by omega)]; exact e3
  · rw [upA_n (by omega), f 10 (by omega)]; exact e4
  · rw [upA_n (by omega), f 10 (by omega)]; exact e5
  · rw [upA_n (by omega), f 10 (by omega)]; exact e6
  · rw [f 7 (by omega)]; exact h4
theorem one_yield {σ0 σ : Sg} {μ0 μ : Sm} {m n r p k : Nat} {Ts : Nat → Nat → List Int32} (h : ThO σ0 μ0 m n r p Ts σ μ k) (hp : p < n) :
    ∃ v F μ', f_X2_yieldOf 1 (nI p) σ = some (v, upA σ 42 F) ∧ f_X9_yieldsOf (nI p) μ = some (v, μ') ∧ ThO σ0 μ0 m n r p Ts (upA σ 42 F) μ' k ∧ R99 v := by
  obtain ⟨hH, hE, hL, hO, hF, hA, h4⟩ := id h
  obtain ⟨F, hf⟩ := fe_yield hH hL hO.rg.rm hp
  obtain ⟨μ', q1, q2, q3⟩ := fm_yields hO hp
  have e : sY (Ts r) (σ (11 * 1 + 4) p) (σ (11 * 1 + 5) p) (σ (11 * 1 + 6) p) (σ (11 * 1 + 7) p) (σ (11 * 1) 0) (σ (11 * 1 + 1) 0) = yM μ (Ts r) p := by
    obtain ⟨e1, e2, e3, e4, e5, e6⟩ := hE
    unfold yM
    rw [e1, e2, e3, e4, e5, e6]
  rw [e] at hf
  exact ⟨_, F, μ', hf, q1, h.fr q2 q3, sY_rng _ _ _ _ _ _ _⟩
theorem one_off {σ0 σ : Sg} {μ0 μ : Sm} {m n r p k : Nat} {Ts : Nat → Nat → List Int32} (h : ThO σ0 μ0 m n r p Ts σ μ k) :
    ∃ μ', f_X9_laysBack μ = some μ' ∧ FrB μ0 μ' ∧ MemoI μ' m Ts := by
  obtain ⟨hH, hE, hL, hO, hF, hA, h4⟩ := h
  obtain ⟨μ', q1, q2, q3, q4⟩ := fm_laidBack hA
  exact ⟨μ', q1, q2, memo_fr hO.me (q3 29 (by omega) (by omega) (by omega)) q4⟩
theorem sleeps_loop {σ0 : Sg} {μ0 : Sm} {m n r p : Nat} {Ts : Nat → Nat → List Int32} (hP : InvP σ0 μ0 m n r Ts) (hp : p < n) : ∀ (d c k : Nat) (σ : Sg) (μ : Sm), c + d = 61 → d < k → ThO σ0 μ0 m n r p Ts σ μ c →
    Like (f_X8_sleeps_27 (nI p) k (nI c) σ) (f_X9_sleeps_17 (nI p) k (nI c) μ) := by
  intro d
  induction d with
  | zero =>
    intro c k σ μ hc hk hT
    obtain ⟨k, rfl⟩ : ∃ q, k = q + 1 := ⟨k - 1, by omega⟩
    have e : c = 61 := by omega
    subst e
    obtain ⟨μ', q1, q2, q3⟩ := one_off hT
    rw [f_X8_sleeps_27, f_X9_sleeps_17, if_pos (show (60 : Int32) < nI 61 by decide), if_pos (show (60 : Int32) < nI 61 by decide)]
    unfold f_X9_sleeps_47
    rw [q1, Option.bind_some, if_neg (show ¬ nI 61 ≤ (60 : Int32) by decide)]
    exact ⟨_, _, _, rfl, rfl, (hP.think hT.2.2.2.2.1 q2 q3).inv⟩
  | succ d ih =>
    intro c k σ μ hc hk hT
    obtain ⟨k, rfl⟩ : ∃ q, k = q + 1 := ⟨k - 1, by omega⟩
    have n5 := hT.2.2.2.1.rg.n5
    have i5 : okI (nI p) 5 := okI_nI (by omega) (by omega)
    have j1 : okI (nI (3 * p + 1)) 15 := okI_nI (by omega) (by omega)
    have nc : ¬ (60 : Int32) < nI c := by rw [show (60 : Int32) = nI 60 from rfl, nI_ltI (by omega) (by omega)]; omega
    rw [f_X8_sleeps_27, f_X9_sleeps_17, if_neg nc, if_neg nc, ix3_1, if_pos i5, if_pos j1, nI_tn (show p < 2147483648 by omega), nI_tn (show 3 * p + 1 < 2147483648 by omega), hT.2.1.2.2.2.2.1]
    by_cases h0 : μ.1 10 (3 * p + 1) = 0
    · obtain ⟨μ', q1, q2, q3⟩ := one_off hT
      rw [if_pos h0, if_pos h0]
      unfold f_X9_sleeps_47
      rw [q1, Option.bind_some, if_pos (show nI c ≤ (60 : Int32) by rw [show (60 : Int32) = nI 60 from rfl, nI_leI (by omega) (by omega)]; omega)]
      exact ⟨_, _, _, rfl, rfl, (hP.think hT.2.2.2.2.1 q2 q3).inv⟩
    · obtain ⟨σ', v, μ', g1, g2, g3⟩ := one_night hT hp (by omega)
      rw [if_neg h0, if_neg h0, g1, g2, Option.bind_some, Option.bind_some, nI_1]
      exact ih (c + 1) k _ μ' (by omega) (by omega) g3
theorem pub_sleeps {σ : Sg} {μ : Sm} (h : Inv σ μ) (x : Int32) : Like (f_X8_sleeps x σ) (f_X9_sleeps x μ) := by
  have hI := h
  obtain ⟨m, n, r, Ts, hP⟩ := h
  obtain ⟨hR, hL, hO, h4, h5, h6, h7, h8⟩ := id hP
  have n5 := hO.rg.n5
  unfold f_X8_sleeps f_X9_sleeps
  rw [fe_lodgesI hR.1, fm_isOne hO.rg.hn n5, Option.bind_some, Option.bind_some]
  simp only []
  by_cases hx : 0 ≤ x.toInt ∧ x.toInt < n
  · obtain ⟨p, hp, rfl⟩ := one_ex hx (by omega)
    obtain ⟨σ', μ', g1, g2, g3, -, -⟩ := think_on hP
    rw [if_pos hx, if_neg one_ne, if_neg one_ne, g1, g2, Option.bind_some, Option.bind_some]
    exact sleeps_loop hP hp 61 0 5000 σ' μ' (by omega) (by omega) (g3.one hp)
  · rw [if_neg hx, if_pos rfl, if_pos rfl]; exact like_same hI _
/-! film -/
theorem narS_99 {v : Int32} (h : R99 v) : narS 0 v = v := by
  obtain ⟨a, ha, rfl⟩ := isN_R99.mpr h
  have all : ∀ a, a < 100 → narS 0 (nI a) = nI a := by decide +kernel
  exact all a ha
/-- both write one number of a sheet, and the house that is thought on stays -/
theorem ThO.put {σ0 σ : Sg} {μ0 μ : Sm} {m n r p k s i : Nat} {Ts : Nat → Nat → List Int32} {v : Int32} (h : ThO σ0 μ0 m n r p Ts σ μ k) : ThO (up σ0 (75 + 3 * s) i v) (upm μ0 43 (40 * s + i) v) m n r p Ts (up σ (75 + 3 * s) i v) (upm μ 43 (40 * s + i) v) k := by
  obtain ⟨hH, ⟨e1, e2, e3, e4, e5, e6⟩, hL, hO, hF, hA, h4⟩ := h
  refine ⟨hH.keep (up_n (by omega)) (up_n (by omega)), ⟨?_, ?_, ?_, ?_, ?_, ?_⟩, hL.keep (fun a a1 a2 a3 => up_n (by omega)), ?_, ?_, ?_, ?_⟩
  · rw [up_n (by omega), upm_n (by omega)]; exact e1
  · rw [up_n (by omega), upm_n (by omega)]; exact e2
  · rw [up_n (by omega), upm_n (by omega)]; exact e3
  · rw [up_n (by omega), upm_n (by omega)]; exact e4
  · rw [up_n (by omega), upm_n (by omega)]; exact e5
  · rw [up_n (by omega), upm_n (by omega)]; exact e6
  · exact hO.eqM (fun a ha => upm_n (by omega)) (memo_up hO.me (by omega))
  · intro a ha
    by_cases e : a = 75 + 3 * s
    · subst e; rw [up_s, up_s, hF _ (by omega)]
    · rw [up_n e, up_n e]; exact hF a ha
  · obtain ⟨a1, a2, a3, a4⟩ := hA
    refine ⟨fun a b1 b2 b3 b4 => ?_, fun j hj => ?_, fun j hj => ?_, ?_⟩
    · by_cases e : a = 43
      · subst e; rw [upm_s, upm_s, a1 43 (by omega) (by omega) (by omega) (by omega)]
      · rw [upm_n e, upm_n e]; exact a1 a b1 b2 b3 b4
    · rw [upm_n (by omega), upm_n (by omega)]; exact a2 j hj
    · rw [upm_n (by omega), upm_n (by omega)]; exact a3 j hj
    · rw [upm_n (by omega), upm_n (by omega)]; exact a4
  · rw [upm_n (by omega)]; exact h4
/-- a sheet of z numbers, in both -/
def ShZ (σ : Sg) (μ : Sm) (s so z : Nat) : Prop := so < 3 ∧ z ≤ 40 ∧ σ (73 + 3 * s) 0 = nI so ∧ σ (74 + 3 * s) 0 = nI z ∧ μ.1 40 s = 1 ∧ μ.1 41 s = nI so ∧ μ.1 42 s = nI z ∧ ∀ j, j < z → σ (75 + 3 * s) j = μ.1 43 (40 * s + j)
theorem ShZ.put {σ : Sg} {μ : Sm} {m n r s so z i : Nat} {Ts : Nat → Nat → List Int32} {v : Int32} (hP : InvP σ μ m n r Ts) (h : ShZ σ μ s so z) (hs : s < 4) (hi : i < z) : InvP (up σ (75 + 3 * s) i v) (upm μ 43 (40 * s + i) v) m n r Ts ∧ ShZ (up σ (75 + 3 * s) i v) (upm μ 43 (40 * s + i) v) s so z := by
  obtain ⟨h1, h2, h3, h4, h5, h6, h7, h8⟩ := h
  refine ⟨ShR_put hP hs h1 h2 h3 h4 h5 h6 h7 h8 hi, h1, h2, by rw [up_n (by omega)]; exact h3, by rw [up_n (by omega)]; exact h4, by rw [upm_n (by omega)]; exact h5, by rw [upm_n (by omega)]; exact h6, by rw [upm_n (by omega)]; exact h7, fun j hj => ?_⟩
  rw [up_s, upm_e]
  by_cases ej : j = i
  · rw [ej, upd_s, if_pos rfl]
  · rw [upd_n ej, if_neg (by omega)]; exact h8 j hj
theorem film_loop {m n r p s N : Nat} {Ts : Nat → Nat → List Int32} (hs : s < 4) (hp : p < n) (hN : N ≤ 20) : ∀ (d c k : Nat) (σ0 : Sg) (μ0 : Sm) (σ : Sg) (μ : Sm) (y : Int32), c + d = N → d < k → InvP σ0 μ0 m n r Ts → ShZ σ0 μ0 s 0 N → ThO σ0 μ0 m n r p Ts σ μ c →
    Like (f_X8_film_63 (nI s) (nI p) (nI N) k y (nI c) σ) (f_X9_film_48 (nI s) (nI p) (nI N) k y (nI c) μ) := by
  intro d
  induction d with
  | zero =>
    intro c k σ0 μ0 σ μ y hc hk hP hZ hT
    obtain ⟨k, rfl⟩ : ∃ q, k = q + 1 := ⟨k - 1, by omega⟩
    have e : c = N := by omega
    subst e
    obtain ⟨μ', q1, q2, q3⟩ := one_off hT
    rw [f_X8_film_63, f_X9_film_48, nI_tn (show s < 2147483648 by omega), if_pos hs, if_pos (Int32.le_refl _), if_pos (Int32.le_refl _), q1, Option.bind_some]
    exact ⟨_, _, _, rfl, rfl, (hP.think hT.2.2.2.2.1 q2 q3).inv⟩
  | succ d ih =>
    intro c k σ0 μ0 σ μ y hc hk hP hZ hT
    obtain ⟨k, rfl⟩ : ∃ q, k = q + 1 := ⟨k - 1, by omega⟩
    have ok : okI (nI (40 * s + c)) 160 := okI_nI (by omega) (by omega)
    have nN : ¬ nI N ≤ nI c := by rw [nI_leI (by omega) (by omega)]; omega
    obtain ⟨v, F, μ1, a1, a2, a3, a4⟩ := one_yield hT hp
    have f73 : (upA σ 42 F) (73 + 3 * s) 0 = nI 0 := by rw [a3.2.2.2.2.1 (73 + 3 * s) (by omega)]; exact hZ.2.2.1
    have f74 : (upA σ 42 F) (74 + 3 * s) 0 = nI N := by rw [a3.2.2.2.2.1 (74 + 3 * s) (by omega)]; exact hZ.2.2.2.1
    have hput := fe_put (v := v) hs (by omega) (by omega) f73 f74 (show c < N by omega)
    rw [narS_99 a4] at hput
    obtain ⟨i1, i2⟩ := ShZ.put (v := v) hP hZ hs (show c < N by omega)
    obtain ⟨σ2, w, μ2, b1, b2, b3⟩ := one_night (a3.put (s := s) (i := c) (v := v)) hp (by omega)
    rw [f_X8_film_63, f_X9_film_48, nI_tn (show s < 2147483648 by omega), if_pos hs, if_neg nN, if_neg nN, a1, a2, Option.bind_some, Option.bind_some]
    simp only []
    rw [hput, Option.bind_some, ix40, if_pos ok, nI_tn (show 40 * s + c < 2147483648 by omega)]
    simp only []
    rw [b1, b2, Option.bind_some, Option.bind_some, nI_1]
    exact ih (c + 1) k _ _ _ μ2 _ (by omega) (by omega) i1 i2 b3
theorem pub_film {σ : Sg} {μ : Sm} (h : Inv σ μ) (x y w : Int32) : Like (f_X8_film x y w σ) (f_X9_film x y w μ) := by
  have hI := h
  obtain ⟨m, n, r, Ts, hP⟩ := h
  obtain ⟨hR, hL, hO, h4, h5, h6, h7, h8⟩ := id hP
  have n5 := hO.rg.n5
  have l0 : (0 : Int64).toInt = 0 := by decide
  have l20 : (20 : Int64).toInt = 20 := by decide
  unfold f_X8_film f_X9_film
  rw [fe_isSheet, fm_isSheet, Option.bind_some, Option.bind_some]
  simp only [fe_lodgesI hR.1, fm_isOne hO.rg.hn n5, f_in, l32_ti, l0, l20, Option.bind_some]
  by_cases hx : 0 ≤ x.toInt ∧ x.toInt < 4
  · rw [if_pos hx, if_neg one_ne, if_neg one_ne]
    by_cases hy : 0 ≤ y.toInt ∧ y.toInt < n
    · rw [if_pos hy, if_neg one_ne, if_neg one_ne]
      by_cases hw : 0 ≤ w.toInt ∧ w.toInt ≤ 20
      · rw [if_pos hw, if_neg one_ne, if_neg (i32_ge0.mpr hw.1), if_pos (show w ≤ (20 : Int32) by rw [show (20 : Int32) = nI 20 from rfl, i32_len (by omega)]; omega)]
        obtain ⟨s, hs, rfl⟩ := one_ex (n := 4) hx (by omega)
        obtain ⟨p, hp, rfl⟩ := one_ex hy (by omega)
        obtain ⟨N, hN, rfl⟩ := one_ex (x := w) (n := 21) (by omega) (by omega)
        have ok4 : okI (nI s) 4 := okI_nI (by omega) (by omega)
        obtain ⟨σ1, μ1, a1, a2, a3, a4, a5, a6, a7, a8, a9, a10, a11⟩ := sim_sheet (so := 0) (z := N) hP hs (by omega) (by omega)
        have a1' : f_X5_become s (0 : Int32) (nI N) σ = _ := a1
        have a2' : f_X9_sheet (nI s) (0 : Int32) (nI N) μ = _ := a2
        obtain ⟨σ2, μ2, g1, g2, g3, -, -⟩ := think_on a3
        have hZ : ShZ σ1 μ1 s 0 N := by
          rcases a3.2.2.2.2.2.2.2 s hs with ⟨c1, c2⟩ | ⟨so, z, b1, b2, b3, b4, b5, b6, b7, b8⟩
          · rw [a9] at c2; exact absurd c2 one_ne
          · have ez : z = N := by
              have := b6.symm.trans a8
              exact Classical.byContradiction fun q => nI_ne (by omega) (by omega) q this
            subst ez
            exact ⟨by omega, by omega, a7, a8, a9, a10, a11, b8⟩
        rw [if_pos ok4, nI_tn (show s < 2147483648 by omega), a1', a2', Option.bind_some, Option.bind_some]
        simp only []
        rw [g1, g2, Option.bind_some, Option.bind_some]
        exact film_loop hs hp (by omega) N 0 5000 σ1 μ1 σ2 μ2 0 (by omega) (by omega) a3 hZ (g3.one hp)
      · rw [if_neg hw, if_pos rfl]
        by_cases w0 : w < 0
        · rw [if_pos w0]; exact like_same hI _
        · rw [if_neg w0, if_neg (show ¬ w ≤ (20 : Int32) by rw [i32_ge0] at w0; rw [show (20 : Int32) = nI 20 from rfl, i32_len (by omega)]; omega)]; exact like_same hI _
    · rw [if_neg hy, if_pos rfl, if_pos rfl]; exact like_same hI _
  · rw [if_neg hx, if_pos rfl, if_pos rfl]; exact like_same hI _
