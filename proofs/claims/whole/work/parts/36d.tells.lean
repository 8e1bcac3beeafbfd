/-! What a sheet tells: the first that is otherwise -/
theorem FrB.rows {μ ν : Sm} (h : FrB μ ν) : ν.1 7 0 = μ.1 7 0 ∧ (∀ j, j < 15 → ν.1 10 j = μ.1 10 j) ∧ ∀ j, j < 18 → ν.1 11 j = μ.1 11 j := h.2
theorem first_loop {σ0 : Sg} {μ0 : Sm} {m n r p s so z : Nat} {Ts : Nat → Nat → List Int32} (hs : s < 4) (hp : p < n) (hz : z ≤ 20) (c4 : σ0 (74 + 3 * s) 0 = nI z) (c7 : μ0.1 42 s = nI z) (c8 : ∀ j, j < z → σ0 (75 + 3 * s) j = μ0.1 43 (40 * s + j)) : ∀ (d c k : Nat) (σ : Sg) (μ : Sm), c + d = z → d + 1 < k → ThO σ0 μ0 m n r p Ts σ μ c →
    ∃ v σ' μ', f_X8_firstOtherwise_2 s (nI p) k (nI c) σ = some (v, σ') ∧ f_X9_firstOther_9 (nI s) (nI p) k (-1) (nI c) μ = some (v, μ') ∧ FrT σ0 σ' ∧ FrB μ0 μ' ∧ MemoI μ' m Ts := by
  intro d
  induction d with
  | zero =>
    intro c k σ μ hc hk hT
    obtain ⟨k, rfl⟩ : ∃ q, k = q + 1 := ⟨k - 1, by omega⟩
    have e : c = z := by omega
    subst e
    have ok4 : okI (nI s) 4 := okI_nI (by omega) (by omega)
    obtain ⟨μ', q1, q2, q3⟩ := one_off hT
    have hF := hT.2.2.2.2.1
    have hA := hT.2.2.2.2.2.1
    have f4 : σ (74 + 3 * s) 0 = nI c := by rw [hF _ (by omega)]; exact c4
    have f7 : μ.1 42 s = nI c := by rw [hA.1 42 (by omega) (by omega) (by omega) (by omega)]; exact c7
    rw [f_X8_firstOtherwise_2, f_X9_firstOther_9, if_pos hs, f4, if_pos (Int32.le_refl _), if_pos ok4, nI_tn (show s < 2147483648 by omega), f7, if_pos (Int32.le_refl _), q1, Option.bind_some]
    exact ⟨_, _, _, rfl, rfl, hF, q2, q3⟩
  | succ d ih =>
    intro c k σ μ hc hk hT
    obtain ⟨k, rfl⟩ : ∃ q, k = q + 1 := ⟨k - 1, by omega⟩
    have ok4 : okI (nI s) 4 := okI_nI (by omega) (by omega)
    have ok40 : okI (nI c) 40 := okI_nI (by omega) (by omega)
    have ok : okI (nI (40 * s + c)) 160 := okI_nI (by omega) (by omega)
    have nz : ¬ nI z ≤ nI c := by rw [nI_leI (by omega) (by omega)]; omega
    have hF := hT.2.2.2.2.1
    have hA := hT.2.2.2.2.2.1
    have f4 : σ (74 + 3 * s) 0 = nI z := by rw [hF _ (by omega)]; exact c4
    have f7 : μ.1 42 s = nI z := by rw [hA.1 42 (by omega) (by omega) (by omega) (by omega)]; exact c7
    obtain ⟨v, F, μ1, a1, a2, a3, a4⟩ := one_yield hT hp
    have f8 : σ (75 + 3 * s) c = μ1.1 43 (40 * s + c) := by
      rw [hF _ (by omega), a3.2.2.2.2.2.1.1 43 (by omega) (by omega) (by omega) (by omega)]; exact c8 c (by omega)
    rw [f_X8_firstOtherwise_2, f_X9_firstOther_9, if_pos hs, f4, if_neg nz, if_pos ok4, nI_tn (show s < 2147483648 by omega), f7, if_neg nz, if_pos ok40, if_pos (show (-1 : Int32) = -1 from rfl), a1, a2, Option.bind_some, Option.bind_some]
    simp only []
    rw [ix40, if_pos ok, nI_tn (show 40 * s + c < 2147483648 by omega), nI_tn (show c < 2147483648 by omega), f8]
    obtain ⟨σ2, w, μ2, b1, b2, b3⟩ := one_night a3 hp (by omega)
    by_cases hv : μ1.1 43 (40 * s + c) = v
    · rw [if_pos hv, if_pos hv.symm, b1, Option.bind_some]
      unfold f_X9_firstOther_51
      rw [b2, Option.bind_some, nI_1]
      exact ih (c + 1) k _ μ2 (by omega) (by omega) b3
    · rw [if_neg hv, if_neg (fun q => hv q.symm)]
      unfold f_X9_firstOther_51
      rw [b2, Option.bind_some, nI_1]
      obtain ⟨k, rfl⟩ : ∃ q, k = q + 1 := ⟨k - 1, by omega⟩
      obtain ⟨μ', q1, q2, q3⟩ := one_off b3
      have f7' : μ2.1 42 s = nI z := by rw [b3.2.2.2.2.2.1.1 42 (by omega) (by omega) (by omega) (by omega)]; exact c7
      refine ⟨nI c, upA σ 42 F, μ', rfl, ?_, a3.2.2.2.2.1, q2, q3⟩
      rw [f_X9_firstOther_9, if_pos ok4, nI_tn (show s < 2147483648 by omega), if_neg (nI_nem1 (show c < 2147483648 by omega))]
      simp only []
      rw [q1, Option.bind_some]
      by_cases hz2 : μ2.1 42 s ≤ nI (c + 1)
      · rw [if_pos hz2]
      · rw [if_neg hz2]
/-- the first that is otherwise: a house that is thought on, beside the reference -/
theorem sim_first {σ0 σ : Sg} {μ : Sm} {m n r p s z : Nat} {Ts : Nat → Nat → List Int32} (hs : s < 4) (hp : p < n) (hz : z ≤ 20) (hR : HoR σ 1 μ n r) (hL : LawC σ m Ts) (hO : HoM μ m n r Ts) (h4 : isN (μ.1 7 0) 1000) (hF : FrT σ0 σ) (c4 : σ0 (74 + 3 * s) 0 = nI z) (c7 : μ.1 42 s = nI z) (c8 : ∀ j, j < z → σ0 (75 + 3 * s) j = μ.1 43 (40 * s + j)) :
    ∃ v σ' μ', f_X8_firstOtherwise s (nI p) σ = some (v, σ') ∧ f_X9_firstOther (nI s) (nI p) μ = some (v, μ') ∧ FrT σ0 σ' ∧ FrB μ μ' ∧ MemoI μ' m Ts := by
  obtain ⟨μ1, q1, q2, q3, q4⟩ := fm_aside μ
  have hT : ThO σ0 μ m n r p Ts σ μ1 0 := by
    refine ⟨hR.1, (hR.eqM (fun a ha => q2 a (by omega))).one hp, hL, hO.eqM (fun a ha => q2 a (by omega)) (memo_fr hO.me (q2 29 (by omega)) q3), hF, q4, ?_⟩
    rw [q2 7 (by omega)]; exact h4
  obtain ⟨v, σ', μ', g1, g2, g3⟩ := first_loop (so := 0) hs hp hz c4 c7 c8 z 0 5000 σ μ1 (by omega) (by omega) hT
  refine ⟨v, σ', μ', ?_, ?_, g3⟩
  · unfold f_X8_firstOtherwise
    rw [if_pos hs]
    exact g1
  · unfold f_X9_firstOther
    rw [q1, Option.bind_some]
    exact g2
/-! what is laid ahead of a trial -/
def Lay (m wc wm B : Nat) : Prop := (wc = 7 ∧ wm = 7 ∧ B = 6) ∨ (wc = 2 ∧ wm = 2 ∧ B = 10) ∨ (wc = 3 ∧ wm = 3 ∧ B = 100) ∨ (wc = 1 ∧ wm = 1 ∧ B = 24) ∨ (wc = 11 ∧ wm = 8 ∧ B = m)
/-- what is laid, as a row -/
def layM (μ : Sm) (wm p : Nat) (v : Int32) : Sm := if wm = 1 then upm μ 8 0 v else if wm = 8 then upm μ 4 0 v else laidO μ wm p v
def layW (μ : Sm) (wm p : Nat) : Int32 := if wm = 1 then μ.1 8 0 else if wm = 8 then μ.1 4 0 else valO μ wm p
theorem Lay.c {m wc wm B : Nat} (h : Lay m wc wm B) : (wm = 1 ∧ wc = 1 ∧ B = 24) ∨ (wm = 8 ∧ wc = 11 ∧ B = m) ∨ (isO wm ∧ wc = wm ∧ B = mostO wm + 1) := by
  rcases h with ⟨rfl, rfl, rfl⟩ | ⟨rfl, rfl, rfl⟩ | ⟨rfl, rfl, rfl⟩ | ⟨rfl, rfl, rfl⟩ | ⟨rfl, rfl, rfl⟩
  · exact Or.inr (Or.inr ⟨by omega, rfl, rfl⟩)
  · exact Or.inr (Or.inr ⟨by omega, rfl, rfl⟩)
  · exact Or.inr (Or.inr ⟨by omega, rfl, rfl⟩)
  · exact Or.inl ⟨rfl, rfl, rfl⟩
  · exact Or.inr (Or.inl ⟨rfl, rfl, rfl⟩)
theorem layM_O {μ : Sm} {k p : Nat} {v : Int32} (h : isO k) : layM μ k p v = laidO μ k p v := by
  unfold layM
  rw [if_neg (by omega), if_neg (by omega)]
theorem fm_lay {μ : Sm} {m wc wm B p : Nat} (h : Lay m wc wm B) (hp : p < 5) (v : Int32) : f_X9_lays (nI wm) (nI p) v μ = some (layM μ wm p v) := by
  rcases h.c with ⟨rfl, -, -⟩ | ⟨rfl, -, -⟩ | ⟨h1, -, -⟩
  · exact fm_lays01 (k := 1) (by omega) (nI p) v
  · exact fm_laysR (nI p) v
  · rw [layM_O h1]; exact fm_laysO h1 hp v
theorem lay_go {σ : Sg} {μ : Sm} {m n r wc wm B p u : Nat} {Ts : Nat → Nat → List Int32} (h : Lay m wc wm B) (hu : u < B) (hp : p < n) (hR : HoR σ 1 μ n r) (hO : HoM μ m n r Ts) :
    ∃ σ' r', f_X1_write 1 (nI wc) (nI p) (nI u) σ = some σ' ∧ HoR σ' 1 (layM μ wm p (nI u)) n r' ∧ HoM (layM μ wm p (nI u)) m n r' Ts ∧ ∀ a, (a < 11 ∨ 22 ≤ a) → σ' a = σ a := by
  rcases h.c with ⟨rfl, rfl, rfl⟩ | ⟨rfl, rfl, rfl⟩ | ⟨h1, rfl, rfl⟩
  · exact ⟨_, r, fe_write01 (k := 1) (by omega) (by omega) (nI p) (nI u), hR.hour, hO.hour ⟨u, hu, rfl⟩, fun a ha => up_n (by omega)⟩
  · exact ⟨_, u, fe_writeR (by omega) (nI p) (nI u), hR.rule, hO.rule hu, fun a ha => up_n (by omega)⟩
  · rw [layM_O h1]
    exact ⟨_, r, fe_writeO hR.1 h1 hp (nI u), hR.laidO h1, hO.laidO h1 ⟨u, hu, rfl⟩, fun a ha => up_n (by unfold offO; split <;> omega)⟩
theorem layM_n {μ : Sm} {wm p a : Nat} {v : Int32} (h : a ≠ 4 ∧ a ≠ 8 ∧ a ≠ 9 ∧ a ≠ 10) : (layM μ wm p v).1 a = μ.1 a := by
  unfold layM
  split
  · exact upm_n h.2.1
  · split
    · exact upm_n h.1
    · exact laidO_n h.2.2.1 h.2.2.2
theorem upm_upm {μ : Sm} {id j : Nat} {v w : Int32} : upm (upm μ id j v) id j w = upm μ id j w := by
  show (upA (upA μ.1 id (upd (μ.1 id) j v)) id (upd ((upA μ.1 id (upd (μ.1 id) j v)) id) j w), μ.2) = (upA μ.1 id (upd (μ.1 id) j w), μ.2)
  rw [upA_s, upA_upA]
  congr 2
  funext b
  by_cases h : b = j
  · rw [h, upd_s, upd_s]
  · rw [upd_n h, upd_n h, upd_n h]
theorem layM_lay {μ : Sm} {wm p : Nat} {v w : Int32} : layM (layM μ wm p v) wm p w = layM μ wm p w := by
  unfold layM laidO
  split
  · exact upm_upm
  · split
    · exact upm_upm
    · split
      · exact upm_upm
      · exact upm_upm
theorem layM_self {μ : Sm} {wm p : Nat} : layM μ wm p (layW μ wm p) = μ := by
  unfold layM layW laidO valO
  split
  · exact upm_self
  · split
    · exact upm_self
    · split
      · exact upm_self
      · exact upm_self
theorem FrB.up {μ ν : Sm} (h : FrB μ ν) (id j : Nat) (v : Int32) : FrB (upm μ id j v) (upm ν id j v) := by
  obtain ⟨h1, h2, h3, h4⟩ := h
  refine ⟨fun a a1 a2 a3 a4 => ?_, ?_, fun q hq => ?_, fun q hq => ?_⟩
  · by_cases e : a = id
    · subst e; rw [upm_s, upm_s, h1 a a1 a2 a3 a4]
    · rw [upm_n e, upm_n e]; exact h1 a a1 a2 a3 a4
  · by_cases e : 7 = id
    · subst e; rw [upm_e, upm_e, h2]
    · rw [upm_n e, upm_n e]; exact h2
  · by_cases e : 10 = id
    · subst e; rw [upm_e, upm_e, h3 q hq]
    · rw [upm_n e, upm_n e]; exact h3 q hq
  · by_cases e : 11 = id
    · subst e; rw [upm_e, upm_e, h4 q hq]
    · rw [upm_n e, upm_n e]; exact h4 q hq
theorem FrB.lay {μ ν : Sm} (h : FrB μ ν) (wm p : Nat) (v : Int32) : FrB (layM μ wm p v) (layM ν wm p v) := by
  unfold layM laidO
  split
  · exact h.up _ _ _
  · split
    · exact h.up _ _ _
    · split
      · exact h.up _ _ _
      · exact h.up _ _ _
theorem memo_lay {μ : Sm} {m wm p : Nat} {Ts : Nat → Nat → List Int32} {v : Int32} (h : MemoI μ m Ts) : MemoI (layM μ wm p v) m Ts := by
  unfold layM laidO
  split
  · exact memo_up h (by omega)
  · split
    · exact memo_up h (by omega)
    · split
      · exact memo_up h (by omega)
      · exact memo_up h (by omega)
/-- the reference, while trials go on: but for what is laid all is as it was -/
def Tri (μ : Sm) (m wm p : Nat) (Ts : Nat → Nat → List Int32) (ν : Sm) : Prop := MemoI ν m Ts ∧ ∃ v, FrB (layM μ wm p v) ν
/-- a sheet that is there, in both -/
def ShW (σ : Sg) (μ : Sm) (s z : Nat) : Prop := σ (74 + 3 * s) 0 = nI z ∧ μ.1 42 s = nI z ∧ ∀ j, j < z → σ (75 + 3 * s) j = μ.1 43 (40 * s + j)
/-- a trial, in both, from whatever is left of those ahead -/
theorem sim_try {σ0 : Sg} {μ0 : Sm} {m n r p s z wc wm B u : Nat} {Ts : Nat → Nat → List Int32} (hP : InvP σ0 μ0 m n r Ts) (hs : s < 4) (hp : p < n) (hz : z ≤ 20) (hW : ShW σ0 μ0 s z) (hl : Lay m wc wm B) (hu : u < B) (σ : Sg) (hF : FrT σ0 σ) (ν : Sm) (hT : Tri μ0 m wm p Ts ν) :
    ∃ v σ' ν1 ν', f_X8_fits s (nI p) (nI wc) (nI u) σ = some (if v = -1 then 1 else 0, σ') ∧ f_X9_lays (nI wm) (nI p) (nI u) ν = some ν1 ∧ f_X9_firstOther (nI s) (nI p) ν1 = some (v, ν') ∧ FrT σ0 σ' ∧ Tri μ0 m wm p Ts ν' := by
  obtain ⟨hR, hL, hO, h4, h5, h6, h7, h8⟩ := id hP
  have n5 := hO.rg.n5
  obtain ⟨c4, c7, c8⟩ := hW
  obtain ⟨t1, w0, t2⟩ := hT
  have t3 : FrB (layM μ0 wm p (nI u)) (layM ν wm p (nI u)) := by
    have := t2.lay wm p (nI u)
    rw [layM_lay] at this
    exact this
  obtain ⟨σ1, g1, g2⟩ := fe_takeFrom (σ := σ) (i := 1) (j := 0) (by omega) (by omega) (by omega)
  have hR0 : HoR σ 0 μ0 n r := hR.keepC (fun a ha => hF a (by omega))
  have hR1 : HoR σ1 1 μ0 n r := g2.R (by omega) hR0
  obtain ⟨σ2, r', b1, b2, b3, b4⟩ := lay_go hl hu hp hR1 hO
  have hO' : HoM (layM ν wm p (nI u)) m n r' Ts := t3.ho b3 (memo_lay t1)
  have hR' : HoR σ2 1 (layM ν wm p (nI u)) n r' := b2.keepM t3
  have hF2 : FrT σ0 σ2 := hF.tr (g2.frT.tr (fun a ha => b4 a (by omega)))
  have hL2 : LawC σ2 m Ts := hL.keep (fun a a1 a2 a3 => hF2 a (by omega))
  have e42 : (layM ν wm p (nI u)).1 42 = μ0.1 42 := by
    rw [t3.1 42 (by omega) (by omega) (by omega) (by omega), layM_n (by omega)]
  have e43 : (layM ν wm p (nI u)).1 43 = μ0.1 43 := by
    rw [t3.1 43 (by omega) (by omega) (by omega) (by omega), layM_n (by omega)]
  have e7 : isN ((layM ν wm p (nI u)).1 7 0) 1000 := by
    rw [t3.2.1, layM_n (by omega)]; exact h4
  obtain ⟨v, σ', ν', q1, q2, q3, q4, q5⟩ := sim_first hs hp hz hR' hL2 hO' e7 hF2 c4 (by rw [e42]; exact c7) (fun j hj => by rw [e43]; exact c8 j hj)
  refine ⟨v, σ', _, ν', ?_, fm_lay hl (by omega) (nI u), q2, q3, q5, nI u, t3.tr q4⟩
  unfold f_X8_fits
  rw [if_pos hs, g1, Option.bind_some, b1, Option.bind_some, q1, Option.bind_some]
  simp only []
  by_cases hv : v = -1
  · rw [if_pos hv, if_pos hv]
  · rw [if_neg hv, if_neg hv]
/-- what the trial of u answers -/
def tryV (μ : Sm) (s wm p u : Nat) : Int32 := match f_X9_firstOther (nI s) (nI p) (layM μ wm p (nI u)) with
  | some (v, _) => v
  | none => 0
theorem Tri.rf {μ : Sm} {m wm p : Nat} {Ts : Nat → Nat → List Int32} (h : MemoI μ m Ts) : Tri μ m wm p Ts μ := ⟨h, layW μ wm p, by rw [layM_self]; exact FrB.rf⟩
theorem try_both {σ0 : Sg} {μ0 : Sm} {m n r p s z wc wm B u : Nat} {Ts : Nat → Nat → List Int32} (hP : InvP σ0 μ0 m n r Ts) (hs : s < 4) (hp : p < n) (hz : z ≤ 20) (hW : ShW σ0 μ0 s z) (hl : Lay m wc wm B) (hu : u < B) :
    (∀ σ, FrT σ0 σ → ∃ σ', f_X8_fits s (nI p) (nI wc) (nI u) σ = some (if tryV μ0 s wm p u = -1 then 1 else 0, σ') ∧ FrT σ0 σ') ∧
    (∀ ν, Tri μ0 m wm p Ts ν → ∃ v ν1 ν', f_X9_lays (nI wm) (nI p) (nI u) ν = some ν1 ∧ f_X9_firstOther (nI s) (nI p) ν1 = some (v, ν') ∧ (v = -1 ↔ tryV μ0 s wm p u = -1) ∧ Tri μ0 m wm p Ts ν') := by
  have hp5 : p < 5 := by have := hP.2.2.1.rg.n5; omega
  have key : ∀ σ, FrT σ0 σ → ∀ ν, Tri μ0 m wm p Ts ν → ∃ v σ' ν1 ν', f_X8_fits s (nI p) (nI wc) (nI u) σ = some (if v = -1 then 1 else 0, σ') ∧ f_X9_lays (nI wm) (nI p) (nI u) ν = some ν1 ∧ f_X9_firstOther (nI s) (nI p) ν1 = some (v, ν') ∧ FrT σ0 σ' ∧ Tri μ0 m wm p Ts ν' := fun σ hF ν hT => sim_try hP hs hp hz hW hl hu σ hF ν hT
  have base : ∀ σ, FrT σ0 σ → ∃ σ', f_X8_fits s (nI p) (nI wc) (nI u) σ = some (if tryV μ0 s wm p u = -1 then 1 else 0, σ') ∧ FrT σ0 σ' := by
    intro σ hF
    obtain ⟨v, σ', ν1, ν', a1, a2, a3, a4, a5⟩ := key σ hF μ0 (Tri.rf hP.2.2.1.me)
    rw [fm_lay hl hp5] at a2
    have e : ν1 = layM μ0 wm p (nI u) := (Option.some.inj a2).symm
    subst e
    have ev : tryV μ0 s wm p u = v := by unfold tryV; rw [a3]
    rw [ev]
    exact ⟨σ', a1, a4⟩
  refine ⟨base, fun ν hT => ?_⟩
  obtain ⟨v, σ', ν1, ν', a1, a2, a3, a4, a5⟩ := key σ0 FrT.rf ν hT
  obtain ⟨σ2, d1, d2⟩ := base σ0 FrT.rf
  refine ⟨v, ν1, ν', a2, a3, ?_, a5⟩
  have e := congrArg Prod.fst (Option.some.inj (a1.symm.trans d1))
  have e' : (if v = -1 then (1 : Int32) else 0) = if tryV μ0 s wm p u = -1 then 1 else 0 := e
  by_cases h1 : v = -1
  · by_cases h2 : tryV μ0 s wm p u = -1
    · exact ⟨fun _ => h2, fun _ => h1⟩
    · rw [if_pos h1, if_neg h2] at e'
      exact absurd e' one_ne
  · by_cases h2 : tryV μ0 s wm p u = -1
    · rw [if_neg h1, if_pos h2] at e'
      exact absurd e'.symm one_ne
    · exact ⟨fun q => absurd q h1, fun q => absurd q h2⟩
/-! all that would fit: upward in the class, downward in the reference -/
def fB (f : Nat → Int32) : Nat → Int32
  | 0 => 0
  | c + 1 => if f c = -1 then fB f c ||| ((1 : Int32) <<< (nI c &&& 31)) else fB f c
def fB2 (f : Nat → Int32) : Nat → Int32
  | 0 => 0
  | c + 1 => if f c = -1 then fB2 f c ||| (if 24 ≤ c then 0 else (1 : Int32) <<< (nI c &&& 31)) else fB2 f c
def fC (f : Nat → Int32) : Nat → Nat
  | 0 => 0
  | c + 1 => if f c = -1 then fC f c + 1 else fC f c
def fL (f : Nat → Int32) : Nat → Nat → Int32
  | 0, _ => -1
  | d + 1, c => if f c = -1 then nI c else fL f d (c + 1)
def fM (f : Nat → Int32) : Int32 → Nat → Int32
  | y, 0 => y
  | y, c + 1 => fM f (if f c = -1 then nI c else y) c
theorem fB_eq {f : Nat → Int32} : ∀ c, c ≤ 24 → fB2 f c = fB f c
  | 0, _ => rfl
  | c + 1, h => by
    unfold fB2 fB
    rw [fB_eq c (by omega), if_neg (show ¬ 24 ≤ c by omega)]
theorem fM_fL {f : Nat → Int32} : ∀ c d, fM f (fL f d c) c = fL f (d + c) 0
  | 0, d => by rw [fM, Nat.add_zero]
  | c + 1, d => by
    have e : (if f c = -1 then nI c else fL f d (c + 1)) = fL f (d + 1) c := by rw [fL]
    rw [fM, e, fM_fL c (d + 1)]
    congr 1; omega
theorem fC_le {f : Nat → Int32} : ∀ c, fC f c ≤ c
  | 0 => Nat.le_refl _
  | c + 1 => by
    have := fC_le (f := f) c
    unfold fC
    split <;> omega
theorem fe_fitting {σ0 : Sg} {p s wc B : Nat} {f : Nat → Int32} (hs : s < 4) (hB0 : 1 ≤ B) (hB : B ≤ 100) (hC : ∀ u, u < B → ∀ σ, FrT σ0 σ → ∃ σ', f_X8_fits s (nI p) (nI wc) (nI u) σ = some (if f u = -1 then 1 else 0, σ') ∧ FrT σ0 σ') : ∀ (d c k : Nat) (σ : Sg), c + d = B → d < k → FrT σ0 σ →
    ∃ σ', f_X8_fitting_6 s (nI p) (nI wc) (nI (B - 1)) k (fB f c) (nI c) σ = some (fB f B, σ') ∧ FrT σ0 σ' := by
  intro d
  induction d with
  | zero =>
    intro c k σ hc hk hF
    obtain ⟨k, rfl⟩ : ∃ q, k = q + 1 := ⟨k - 1, by omega⟩
    have e : c = B := by omega
    subst e
    rw [f_X8_fitting_6, if_pos hs, if_pos (by rw [nI_ltI (by omega) (by omega)]; omega)]
    exact ⟨σ, rfl, hF⟩
  | succ d ih =>
    intro c k σ hc hk hF
    obtain ⟨k, rfl⟩ : ∃ q, k = q + 1 := ⟨k - 1, by omega⟩
    obtain ⟨σ1, g1, g2⟩ := hC c (by omega) σ hF
    obtain ⟨σ', a1, a2⟩ := ih (c + 1) k σ1 (by omega) (by omega) g2
    refine ⟨σ', ?_, a2⟩
    rw [f_X8_fitting_6, if_pos hs, if_neg (by rw [nI_ltI (by omega) (by omega)]; omega), g1, Option.bind_some]
    simp only []
    rw [nI_1]
    rw [fB] at a1
    by_cases h : f c = -1
    · rw [if_pos h] at a1 ⊢
      rw [if_neg one_ne]
      exact a1
    · rw [if_neg h] at a1 ⊢
      rw [if_pos rfl]
      exact a1
theorem fe_troubles {σ0 : Sg} {p s : Nat} {f : Nat → Int32} (hs : s < 4) (hC : ∀ u, u < 100 → ∀ σ, FrT σ0 σ → ∃ σ', f_X8_fits s (nI p) (nI 3) (nI u) σ = some (if f u = -1 then 1 else 0, σ') ∧ FrT σ0 σ') : ∀ (d c k : Nat) (σ : Sg), c + d = 100 → d < k → FrT σ0 σ →
    ∃ σ', f_X8_troublesFitting_5 s (nI p) k (nI (fC f c)) (nI c) σ = some (nI (fC f 100), σ') ∧ FrT σ0 σ' := by
  intro d
  induction d with
  | zero =>
    intro c k σ hc hk hF
    obtain ⟨k, rfl⟩ : ∃ q, k = q + 1 := ⟨k - 1, by omega⟩
    have e : c = 100 := by omega
    subst e
    rw [f_X8_troublesFitting_5, if_pos hs, if_pos (show (99 : Int32) < nI 100 by decide)]
    exact ⟨σ, rfl, hF⟩
  | succ d ih =>
    intro c k σ hc hk hF
    obtain ⟨k, rfl⟩ : ∃ q, k = q + 1 := ⟨k - 1, by omega⟩
    obtain ⟨σ1, g1, g2⟩ := hC c (by omega) σ hF
    have g1' : f_X8_fits s (nI p) (3 : Int32) (nI c) σ = _ := g1
    obtain ⟨σ', a1, a2⟩ := ih (c + 1) k σ1 (by omega) (by omega) g2
    refine ⟨σ', ?_, a2⟩
    rw [f_X8_troublesFitting_5, if_pos hs, if_neg (show ¬ (99 : Int32) < nI c by rw [show (99 : Int32) = nI 99 from rfl, nI_ltI (by omega) (by omega)]; omega), g1', Option.bind_some]
    simp only []
    rw [nI_1, nI_1]
    rw [fC] at a1
    by_cases h : f c = -1
    · rw [if_pos h] at a1 ⊢
      rw [if_neg one_ne]
      exact a1
    · rw [if_neg h] at a1 ⊢
      rw [if_pos rfl]
      exact a1
theorem fe_least {σ0 : Sg} {p s : Nat} {f : Nat → Int32} (hs : s < 4) (hC : ∀ u, u < 100 → ∀ σ, FrT σ0 σ → ∃ σ', f_X8_fits s (nI p) (nI 3) (nI u) σ = some (if f u = -1 then 1 else 0, σ') ∧ FrT σ0 σ') : ∀ (d c k : Nat) (σ : Sg), c + d = 100 → d < k → FrT σ0 σ →
    ∃ σ', f_X8_leastTroubleFitting_2 s (nI p) k (nI c) σ = some (fL f d c, σ') ∧ FrT σ0 σ' := by
  intro d
  induction d with
  | zero =>
    intro c k σ hc hk hF
    obtain ⟨k, rfl⟩ : ∃ q, k = q + 1 := ⟨k - 1, by omega⟩
    have e : c = 100 := by omega
    subst e
    rw [f_X8_leastTroubleFitting_2, if_pos hs, if_pos (show (99 : Int32) < nI 100 by decide)]
    exact ⟨σ, rfl, hF⟩
  | succ d ih =>
    intro c k σ hc hk hF
    obtain ⟨k, rfl⟩ : ∃ q, k = q + 1 := ⟨k - 1, by omega⟩
    obtain ⟨σ1, g1, g2⟩ := hC c (by omega) σ hF
    have g1' : f_X8_fits s (nI p) (3 : Int32) (nI c) σ = _ := g1
    rw [f_X8_leastTroubleFitting_2, if_pos hs, if_neg (show ¬ (99 : Int32) < nI c by rw [show (99 : Int32) = nI 99 from rfl, nI_ltI (by omega) (by omega)]; omega), g1', Option.bind_some, fL]
    simp only []
    rw [nI_1]
    by_cases h : f c = -1
    · rw [if_pos h, if_neg one_ne, if_pos h]
      exact ⟨σ1, rfl, g2⟩
    · rw [if_neg h, if_pos rfl, if_neg h]
      exact ih (c + 1) k σ1 (by omega) (by omega) g2
theorem fm_trials {μ0 : Sm} {m p s wc wm B : Nat} {Ts : Nat → Nat → List Int32} {f : Nat → Int32} (hl : Lay m wc wm B) (hp : p < 5) (hB : B ≤ 100) (x3 : Int32) (hM : ∀ u, u < B → ∀ ν, Tri μ0 m wm p Ts ν → ∃ v ν1 ν', f_X9_lays (nI wm) (nI p) (nI u) ν = some ν1 ∧ f_X9_firstOther (nI s) (nI p) ν1 = some (v, ν') ∧ (v = -1 ↔ f u = -1) ∧ Tri μ0 m wm p Ts ν') : ∀ (c k q : Nat) (y7 y9 : Int32) (ν : Sm), c ≤ B → c < k → Tri μ0 m wm p Ts ν →
    ∃ ν', f_X9_tells_215 (nI s) (nI p) x3 k (nI wm) (layW μ0 wm p) y7 (nI q) y9 (nI c - 1) ν = some (if x3 = 3 then nI (q + fC f c) else if x3 = 4 then fM f y9 c else y7 ||| fB2 f c, ν') ∧ FrB μ0 ν' ∧ MemoI ν' m Ts := by
  intro c
  induction c with
  | zero =>
    intro k q y7 y9 ν hc hk hT
    obtain ⟨k, rfl⟩ : ∃ q, k = q + 1 := ⟨k - 1, by omega⟩
    obtain ⟨t1, w0, t2⟩ := hT
    have t3 := t2.lay wm p (layW μ0 wm p)
    rw [layM_lay, layM_self] at t3
    refine ⟨layM ν wm p (layW μ0 wm p), ?_, t3, memo_lay t1⟩
    rw [f_X9_tells_215, if_pos (show nI 0 - 1 < 0 by decide), fm_lay hl hp, Option.bind_some]
    simp only [fC, fM, fB2, Nat.add_zero, Int32.or_zero]
    by_cases h3 : x3 = 3
    · rw [if_pos h3, if_pos h3]
    · rw [if_neg h3, if_neg h3]
      by_cases h4 : x3 = 4
      · rw [if_pos h4, if_pos h4]
      · rw [if_neg h4, if_neg h4]
  | succ c ih =>
    intro k q y7 y9 ν hc hk hT
    obtain ⟨k, rfl⟩ : ∃ q, k = q + 1 := ⟨k - 1, by omega⟩
    have e0 : (0 : Int32).toInt = 0 := by decide
    obtain ⟨v, ν1, ν2, g1, g2, g3, g4⟩ := hM c (by omega) ν hT
    have ey : nI (c + 1) - 1 = nI c := by rw [show (1 : Int32) = nI 1 from rfl, nI_sub (by omega)]; rfl
    have ez : nI c + (-1 : Int32) = nI c - 1 := (Int32.sub_eq_add_neg _ _).symm
    rw [f_X9_tells_215, ey, if_neg (show ¬ nI c < 0 by rw [i32_lt, e0, nI_ti (by omega)]; omega), g1, Option.bind_some, g2, Option.bind_some]
    simp only []
    rw [ez]
    unfold f_X9_tells_256
    simp only [ez, nI_1]
    by_cases hv : v = -1
    · have hf := g3.mp hv
      rw [if_pos hv, fC, fM, fB2, if_pos hf, if_pos hf, if_pos hf]
      by_cases h24 : 24 ≤ c
      · obtain ⟨ν', a1, a2⟩ := ih k (q + 1) (y7 ||| 0) (nI c) ν2 (by omega) (by omega) g4
        rw [if_pos (show (24 : Int32) ≤ nI c by rw [show (24 : Int32) = nI 24 from rfl, nI_leI (by omega) (by omega)]; omega), if_pos h24, a1]
        refine ⟨ν', ?_, a2⟩
        rw [Int32.or_zero, Int32.or_zero, show q + 1 + fC f c = q + (fC f c + 1) by omega]
      · obtain ⟨ν', a1, a2⟩ := ih k (q + 1) (y7 ||| ((1 : Int32) <<< (nI c &&& 31))) (nI c) ν2 (by omega) (by omega) g4
        rw [if_neg (show ¬ (24 : Int32) ≤ nI c by rw [show (24 : Int32) = nI 24 from rfl, nI_leI (by omega) (by omega)]; omega), if_neg h24, a1]
        refine ⟨ν', ?_, a2⟩
        rw [show q + 1 + fC f c = q + (fC f c + 1) by omega, Int32.or_assoc, Int32.or_comm (fB2 f c)]
    · have hf : ¬ f c = -1 := fun w => hv (g3.mpr w)
      obtain ⟨ν', a1, a2⟩ := ih k q y7 y9 ν2 (by omega) (by omega) g4
      rw [if_neg hv, fC, fM, fB2, if_neg hf, if_neg hf, if_neg hf, a1]
      exact ⟨ν', rfl, a2⟩
theorem fm_tells124 {μ : Sm} {m n p s wc wm B : Nat} (hl : Lay m wc wm B) (hm : μ.1 3 0 = nI m) (hn : μ.1 12 0 = nI n) (n5 : n ≤ 5) (hp : p < n) (x3 : Int32) : f_X9_tells_124 (nI s) (nI p) x3 (nI wm) μ = f_X9_tells_215 (nI s) (nI p) x3 5000 (nI wm) (layW μ wm p) 0 0 (-1) (nI B - 1) μ := by
  unfold f_X9_tells_124 f_X9_tells_147 f_X9_tells_200
  have O : ∀ k, isO k → layW μ k p = valO μ k p := fun k hk => by unfold layW; rw [if_neg (by omega), if_neg (by omega)]
  rcases hl with ⟨rfl, rfl, rfl⟩ | ⟨rfl, rfl, rfl⟩ | ⟨rfl, rfl, rfl⟩ | ⟨rfl, rfl, rfl⟩ | ⟨rfl, rfl, rfl⟩
  · rw [if_neg (show ¬ nI 7 = 8 by decide), fm_toldO hn n5 (k := 7) (by omega) hp, Option.bind_some]
    simp only []
    rw [if_neg (show ¬ nI 7 = 8 by decide), if_pos (show nI 7 = 7 by decide), O 7 (by omega), show (5 : Int32) = nI 6 - 1 by decide]
  · rw [if_neg (show ¬ nI 2 = 8 by decide), fm_toldO hn n5 (k := 2) (by omega) hp, Option.bind_some]
    simp only []
    rw [if_neg (show ¬ nI 2 = 8 by decide), if_neg (show ¬ nI 2 = 7 by decide), if_pos (show nI 2 = 2 by decide), O 2 (by omega), show (9 : Int32) = nI 10 - 1 by decide]
  · rw [if_neg (show ¬ nI 3 = 8 by decide), fm_toldO hn n5 (k := 3) (by omega) hp, Option.bind_some]
    simp only []
    rw [if_neg (show ¬ nI 3 = 8 by decide), if_neg (show ¬ nI 3 = 7 by decide), if_neg (show ¬ nI 3 = 2 by decide), if_pos (show nI 3 = 3 by decide), O 3 (by omega), show (99 : Int32) = nI 100 - 1 by decide]
  · rw [if_neg (show ¬ nI 1 = 8 by decide), fm_told01 (k := 1) (by omega), Option.bind_some]
    simp only []
    rw [if_neg (show ¬ nI 1 = 8 by decide), if_neg (show ¬ nI 1 = 7 by decide), if_neg (show ¬ nI 1 = 2 by decide), if_neg (show ¬ nI 1 = 3 by decide), show (23 : Int32) = nI 24 - 1 by decide]
    rfl
  · rw [if_pos (show nI 8 = 8 by decide), if_pos (show nI 8 = 8 by decide), hm]
    rfl
/-- all trials, in both -/
theorem tells_bits {σ : Sg} {μ : Sm} {m n r p s z wc wm B : Nat} {Ts : Nat → Nat → List Int32} (hP : InvP σ μ m n r Ts) (hs : s < 4) (hp : p < n) (hz : z ≤ 20) (hW : ShW σ μ s z) (hl : Lay m wc wm B) (hB0 : 1 ≤ B) (hB : B ≤ 24) {x3 : Int32} (h3 : ¬ x3 = 3) (h4 : ¬ x3 = 4) :
    ∃ v σ' μ', f_X8_fitting s (nI p) (nI wc) (nI (B - 1)) σ = some (v, σ') ∧ f_X9_tells_124 (nI s) (nI p) x3 (nI wm) μ = some (v, μ') ∧ Inv σ' μ' := by
  have n5 := hP.2.2.1.rg.n5
  obtain ⟨σ', a1, a2⟩ := fe_fitting (f := tryV μ s wm p) hs hB0 (by omega) (fun u hu => (try_both hP hs hp hz hW hl hu).1) B 0 5000 σ (by omega) (by omega) FrT.rf
  obtain ⟨μ', b1, b2, b3⟩ := fm_trials (f := tryV μ s wm p) (s := s) hl (by omega) (by omega) x3 (fun u hu => (try_both hP hs hp hz hW hl hu).2) B 5000 0 0 (-1) μ (Nat.le_refl _) (by omega) (Tri.rf hP.2.2.1.me)
  rw [if_neg h3, if_neg h4, Int32.zero_or, fB_eq B hB] at b1
  refine ⟨fB (tryV μ s wm p) B, σ', μ', ?_, ?_, (hP.think a2 b2 b3).inv⟩
  · unfold f_X8_fitting
    rw [if_pos hs]
    exact a1
  · rw [fm_tells124 hl hP.2.2.2.2.1 hP.2.2.1.rg.hn n5 hp]
    exact b1
theorem ones_loop {m n r s z : Nat} {Ts : Nat → Nat → List Int32} (hs : s < 4) (hz : z ≤ 20) (n5 : n ≤ 5) : ∀ (d c k : Nat) (σ : Sg) (μ : Sm) (y : Int32), c + d = n → d < k → InvP σ μ m n r Ts → ShW σ μ s z →
    ∃ v σ' μ', f_X8_onesFitting_4 s k y (nI c) σ = some (v, σ') ∧ f_X9_likeSet_4 (nI s) k y (nI c) μ = some (v, μ') ∧ Inv σ' μ' := by
  intro d
  induction d with
  | zero =>
    intro c k σ μ y hc hk hP hW
    obtain ⟨k, rfl⟩ : ∃ q, k = q + 1 := ⟨k - 1, by omega⟩
    have e : c = n := by omega
    subst e
    rw [f_X8_onesFitting_4, f_X9_likeSet_4, if_pos hs, hP.1.1.2.1, hP.2.2.1.rg.hn, if_pos (Int32.le_refl _), if_pos (Int32.le_refl _)]
    exact ⟨_, _, _, rfl, rfl, hP.inv⟩
  | succ d ih =>
    intro c k σ μ y hc hk hP hW
    obtain ⟨k, rfl⟩ : ∃ q, k = q + 1 := ⟨k - 1, by omega⟩
    obtain ⟨hR, hL, hO, h4, h5, h6, h7, h8⟩ := id hP
    obtain ⟨c4, c7, c8⟩ := hW
    obtain ⟨σ1, g1, g2⟩ := fe_takeFrom (σ := σ) (i := 1) (j := 0) (by omega) (by omega) (by omega)
    obtain ⟨v, σ', μ', q1, q2, q3, q4, q5⟩ := sim_first (r := r) hs (show c < n by omega) hz (g2.R (by omega) hR) (hL.keep (fun a a1 a2 a3 => g2.1 a (by omega))) hO h4 g2.frT c4 c7 c8
    have hP' := hP.think q3 q4 q5
    have hW' : ShW σ' μ' s z := ⟨by rw [q3 _ (by omega)]; exact c4, by rw [q4.1 42 (by omega) (by omega) (by omega) (by omega)]; exact c7, fun j hj => by rw [q3 _ (by omega), q4.1 43 (by omega) (by omega) (by omega) (by omega)]; exact c8 j hj⟩
    have nle : ¬ nI n ≤ nI c := by rw [nI_leI (by omega) (by omega)]; omega
    rw [f_X8_onesFitting_4, f_X9_likeSet_4, if_pos hs, hR.1.2.1, hO.rg.hn, if_neg nle, if_neg nle, g1, Option.bind_some, q1, q2, Option.bind_some, Option.bind_some]
    unfold f_X9_likeSet_28
    simp only []
    rw [nI_1]
    by_cases hv : v = -1
    · rw [if_pos hv, if_pos hv]
      exact ih (c + 1) k σ' μ' _ (by omega) (by omega) hP' hW'
    · rw [if_neg hv, if_neg hv, zsh c (by omega), Int32.or_zero]
      exact ih (c + 1) k σ' μ' _ (by omega) (by omega) hP' hW'
theorem pub_tells {σ : Sg} {μ : Sm} (h : Inv σ μ) (x y w : Int32) : Like (f_X8_tells x y w σ) (f_X9_tells x y w μ) := by
  have hI := h
  obtain ⟨m, n, r, Ts, hP⟩ := h
  obtain ⟨hR, hL, hO, h4, h5, h6, h7, h8⟩ := id hP
  have n5 := hO.rg.n5
  have l0 : (0 : Int64).toInt = 0 := by decide
  have l7 : (7 : Int64).toInt = 7 := by decide
  have e20 : (20 : Int32).toInt = 20 := by decide
  unfold f_X8_tells f_X9_tells
  rw [fe_isSheet, fm_isSheet, Option.bind_some, Option.bind_some]
  simp only [fe_lodgesI hR.1, fm_isOne hO.rg.hn n5, f_in, l32_ti, l0, l7, Option.bind_some]
  by_cases hx : 0 ≤ x.toInt ∧ x.toInt < 4
  · rw [if_pos hx, if_neg one_ne, if_neg one_ne]
    by_cases hy : 0 ≤ y.toInt ∧ y.toInt < n
    · rw [if_pos hy, if_neg one_ne, if_neg one_ne]
      by_cases hw : 0 ≤ w.toInt ∧ w.toInt ≤ 7
      · rw [if_pos hw, if_neg one_ne, if_neg (i32_ge0.mpr hw.1), if_pos (show w ≤ (7 : Int32) by rw [show (7 : Int32) = nI 7 from rfl, i32_len (by omega)]; omega)]
        obtain ⟨s, hs, rfl⟩ := one_ex (n := 4) hx (by omega)
        obtain ⟨p, hp, rfl⟩ := one_ex hy (by omega)
        have ok4 : okI (nI s) 4 := okI_nI (by omega) (by omega)
        simp only [if_pos ok4, nI_tn (show s < 2147483648 by omega), fe_missing hs, Option.bind_some]
        rcases h8 s hs with ⟨h1, h2⟩ | ⟨so, z, hso, hz, k1, k2, k3, k4, k5, k6⟩
        · rw [if_pos h1, if_neg one_ne, if_pos h2]
          exact like_same hI _
        · rw [k1, if_neg (nI_nem1 (by omega)), if_pos rfl, if_neg (show ¬ μ.1 40 s = 0 by rw [k2]; exact one_ne), k4, k5]
          by_cases hz2 : z ≤ 20
          · have hle : nI z ≤ (20 : Int32) := by rw [show (20 : Int32) = nI 20 from rfl, nI_leI (by omega) (by omega)]; omega
            have hW : ShW σ μ s z := ⟨k4, k5, k6⟩
            rw [if_pos hle, if_pos hle]
            obtain ⟨q, hq, rfl⟩ := one_ex (x := w) (n := 8) (by omega) (by omega)
            obtain ⟨σ1, g1, g2⟩ := fe_takeFrom (σ := σ) (i := 1) (j := 0) (by omega) (by omega) (by omega)
            have m6 := hO.rg.m6
            have rm := hO.rg.rm
            have em : σ 41 0 - 1 = nI (m - 1) := by rw [hL.1, show (1 : Int32) = nI 1 from rfl, nI_sub (by omega)]
            have fit : ∀ wc wm B x3, Lay m wc wm B → 1 ≤ B → B ≤ 24 → ¬ x3 = 3 → ¬ x3 = 4 → Like ((f_X8_fitting s (nI p) (nI wc) (nI (B - 1)) σ).bind fun (q20 : Int32 × Sg) => some (q20.1, q20.2)) (f_X9_tells_124 (nI s) (nI p) x3 (nI wm) μ) := by
              intro wc wm B x3 hl b0 b1 h3 h4
              obtain ⟨v, σ', μ', q1, q2, q3⟩ := tells_bits hP hs hp hz2 hW hl b0 b1 h3 h4
              rw [q1, q2, Option.bind_some]
              exact ⟨v, σ', μ', rfl, rfl, q3⟩
            have l3 : Lay m 3 3 100 := Or.inr (Or.inr (Or.inl ⟨rfl, rfl, rfl⟩))
            have tr := fun x3 => fm_trials (f := tryV μ s 3 p) (s := s) l3 (by omega) (by omega) x3 (fun u hu => (try_both hP hs hp hz2 hW l3 hu).2) 100 5000 0 0 (-1) μ (Nat.le_refl _) (by omega) (Tri.rf hO.me)
            match q, hq with
            | 0, _ =>
              obtain ⟨v, σ', μ', q1, q2, q3, q4, q5⟩ := sim_first (r := r) hs hp hz2 (g2.R (by omega) hR) (hL.keep (fun a a1 a2 a3 => g2.1 a (by omega))) hO h4 g2.frT k4 k5 k6
              rw [if_pos (show nI 0 = 0 from rfl), if_pos (show nI 0 = 0 from rfl)]
              unfold f_X9_tells_66
              rw [if_pos (show nI 0 = 0 from rfl), g1, Option.bind_some, q1, q2, Option.bind_some, Option.bind_some]
              exact ⟨v, σ', μ', rfl, rfl, (hP.think q3 q4 q5).inv⟩
            | 1, _ =>
              rw [if_neg (show ¬ nI 1 = 0 by decide), if_pos (show nI 1 = 1 from rfl), if_neg (show ¬ nI 1 = 0 by decide), if_neg (show ¬ nI 1 = 7 by decide), if_pos (show nI 1 = 1 from rfl)]
              exact fit 7 7 6 (nI 1) (Or.inl ⟨rfl, rfl, rfl⟩) (by omega) (by omega) (by decide) (by decide)
            | 2, _ =>
              rw [if_neg (show ¬ nI 2 = 0 by decide), if_neg (show ¬ nI 2 = 1 by decide), if_pos (show nI 2 = 2 from rfl), if_neg (show ¬ nI 2 = 0 by decide), if_neg (show ¬ nI 2 = 7 by decide), if_neg (show ¬ nI 2 = 1 by decide), if_pos (show nI 2 = 2 from rfl)]
              exact fit 2 2 10 (nI 2) (Or.inr (Or.inl ⟨rfl, rfl, rfl⟩)) (by omega) (by omega) (by decide) (by decide)
            | 3, _ =>
              rw [if_neg (show ¬ nI 3 = 0 by decide), if_neg (show ¬ nI 3 = 1 by decide), if_neg (show ¬ nI 3 = 2 by decide), if_pos (show nI 3 = 3 from rfl), if_neg (show ¬ nI 3 = 0 by decide), if_neg (show ¬ nI 3 = 7 by decide), if_neg (show ¬ nI 3 = 1 by decide), if_neg (show ¬ nI 3 = 2 by decide), if_neg (show ¬ (5 : Int32) ≤ nI 3 by decide)]
              obtain ⟨σ', a1, a2⟩ := fe_troubles (f := tryV μ s 3 p) hs (fun u hu => (try_both hP hs hp hz2 hW l3 hu).1) 100 0 5000 σ (by omega) (by omega) FrT.rf
              obtain ⟨μ', b1, b2, b3⟩ := tr (nI 3)
              have c1 : f_X8_troublesFitting s (nI p) σ = some (nI (fC (tryV μ s 3 p) 100), σ') := by
                unfold f_X8_troublesFitting
                rw [if_pos hs]
                exact a1
              have c2 : f_X9_tells_124 (nI s) (nI p) (nI 3) (nI 3) μ = some (nI (fC (tryV μ s 3 p) 100), μ') := by
                rw [fm_tells124 l3 h5 hO.rg.hn n5 hp]
                rw [if_pos (show nI 3 = 3 from rfl), Nat.zero_add] at b1
                exact b1
              have goal : Like ((f_X8_troublesFitting s (nI p) σ).bind fun (q26 : Int32 × Sg) => some (q26.1, q26.2)) (f_X9_tells_124 (nI s) (nI p) (nI 3) (nI 3) μ) := by
                rw [c1, c2, Option.bind_some]
                exact ⟨_, σ', μ', rfl, rfl, (hP.think a2 b2 b3).inv⟩
              exact goal
            | 4, _ =>
              rw [if_neg (show ¬ nI 4 = 0 by decide), if_neg (show ¬ nI 4 = 1 by decide), if_neg (show ¬ nI 4 = 2 by decide), if_neg (show ¬ nI 4 = 3 by decide), if_pos (show nI 4 = 4 from rfl), if_neg (show ¬ nI 4 = 0 by decide), if_neg (show ¬ nI 4 = 7 by decide), if_neg (show ¬ nI 4 = 1 by decide), if_neg (show ¬ nI 4 = 2 by decide), if_neg (show ¬ (5 : Int32) ≤ nI 4 by decide)]
              obtain ⟨σ', a1, a2⟩ := fe_least (f := tryV μ s 3 p) hs (fun u hu => (try_both hP hs hp hz2 hW l3 hu).1) 100 0 5000 σ (by omega) (by omega) FrT.rf
              obtain ⟨μ', b1, b2, b3⟩ := tr (nI 4)
              have c1 : f_X8_leastTroubleFitting s (nI p) σ = some (fL (tryV μ s 3 p) 100 0, σ') := by
                unfold f_X8_leastTroubleFitting
                rw [if_pos hs]
                exact a1
              have c2 : f_X9_tells_124 (nI s) (nI p) (nI 4) (nI 3) μ = some (fL (tryV μ s 3 p) 100 0, μ') := by
                rw [fm_tells124 l3 h5 hO.rg.hn n5 hp]
                have ef := fM_fL (f := tryV μ s 3 p) 100 0
                rw [fL, Nat.zero_add] at ef
                rw [if_neg (show ¬ nI 4 = 3 by decide), if_pos (show nI 4 = 4 from rfl), ef] at b1
                exact b1
              have goal : Like ((f_X8_leastTroubleFitting s (nI p) σ).bind fun (q29 : Int32 × Sg) => some (q29.1, q29.2)) (f_X9_tells_124 (nI s) (nI p) (nI 4) (nI 3) μ) := by
                rw [c1, c2, Option.bind_some]
                exact ⟨_, σ', μ', rfl, rfl, (hP.think a2 b2 b3).inv⟩
              exact goal
            | 5, _ =>
              rw [if_neg (show ¬ nI 5 = 0 by decide), if_neg (show ¬ nI 5 = 1 by decide), if_neg (show ¬ nI 5 = 2 by decide), if_neg (show ¬ nI 5 = 3 by decide), if_neg (show ¬ nI 5 = 4 by decide), if_pos (show nI 5 = 5 from rfl), if_neg (show ¬ nI 5 = 0 by decide), if_neg (show ¬ nI 5 = 7 by decide), if_neg (show ¬ nI 5 = 1 by decide), if_neg (show ¬ nI 5 = 2 by decide), if_pos (show (5 : Int32) ≤ nI 5 by decide), if_pos (show nI 5 = 5 from rfl)]
              exact fit 1 1 24 (nI 5) (Or.inr (Or.inr (Or.inr (Or.inl ⟨rfl, rfl, rfl⟩)))) (by omega) (by omega) (by decide) (by decide)
            | 6, _ =>
              rw [if_neg (show ¬ nI 6 = 0 by decide), if_neg (show ¬ nI 6 = 1 by decide), if_neg (show ¬ nI 6 = 2 by decide), if_neg (show ¬ nI 6 = 3 by decide), if_neg (show ¬ nI 6 = 4 by decide), if_neg (show ¬ nI 6 = 5 by decide), if_pos (show nI 6 = 6 from rfl), if_neg (show ¬ nI 6 = 0 by decide), if_neg (show ¬ nI 6 = 7 by decide), if_neg (show ¬ nI 6 = 1 by decide), if_neg (show ¬ nI 6 = 2 by decide), if_pos (show (5 : Int32) ≤ nI 6 by decide), if_neg (show ¬ nI 6 = 5 by decide)]
              unfold f_X2_size
              rw [Option.bind_some]
              have g := fit 11 8 m (nI 6) (Or.inr (Or.inr (Or.inr (Or.inr ⟨rfl, rfl, rfl⟩)))) (by omega) (by omega) (by decide) (by decide)
              rw [← em] at g
              exact g
            | 7, _ =>
              rw [if_neg (show ¬ nI 7 = 0 by decide), if_neg (show ¬ nI 7 = 1 by decide), if_neg (show ¬ nI 7 = 2 by decide), if_neg (show ¬ nI 7 = 3 by decide), if_neg (show ¬ nI 7 = 4 by decide), if_neg (show ¬ nI 7 = 5 by decide), if_neg (show ¬ nI 7 = 6 by decide), if_neg (show ¬ nI 7 = 0 by decide), if_pos (show nI 7 = 7 from rfl)]
              unfold f_X9_tells_66
              rw [if_neg (show ¬ nI 7 = 0 by decide)]
              obtain ⟨v, σ', μ', q1, q2, q3⟩ := ones_loop hs hz2 n5 n 0 5000 σ μ 0 (by omega) (by omega) hP hW
              have c1 : f_X8_onesFitting s σ = some (v, σ') := by
                unfold f_X8_onesFitting
                rw [if_pos hs]
                exact q1
              have c2 : f_X9_likeSet (nI s) μ = some (v, μ') := q2
              have goal : Like ((f_X8_onesFitting s σ).bind fun (q39 : Int32 × Sg) => some (q39.1, q39.2)) ((f_X9_likeSet (nI s) μ).bind fun (q21 : Int32 × Sm) => some (q21.1, q21.2)) := by
                rw [c1, c2, Option.bind_some, Option.bind_some]
                exact ⟨_, σ', μ', rfl, rfl, q3⟩
              exact goal
          · have hle : ¬ nI z ≤ (20 : Int32) := by rw [show (20 : Int32) = nI 20 from rfl, nI_leI (by omega) (by omega)]; omega
            rw [if_neg hle, if_neg hle]
            exact like_same hI _
      · rw [if_neg hw, if_pos rfl]
        by_cases w0 : w < 0
        · rw [if_pos w0]; exact like_same hI _
        · rw [if_neg w0, if_neg (show ¬ w ≤ (7 : Int32) by rw [i32_ge0] at w0; rw [show (7 : Int32) = nI 7 from rfl, i32_len (by omega)]; omega)]; exact like_same hI _
    · rw [if_neg hy, if_pos rfl, if_pos rfl]; exact like_same hI _
  · rw [if_neg hx, if_pos rfl, if_pos rfl]; exact like_same hI _
