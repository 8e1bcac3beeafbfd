/-! What could be poured at most, in the reference; pour, best -/
/-- all rows below 13 and behind 33 stand -/
def Fr13 (μ μ' : Sm) : Prop := ∀ a, (a < 13 ∨ 34 ≤ a) → μ'.1 a = μ.1 a
theorem Fr13.rf {μ : Sm} : Fr13 μ μ := fun _ _ => rfl
theorem Fr13.tr {μ ν ξ : Sm} (h1 : Fr13 μ ν) (h2 : Fr13 ν ξ) : Fr13 μ ξ := fun a h => (h2 a h).trans (h1 a h)
theorem FrS.f13 {μ ν : Sm} (h : FrS μ ν) : Fr13 μ ν := fun a ha => h a (by omega)
theorem Fr13.b {μ ν : Sm} (h : Fr13 μ ν) : FrB μ ν := ⟨fun a a1 _ _ _ => h a (by omega), by rw [h 7 (by omega)], fun j _ => by rw [h 10 (by omega)], fun j _ => by rw [h 11 (by omega)]⟩
theorem Fr13.ho {m n r : Nat} {Ts : Nat → Nat → List Int32} {μ ν : Sm} (f : Fr13 μ ν) (h : HoM μ m n r Ts) (hM : MemoI ν m Ts) : HoM ν m n r Ts := h.eqM (fun a ha => f a (by omega)) hM
theorem Fr13.y {μ ν : Sm} (f : Fr13 μ ν) (T : Nat → List Int32) : yM ν T = yM μ T := by
  funext p
  unfold yM
  rw [f 9 (by omega), f 10 (by omega), f 7 (by omega), f 8 (by omega)]
theorem Fr13.s {μ ν : Sm} (f : Fr13 μ ν) (T : Nat → List Int32) (p : Nat) : sM ν T p = sM μ T p := by
  funext c
  unfold sM
  rw [f 9 (by omega), f 10 (by omega), f 7 (by omega), f 8 (by omega), f 11 (by omega)]
def bY (μ : Sm) (T : Nat → List Int32) (x : Int32) (p : Nat) : Int32 := if nI p = x then 0 else yM μ T p
def bSu (μ : Sm) (T : Nat → List Int32) (p : Nat) : Int32 := bS (sM μ T p) 6
def bW (μ : Sm) (x z : Int32) (c : Nat) : Int32 := if nI c = x then 0 else if nI c = z then clI (μ.1 11 (3 * c) + 1) 0 99 else μ.1 11 (3 * c)
theorem fm_cut72 {x1 x2 x3 x4 u : Int32} {μ : Sm} : ∀ (d c k : Nat) (a : Int32), c + d = 6 → d < k → f_X9_cutOf_72 x1 x2 x3 x4 k (cW (bW μ x3 x4) u a c) u (nI c) μ = some (cW (bW μ x3 x4) u a 6, μ) := by
  intro d
  induction d with
  | zero =>
    intro c k a hc hk
    obtain ⟨k, rfl⟩ : ∃ q, k = q + 1 := ⟨k - 1, by omega⟩
    have e : c = 6 := by omega
    subst e
    rw [f_X9_cutOf_72, if_pos (show (6 : Int32) ≤ nI 6 by decide)]
  | succ d ih =>
    intro c k a hc hk
    obtain ⟨k, rfl⟩ : ∃ q, k = q + 1 := ⟨k - 1, by omega⟩
    have ok : okI (nI (3 * c)) 18 := okI_nI (by omega) (by omega)
    have key := ih (c + 1) k a (by omega) (by omega)
    have go : ∀ z0 : Int32, z0 = bW μ x3 x4 c → f_X9_cutOf_125 (f_X9_cutOf_72 x1 x2 x3 x4 k) x1 x2 x3 x4 (cW (bW μ x3 x4) u a c) u (nI c) z0 μ = some (cW (bW μ x3 x4) u a 6, μ) := by
      intro z0 hz
      subst hz
      unfold f_X9_cutOf_125
      rw [cW] at key
      rw [nI_1]
      by_cases h : isB u c
      · rw [if_pos h] at key
        rw [if_neg (fun q => (bit1 _).mp q h), Int32.add_zero]; exact key
      · rw [if_neg h] at key
        rw [if_pos ((bit1 _).mpr h)]; exact key
    rw [f_X9_cutOf_72, if_neg (show ¬ (6 : Int32) ≤ nI c by rw [show (6 : Int32) = nI 6 from rfl, nI_leI (by omega) (by omega)]; omega)]
    by_cases h3 : nI c = x3
    · rw [if_pos h3]
      exact go 0 (by unfold bW; rw [if_pos h3])
    · rw [if_neg h3]
      by_cases h4 : nI c = x4
      · rw [if_pos h4, ix3_0, if_pos ok, fe_within, Option.bind_some, nI_tn (show 3 * c < 2147483648 by omega)]
        exact go _ (by unfold bW; rw [if_neg h3, if_pos h4])
      · rw [if_neg h4, ix3_0, if_pos ok, nI_tn (show 3 * c < 2147483648 by omega)]
        exact go _ (by unfold bW; rw [if_neg h3, if_neg h4])
theorem fm_cut9 {μ0 : Sm} {m n r e : Nat} {Ts : Nat → Nat → List Int32} (hO : HoM μ0 m n r Ts) (x2 x3 x4 : Int32) : ∀ (d c k : Nat) (μ : Sm), c + d = n → d < k → FrS μ0 μ → MemoI μ m Ts →
    ∃ μ', f_X9_cutOf_9 (nI e) x2 x3 x4 k (cS (bY μ0 (Ts r) x2) (nI e) c) (cU (bSu μ0 (Ts r)) (nI e) c) (nI c) μ = some (cutV n (bY μ0 (Ts r) x2) (bSu μ0 (Ts r)) (bW μ0 x3 x4) e, μ') ∧ FrS μ0 μ' ∧ MemoI μ' m Ts := by
  have n5 := hO.rg.n5
  intro d
  induction d with
  | zero =>
    intro c k μ hc hk hF hM
    obtain ⟨k, rfl⟩ : ∃ q, k = q + 1 := ⟨k - 1, by omega⟩
    have ec : c = n := by omega
    subst ec
    have hn : μ.1 12 0 = nI c := by rw [hF 12 (by omega)]; exact hO.rg.hn
    refine ⟨μ, ?_, hF, hM⟩
    rw [f_X9_cutOf_9, hn, if_pos (Int32.le_refl _)]
    have eW : bW μ x3 x4 = bW μ0 x3 x4 := by funext c; unfold bW; rw [hF 11 (by omega)]
    unfold cutV
    rw [← eW]
    exact fm_cut72 6 0 5000 _ (by omega) (by omega)
  | succ d ih =>
    intro c k μ hc hk hF hM
    obtain ⟨k, rfl⟩ : ∃ q, k = q + 1 := ⟨k - 1, by omega⟩
    have hn : μ.1 12 0 = nI n := by rw [hF 12 (by omega)]; exact hO.rg.hn
    have hO1 := hO.keep hF hM
    rw [f_X9_cutOf_9, hn, if_neg (show ¬ nI n ≤ nI c by rw [nI_leI (by omega) (by omega)]; omega)]
    simp only [nI_1]
    by_cases h : isB (nI e) c
    · rw [if_neg (fun q => (bit1 _).mp q h)]
      by_cases h2 : nI c = x2
      · have key := ih (c + 1) k μ (by omega) (by omega) hF hM
        rw [cS, cU, if_pos h, if_pos h, show bY μ0 (Ts r) x2 c = 0 by unfold bY; rw [if_pos h2]] at key
        rw [if_pos h2]
        exact key
      · obtain ⟨μ1, g1, g2, g3⟩ := fm_yields hO1 (show c < n by omega)
        have key := ih (c + 1) k μ1 (by omega) (by omega) (hF.tr g2) g3
        rw [cS, cU, if_pos h, if_pos h, show bY μ0 (Ts r) x2 c = yM μ (Ts r) c by unfold bY; rw [if_neg h2, hF.f13.y]] at key
        rw [if_neg h2, g1, Option.bind_some]
        exact key
    · rw [if_pos ((bit1 _).mpr h)]
      obtain ⟨μ1, g1, g2, g3⟩ := fm_suitSet hO1 (show c < n by omega)
      have key := ih (c + 1) k μ1 (by omega) (by omega) (hF.tr g2) g3
      rw [cS, cU, if_neg h, if_neg h, show bSu μ0 (Ts r) c = bS (sM μ (Ts r) c) 6 by unfold bSu; rw [hF.f13.s]] at key
      rw [g1, Option.bind_some]
      exact key
theorem fm_cutOf {μ : Sm} {m n r : Nat} {Ts : Nat → Nat → List Int32} (hO : HoM μ m n r Ts) (e : Nat) (x2 x3 x4 : Int32) : ∃ μ', f_X9_cutOf (nI e) x2 x3 x4 μ = some (cutV n (bY μ (Ts r) x2) (bSu μ (Ts r)) (bW μ x3 x4) e, μ') ∧ FrS μ μ' ∧ MemoI μ' m Ts :=
  fm_cut9 hO x2 x3 x4 n 0 5000 μ (by omega) (by have := hO.rg.n5; omega) FrS.rf hO.me
abbrev cutM (μ : Sm) (T : Nat → List Int32) (n : Nat) (x y z : Int32) : Nat → Int32 := cutV n (bY μ T x) (bSu μ T) (bW μ y z)
theorem bY_rng (μ : Sm) (T : Nat → List Int32) (x : Int32) (p : Nat) : R99 (bY μ T x p) := by
  unfold bY
  split
  · exact R99_0
  · exact sY_rng _ _ _ _ _ _ _
theorem bW_rng {μ : Sm} {m n r : Nat} (h : RgM μ m n r) (x z : Int32) {c : Nat} (hc : c < 6) : R99 (bW μ x z c) := by
  unfold bW
  split
  · exact R99_0
  · split
    · exact R99_clI _
    · exact isN_R99.mp (h.cs c hc).1
theorem cutM_rng {μ : Sm} {m n r : Nat} (h : RgM μ m n r) (T : Nat → List Int32) (x y z : Int32) (e : Nat) : 0 ≤ (cutM μ T n x y z e).toInt ∧ (cutM μ T n x y z e).toInt ≤ 2000 :=
  cutV_rng h.n5 (fun q _ => bY_rng μ T x q) (fun q hq => bW_rng h y z hq) e
theorem cutM_13 {μ ν : Sm} (f : Fr13 μ ν) (T : Nat → List Int32) (n : Nat) (x y z : Int32) : cutM ν T n x y z = cutM μ T n x y z :=
  cutV_congr (fun q _ => by unfold bY; rw [f.y]) (fun q _ => by unfold bSu; rw [f.s]) (fun q _ => by unfold bW; rw [f 11 (by omega)])
theorem fm_most8 {μ0 : Sm} {m n r : Nat} {Ts : Nat → Nat → List Int32} (hO : HoM μ0 m n r Ts) (x y z : Int32) : ∀ (d c k : Nat) (μ : Sm), c + 1 + d = 2 ^ n → d < k → Fr13 μ0 μ → MemoI μ m Ts → μ.1 33 0 = nI (mnA (cutM μ0 (Ts r) n x y z) c) →
    ∃ μ', f_X9_mostBut_8 x y z k (mnV (cutM μ0 (Ts r) n x y z) c) (nI (c + 1)) μ = some (mnV (cutM μ0 (Ts r) n x y z) (2 ^ n - 1), μ') ∧ Fr13 μ0 μ' ∧ MemoI μ' m Ts ∧ μ'.1 33 0 = nI (mnA (cutM μ0 (Ts r) n x y z) (2 ^ n - 1)) := by
  have n5 := hO.rg.n5
  have hp := pw2 n (by omega)
  intro d
  induction d with
  | zero =>
    intro c k μ hc hk hF hM h33
    obtain ⟨k, rfl⟩ : ∃ q, k = q + 1 := ⟨k - 1, by omega⟩
    have e : c = 2 ^ n - 1 := by omega
    refine ⟨μ, ?_, hF, hM, by rw [← e]; exact h33⟩
    rw [f_X9_mostBut_8, hF 12 (by omega), hO.rg.hn, sh2 n (by omega), if_pos (by rw [nI_leI (by omega) (by omega)]; omega), e]
  | succ d ih =>
    intro c k μ hc hk hF hM h33
    obtain ⟨k, rfl⟩ : ∃ q, k = q + 1 := ⟨k - 1, by omega⟩
    obtain ⟨μ1, g1, g2, g3⟩ := fm_cutOf (hF.ho hO hM) (c + 1) x y z
    have eV : cutV n (bY μ (Ts r) x) (bSu μ (Ts r)) (bW μ y z) (c + 1) = cutM μ0 (Ts r) n x y z (c + 1) := congrFun (cutM_13 hF (Ts r) n x y z) (c + 1)
    rw [eV] at g1
    rw [f_X9_mostBut_8, hF 12 (by omega), hO.rg.hn, sh2 n (by omega), if_neg (by rw [nI_leI (by omega) (by omega)]; omega), g1, Option.bind_some]
    simp only []
    rw [nI_1]
    by_cases h : cutM μ0 (Ts r) n x y z (c + 1) < mnV (cutM μ0 (Ts r) n x y z) c
    · have hle : ¬ mnV (cutM μ0 (Ts r) n x y z) c ≤ cutM μ0 (Ts r) n x y z (c + 1) := by rw [i32_lt] at h; rw [i32_le]; omega
      have key := ih (c + 1) k (upm μ1 33 0 (nI (c + 1))) (by omega) (by omega) (hF.tr (fun a ha => by rw [upm_n (by omega)]; exact g2 a (by omega))) (memo_up g3 (by omega)) (by rw [mnA, if_pos h, upm_e, if_pos rfl])
      rw [mnV, if_pos h] at key
      rw [if_neg hle]
      exact key
    · have hle : mnV (cutM μ0 (Ts r) n x y z) c ≤ cutM μ0 (Ts r) n x y z (c + 1) := by rw [i32_lt] at h; rw [i32_le]; omega
      have key := ih (c + 1) k μ1 (by omega) (by omega) (hF.tr g2.f13) g3 (by rw [mnA, if_neg h, g2 33 (by omega)]; exact h33)
      rw [mnV, if_neg h] at key
      rw [if_pos hle]
      exact key
theorem fm_mostBut {μ : Sm} {m n r : Nat} {Ts : Nat → Nat → List Int32} (hO : HoM μ m n r Ts) (x y z : Int32) : ∃ μ', f_X9_mostBut x y z μ = some (mnV (cutM μ (Ts r) n x y z) (2 ^ n - 1), μ') ∧ Fr13 μ μ' ∧ MemoI μ' m Ts ∧ μ'.1 33 0 = nI (mnA (cutM μ (Ts r) n x y z) (2 ^ n - 1)) := by
  have n5 := hO.rg.n5
  have hp := pw2 n (by omega)
  obtain ⟨μ1, g1, g2, g3⟩ := fm_cutOf hO 0 x y z
  have hr := cutM_rng hO.rg (Ts r) x y z 0
  have eb : (1000000 : Int32).toInt = 1000000 := by decide
  have h1 : f_X9_mostBut x y z μ = f_X9_mostBut_8 x y z (4999 + 1) 1000000 (nI 0) μ := rfl
  have key := fm_most8 hO x y z (2 ^ n - 1) 0 4999 (upm μ1 33 0 (nI 0)) (by omega) (by omega) (fun a ha => by rw [upm_n (by omega)]; exact g2 a (by omega)) (memo_up g3 (by omega)) (by rw [upm_e, if_pos rfl]; rfl)
  rw [h1, f_X9_mostBut_8, hO.rg.hn, sh2 n (by omega), if_neg (by rw [nI_leI (by omega) (by omega)]; omega), g1, Option.bind_some]
  simp only []
  rw [if_neg (show ¬ (1000000 : Int32) ≤ cutV n (bY μ (Ts r) x) (bSu μ (Ts r)) (bW μ y z) 0 by rw [i32_le, eb]; have := hr.2; show ¬ (1000000 : Int) ≤ (cutM μ (Ts r) n x y z 0).toInt; omega), nI_1]
  exact key
theorem fm_mostNow {μ : Sm} {m n r : Nat} {Ts : Nat → Nat → List Int32} (hO : HoM μ m n r Ts) : ∃ μ', f_X9_mostNow μ = some (mnV (cutM μ (Ts r) n (-1) (-1) (-1)) (2 ^ n - 1), μ') ∧ Fr13 μ μ' ∧ MemoI μ' m Ts ∧ μ'.1 33 0 = nI (mnA (cutM μ (Ts r) n (-1) (-1) (-1)) (2 ^ n - 1)) := by
  obtain ⟨μ', g1, g2⟩ := fm_mostBut hO (-1) (-1) (-1)
  refine ⟨μ', ?_, g2⟩
  unfold f_X9_mostNow
  rw [g1, Option.bind_some]
/-! what was measured in the class is the reference's -/
theorem me_y {σ0 σ : Sg} {μ : Sm} {n r : Nat} {T : Nat → List Int32} (h : MeJ σ0 σ T n n) (hR : HoR σ0 0 μ n r) {p : Nat} (hp : p < n) : σ 70 p = yM μ T p := by
  rw [(h.2.2 p hp).1]; exact hR.y T hp
theorem me_s {σ0 σ : Sg} {μ : Sm} {n r : Nat} {T : Nat → List Int32} (h : MeJ σ0 σ T n n) (hR : HoR σ0 0 μ n r) {p : Nat} (hp : p < n) : σ 71 p = bSu μ T p := by
  rw [(h.2.2 p hp).2]
  exact bS_congr 6 (fun c hc => hR.s T hp hc)
theorem nI_m1 {p : Nat} (h : p < 2147483648) : ¬ nI p = -1 := nI_nem1 h
theorem bY_m1 {μ : Sm} {T : Nat → List Int32} {p : Nat} (h : p < 100) : bY μ T (-1) p = yM μ T p := by
  unfold bY; rw [if_neg (nI_m1 (by omega))]
theorem bW_m1 {μ : Sm} {c : Nat} (h : c < 100) : bW μ (-1) (-1) c = μ.1 11 (3 * c) := by
  unfold bW; rw [if_neg (nI_m1 (by omega)), if_neg (nI_m1 (by omega))]
theorem cut_eq {σ0 σ : Sg} {μ : Sm} {m n r : Nat} {T : Nat → List Int32} (h : MeJ σ0 σ T n n) (hw : ∀ c, c < 6 → σ 72 c = σ0 (11 * 0 + 8) c) (hR : HoR σ0 0 μ n r) (hO : RgM μ m n r) : cutC σ n = cutM μ T n (-1) (-1) (-1) := by
  have n5 := hO.n5
  exact cutV_congr (fun q hq => by rw [me_y h hR hq, bY_m1 (by omega)]) (fun q hq => me_s h hR hq) (fun q hq => by rw [hw q hq, bW_m1 (by omega)]; exact (hR.2.2.2.2 q hq).1)
theorem mstO_eq {σ0 σ : Sg} {μ : Sm} {m n r p : Nat} {T : Nat → List Int32} (h : MeJ σ0 σ T n n) (hw : ∀ c, c < 6 → σ 72 c = σ0 (11 * 0 + 8) c) (hR : HoR σ0 0 μ n r) (hO : RgM μ m n r) (hp : p < 100) : mstO σ n p = mnV (cutM μ T n (nI p) (-1) (-1)) (2 ^ n - 1) := by
  have n5 := hO.n5
  have e : cutV n (upd (σ 70) p 0) (σ 71) (σ 72) = cutM μ T n (nI p) (-1) (-1) := cutV_congr (fun q hq => by
      unfold bY
      by_cases e : q = p
      · rw [e, upd_s, if_pos rfl]
      · rw [upd_n e, if_neg (nI_ne (by omega) (by omega) e)]; exact me_y h hR hq) (fun q hq => me_s h hR hq) (fun q hq => by rw [hw q hq, bW_m1 (by omega)]; exact (hR.2.2.2.2 q hq).1)
  unfold mstO
  rw [e]
theorem mstW_eq {σ0 σ : Sg} {μ : Sm} {m n r c : Nat} {T : Nat → List Int32} {x z v : Int32} (h : MeJ σ0 σ T n n) (hw : ∀ c, c < 6 → σ 72 c = σ0 (11 * 0 + 8) c) (hR : HoR σ0 0 μ n r) (hO : RgM μ m n r) (hc : c < 6) (hx : (x = nI c ∧ v = 0 ∧ z = -1) ∨ (x = -1 ∧ z = nI c ∧ v = clI (σ 72 c + 1) 0 99)) : mstW σ n c v = mnV (cutM μ T n (-1) x z) (2 ^ n - 1) := by
  have n5 := hO.n5
  have e : cutV n (σ 70) (σ 71) (upd (σ 72) c v) = cutM μ T n (-1) x z := cutV_congr (fun q hq => by rw [me_y h hR hq, bY_m1 (by omega)]) (fun q hq => me_s h hR hq) (fun q hq => by
      have hwq : σ 72 q = μ.1 11 (3 * q) := (hw q hq).trans (hR.2.2.2.2 q hq).1
      unfold bW
      rcases hx with ⟨rfl, rfl, rfl⟩ | ⟨rfl, rfl, rfl⟩
      · by_cases e : q = c
        · rw [e, upd_s, if_pos rfl]
        · rw [upd_n e, if_neg (nI_ne (by omega) (by omega) e), if_neg (nI_m1 (by omega))]; exact hwq
      · by_cases e : q = c
        · subst e
          rw [upd_s, if_neg (nI_m1 (by omega)), if_pos rfl, hwq]
        · rw [upd_n e, if_neg (nI_m1 (by omega)), if_neg (nI_ne (by omega) (by omega) e)]; exact hwq)
  unfold mstW
  rw [e]
/-! the greatest, in the reference -/
theorem fm_best38 {μ0 : Sm} {m q L : Nat} {Ts : Nat → Nat → List Int32} {M : Nat → Int32} (hL : L ≤ 6) (hM0 : ∀ k, k < L → ∀ μ, Fr13 μ0 μ → MemoI μ m Ts → ∃ μ', (if (2 : Int32) ≤ nI q then if (4 : Int32) ≤ nI q then f_X9_mostBut (-1) (-1) (nI k) μ else f_X9_mostBut (-1) (nI k) (-1) μ else f_X9_mostBut (nI k) (-1) (-1) μ) = some (M k, μ') ∧ Fr13 μ0 μ' ∧ MemoI μ' m Ts) : ∀ (d c k : Nat) (μ : Sm), c + 1 + d = L → d < k → Fr13 μ0 μ → MemoI μ m Ts →
    ∃ μ', f_X9_best_38 (nI q) k (nI (xA M c)) (M (xA M c)) (nI L) (nI (c + 1)) μ = some (if (nI q - nI q / (2 : Int32) * (2 : Int32)) = 0 then nI (xA M (L - 1)) else M (xA M (L - 1)), μ') ∧ Fr13 μ0 μ' ∧ MemoI μ' m Ts := by
  intro d
  induction d with
  | zero =>
    intro c k μ hc hk hF hM
    obtain ⟨k, rfl⟩ : ∃ q, k = q + 1 := ⟨k - 1, by omega⟩
    have e : c = L - 1 := by omega
    refine ⟨μ, ?_, hF, hM⟩
    rw [f_X9_best_38, if_pos (by rw [nI_leI (by omega) (by omega)]; omega), e]
    split <;> rfl
  | succ d ih =>
    intro c k μ hc hk hF hM
    obtain ⟨k, rfl⟩ : ∃ q, k = q + 1 := ⟨k - 1, by omega⟩
    have hx := xA_le (M := M) c
    obtain ⟨μ1, g1, g2, g3⟩ := hM0 (c + 1) (by omega) μ hF hM
    have key := ih (c + 1) k μ1 (by omega) (by omega) g2 g3
    have go : f_X9_best_85 (f_X9_best_38 (nI q) k) (nI q) (nI (xA M c)) (M (xA M c)) (nI L) (nI (c + 1)) (M (c + 1)) μ1 = f_X9_best_38 (nI q) k (nI (xA M (c + 1))) (M (xA M (c + 1))) (nI L) (nI (c + 1 + 1)) μ1 := by
      unfold f_X9_best_85 f_X9_best_98
      rw [if_neg (nI_m1 (by omega)), nI_1, xA]
      by_cases h : M (c + 1) ≤ M (xA M c)
      · rw [if_pos h, if_pos h]
      · rw [if_neg h, if_neg h]
    rw [← go] at key
    rw [f_X9_best_38, if_neg (by rw [nI_leI (by omega) (by omega)]; omega)]
    by_cases h2 : (2 : Int32) ≤ nI q
    · rw [if_pos h2] at g1 ⊢
      by_cases h4 : (4 : Int32) ≤ nI q
      · rw [if_pos h4] at g1 ⊢
        rw [g1, Option.bind_some]; exact key
      · rw [if_neg h4] at g1 ⊢
        rw [g1, Option.bind_some]; exact key
    · rw [if_neg h2] at g1 ⊢
      rw [g1, Option.bind_some]; exact key
theorem fm_best0 {μ0 : Sm} {m q L : Nat} {Ts : Nat → Nat → List Int32} {M : Nat → Int32} (hL0 : 1 ≤ L) (hL : L ≤ 6) (hM : MemoI μ0 m Ts) (hM0 : ∀ k, k < L → ∀ μ, Fr13 μ0 μ → MemoI μ m Ts → ∃ μ', (if (2 : Int32) ≤ nI q then if (4 : Int32) ≤ nI q then f_X9_mostBut (-1) (-1) (nI k) μ else f_X9_mostBut (-1) (nI k) (-1) μ else f_X9_mostBut (nI k) (-1) (-1) μ) = some (M k, μ') ∧ Fr13 μ0 μ' ∧ MemoI μ' m Ts) :
    ∃ μ', f_X9_best_38 (nI q) 5000 (-1) 0 (nI L) 0 μ0 = some (if (nI q - nI q / (2 : Int32) * (2 : Int32)) = 0 then nI (xA M (L - 1)) else M (xA M (L - 1)), μ') ∧ Fr13 μ0 μ' ∧ MemoI μ' m Ts := by
  obtain ⟨μ1, g1, g2, g3⟩ := hM0 0 (by omega) μ0 Fr13.rf hM
  have key := fm_best38 hL hM0 (L - 1) 0 4999 μ1 (by omega) (by omega) g2 g3
  have h1 : f_X9_best_38 (nI q) 5000 (-1) 0 (nI L) 0 μ0 = f_X9_best_38 (nI q) (4999 + 1) (-1) 0 (nI L) (nI 0) μ0 := rfl
  have go : f_X9_best_85 (f_X9_best_38 (nI q) 4999) (nI q) (-1) 0 (nI L) (nI 0) (M 0) μ1 = f_X9_best_38 (nI q) 4999 (nI (xA M 0)) (M (xA M 0)) (nI L) (nI (0 + 1)) μ1 := by
    unfold f_X9_best_85 f_X9_best_98
    rw [if_pos rfl, nI_1]
    rfl
  rw [← go] at key
  rw [h1, f_X9_best_38, if_neg (by rw [nI_leI (by omega) (by omega)]; omega)]
  by_cases h2 : (2 : Int32) ≤ nI q
  · rw [if_pos h2] at g1 ⊢
    by_cases h4 : (4 : Int32) ≤ nI q
    · rw [if_pos h4] at g1 ⊢
      rw [g1, Option.bind_some]; exact key
    · rw [if_neg h4] at g1 ⊢
      rw [g1, Option.bind_some]; exact key
  · rw [if_neg h2] at g1 ⊢
    rw [g1, Option.bind_some]; exact key
