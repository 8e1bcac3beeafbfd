/-! What could be poured at most: cuts -/
theorem bit1 (x : Int32) : (x &&& 1 = 1) ↔ ¬ (x &&& 1 = 0) := by
  have h : (x &&& 1).toBitVec = BitVec.setWidth 32 (BitVec.ofBool (x.toBitVec.getLsbD 0)) := BitVec.and_one_eq_setWidth_ofBool_getLsbD
  have h01 : x &&& 1 = 0 ∨ x &&& 1 = 1 := by
    cases hb : x.toBitVec.getLsbD 0 with
    | false => rw [hb] at h; exact Or.inl (Int32.toBitVec_inj.1 h)
    | true => rw [hb] at h; exact Or.inr (Int32.toBitVec_inj.1 h)
  rcases h01 with e | e
  · rw [e]; decide
  · rw [e]; decide
abbrev isB (x : Int32) (j : Nat) : Prop := ((x >>> (nI j &&& 31)) &&& (1 : Int32)) = 0
def cS (y : Nat → Int32) (x : Int32) : Nat → Int32
  | 0 => 0
  | p + 1 => if isB x p then cS y x p + y p else cS y x p
def cU (s : Nat → Int32) (x : Int32) : Nat → Int32
  | 0 => 0
  | p + 1 => if isB x p then cU s x p else cU s x p ||| s p
def cW (w : Nat → Int32) (u a : Int32) : Nat → Int32
  | 0 => a
  | c + 1 => if isB u c then cW w u a c else cW w u a c + w c
/-- what the cut by a set is -/
def cutV (n : Nat) (y s w : Nat → Int32) (e : Nat) : Int32 := cW w (cU s (nI e) n) (cS y (nI e) n) 6
theorem cS_congr {y y' : Nat → Int32} {x : Int32} : ∀ p, (∀ q, q < p → y q = y' q) → cS y x p = cS y' x p
  | 0, _ => rfl
  | p + 1, h => by
    unfold cS
    rw [cS_congr p (fun q hq => h q (by omega)), h p (by omega)]
theorem cU_congr {y y' : Nat → Int32} {x : Int32} : ∀ p, (∀ q, q < p → y q = y' q) → cU y x p = cU y' x p
  | 0, _ => rfl
  | p + 1, h => by
    unfold cU
    rw [cU_congr p (fun q hq => h q (by omega)), h p (by omega)]
theorem cW_congr {w w' : Nat → Int32} {u a : Int32} : ∀ c, (∀ q, q < c → w q = w' q) → cW w u a c = cW w' u a c
  | 0, _ => rfl
  | c + 1, h => by
    unfold cW
    rw [cW_congr c (fun q hq => h q (by omega)), h c (by omega)]
theorem cutV_congr {n : Nat} {y y' s s' w w' : Nat → Int32} (hy : ∀ q, q < n → y q = y' q) (hs : ∀ q, q < n → s q = s' q) (hw : ∀ q, q < 6 → w q = w' q) : cutV n y s w = cutV n y' s' w' := by
  funext e
  unfold cutV
  rw [cS_congr n hy, cU_congr n hs, cW_congr 6 hw]
theorem cS_rng {y : Nat → Int32} {x : Int32} : ∀ p, p < 1000 → (∀ q, q < p → R99 (y q)) → 0 ≤ (cS y x p).toInt ∧ (cS y x p).toInt ≤ 99 * p
  | 0, _, _ => by unfold cS; decide
  | p + 1, hp, h => by
    obtain ⟨a, b⟩ := cS_rng (x := x) p (by omega) (fun q hq => h q (by omega))
    obtain ⟨c, d⟩ := h p (by omega)
    unfold cS
    split
    · rw [i32_add (by omega) (by omega)]; omega
    · omega
theorem cW_rng {w : Nat → Int32} {u a : Int32} (ha : 0 ≤ a.toInt ∧ a.toInt ≤ 1000) : ∀ c, c < 1000 → (∀ q, q < c → R99 (w q)) → 0 ≤ (cW w u a c).toInt ∧ (cW w u a c).toInt ≤ 1000 + 99 * c
  | 0, _, _ => by unfold cW; omega
  | c + 1, hc, h => by
    obtain ⟨a, b⟩ := cW_rng (u := u) ha c (by omega) (fun q hq => h q (by omega))
    obtain ⟨e, d⟩ := h c (by omega)
    unfold cW
    split
    · omega
    · rw [i32_add (by omega) (by omega)]; omega
theorem cutV_rng {n : Nat} {y s w : Nat → Int32} (hn : n ≤ 5) (hy : ∀ q, q < n → R99 (y q)) (hw : ∀ q, q < 6 → R99 (w q)) (e : Nat) : 0 ≤ (cutV n y s w e).toInt ∧ (cutV n y s w e).toInt ≤ 2000 := by
  have h1 := cS_rng (x := nI e) n (by omega) hy
  have h2 := cW_rng (u := cU s (nI e) n) (a := cS y (nI e) n) (by omega) 6 (by omega) hw
  unfold cutV
  omega
/-- the least of the first, and where it stands first -/
def mnV (V : Nat → Int32) : Nat → Int32
  | 0 => V 0
  | k + 1 => if V (k + 1) < mnV V k then V (k + 1) else mnV V k
def mnA (V : Nat → Int32) : Nat → Nat
  | 0 => 0
  | k + 1 => if V (k + 1) < mnV V k then k + 1 else mnA V k
theorem mnA_is {V : Nat → Int32} : ∀ k, mnA V k ≤ k ∧ V (mnA V k) = mnV V k ∧ (∀ j, j ≤ k → (mnV V k).toInt ≤ (V j).toInt) ∧ ∀ j, j < mnA V k → (mnV V k).toInt < (V j).toInt
  | 0 => ⟨Nat.le_refl _, rfl, fun j hj => by rw [show j = 0 by omega]; exact Int.le_refl _, fun j hj => absurd hj (by unfold mnA; omega)⟩
  | k + 1 => by
    obtain ⟨a, b, c, d⟩ := mnA_is (V := V) k
    rw [mnA, mnV]
    by_cases h : V (k + 1) < mnV V k
    · rw [if_pos h, if_pos h]
      rw [i32_lt] at h
      refine ⟨Nat.le_refl _, rfl, fun j hj => ?_, fun j hj => ?_⟩
      · by_cases e : j = k + 1
        · rw [e]; exact Int.le_refl _
        · have := c j (by omega); omega
      · have := c j (by omega); omega
    · rw [if_neg h, if_neg h]
      rw [i32_lt] at h
      refine ⟨by omega, b, fun j hj => ?_, d⟩
      by_cases e : j = k + 1
      · rw [e]; omega
      · exact c j (by omega)
theorem sh2 : ∀ n, n < 6 → (1 : Int32) <<< (nI n &&& 31) = nI (2 ^ n) := by decide +kernel
theorem pw2 : ∀ n, n < 6 → 1 ≤ 2 ^ n ∧ 2 ^ n ≤ 32 := by decide
/-! in the class -/
theorem fe_cut57 {x u : Int32} {σ : Sg} : ∀ (d c k : Nat) (a : Int32), c + d = 6 → d < k → f_X0_cutBy_57 x k (cW (σ 72) u a c) u (nI c) σ = some (cW (σ 72) u a 6, σ) := by
  intro d
  induction d with
  | zero =>
    intro c k a hc hk
    obtain ⟨k, rfl⟩ : ∃ q, k = q + 1 := ⟨k - 1, by omega⟩
    have e : c = 6 := by omega
    subst e
    rw [f_X0_cutBy_57, if_pos (show (6 : Int32) ≤ nI 6 by decide)]
  | succ d ih =>
    intro c k a hc hk
    obtain ⟨k, rfl⟩ : ∃ q, k = q + 1 := ⟨k - 1, by omega⟩
    have ok : okI (nI c) 6 := okI_nI (by omega) (by omega)
    have key := ih (c + 1) k a (by omega) (by omega)
    rw [cW] at key
    rw [f_X0_cutBy_57, if_neg (show ¬ (6 : Int32) ≤ nI c by rw [show (6 : Int32) = nI 6 from rfl, nI_leI (by omega) (by omega)]; omega), if_pos ok, nI_1, nI_tn (show c < 2147483648 by omega)]
    by_cases h : isB u c
    · rw [if_pos h] at key ⊢; exact key
    · rw [if_neg h] at key ⊢; exact key
theorem fe_cut7 {e n : Nat} {σ : Sg} (hn : σ 69 0 = nI n) (n5 : n ≤ 5) : ∀ (d c k : Nat), c + d = n → d < k → f_X0_cutBy_7 (nI e) k (cS (σ 70) (nI e) c) (cU (σ 71) (nI e) c) (nI c) σ = some (cutV n (σ 70) (σ 71) (σ 72) e, σ) := by
  intro d
  induction d with
  | zero =>
    intro c k hc hk
    obtain ⟨k, rfl⟩ : ∃ q, k = q + 1 := ⟨k - 1, by omega⟩
    have ec : c = n := by omega
    subst ec
    rw [f_X0_cutBy_7, hn, if_pos (Int32.le_refl _)]
    exact fe_cut57 6 0 5000 _ (by omega) (by omega)
  | succ d ih =>
    intro c k hc hk
    obtain ⟨k, rfl⟩ : ∃ q, k = q + 1 := ⟨k - 1, by omega⟩
    have ok : okI (nI c) 5 := okI_nI (by omega) (by omega)
    have key := ih (c + 1) k (by omega) (by omega)
    rw [cS, cU] at key
    rw [f_X0_cutBy_7, hn, if_neg (show ¬ nI n ≤ nI c by rw [nI_leI (by omega) (by omega)]; omega), if_pos ok, if_pos ok, nI_1, nI_tn (show c < 2147483648 by omega)]
    by_cases h : isB (nI e) c
    · rw [if_pos h, if_pos h] at key; rw [if_pos h]; exact key
    · rw [if_neg h, if_neg h] at key; rw [if_neg h]; exact key
theorem fe_cutBy {e n : Nat} {σ : Sg} (hn : σ 69 0 = nI n) (n5 : n ≤ 5) : f_X0_cutBy (nI e) σ = some (cutV n (σ 70) (σ 71) (σ 72) e, σ) := fe_cut7 hn n5 n 0 5000 (by omega) (by omega)
/-- the cuts of what was measured -/
abbrev cutC (σ : Sg) (n : Nat) : Nat → Int32 := cutV n (σ 70) (σ 71) (σ 72)
theorem fe_most8 {n : Nat} {σ : Sg} (hn : σ 69 0 = nI n) (n5 : n ≤ 5) : ∀ (d c k : Nat), c + 1 + d = 2 ^ n → d < k → f_X0_most_8 k (mnV (cutC σ n) c) (nI (c + 1)) σ = some (mnV (cutC σ n) (2 ^ n - 1), σ) := by
  have hp := pw2 n (by omega)
  intro d
  induction d with
  | zero =>
    intro c k hc hk
    obtain ⟨k, rfl⟩ : ∃ q, k = q + 1 := ⟨k - 1, by omega⟩
    have e : c = 2 ^ n - 1 := by omega
    rw [f_X0_most_8, hn, sh2 n (by omega), if_pos (by rw [nI_leI (by omega) (by omega)]; omega), e]
  | succ d ih =>
    intro c k hc hk
    obtain ⟨k, rfl⟩ : ∃ q, k = q + 1 := ⟨k - 1, by omega⟩
    have key := ih (c + 1) k (by omega) (by omega)
    rw [mnV] at key
    rw [f_X0_most_8, hn, sh2 n (by omega), if_neg (by rw [nI_leI (by omega) (by omega)]; omega), fe_cutBy hn n5, Option.bind_some]
    simp only []
    rw [nI_1]
    exact key
theorem fe_mostC {n : Nat} {σ : Sg} (hn : σ 69 0 = nI n) (n5 : n ≤ 5) : f_X0_most σ = some (mnV (cutC σ n) (2 ^ n - 1), σ) := by
  have hp := pw2 n (by omega)
  have h0 : f_X0_cutBy (0 : Int32) σ = some (cutC σ n 0, σ) := fe_cutBy (e := 0) hn n5
  unfold f_X0_most
  rw [h0, Option.bind_some]
  exact fe_most8 hn n5 (2 ^ n - 1) 0 5000 (by omega) (by omega)
theorem fe_least7 {n : Nat} {σ : Sg} (hn : σ 69 0 = nI n) (n5 : n ≤ 5) : ∀ (d c k : Nat), c + d = mnA (cutC σ n) (2 ^ n - 1) → d < k → f_X0_leastCut_7 k (mnV (cutC σ n) (2 ^ n - 1)) (nI c) σ = some (nI (mnA (cutC σ n) (2 ^ n - 1)), σ) := by
  have hp := pw2 n (by omega)
  obtain ⟨a1, a2, a3, a4⟩ := mnA_is (V := cutC σ n) (2 ^ n - 1)
  intro d
  induction d with
  | zero =>
    intro c k hc hk
    obtain ⟨k, rfl⟩ : ∃ q, k = q + 1 := ⟨k - 1, by omega⟩
    have e : c = mnA (cutC σ n) (2 ^ n - 1) := by omega
    rw [f_X0_leastCut_7, hn, sh2 n (by omega), if_neg (by rw [nI_leI (by omega) (by omega)]; omega), fe_cutBy hn n5, Option.bind_some]
    simp only []
    rw [if_pos (show cutV n (σ 70) (σ 71) (σ 72) c = mnV (cutC σ n) (2 ^ n - 1) by rw [e]; exact a2), e]
  | succ d ih =>
    intro c k hc hk
    obtain ⟨k, rfl⟩ : ∃ q, k = q + 1 := ⟨k - 1, by omega⟩
    rw [f_X0_leastCut_7, hn, sh2 n (by omega), if_neg (by rw [nI_leI (by omega) (by omega)]; omega), fe_cutBy hn n5, Option.bind_some]
    simp only []
    rw [if_neg (show ¬ cutV n (σ 70) (σ 71) (σ 72) c = mnV (cutC σ n) (2 ^ n - 1) by
      intro q
      have := a4 c (by omega)
      rw [show cutC σ n c = mnV (cutC σ n) (2 ^ n - 1) from q] at this
      omega), nI_1]
    exact ih (c + 1) k (by omega) (by omega)
theorem fe_leastCut {n : Nat} {σ : Sg} (hn : σ 69 0 = nI n) (n5 : n ≤ 5) : f_X0_leastCut σ = some (nI (mnA (cutC σ n) (2 ^ n - 1)), σ) := by
  have hp := pw2 n (by omega)
  obtain ⟨a1, -, -, -⟩ := mnA_is (V := cutC σ n) (2 ^ n - 1)
  unfold f_X0_leastCut
  rw [fe_mostC hn n5, Option.bind_some]
  exact fe_least7 hn n5 _ 0 5000 (Nat.zero_add _) (by omega)
theorem up_back {σ : Sg} {id j : Nat} {v : Int32} : up (up σ id j v) id j (σ id j) = σ := by
  funext a b
  rw [up_at, up_at]
  by_cases h : a = id ∧ b = j
  · rw [if_pos h, h.1, h.2]
  · rw [if_neg h, if_neg h]
/-- the most without one; with another want -/
def mstO (σ : Sg) (n p : Nat) : Int32 := mnV (cutV n (upd (σ 70) p 0) (σ 71) (σ 72)) (2 ^ n - 1)
def mstW (σ : Sg) (n c : Nat) (v : Int32) : Int32 := mnV (cutV n (σ 70) (σ 71) (upd (σ 72) c v)) (2 ^ n - 1)
theorem fe_without {n p : Nat} {σ : Sg} (hn : σ 69 0 = nI n) (n5 : n ≤ 5) (hp : p < n) : f_X0_mostWithoutOne (nI p) σ = some (mstO σ n p, σ) := by
  have e0 : (0 : Int32).toInt = 0 := by decide
  have ok : okI (nI p) 5 := okI_nI (by omega) (by omega)
  have h := fe_mostC (σ := up σ 70 p 0) (n := n) (by rw [up_n (by omega)]; exact hn) n5
  have ec : mnV (cutC (up σ 70 p 0) n) (2 ^ n - 1) = mstO σ n p := by
    unfold mstO cutC
    rw [up_s, up_n (show 71 ≠ 70 by omega), up_n (show 72 ≠ 70 by omega)]
  rw [ec] at h
  have h' : f_X0_most (up σ 70 (nI p).toNatClampNeg 0) = some (mstO σ n p, up σ 70 (nI p).toNatClampNeg 0) := by rw [nI_tn (show p < 2147483648 by omega)]; exact h
  unfold f_X0_mostWithoutOne
  rw [if_neg (show ¬ nI p < 0 by rw [i32_lt, e0, nI_ti (by omega)]; omega), hn, if_pos (show nI p < nI n by rw [nI_ltI (by omega) (by omega)]; omega), if_pos ok, if_pos ok, h', Option.bind_some]
  simp only []
  rw [if_pos ok, up_back]
theorem fe_withWant {n c : Nat} {σ : Sg} (hn : σ 69 0 = nI n) (n5 : n ≤ 5) (hc : c < 6) (v : Int32) : f_X0_mostWithWant (nI c) v σ = some (mstW σ n c v, σ) := by
  have ok : okI (nI c) 6 := okI_nI (by omega) (by omega)
  have h := fe_mostC (σ := up σ 72 c v) (n := n) (by rw [up_n (by omega)]; exact hn) n5
  have ec : mnV (cutC (up σ 72 c v) n) (2 ^ n - 1) = mstW σ n c v := by
    unfold mstW cutC
    rw [up_s, up_n (show 71 ≠ 72 by omega), up_n (show 70 ≠ 72 by omega)]
  rw [ec] at h
  have h' : f_X0_most (up σ 72 (nI c).toNatClampNeg v) = some (mstW σ n c v, up σ 72 (nI c).toNatClampNeg v) := by rw [nI_tn (show c < 2147483648 by omega)]; exact h
  unfold f_X0_mostWithWant
  rw [fe_isCup, if_pos (by rw [nI_ti (by omega)]; omega), Option.bind_some]
  simp only []
  rw [if_neg one_ne, if_pos ok, if_pos ok, h', Option.bind_some]
  simp only []
  rw [if_pos ok, up_back]
theorem fe_oneMore {n c : Nat} {σ : Sg} (hn : σ 69 0 = nI n) (n5 : n ≤ 5) (hc : c < 6) : f_X0_mostWithOneMore (nI c) σ = some (mstW σ n c (clI (σ 72 c + 1) 0 99), σ) := by
  have ok : okI (nI c) 6 := okI_nI (by omega) (by omega)
  unfold f_X0_mostWithOneMore
  rw [fe_isCup, if_pos (by rw [nI_ti (by omega)]; omega), Option.bind_some]
  simp only []
  rw [if_neg one_ne, if_pos ok, nI_tn (show c < 2147483648 by omega), fe_bounded, Option.bind_some]
  simp only []
  rw [fe_withWant hn n5 hc, Option.bind_some]
/-- where the greatest of the first stands first -/
def xA (M : Nat → Int32) : Nat → Nat
  | 0 => 0
  | k + 1 => if M (k + 1) ≤ M (xA M k) then xA M k else k + 1
theorem xA_le {M : Nat → Int32} : ∀ k, xA M k ≤ k
  | 0 => Nat.le_refl _
  | k + 1 => by
    have := xA_le (M := M) k
    unfold xA
    split <;> omega
theorem xA_congr {M M' : Nat → Int32} : ∀ k, (∀ j, j ≤ k → M j = M' j) → xA M k = xA M' k
  | 0, _ => rfl
  | k + 1, h => by
    have e := xA_congr k (fun j hj => h j (by omega))
    have := xA_le (M := M') k
    unfold xA
    rw [e, h (k + 1) (by omega), h (xA M' k) (by omega)]
theorem fe_lost {n : Nat} {σ : Sg} (hn : σ 69 0 = nI n) (n5 : n ≤ 5) : ∀ (d c k : Nat), c + 1 + d = n → d < k → f_X0_leastLost_6 k (nI (xA (mstO σ n) c)) (mstO σ n (xA (mstO σ n) c)) (nI (c + 1)) σ = some (nI (xA (mstO σ n) (n - 1)), σ) := by
  intro d
  induction d with
  | zero =>
    intro c k hc hk
    obtain ⟨k, rfl⟩ : ∃ q, k = q + 1 := ⟨k - 1, by omega⟩
    have e : c = n - 1 := by omega
    rw [f_X0_leastLost_6, hn, if_pos (by rw [nI_leI (by omega) (by omega)]; omega), e]
  | succ d ih =>
    intro c k hc hk
    obtain ⟨k, rfl⟩ : ∃ q, k = q + 1 := ⟨k - 1, by omega⟩
    have key := ih (c + 1) k (by omega) (by omega)
    rw [xA] at key
    rw [f_X0_leastLost_6, hn, if_neg (by rw [nI_leI (by omega) (by omega)]; omega), fe_without hn n5 (show c + 1 < n by omega), Option.bind_some]
    simp only []
    rw [nI_1]
    by_cases h : mstO σ n (c + 1) ≤ mstO σ n (xA (mstO σ n) c)
    · rw [if_pos h] at key ⊢; exact key
    · rw [if_neg h] at key ⊢; exact key
theorem fe_leastLost {n : Nat} {σ : Sg} (hn : σ 69 0 = nI n) (n5 : n ≤ 5) (h0 : 0 < n) (hM : 0 ≤ (mstO σ n 0).toInt) : f_X0_leastLost σ = some (nI (xA (mstO σ n) (n - 1)), σ) := by
  have em : (-1 : Int32).toInt = -1 := by decide
  have key := fe_lost hn n5 (n - 1) 0 4999 (by omega) (by omega)
  have h1 : f_X0_leastLost σ = f_X0_leastLost_6 (4999 + 1) (-1) (-1) (nI 0) σ := rfl
  rw [h1, f_X0_leastLost_6, hn, if_neg (by rw [nI_leI (by omega) (by omega)]; omega), fe_without hn n5 h0, Option.bind_some]
  simp only []
  rw [if_neg (show ¬ mstO σ n 0 ≤ -1 by rw [i32_le, em]; omega), nI_1]
  exact key
theorem fe_empt {n : Nat} {σ : Sg} (hn : σ 69 0 = nI n) (n5 : n ≤ 5) : ∀ (d c k : Nat), c + 1 + d = 6 → d < k → f_X0_emptiest_4 k (nI (xA (fun q => mstW σ n q 0) c)) (nI (c + 1)) σ = some (nI (xA (fun q => mstW σ n q 0) 5), σ) := by
  intro d
  induction d with
  | zero =>
    intro c k hc hk
    obtain ⟨k, rfl⟩ : ∃ q, k = q + 1 := ⟨k - 1, by omega⟩
    have e : c = 5 := by omega
    rw [f_X0_emptiest_4, if_pos (show (6 : Int32) ≤ nI (c + 1) by rw [show (6 : Int32) = nI 6 from rfl, nI_leI (by omega) (by omega)]; omega), e]
  | succ d ih =>
    intro c k hc hk
    obtain ⟨k, rfl⟩ : ∃ q, k = q + 1 := ⟨k - 1, by omega⟩
    have key := ih (c + 1) k (by omega) (by omega)
    have hx := xA_le (M := fun q => mstW σ n q 0) c
    rw [xA] at key
    rw [f_X0_emptiest_4, if_neg (show ¬ (6 : Int32) ≤ nI (c + 1) by rw [show (6 : Int32) = nI 6 from rfl, nI_leI (by omega) (by omega)]; omega), fe_withWant hn n5 (show c + 1 < 6 by omega), Option.bind_some]
    simp only []
    rw [fe_withWant hn n5 (show xA (fun q => mstW σ n q 0) c < 6 by omega), Option.bind_some]
    simp only []
    rw [nI_1]
    by_cases h : mstW σ n (c + 1) 0 ≤ mstW σ n (xA (fun q => mstW σ n q 0) c) 0
    · rw [if_pos h] at key ⊢; exact key
    · rw [if_neg h] at key ⊢; exact key
theorem fe_emptiest {n : Nat} {σ : Sg} (hn : σ 69 0 = nI n) (n5 : n ≤ 5) : f_X0_emptiest σ = some (nI (xA (fun q => mstW σ n q 0) 5), σ) := fe_empt hn n5 5 0 5000 (by omega) (by omega)
abbrev mstD (σ : Sg) (n c : Nat) : Int32 := mstW σ n c (clI (σ 72 c + 1) 0 99)
theorem fe_dear {n : Nat} {σ : Sg} (hn : σ 69 0 = nI n) (n5 : n ≤ 5) : ∀ (d c k : Nat), c + 1 + d = 6 → d < k → f_X0_dearest_4 k (nI (xA (mstD σ n) c)) (nI (c + 1)) σ = some (nI (xA (mstD σ n) 5), σ) := by
  intro d
  induction d with
  | zero =>
    intro c k hc hk
    obtain ⟨k, rfl⟩ : ∃ q, k = q + 1 := ⟨k - 1, by omega⟩
    have e : c = 5 := by omega
    rw [f_X0_dearest_4, if_pos (show (6 : Int32) ≤ nI (c + 1) by rw [show (6 : Int32) = nI 6 from rfl, nI_leI (by omega) (by omega)]; omega), e]
  | succ d ih =>
    intro c k hc hk
    obtain ⟨k, rfl⟩ : ∃ q, k = q + 1 := ⟨k - 1, by omega⟩
    have key := ih (c + 1) k (by omega) (by omega)
    have hx := xA_le (M := mstD σ n) c
    rw [xA] at key
    rw [f_X0_dearest_4, if_neg (show ¬ (6 : Int32) ≤ nI (c + 1) by rw [show (6 : Int32) = nI 6 from rfl, nI_leI (by omega) (by omega)]; omega), fe_oneMore hn n5 (show c + 1 < 6 by omega), Option.bind_some]
    simp only []
    rw [fe_oneMore hn n5 (show xA (mstD σ n) c < 6 by omega), Option.bind_some]
    simp only []
    rw [nI_1]
    by_cases h : mstD σ n (c + 1) ≤ mstD σ n (xA (mstD σ n) c)
    · rw [if_pos h] at key ⊢; exact key
    · rw [if_neg h] at key ⊢; exact key
theorem fe_dearest {n : Nat} {σ : Sg} (hn : σ 69 0 = nI n) (n5 : n ≤ 5) : f_X0_dearest σ = some (nI (xA (mstD σ n) 5), σ) := fe_dear hn n5 5 0 5000 (by omega) (by omega)
/-! what is measured -/
def MeJ (σ0 σ : Sg) (T : Nat → List Int32) (n p : Nat) : Prop := (∀ a, a ≠ 42 → (a < 69 ∨ 73 ≤ a) → σ a = σ0 a) ∧ σ 69 0 = nI n ∧ ∀ q, q < p → σ 70 q = yC σ0 0 T q ∧ σ 71 q = bS (sC σ0 0 T q) 6
theorem fe_measure_loop {σ0 : Sg} {n r m : Nat} {Ts : Nat → Nat → List Int32} (h : HsC σ0 0 n r) (hL : LawC σ0 m Ts) (hr : r < m) : ∀ (d c k : Nat) (σ : Sg), c + d = n → d < k → MeJ σ0 σ (Ts r) n c →
    ∃ σ', f_X0_measure_14 0 k (nI c) σ = some σ' ∧ MeJ σ0 σ' (Ts r) n n ∧ ∀ c, c < 6 → σ' 72 c = σ0 (11 * 0 + 8) c := by
  have n5 := h.2.2.1
  intro d
  induction d with
  | zero =>
    intro c k σ hc hk hJ
    obtain ⟨k, rfl⟩ : ∃ q, k = q + 1 := ⟨k - 1, by omega⟩
    have e : c = n := by omega
    subst e
    obtain ⟨j1, j2, j3⟩ := hJ
    refine ⟨upA σ 72 (va_cpy (σ (11 * 0 + 8)) (σ 72) 0 0 6), ?_, ⟨fun a a1 a2 => by rw [upA_n (by omega)]; exact j1 a a1 a2, by rw [upA_n (by omega)]; exact j2, fun q hq => by rw [upA_n (by omega), upA_n (by omega)]; exact j3 q hq⟩, fun c hc => ?_⟩
    · rw [f_X0_measure_14, if_pos (by omega), j2, if_pos (Int32.le_refl _), if_pos (by decide)]
      rfl
    · rw [upA_s, cpy_at, if_pos hc, j1 _ (by omega) (by omega)]
  | succ d ih =>
    intro c k σ hc hk hJ
    obtain ⟨k, rfl⟩ : ∃ q, k = q + 1 := ⟨k - 1, by omega⟩
    obtain ⟨j1, j2, j3⟩ := id hJ
    have ok : okI (nI c) 5 := okI_nI (by omega) (by omega)
    have hH : HsC σ 0 n r := h.keep (j1 _ (by omega) (by omega)) (j1 _ (by omega) (by omega))
    have hL1 : LawC σ m Ts := hL.keep (fun a a1 a2 a3 => j1 a a3 (by omega))
    obtain ⟨F, hF⟩ := fe_yield hH hL1 hr (show c < n by omega)
    have ey : sY (Ts r) (σ (11 * 0 + 4) c) (σ (11 * 0 + 5) c) (σ (11 * 0 + 6) c) (σ (11 * 0 + 7) c) (σ (11 * 0) 0) (σ (11 * 0 + 1) 0) = yC σ0 0 (Ts r) c := by
      unfold yC
      rw [j1 (11 * 0 + 4) (by omega) (by omega), j1 (11 * 0 + 5) (by omega) (by omega), j1 (11 * 0 + 6) (by omega) (by omega), j1 (11 * 0 + 7) (by omega) (by omega), j1 (11 * 0) (by omega) (by omega), j1 (11 * 0 + 1) (by omega) (by omega)]
    rw [ey] at hF
    obtain ⟨σ1, hσ⟩ : ∃ y, y = up (upA σ 42 F) 70 (nI c).toNatClampNeg (yC σ0 0 (Ts r) c) := ⟨_, rfl⟩
    have hσ1 : σ1 = up (upA σ 42 F) 70 c (yC σ0 0 (Ts r) c) := by rw [hσ, nI_tn (show c < 2147483648 by omega)]
    have f1 : ∀ a, a ≠ 42 → a ≠ 70 → σ1 a = σ a := fun a a1 a2 => by rw [hσ1, up_n a2, upA_n a1]
    have hH1 : HsC σ1 0 n r := hH.keep (f1 _ (by omega) (by omega)) (f1 _ (by omega) (by omega))
    obtain ⟨σ2, g1, g2⟩ := fe_suitBits hH1 (hL1.keep (fun a a1 a2 a3 => f1 a a3 (by omega))) hr (show c < n by omega)
    have es : sC σ1 0 (Ts r) c = sC σ0 0 (Ts r) c := by
      rw [sC_eq (Ts r) (fun a ha => (f1 a (by omega) (by omega)).trans (j1 a (by omega) (by omega)))]
    rw [es] at g1
    have hJ2 : MeJ σ0 (up σ2 71 c (bS (sC σ0 0 (Ts r) c) 6)) (Ts r) n (c + 1) := by
      refine ⟨fun a a1 a2 => by rw [up_n (by omega), g2 a a1, f1 a a1 (by omega)]; exact j1 a a1 a2, by rw [up_n (by omega), g2 69 (by omega), f1 69 (by omega) (by omega)]; exact j2, fun q hq => ?_⟩
      rw [up_n (by omega), up_s, g2 70 (by omega), g2 71 (by omega), f1 71 (by omega) (by omega), hσ1, up_s, upA_n (by omega)]
      by_cases e : q = c
      · rw [e, upd_s, upd_s]; exact ⟨rfl, rfl⟩
      · rw [upd_n e, upd_n e]; exact j3 q (by omega)
    obtain ⟨σ', a1, a2⟩ := ih (c + 1) k _ (by omega) (by omega) hJ2
    refine ⟨σ', ?_, a2⟩
    rw [f_X0_measure_14, if_pos (by omega), j2, if_neg (show ¬ nI n ≤ nI c by rw [nI_leI (by omega) (by omega)]; omega), hF, Option.bind_some]
    simp only []
    rw [if_pos ok, ← hσ, g1, Option.bind_some]
    simp only []
    rw [if_pos ok, nI_1, nI_tn (show c < 2147483648 by omega)]
    exact a1
theorem fe_measure {σ : Sg} {n r m : Nat} {Ts : Nat → Nat → List Int32} (h : HsC σ 0 n r) (hL : LawC σ m Ts) (hr : r < m) : ∃ σ', f_X0_measure 0 σ = some σ' ∧ MeJ σ σ' (Ts r) n n ∧ ∀ c, c < 6 → σ' 72 c = σ (11 * 0 + 8) c := by
  have n5 := h.2.2.1
  have hn : σ (11 * 0 + 3) 0 = nI n := h.2.1
  unfold f_X0_measure
  rw [if_pos (by omega), hn, if_neg (show ¬ (5 : Int32) < nI n by rw [show (5 : Int32) = nI 5 from rfl, nI_ltI (by omega) (by omega)]; omega)]
  exact fe_measure_loop h hL hr n 0 5000 _ (by omega) (by omega) ⟨fun a a1 a2 => up_n (by omega), by rw [up_s, upd_s], fun q hq => absurd hq (by omega)⟩
