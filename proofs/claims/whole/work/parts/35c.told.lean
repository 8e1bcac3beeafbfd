/-! Which cups one suits, as bits; told -/
def bS (s : Nat → Int32) : Nat → Int32
  | 0 => 0
  | c + 1 => if s c = 0 then bS s c else bS s c ||| ((1 : Int32) <<< (nI c &&& 31))
theorem bS_congr {s s' : Nat → Int32} : ∀ c, (∀ d, d < c → s d = s' d) → bS s c = bS s' c
  | 0, _ => rfl
  | c + 1, h => by
    unfold bS
    rw [bS_congr c (fun d hd => h d (by omega)), h c (by omega)]
theorem zsh : ∀ c, c < 32 → (0 : Int32) <<< (nI c &&& 31) = 0 := by decide +kernel
theorem fe_bits {σ0 : Sg} {i n r m p : Nat} {Ts : Nat → Nat → List Int32} (h : HsC σ0 i n r) (hL : LawC σ0 m Ts) (hr : r < m) (hp : p < n) :
    ∀ (d c k : Nat) (σ : Sg), c + d = 6 → d < k → (∀ a, a ≠ 42 → σ a = σ0 a) → ∃ σ', f_X2_suitBits_5 i (nI p) k (bS (sC σ0 i (Ts r) p) c) (nI c) σ = some (bS (sC σ0 i (Ts r) p) 6, σ') ∧ ∀ a, a ≠ 42 → σ' a = σ0 a := by
  have hi := h.1
  intro d
  induction d with
  | zero =>
    intro c k σ hcd hk hf
    obtain ⟨k, rfl⟩ : ∃ q, k = q + 1 := ⟨k - 1, by omega⟩
    have e : c = 6 := by omega
    subst e
    refine ⟨σ, ?_, hf⟩
    rw [f_X2_suitBits_5, if_pos hi, if_pos (by decide)]
  | succ d ih =>
    intro c k σ hcd hk hf
    obtain ⟨k, rfl⟩ : ∃ q, k = q + 1 := ⟨k - 1, by omega⟩
    have hH : HsC σ i n r := h.keep (hf _ (by omega)) (hf _ (by omega))
    obtain ⟨F, hF⟩ := fe_suits hH (hL.keep (fun a a1 a2 a3 => hf a a3)) hr hp (show c < 6 by omega)
    have es : sS (Ts r) (σ (11 * i + 4) p) (σ (11 * i + 5) p) (σ (11 * i + 6) p) (σ (11 * i + 7) p) (σ (11 * i) 0) (σ (11 * i + 1) 0) (nI c) (σ (11 * i + 9) c) = sC σ0 i (Ts r) p c := by
      unfold sC
      rw [hf (11 * i + 4) (by omega), hf (11 * i + 5) (by omega), hf (11 * i + 6) (by omega), hf (11 * i + 7) (by omega), hf (11 * i) (by omega), hf (11 * i + 1) (by omega), hf (11 * i + 9) (by omega)]
    rw [es] at hF
    rw [f_X2_suitBits_5, if_pos hi, if_neg (by rw [show (6 : Int32) = nI 6 from rfl, nI_leI (by omega) (by omega)]; omega), hF, Option.bind_some]
    simp only []
    rw [nI_1]
    have key := ih (c + 1) k (upA σ 42 F) (by omega) (by omega) (fun a ha => by rw [upA_n ha]; exact hf a ha)
    rw [show bS (sC σ0 i (Ts r) p) (c + 1) = if sC σ0 i (Ts r) p c = 0 then bS (sC σ0 i (Ts r) p) c else bS (sC σ0 i (Ts r) p) c ||| ((1 : Int32) <<< (nI c &&& 31)) from rfl] at key
    by_cases hz : sC σ0 i (Ts r) p c = 0
    · rw [if_pos hz] at key ⊢
      exact key
    · rw [if_neg hz] at key ⊢
      exact key
theorem fe_suitBits {σ : Sg} {i n r m p : Nat} {Ts : Nat → Nat → List Int32} (h : HsC σ i n r) (hL : LawC σ m Ts) (hr : r < m) (hp : p < n) :
    ∃ σ', f_X2_suitBits i (nI p) σ = some (bS (sC σ i (Ts r) p) 6, σ') ∧ ∀ a, a ≠ 42 → σ' a = σ a := by
  obtain ⟨σ', g1, g2⟩ := fe_bits h hL hr hp 6 0 5000 σ (by omega) (by omega) (fun _ _ => rfl)
  refine ⟨σ', ?_, g2⟩
  unfold f_X2_suitBits
  rw [if_pos h.1]
  exact g1
theorem fm_bits {μ0 : Sm} {m n r p : Nat} {Ts : Nat → Nat → List Int32} (hO : HoM μ0 m n r Ts) (hp : p < n) :
    ∀ (d c k : Nat) (μ : Sm), c + d = 6 → d < k → FrS μ0 μ → MemoI μ m Ts → ∃ μ', f_X9_suitSet_4 (nI p) k (bS (sM μ0 (Ts r) p) c) (nI c) μ = some (bS (sM μ0 (Ts r) p) 6, μ') ∧ FrS μ0 μ' ∧ MemoI μ' m Ts := by
  intro d
  induction d with
  | zero =>
    intro c k μ hcd hk hf hM
    obtain ⟨k, rfl⟩ : ∃ q, k = q + 1 := ⟨k - 1, by omega⟩
    have e : c = 6 := by omega
    subst e
    refine ⟨μ, ?_, hf, hM⟩
    rw [f_X9_suitSet_4, if_pos (by decide)]
  | succ d ih =>
    intro c k μ hcd hk hf hM
    obtain ⟨k, rfl⟩ : ∃ q, k = q + 1 := ⟨k - 1, by omega⟩
    obtain ⟨μ1, g1, g2, g3⟩ := fm_suits (hO.keep hf hM) hp (show c < 6 by omega)
    have es : sM μ (Ts r) p c = sM μ0 (Ts r) p c := by
      unfold sM
      rw [hf 9 (by omega), hf 10 (by omega), hf 7 (by omega), hf 8 (by omega), hf 11 (by omega)]
    rw [es] at g1
    rw [f_X9_suitSet_4, if_neg (by rw [show (6 : Int32) = nI 6 from rfl, nI_leI (by omega) (by omega)]; omega), g1, Option.bind_some]
    unfold f_X9_suitSet_25
    simp only []
    rw [nI_1, zsh c (by omega), Int32.or_zero]
    have key := ih (c + 1) k μ1 (by omega) (by omega) (hf.tr g2) g3
    rw [show bS (sM μ0 (Ts r) p) (c + 1) = if sM μ0 (Ts r) p c = 0 then bS (sM μ0 (Ts r) p) c else bS (sM μ0 (Ts r) p) c ||| ((1 : Int32) <<< (nI c &&& 31)) from rfl] at key
    by_cases hz : sM μ0 (Ts r) p c = 0
    · rw [if_pos hz] at key ⊢
      exact key
    · rw [if_neg hz] at key ⊢
      exact key
theorem fm_suitSet {μ : Sm} {m n r p : Nat} {Ts : Nat → Nat → List Int32} (hO : HoM μ m n r Ts) (hp : p < n) :
    ∃ μ', f_X9_suitSet (nI p) μ = some (bS (sM μ (Ts r) p) 6, μ') ∧ FrS μ μ' ∧ MemoI μ' m Ts := by
  obtain ⟨μ', g1, g2⟩ := fm_bits hO hp 6 0 5000 μ (by omega) (by omega) FrS.rf hO.me
  exact ⟨μ', g1, g2⟩
