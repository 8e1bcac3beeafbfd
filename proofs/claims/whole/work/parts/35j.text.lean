/-! What is read hangs on the bytes that are there -/
theorem runE_congr {P : Int32 → Prop} {hd : DecidablePred P} {b b' : Nat → Int32} {n : Nat} (h : ∀ j, j < n → b j = b' j) : ∀ f p, runE P hd b n f p = runE P hd b' n f p
  | 0, _ => rfl
  | f + 1, p => by
    unfold runE
    rw [runE_congr h f (p + 1)]
    by_cases hp : p < n
    · rw [h p hp]
    · rw [if_neg (fun hc => hp hc.1), if_neg (fun hc => hp hc.1)]
theorem runE_out {P : Int32 → Prop} {hd : DecidablePred P} {b : Nat → Int32} {n : Nat} : ∀ f p, n ≤ p → runE P hd b n f p = p
  | 0, _, _ => rfl
  | f + 1, p, h => by
    unfold runE
    rw [if_neg (fun hc => by omega)]
theorem litv_congr {b b' : Nat → Int32} {s : Nat} : ∀ k, (∀ j, j < k → b (s + j) = b' (s + j)) → litv b s k = litv b' s k
  | 0, _ => rfl
  | k + 1, h => by
    unfold litv
    rw [litv_congr k (fun j hj => h j (by omega)), h k (by omega)]
section
variable {b b' : Nat → Int32} {n : Nat}
theorem tS_congr (h : ∀ j, j < n → b j = b' j) : tS b n = tS b' n := by
  funext p
  unfold tS sk
  exact runE_congr h 200 p
theorem digE_congr (h : ∀ j, j < n → b j = b' j) (p : Nat) : digE b n p = digE b' n p := runE_congr h 200 p
theorem letE_congr (h : ∀ j, j < n → b j = b' j) (p : Nat) : letE b n p = letE b' n p := runE_congr h 200 p
theorem tE_congr (h : ∀ j, j < n → b j = b' j) : tE b n = tE b' n := by
  funext p
  unfold tE
  rw [← tS_congr h, ← digE_congr h, ← letE_congr h]
  by_cases hs : n ≤ tS b n p
  · rw [if_pos hs, if_pos hs]
  · rw [if_neg hs, if_neg hs, h _ (by omega)]
theorem tL_congr (h : ∀ j, j < n → b j = b' j) : tL b n = tL b' n := by
  funext p
  unfold tL
  rw [← tS_congr h, ← digE_congr h]
  refine litv_congr _ (fun j hj => h _ ?_)
  by_cases hs : n ≤ tS b n p
  · unfold digE at hj
    rw [runE_out 200 _ hs] at hj
    omega
  · have : digE b n (tS b n p) ≤ n := runE_le 200 _ (by omega)
    omega
theorem isWb_congr (h : ∀ j, j < n → b j = b' j) {s e : Nat} (he : e ≤ n) (k : Nat) : isWb b s e k = isWb b' s e k := by
  have key : isWb b s e k = true ↔ isWb b' s e k = true := by
    rw [isWb_iff, isWb_iff]
    unfold isW
    constructor
    · rintro ⟨h1, h2⟩
      exact ⟨h1, fun j hj => by rw [← h (s + j) (by omega)]; exact h2 j hj⟩
    · rintro ⟨h1, h2⟩
      exact ⟨h1, fun j hj => by rw [h (s + j) (by omega)]; exact h2 j hj⟩
  cases h1 : isWb b s e k <;> cases h2 : isWb b' s e k <;> simp_all
theorem wTok_congr (h : ∀ j, j < n → b j = b' j) {s e : Nat} (he : e ≤ n) : ∀ k, wTok b s e k = wTok b' s e k
  | 0 => rfl
  | k + 1 => by
    unfold wTok
    rw [isWb_congr h he k, wTok_congr h he k]
theorem tK_congr (h : ∀ j, j < n → b j = b' j) : tK b n = tK b' n := by
  funext p
  unfold tK
  rw [← tS_congr h, ← digE_congr h, ← letE_congr h]
  by_cases hs : n ≤ tS b n p
  · rw [if_pos hs, if_pos hs]
  · have he : letE b n (tS b n p) ≤ n := runE_le 200 _ (by omega)
    rw [if_neg hs, if_neg hs, h _ (by omega), wTok_congr h he]
theorem lp_congr {ok : Int32 → Bool} {sub : Nat → PR} (h : ∀ j, j < n → b j = b' j) : ∀ f c p, lp ok b n sub f c p = lp ok b' n sub f c p
  | 0, _, _ => rfl
  | f + 1, c, p => by
    unfold lp
    rw [tK_congr h, tE_congr h]
    by_cases hk : ok (tK b' n p) = true
    · rw [if_pos hk, if_pos hk]
      cases sub (tE b' n p) with
      | error e => rfl
      | ok q => exact lp_congr h f _ _
    · rw [if_neg hk, if_neg hk]
theorem pLoop_congr {ok : Int32 → Bool} {sub : Nat → PR} (h : ∀ j, j < n → b j = b' j) : pLoop ok b n sub = pLoop ok b' n sub := by
  funext p
  unfold pLoop
  cases sub p with
  | error e => rfl
  | ok q => exact lp_congr h _ _ _
theorem pOne_congr (h : ∀ j, j < n → b j = b' j) (pr : Option P3) : pOne b n pr = pOne b' n pr := by
  funext p
  unfold pOne
  rw [tK_congr h, tE_congr h, tL_congr h, tS_congr h]
theorem pSum_congr (h : ∀ j, j < n → b j = b' j) (pr : Option P3) : pSum b n pr = pSum b' n pr := by
  unfold pSum pTerm
  rw [pOne_congr h, pLoop_congr h, pLoop_congr h]
theorem pNot_congr (h : ∀ j, j < n → b j = b' j) (pr : Option P3) : pNot b n pr = pNot b' n pr := by
  funext p
  unfold pNot pCmp
  rw [tK_congr h, tE_congr h, tS_congr h, pSum_congr h]
theorem pAny_congr (h : ∀ j, j < n → b j = b' j) (pr : Option P3) : pAny b n pr = pAny b' n pr := by
  unfold pAny pAnd
  rw [pNot_congr h, pLoop_congr h, pLoop_congr h]
theorem prv_congr (h : ∀ j, j < n → b j = b' j) : ∀ k, prv b n k = prv b' n k
  | 0 => rfl
  | k + 1 => by
    unfold prv
    rw [prv_congr h k, pOne_congr h, pNot_congr h, pAny_congr h]
theorem pText_congr (h : ∀ j, j < n → b j = b' j) : pText b n = pText b' n := by
  unfold pText pPart
  rw [tK_congr h, tE_congr h, tS_congr h, prv_congr h, pAny_congr h]
end
