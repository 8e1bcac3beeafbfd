/-! The reading of a text, in words: bytes b, n of them. Tokens bear the class's numbers: 256..267 words, a sign by its byte, 268 a number, 269 the end, 270 what can't stand -/
abbrev isLet (x : Int32) : Prop := (97 : Int32) ≤ x ∧ x ≤ 122
abbrev isDig (x : Int32) : Prop := (48 : Int32) ≤ x ∧ x ≤ 57
abbrev isBl (x : Int32) : Prop := x = 32 ∨ x = 10
def runE (P : Int32 → Prop) (hd : DecidablePred P) (b : Nat → Int32) (n : Nat) : Nat → Nat → Nat
  | 0, p => p
  | f + 1, p => if p < n ∧ P (b p) then runE P hd b n f (p + 1) else p
def sk (b : Nat → Int32) (n p : Nat) : Nat := runE isBl (fun _ => inferInstance) b n 200 p
def letE (b : Nat → Int32) (n p : Nat) : Nat := runE isLet (fun _ => inferInstance) b n 200 p
def digE (b : Nat → Int32) (n p : Nat) : Nat := runE isDig (fun _ => inferInstance) b n 200 p
/-- the word from s to e is word k of the table -/
def isW (b : Nat → Int32) (s e k : Nat) : Prop := e - s = (sByt.getD k []).length ∧ ∀ j, j < (sByt.getD k []).length → b (s + j) = (sByt.getD k []).getD j 0
def isWb (b : Nat → Int32) (s e k : Nat) : Bool := decide (e - s = (sByt.getD k []).length) && (List.range (sByt.getD k []).length).all (fun j => decide (b (s + j) = (sByt.getD k []).getD j 0))
theorem isWb_iff {b : Nat → Int32} {s e k : Nat} : isWb b s e k = true ↔ isW b s e k := by
  unfold isWb isW
  rw [Bool.and_eq_true, decide_eq_true_iff, List.all_eq_true]
  constructor
  · intro h; exact ⟨h.1, fun j hj => by simpa using h.2 j (List.mem_range.mpr hj)⟩
  · intro h; exact ⟨h.1, fun j hj => by simpa using h.2 j (List.mem_range.mp hj)⟩
/-- the word's token: the class's way, word by word -/
def wTok (b : Nat → Int32) (s e : Nat) : Nat → Int32
  | 0 => 270
  | k + 1 => if isWb b s e k = true then nI (256 + k) else wTok b s e k
def litv (b : Nat → Int32) (s : Nat) : Nat → Int32
  | 0 => 0
  | j + 1 => litv b s j * 10 + b (s + j) - 48
abbrev isSg (x : Int32) : Prop := x = 40 ∨ x = 41 ∨ x = 59 ∨ x = 43 ∨ x = 45 ∨ x = 42 ∨ x = 60 ∨ x = 61
/-- where the token at p starts; its number; where the next is sought; its worth -/
def tS (b : Nat → Int32) (n p : Nat) : Nat := sk b n p
def tE (b : Nat → Int32) (n p : Nat) : Nat := if n ≤ tS b n p then tS b n p else if isLet (b (tS b n p)) then letE b n (tS b n p) else if isDig (b (tS b n p)) then digE b n (tS b n p) else tS b n p + 1
def tK (b : Nat → Int32) (n p : Nat) : Int32 := if n ≤ tS b n p then 269 else if isLet (b (tS b n p)) then wTok b (tS b n p) (letE b n (tS b n p)) 12 else if isDig (b (tS b n p)) then (if digE b n (tS b n p) - tS b n p ≤ 4 then 268 else 270) else if isSg (b (tS b n p)) then b (tS b n p) else 270
def tL (b : Nat → Int32) (n p : Nat) : Int32 := litv b (tS b n p) (digE b n (tS b n p) - tS b n p)
theorem runE_ge {P : Int32 → Prop} {hd : DecidablePred P} {b : Nat → Int32} {n : Nat} : ∀ f p, p ≤ runE P hd b n f p
  | 0, p => Nat.le_refl p
  | f + 1, p => by
    unfold runE
    split
    · exact Nat.le_trans (Nat.le_succ p) (runE_ge f (p + 1))
    · exact Nat.le_refl p
theorem runE_le {P : Int32 → Prop} {hd : DecidablePred P} {b : Nat → Int32} {n : Nat} : ∀ f p, p ≤ n → runE P hd b n f p ≤ n
  | 0, p, h => h
  | f + 1, p, h => by
    unfold runE
    split
    · rename_i q; exact runE_le f (p + 1) q.1
    · exact h
theorem runE_stop {P : Int32 → Prop} {hd : DecidablePred P} {b : Nat → Int32} {n : Nat} : ∀ f p, n ≤ p + f → ¬ (runE P hd b n f p < n ∧ P (b (runE P hd b n f p)))
  | 0, p, h => fun q => absurd q.1 (by unfold runE; omega)
  | f + 1, p, h => by
    unfold runE
    split
    · exact runE_stop f (p + 1) (by omega)
    · rename_i q; exact q
theorem runE_in {P : Int32 → Prop} {hd : DecidablePred P} {b : Nat → Int32} {n : Nat} : ∀ f p q, p ≤ q → q < runE P hd b n f p → q < n ∧ P (b q)
  | 0, p, q, h1, h2 => absurd h2 (by unfold runE; omega)
  | f + 1, p, q, h1, h2 => by
    unfold runE at h2
    split at h2
    · rename_i c
      by_cases e : q = p
      · subst e; exact c
      · exact runE_in f (p + 1) q (by omega) h2
    · exact absurd h2 (by omega)
/-- more fuel than bytes: the same -/
theorem runE_step {P : Int32 → Prop} {hd : DecidablePred P} {b : Nat → Int32} {n : Nat} : ∀ f g p, n ≤ p + f → n ≤ p + g → runE P hd b n f p = runE P hd b n g p
  | 0, 0, _, _, _ => rfl
  | 0, g + 1, p, h, _ => by
    show p = runE P hd b n (g + 1) p
    unfold runE
    rw [if_neg (by omega)]
  | f + 1, 0, p, _, h => by
    show runE P hd b n (f + 1) p = p
    unfold runE
    rw [if_neg (by omega)]
  | f + 1, g + 1, p, h1, h2 => by
    unfold runE
    split
    · exact runE_step f g (p + 1) (by omega) (by omega)
    · rfl
theorem runE_next {P : Int32 → Prop} {hd : DecidablePred P} {b : Nat → Int32} {n p : Nat} (hn : n ≤ 160) (h : p < n ∧ P (b p)) : runE P hd b n 200 p = runE P hd b n 200 (p + 1) := by
  rw [runE_step 200 201 p (by omega) (by omega)]
  show (if p < n ∧ P (b p) then runE P hd b n 200 (p + 1) else p) = _
  rw [if_pos h]
theorem runE_here {P : Int32 → Prop} {hd : DecidablePred P} {b : Nat → Int32} {n p : Nat} (h : ¬ (p < n ∧ P (b p))) : runE P hd b n 200 p = p := by
  show (if p < n ∧ P (b p) then runE P hd b n 199 (p + 1) else p) = p
  rw [if_neg h]
theorem tS_ge {b : Nat → Int32} {n p : Nat} : p ≤ tS b n p := runE_ge 200 p
theorem tS_le {b : Nat → Int32} {n p : Nat} (h : p ≤ n) : tS b n p ≤ n := runE_le 200 p h
theorem tE_gt {b : Nat → Int32} {n p : Nat} (hn : n ≤ 160) (h : tS b n p < n) : tS b n p < tE b n p := by
  unfold tE
  rw [if_neg (by omega)]
  split
  · rename_i q
    unfold letE
    rw [runE_next hn ⟨h, q⟩]
    exact runE_ge 200 _
  · split
    · rename_i q
      unfold digE
      rw [runE_next hn ⟨h, q⟩]
      exact runE_ge 200 _
    · omega
theorem tE_le {b : Nat → Int32} {n p : Nat} (hp : p ≤ n) : tE b n p ≤ n := by
  have h := tS_le (b := b) hp
  unfold tE
  split
  · exact h
  · rename_i q
    split
    · exact runE_le 200 _ h
    · split
      · exact runE_le 200 _ h
      · omega
theorem tK_end {b : Nat → Int32} {n p : Nat} (h : ¬ tK b n p = 269) : tS b n p < n := by
  unfold tK at h
  by_cases q : n ≤ tS b n p
  · rw [if_pos q] at h; exact absurd rfl h
  · omega
