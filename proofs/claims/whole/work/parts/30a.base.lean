/-! Pure rows: states, ints -/
theorem upA_s {σ : Sg} {id : Nat} {F : Nat → Int32} : upA σ id F id = F := if_pos rfl
theorem upA_n {σ : Sg} {id a : Nat} {F : Nat → Int32} (h : a ≠ id) : upA σ id F a = σ a := if_neg h
theorem up_s {σ : Sg} {id j : Nat} {v : Int32} : up σ id j v id = upd (σ id) j v := if_pos rfl
theorem up_n {σ : Sg} {id j a : Nat} {v : Int32} (h : a ≠ id) : up σ id j v a = σ a := if_neg h
theorem upd_s {f : Nat → Int32} {j : Nat} {v : Int32} : upd f j v j = v := if_pos rfl
theorem upd_n {f : Nat → Int32} {j k : Nat} {v : Int32} (h : k ≠ j) : upd f j v k = f k := if_neg h
theorem up_at {σ : Sg} {id j a b : Nat} {v : Int32} : up σ id j v a b = if a = id ∧ b = j then v else σ a b := by
  by_cases h : a = id
  · subst h
    by_cases h2 : b = j
    · subst h2; rw [up_s, upd_s, if_pos ⟨rfl, rfl⟩]
    · rw [up_s, upd_n h2, if_neg (fun q => h2 q.2)]
  · rw [up_n h, if_neg (fun q => h q.1)]
theorem upA_upA {σ : Sg} {id : Nat} {F G : Nat → Int32} : upA (upA σ id F) id G = upA σ id G := by
  funext a
  by_cases h : a = id
  · subst h; rw [upA_s, upA_s]
  · rw [upA_n h, upA_n h, upA_n h]
theorem up_upA {σ : Sg} {id j : Nat} {F : Nat → Int32} {v : Int32} : up (upA σ id F) id j v = upA σ id (upd F j v) := by
  unfold up; rw [upA_s, upA_upA]
theorem upA_self {σ : Sg} {id : Nat} : upA σ id (σ id) = σ := by
  funext a
  by_cases h : a = id
  · subst h; rw [upA_s]
  · rw [upA_n h]
theorem i32_lt {a b : Int32} : a < b ↔ a.toInt < b.toInt := Int32.lt_iff_toInt_lt
theorem i32_le {a b : Int32} : a ≤ b ↔ a.toInt ≤ b.toInt := Int32.le_iff_toInt_le
theorem i32_eq {a b : Int32} : a = b ↔ a.toInt = b.toInt := Int32.toInt_inj.symm
theorem i32_rng (a : Int32) : -2147483648 ≤ a.toInt ∧ a.toInt ≤ 2147483647 := ⟨Int32.le_toInt a, by have := Int32.toInt_lt a; omega⟩
/-- within bounds -/
def clI (v lo hi : Int32) : Int32 := if v < lo then lo else if hi < v then hi else v
theorem bnd_eq (v : Int32) : (if (0 : Int32) < (if v < (99 : Int32) then v else (99 : Int32)) then (if v < (99 : Int32) then v else (99 : Int32)) else (0 : Int32)) = clI v 0 99 := by
  unfold clI
  have e0 : (0 : Int32).toInt = 0 := rfl
  have e9 : (99 : Int32).toInt = 99 := rfl
  by_cases h1 : v < (99 : Int32)
  · simp only [if_pos h1]
    repeat' split
    all_goals first | rfl | (rw [i32_eq]; simp only [i32_lt] at *; omega)
  · simp only [if_neg h1]
    repeat' split
    all_goals first | rfl | (rw [i32_eq]; simp only [i32_lt] at *; omega)
theorem clI_rng {v lo hi : Int32} (h : lo ≤ hi) : lo ≤ clI v lo hi ∧ clI v lo hi ≤ hi := by
  unfold clI
  split
  · exact ⟨Int32.le_refl _, h⟩
  · split
    · exact ⟨h, Int32.le_refl _⟩
    · rename_i h1 h2
      rw [i32_lt] at h1 h2
      rw [i32_le, i32_le]
      exact ⟨by omega, by omega⟩
theorem clI_id {v lo hi : Int32} (h1 : lo ≤ v) (h2 : v ≤ hi) : clI v lo hi = v := by
  unfold clI
  rw [if_neg (by rw [i32_lt]; rw [i32_le] at h1; omega), if_neg (by rw [i32_lt]; rw [i32_le] at h2; omega)]
/-- the loops' fuel -/
theorem nI_tn {k : Nat} (h : k < 2147483648) : (nI k).toNatClampNeg = k := nI_clamp (by omega)
theorem nI_ti {k : Nat} (h : k < 2147483648) : (nI k).toInt = k := nI_toInt (by omega)
theorem okI_nI {k n : Nat} (h : k < n) (hn : n < 2147483648) : okI (nI k) n := nI_in h (by omega)
theorem nI_mul (a b : Nat) : nI a * nI b = nI (a * b) := by
  unfold nI; exact (Int32.ofNat_mul a b).symm
theorem nI_sub {a b : Nat} (h : b ≤ a) : nI a - nI b = nI (a - b) := by
  have : nI (a - b) + nI b = nI a := by rw [nI_add]; congr 1; omega
  rw [← this]; exact Int32.add_sub_cancel _ _
/-- the int in a small range is a number -/
theorem nI_ex {v : Int32} {n : Nat} (h0 : 0 ≤ v) (h1 : v ≤ nI n) (hn : n < 2147483648) : ∃ k, k ≤ n ∧ v = nI k := by
  rw [i32_le] at h0 h1
  rw [nI_ti hn] at h1
  have e0 : (0 : Int32).toInt = 0 := rfl
  rw [e0] at h0
  refine ⟨v.toInt.toNat, by omega, ?_⟩
  rw [i32_eq, nI_ti (by omega)]
  omega
/-! small methods of the class -/
theorem fe_bounded (v : Int32) (σ : Sg) : f_X8_bounded v σ = some (clI v 0 99, σ) := by
  unfold f_X8_bounded; rw [bnd_eq]
def b01 (c : Prop) [Decidable c] : Int32 := if c then 1 else 0
theorem fe_within (v lo hi : Int32) (μ : Sm) : f_X9_within v lo hi μ = some (clI v lo hi, μ) := by
  unfold f_X9_within clI
  repeat' split
  all_goals first | rfl | (exfalso; simp only [i32_lt, i32_le] at *; omega) | (congr 2; rw [i32_eq]; simp only [i32_lt, i32_le] at *; omega)
