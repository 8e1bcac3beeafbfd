/-! One number otherwise, in both -/
theorem HoR.night {σ : Sg} {i n r : Nat} {μ : Sm} {v : Int32} (h : HoR σ i μ n r) : HoR (up σ (11 * i) 0 v) i (upm μ 7 0 v) n r := by
  obtain ⟨h1, h2, h3, h4, h5⟩ := h
  have hi := h1.1
  refine ⟨h1.keep (up_n (by omega)) (up_n (by omega)), ?_, ?_, ?_, ?_⟩
  · rw [up_s, upd_s, upm_e, if_pos rfl]
  · rw [up_n (by omega), upm_n (by omega)]; exact h3
  · rw [up_n (by omega), up_n (by omega), up_n (by omega), up_n (by omega), upm_n (by omega), upm_n (by omega)]; exact h4
  · rw [up_n (by omega), up_n (by omega), up_n (by omega), upm_n (by omega)]; exact h5
theorem HoR.hour {σ : Sg} {i n r : Nat} {μ : Sm} {v : Int32} (h : HoR σ i μ n r) : HoR (up σ (11 * i + 1) 0 v) i (upm μ 8 0 v) n r := by
  obtain ⟨h1, h2, h3, h4, h5⟩ := h
  have hi := h1.1
  refine ⟨h1.keep (up_n (by omega)) (up_n (by omega)), ?_, ?_, ?_, ?_⟩
  · rw [up_n (by omega), upm_n (by omega)]; exact h2
  · rw [up_s, upd_s, upm_e, if_pos rfl]
  · rw [up_n (by omega), up_n (by omega), up_n (by omega), up_n (by omega), upm_n (by omega), upm_n (by omega)]; exact h4
  · rw [up_n (by omega), up_n (by omega), up_n (by omega), upm_n (by omega)]; exact h5
theorem HoR.kind {σ : Sg} {i n r p : Nat} {μ : Sm} {v : Int32} (h : HoR σ i μ n r) : HoR (up σ (11 * i + 4) p v) i (upm μ 9 p v) n r := by
  obtain ⟨h1, h2, h3, h4, h5⟩ := h
  have hi := h1.1
  refine ⟨h1.keep (up_n (by omega)) (up_n (by omega)), ?_, ?_, ?_, ?_⟩
  · rw [up_n (by omega), upm_n (by omega)]; exact h2
  · rw [up_n (by omega), upm_n (by omega)]; exact h3
  · intro q hq
    rw [up_s, up_n (by omega), up_n (by omega), up_n (by omega), upm_e, upm_n (by omega)]
    refine ⟨?_, (h4 q hq).2⟩
    by_cases e : q = p
    · rw [e, upd_s, if_pos rfl]
    · rw [upd_n e, if_neg e]; exact (h4 q hq).1
  · rw [up_n (by omega), up_n (by omega), up_n (by omega), upm_n (by omega)]; exact h5
theorem HoR.row {σ : Sg} {i n r p j : Nat} {μ : Sm} {v : Int32} (h : HoR σ i μ n r) (hj : j < 3) : HoR (up σ (11 * i + 5 + j) p v) i (upm μ 10 (3 * p + j) v) n r := by
  obtain ⟨h1, h2, h3, h4, h5⟩ := h
  have hi := h1.1
  refine ⟨h1.keep (up_n (by omega)) (up_n (by omega)), ?_, ?_, ?_, ?_⟩
  · rw [up_n (by omega), upm_n (by omega)]; exact h2
  · rw [up_n (by omega), upm_n (by omega)]; exact h3
  · intro q hq
    obtain ⟨b1, b2, b3, b4⟩ := h4 q hq
    rw [up_n (by omega), upm_n (by omega), upm_e, upm_e, upm_e, up_at, up_at, up_at]
    refine ⟨b1, ?_, ?_, ?_⟩
    · by_cases e : j = 0 ∧ q = p
      · rw [if_pos ⟨by omega, e.2⟩, if_pos (by omega)]
      · rw [if_neg (fun hc => e ⟨by omega, hc.2⟩), if_neg (by omega)]; exact b2
    · by_cases e : j = 1 ∧ q = p
      · rw [if_pos ⟨by omega, e.2⟩, if_pos (by omega)]
      · rw [if_neg (fun hc => e ⟨by omega, hc.2⟩), if_neg (by omega)]; exact b3
    · by_cases e : j = 2 ∧ q = p
      · rw [if_pos ⟨by omega, e.2⟩, if_pos (by omega)]
      · rw [if_neg (fun hc => e ⟨by omega, hc.2⟩), if_neg (by omega)]; exact b4
  · rw [up_n (by omega), up_n (by omega), up_n (by omega), upm_n (by omega)]; exact h5
theorem HoR.cup {σ : Sg} {i n r c j : Nat} {μ : Sm} {v : Int32} (h : HoR σ i μ n r) (hj : j < 3) : HoR (up σ (11 * i + 8 + j) c v) i (upm μ 11 (3 * c + j) v) n r := by
  obtain ⟨h1, h2, h3, h4, h5⟩ := h
  have hi := h1.1
  refine ⟨h1.keep (up_n (by omega)) (up_n (by omega)), ?_, ?_, ?_, ?_⟩
  · rw [up_n (by omega), upm_n (by omega)]; exact h2
  · rw [up_n (by omega), upm_n (by omega)]; exact h3
  · rw [up_n (by omega), up_n (by omega), up_n (by omega), up_n (by omega), upm_n (by omega), upm_n (by omega)]; exact h4
  · intro q hq
    obtain ⟨b2, b3, b4⟩ := h5 q hq
    rw [upm_e, upm_e, upm_e, up_at, up_at, up_at]
    refine ⟨?_, ?_, ?_⟩
    · by_cases e : j = 0 ∧ q = c
      · rw [if_pos ⟨by omega, e.2⟩, if_pos (by omega)]
      · rw [if_neg (fun hc => e ⟨by omega, hc.2⟩), if_neg (by omega)]; exact b2
    · by_cases e : j = 1 ∧ q = c
      · rw [if_pos ⟨by omega, e.2⟩, if_pos (by omega)]
      · rw [if_neg (fun hc => e ⟨by omega, hc.2⟩), if_neg (by omega)]; exact b3
    · by_cases e : j = 2 ∧ q = c
      · rw [if_pos ⟨by omega, e.2⟩, if_pos (by omega)]
      · rw [if_neg (fun hc => e ⟨by omega, hc.2⟩), if_neg (by omega)]; exact b4
theorem HoM.night {μ : Sm} {m n r : Nat} {Ts : Nat → Nat → List Int32} {v : Int32} (h : HoM μ m n r Ts) (hv : isN v 4096) : HoM (upm μ 7 0 v) m n r Ts := by
  refine ⟨⟨h.rg.n5, h.rg.m6, h.rg.rm, ?_, ?_, ?_, ?_, ?_, ?_⟩, h.tx.keep (upm_n (by omega)) (upm_n (by omega)), memo_up h.me (by omega)⟩
  · rw [upm_n (by omega)]; exact h.rg.hn
  · rw [upm_n (by omega)]; exact h.rg.hr
  · rw [upm_e, if_pos rfl]; exact hv
  · rw [upm_n (by omega)]; exact h.rg.ho
  · rw [upm_n (by omega), upm_n (by omega)]; exact h.rg.ps
  · rw [upm_n (by omega)]; exact h.rg.cs
theorem HoM.hour {μ : Sm} {m n r : Nat} {Ts : Nat → Nat → List Int32} {v : Int32} (h : HoM μ m n r Ts) (hv : isN v 24) : HoM (upm μ 8 0 v) m n r Ts := by
  refine ⟨⟨h.rg.n5, h.rg.m6, h.rg.rm, ?_, ?_, ?_, ?_, ?_, ?_⟩, h.tx.keep (upm_n (by omega)) (upm_n (by omega)), memo_up h.me (by omega)⟩
  · rw [upm_n (by omega)]; exact h.rg.hn
  · rw [upm_n (by omega)]; exact h.rg.hr
  · rw [upm_n (by omega)]; exact h.rg.ni
  · rw [upm_e, if_pos rfl]; exact hv
  · rw [upm_n (by omega), upm_n (by omega)]; exact h.rg.ps
  · rw [upm_n (by omega)]; exact h.rg.cs
theorem HoM.kind {μ : Sm} {m n r p : Nat} {Ts : Nat → Nat → List Int32} {v : Int32} (h : HoM μ m n r Ts) (hv : isN v 6) : HoM (upm μ 9 p v) m n r Ts := by
  refine ⟨⟨h.rg.n5, h.rg.m6, h.rg.rm, ?_, ?_, ?_, ?_, ?_, ?_⟩, h.tx.keep (upm_n (by omega)) (upm_n (by omega)), memo_up h.me (by omega)⟩
  · rw [upm_n (by omega)]; exact h.rg.hn
  · rw [upm_n (by omega)]; exact h.rg.hr
  · rw [upm_n (by omega)]; exact h.rg.ni
  · rw [upm_n (by omega)]; exact h.rg.ho
  · intro q hq
    rw [upm_e, upm_n (by omega)]
    refine ⟨?_, (h.rg.ps q hq).2⟩
    by_cases e : q = p
    · rw [if_pos e]; exact hv
    · rw [if_neg e]; exact (h.rg.ps q hq).1
  · rw [upm_n (by omega)]; exact h.rg.cs
theorem HoM.row {μ : Sm} {m n r p j : Nat} {Ts : Nat → Nat → List Int32} {v : Int32} (h : HoM μ m n r Ts) (hj : j < 3) (hv : isN v (if j = 0 then 10 else 100)) : HoM (upm μ 10 (3 * p + j) v) m n r Ts := by
  refine ⟨⟨h.rg.n5, h.rg.m6, h.rg.rm, ?_, ?_, ?_, ?_, ?_, ?_⟩, h.tx.keep (upm_n (by omega)) (upm_n (by omega)), memo_up h.me (by omega)⟩
  · rw [upm_n (by omega)]; exact h.rg.hn
  · rw [upm_n (by omega)]; exact h.rg.hr
  · rw [upm_n (by omega)]; exact h.rg.ni
  · rw [upm_n (by omega)]; exact h.rg.ho
  · intro q hq
    obtain ⟨b1, b2, b3, b4⟩ := h.rg.ps q hq
    rw [upm_n (by omega), upm_e, upm_e, upm_e]
    refine ⟨b1, ?_, ?_, ?_⟩
    · by_cases e : 3 * q = 3 * p + j
      · rw [if_pos e]; rw [if_pos (by omega)] at hv; exact hv
      · rw [if_neg e]; exact b2
    · by_cases e : 3 * q + 1 = 3 * p + j
      · rw [if_pos e]; rw [if_neg (by omega)] at hv; exact hv
      · rw [if_neg e]; exact b3
    · by_cases e : 3 * q + 2 = 3 * p + j
      · rw [if_pos e]; rw [if_neg (by omega)] at hv; exact hv
      · rw [if_neg e]; exact b4
  · rw [upm_n (by omega)]; exact h.rg.cs
theorem HoM.cup {μ : Sm} {m n r c j : Nat} {Ts : Nat → Nat → List Int32} {v : Int32} (h : HoM μ m n r Ts) (hj : j < 3) (hv : isN v (if j = 1 then 10 else 100)) : HoM (upm μ 11 (3 * c + j) v) m n r Ts := by
  refine ⟨⟨h.rg.n5, h.rg.m6, h.rg.rm, ?_, ?_, ?_, ?_, ?_, ?_⟩, h.tx.keep (upm_n (by omega)) (upm_n (by omega)), memo_up h.me (by omega)⟩
  · rw [upm_n (by omega)]; exact h.rg.hn
  · rw [upm_n (by omega)]; exact h.rg.hr
  · rw [upm_n (by omega)]; exact h.rg.ni
  · rw [upm_n (by omega)]; exact h.rg.ho
  · rw [upm_n (by omega), upm_n (by omega)]; exact h.rg.ps
  · intro q hq
    obtain ⟨b2, b3, b4⟩ := h.rg.cs q hq
    rw [upm_e, upm_e, upm_e]
    refine ⟨?_, ?_, ?_⟩
    · by_cases e : 3 * q = 3 * c + j
      · rw [if_pos e]; rw [if_neg (by omega)] at hv; exact hv
      · rw [if_neg e]; exact b2
    · by_cases e : 3 * q + 1 = 3 * c + j
      · rw [if_pos e]; rw [if_pos (by omega)] at hv; exact hv
      · rw [if_neg e]; exact b3
    · by_cases e : 3 * q + 2 = 3 * c + j
      · rw [if_pos e]; rw [if_neg (by omega)] at hv; exact hv
      · rw [if_neg e]; exact b4
theorem up_same {σ : Sg} {id j : Nat} : up σ id j (σ id j) = σ := by
  funext a b
  rw [up_at]
  by_cases e : a = id ∧ b = j
  · rw [if_pos e, e.1, e.2]
  · rw [if_neg e]
theorem upm_self {μ : Sm} {id j : Nat} : upm μ id j (μ.1 id j) = μ := by
  show (up μ.1 id j (μ.1 id j), μ.2) = μ
  rw [up_same]
/-! what of whom -/
abbrev isO (k : Nat) : Prop := k = 2 ∨ k = 3 ∨ k = 4 ∨ k = 7
abbrev isC (k : Nat) : Prop := k = 5 ∨ k = 6 ∨ k = 10
theorem ite_b (c : Prop) [Decidable c] {α : Type} (σ : α) : (if ((if c then (1 : Int32) else 0) = 0 ∨ (if c then (1 : Int32) else 0) = 1) then some ((if c then (1 : Int32) else 0), σ) else none) = some ((if c then (1 : Int32) else 0), σ) := if_pos b01_or
theorem fe_hp01 {σ : Sg} {i k : Nat} (hi : i < 3) (hk : k = 0 ∨ k = 1 ∨ k = 11) (x : Int32) : f_X1_hasPlace i (nI k) x σ = some (1, σ) := by
  unfold f_X1_hasPlace
  rw [if_pos hi]
  rcases hk with rfl | rfl | rfl <;> rfl
theorem fe_hpO {σ : Sg} {i n r k : Nat} (h : HsC σ i n r) (hk : isO k) (x : Int32) : f_X1_hasPlace i (nI k) x σ = some (if 0 ≤ x.toInt ∧ x.toInt < n then 1 else 0, σ) := by
  unfold f_X1_hasPlace
  rw [if_pos h.1]
  simp only [fe_lodgesI h, Option.bind_some, ite_b]
  rcases hk with rfl | rfl | rfl | rfl <;> rfl
theorem fe_hpC {σ : Sg} {i n r k : Nat} (h : HsC σ i n r) (hk : isC k) (x : Int32) : f_X1_hasPlace i (nI k) x σ = some (if 0 ≤ x.toInt ∧ x.toInt < 6 then 1 else 0, σ) := by
  unfold f_X1_hasPlace
  rw [if_pos h.1]
  simp only [fe_isCup, Option.bind_some, ite_b]
  rcases hk with rfl | rfl | rfl <;> rfl
theorem fe_hpN {σ : Sg} {i : Nat} (hi : i < 3) {w : Int32} (hw : w < 0) (x : Int32) : f_X1_hasPlace i w x σ = some (0, σ) := by
  have hne : ∀ k : Int32, ¬ k < 0 → ¬ w = k := fun k hk hc => hk (hc ▸ hw)
  unfold f_X1_hasPlace
  rw [if_pos hi, if_neg (hne 0 (by decide)), if_neg (hne 1 (by decide)), if_neg (hne 2 (by decide)), if_neg (hne 3 (by decide)), if_neg (hne 4 (by decide)), if_neg (hne 5 (by decide)), if_neg (hne 6 (by decide)), if_neg (hne 7 (by decide)), if_neg (hne 10 (by decide)), if_neg (hne 11 (by decide)), if_neg (hne 8 (by decide)), if_neg (hne 9 (by decide))]
def offO (k : Nat) : Nat := if k = 7 then 4 else k + 3
def offC (k : Nat) : Nat := if k = 10 then 10 else k + 3
theorem fe_readO {σ : Sg} {i n r k p : Nat} (h : HsC σ i n r) (hk : isO k) (hp : p < n) : f_X1_read i (nI k) (nI p) σ = some (σ (11 * i + offO k) p, σ) := by
  have n5 := h.2.2.1
  have ok : okI (nI p) 5 := okI_nI (by omega) (by omega)
  unfold f_X1_read
  rw [if_pos h.1, fe_hpO h hk, if_pos (by rw [nI_ti (by omega)]; omega), Option.bind_some]
  simp only []
  rw [if_neg one_ne]
  simp only [if_pos ok, nI_tn (show p < 2147483648 by omega)]
  rcases hk with rfl | rfl | rfl | rfl <;> rfl
theorem fe_readC {σ : Sg} {i n r k c : Nat} (h : HsC σ i n r) (hk : isC k) (hc : c < 6) : f_X1_read i (nI k) (nI c) σ = some (σ (11 * i + offC k) c, σ) := by
  have ok : okI (nI c) 6 := okI_nI (by omega) (by omega)
  unfold f_X1_read
  rw [if_pos h.1, fe_hpC h hk, if_pos (by rw [nI_ti (by omega)]; omega), Option.bind_some]
  simp only []
  rw [if_neg one_ne]
  simp only [if_pos ok, nI_tn (show c < 2147483648 by omega)]
  rcases hk with rfl | rfl | rfl <;> rfl
theorem fe_read01 {σ : Sg} {i k : Nat} (hi : i < 3) (hk : k < 2) (x : Int32) : f_X1_read i (nI k) x σ = some (σ (11 * i + k) 0, σ) := by
  unfold f_X1_read
  rw [if_pos hi, fe_hp01 hi (by omega), Option.bind_some]
  simp only []
  rw [if_neg one_ne]
  match k, hk with
  | 0, _ => rfl
  | 1, _ => rfl
theorem fe_writeO {σ : Sg} {i n r k p : Nat} (h : HsC σ i n r) (hk : isO k) (hp : p < n) (v : Int32) : f_X1_write i (nI k) (nI p) v σ = some (up σ (11 * i + offO k) p v) := by
  have n5 := h.2.2.1
  have ok : okI (nI p) 5 := okI_nI (by omega) (by omega)
  unfold f_X1_write
  rw [if_pos h.1, fe_hpO h hk, if_pos (by rw [nI_ti (by omega)]; omega), Option.bind_some]
  simp only []
  rw [if_neg one_ne]
  simp only [if_pos ok, nI_tn (show p < 2147483648 by omega)]
  rcases hk with rfl | rfl | rfl | rfl <;> rfl
theorem fe_writeC {σ : Sg} {i n r k c : Nat} (h : HsC σ i n r) (hk : isC k) (hc : c < 6) (v : Int32) : f_X1_write i (nI k) (nI c) v σ = some (up σ (11 * i + offC k) c v) := by
  have ok : okI (nI c) 6 := okI_nI (by omega) (by omega)
  unfold f_X1_write
  rw [if_pos h.1, fe_hpC h hk, if_pos (by rw [nI_ti (by omega)]; omega), Option.bind_some]
  simp only []
  rw [if_neg one_ne]
  simp only [if_pos ok, nI_tn (show c < 2147483648 by omega)]
  rcases hk with rfl | rfl | rfl <;> rfl
theorem fe_write01 {σ : Sg} {i k : Nat} (hi : i < 3) (hk : k < 2) (x v : Int32) : f_X1_write i (nI k) x v σ = some (up σ (11 * i + k) 0 v) := by
  unfold f_X1_write
  rw [if_pos hi, fe_hp01 hi (by omega), Option.bind_some]
  simp only []
  rw [if_neg one_ne]
  match k, hk with
  | 0, _ => rfl
  | 1, _ => rfl
theorem fe_writeR {σ : Sg} {i : Nat} (hi : i < 3) (x v : Int32) : f_X1_write i 11 x v σ = some (up σ (11 * i + 2) 0 v) := by
  unfold f_X1_write
  have e : f_X1_hasPlace i 11 x σ = some (1, σ) := fe_hp01 (k := 11) hi (by omega) x
  rw [if_pos hi, e, Option.bind_some]
  simp only []
  rw [if_neg one_ne]
  rfl
theorem fm_ofO {μ : Sm} {n k : Nat} (hn : μ.1 12 0 = nI n) (n5 : n ≤ 5) (hk : isO k) (x : Int32) : f_X9_isOf (nI k) x μ = some (if 0 ≤ x.toInt ∧ x.toInt < n then 1 else 0, μ) := by
  unfold f_X9_isOf
  rw [fm_isOne hn n5, Option.bind_some]
  have e : (if (if 0 ≤ x.toInt ∧ x.toInt < n then (1 : Int32) else 0) = 0 then some ((0 : Int32), μ) else some (1, μ)) = some (if 0 ≤ x.toInt ∧ x.toInt < n then 1 else 0, μ) := by
    by_cases h : 0 ≤ x.toInt ∧ x.toInt < n
    · rw [if_pos h, if_neg one_ne]
    · rw [if_neg h, if_pos rfl]
  simp only [e]
  rcases hk with rfl | rfl | rfl | rfl <;> rfl
theorem fm_ofC {μ : Sm} {k : Nat} (hk : isC k) (x : Int32) : f_X9_isOf (nI k) x μ = some (if 0 ≤ x.toInt ∧ x.toInt < 6 then 1 else 0, μ) := by
  unfold f_X9_isOf f_X9_isOf_22
  rw [fm_isCup, Option.bind_some]
  have e : (if (if 0 ≤ x.toInt ∧ x.toInt < 6 then (1 : Int32) else 0) = 0 then some ((0 : Int32), μ) else some (1, μ)) = some (if 0 ≤ x.toInt ∧ x.toInt < 6 then 1 else 0, μ) := by
    by_cases h : 0 ≤ x.toInt ∧ x.toInt < 6
    · rw [if_pos h, if_neg one_ne]
    · rw [if_neg h, if_pos rfl]
  simp only [e]
  rcases hk with rfl | rfl | rfl <;> rfl
theorem fm_of01 {μ : Sm} {k : Nat} (hk : k < 2) (x : Int32) : f_X9_isOf (nI k) x μ = some (1, μ) := by
  unfold f_X9_isOf
  match k, hk with
  | 0, _ => rfl
  | 1, _ => rfl
