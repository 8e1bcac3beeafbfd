/-! What a text says of one, in the reference; what one yields, suits, is eased by -/
theorem ix3 (p k : Nat) : (3 : Int32) * nI p + nI k = nI (3 * p + k) := by rw [show (3 : Int32) = nI 3 from rfl, nI_mul, nI_add]
theorem ix3_0 (p : Nat) : (3 : Int32) * nI p = nI (3 * p) := by rw [show (3 : Int32) = nI 3 from rfl, nI_mul]
theorem ix3_1 (p : Nat) : (3 : Int32) * nI p + 1 = nI (3 * p + 1) := ix3 p 1
theorem ix3_2 (p : Nat) : (3 : Int32) * nI p + 2 = nI (3 * p + 2) := ix3 p 2
def envR (μ : Sm) (p : Nat) (t : Int32) : Env := (μ.1 10 (3 * p + 1), μ.1 10 (3 * p), μ.1 7 0, μ.1 10 (3 * p + 2), t, μ.1 8 0)
/-- the reference's house: n sleepless, text r of m rules -/
def RgM (μ : Sm) (m n r : Nat) : Prop :=
  n ≤ 5 ∧ m ≤ 6 ∧ r < m ∧ μ.1 12 0 = nI n ∧ μ.1 4 0 = nI r ∧ isN (μ.1 7 0) 4096 ∧ isN (μ.1 8 0) 24 ∧
  (∀ p, p < n → isN (μ.1 9 p) 6 ∧ isN (μ.1 10 (3 * p)) 10 ∧ isN (μ.1 10 (3 * p + 1)) 100 ∧ isN (μ.1 10 (3 * p + 2)) 100) ∧
  ∀ c, c < 6 → isN (μ.1 11 (3 * c)) 100 ∧ isN (μ.1 11 (3 * c + 1)) 10 ∧ isN (μ.1 11 (3 * c + 2)) 100
theorem RgM.n5 {μ : Sm} {m n r : Nat} (h : RgM μ m n r) : n ≤ 5 := h.1
theorem RgM.m6 {μ : Sm} {m n r : Nat} (h : RgM μ m n r) : m ≤ 6 := h.2.1
theorem RgM.rm {μ : Sm} {m n r : Nat} (h : RgM μ m n r) : r < m := h.2.2.1
theorem RgM.hn {μ : Sm} {m n r : Nat} (h : RgM μ m n r) : μ.1 12 0 = nI n := h.2.2.2.1
theorem RgM.hr {μ : Sm} {m n r : Nat} (h : RgM μ m n r) : μ.1 4 0 = nI r := h.2.2.2.2.1
theorem RgM.ni {μ : Sm} {m n r : Nat} (h : RgM μ m n r) : isN (μ.1 7 0) 4096 := h.2.2.2.2.2.1
theorem RgM.ho {μ : Sm} {m n r : Nat} (h : RgM μ m n r) : isN (μ.1 8 0) 24 := h.2.2.2.2.2.2.1
theorem RgM.ps {μ : Sm} {m n r : Nat} (h : RgM μ m n r) : ∀ p, p < n → isN (μ.1 9 p) 6 ∧ isN (μ.1 10 (3 * p)) 10 ∧ isN (μ.1 10 (3 * p + 1)) 100 ∧ isN (μ.1 10 (3 * p + 2)) 100 := h.2.2.2.2.2.2.2.1
theorem RgM.cs {μ : Sm} {m n r : Nat} (h : RgM μ m n r) : ∀ c, c < 6 → isN (μ.1 11 (3 * c)) 100 ∧ isN (μ.1 11 (3 * c + 1)) 10 ∧ isN (μ.1 11 (3 * c + 2)) 100 := h.2.2.2.2.2.2.2.2
def HoM (μ : Sm) (m n r : Nat) (Ts : Nat → Nat → List Int32) : Prop := RgM μ m n r ∧ TxM μ m Ts ∧ MemoI μ m Ts
theorem HoM.rg {μ : Sm} {m n r : Nat} {Ts : Nat → Nat → List Int32} (h : HoM μ m n r Ts) : RgM μ m n r := h.1
theorem HoM.tx {μ : Sm} {m n r : Nat} {Ts : Nat → Nat → List Int32} (h : HoM μ m n r Ts) : TxM μ m Ts := h.2.1
theorem HoM.me {μ : Sm} {m n r : Nat} {Ts : Nat → Nat → List Int32} (h : HoM μ m n r Ts) : MemoI μ m Ts := h.2.2
theorem RgM.keep {μ ν : Sm} {m n r : Nat} (h : RgM μ m n r) (f : FrS μ ν) : RgM ν m n r := by
  obtain ⟨h1, h2, h3, h4, h5, h6, h7, h8, h9⟩ := h
  refine ⟨h1, h2, h3, ?_, ?_, ?_, ?_, ?_, ?_⟩
  · rw [f 12 (by omega)]; exact h4
  · rw [f 4 (by omega)]; exact h5
  · rw [f 7 (by omega)]; exact h6
  · rw [f 8 (by omega)]; exact h7
  · intro p hp
    rw [f 9 (by omega), f 10 (by omega)]; exact h8 p hp
  · intro c hc
    rw [f 11 (by omega)]; exact h9 c hc
theorem HoM.keep {μ ν : Sm} {m n r : Nat} {Ts : Nat → Nat → List Int32} (h : HoM μ m n r Ts) (f : FrS μ ν) (hM : MemoI ν m Ts) : HoM ν m n r Ts :=
  ⟨h.rg.keep f, h.tx.keep (f 1 (by omega)) (f 2 (by omega)), hM⟩
theorem upm_n {μ : Sm} {id j a : Nat} {v : Int32} (h : a ≠ id) : (upm μ id j v).1 a = μ.1 a := up_n h
theorem upm_s {μ : Sm} {id j : Nat} {v : Int32} : (upm μ id j v).1 id = upd (μ.1 id) j v := up_s
theorem fm_says {μ : Sm} {m n r w p : Nat} {Ts : Nat → Nat → List Int32} (h : HoM μ m n r Ts) (hw : w < 3) (hp : p < n) {t : Int32} (ht : isN t 16) :
    ∃ μ', f_X9_says (nI w) (nI p) t μ = some (if w = 1 then vT (Ts r) w (envR μ p t) else clI (vT (Ts r) w (envR μ p t)) 0 99, μ') ∧ FrS μ μ' ∧ MemoI μ' m Ts := by
  have hn5 := h.rg.n5
  obtain ⟨ni, ni1, ni2⟩ := h.rg.ni
  obtain ⟨ho, ho1, ho2⟩ := h.rg.ho
  obtain ⟨-, ⟨nb, nb1, nb2⟩, ⟨tr, tr1, tr2⟩, ⟨nw, nw1, nw2⟩⟩ := h.rg.ps p hp
  obtain ⟨ta, ta1, ta2⟩ := ht
  have i0 : okI (nI (3 * p)) 15 := okI_nI (by omega) (by omega)
  have i1 : okI (nI (3 * p + 1)) 15 := okI_nI (by omega) (by omega)
  have i2 : okI (nI (3 * p + 2)) 15 := okI_nI (by omega) (by omega)
  obtain ⟨μ1, hμ1⟩ : ∃ x, x = upm (upm (upm (upm (upm (upm μ 13 0 (nI tr)) 14 0 (nI nb)) 15 0 (nI ni)) 16 0 (nI nw)) 17 0 (nI ta)) 18 0 (nI ho) := ⟨_, rfl⟩
  have F1 : FrS μ μ1 := by
    intro a ha
    rw [hμ1, upm_n (by omega), upm_n (by omega), upm_n (by omega), upm_n (by omega), upm_n (by omega), upm_n (by omega)]
  have M1 : MemoI μ1 m Ts := by
    intro pl hpl
    have e1 : μ1.2 28 pl = μ.2 28 pl := by rw [hμ1]; rfl
    have e2 : μ1.1 29 = μ.1 29 := by
      rw [hμ1, upm_n (by decide), upm_n (by decide), upm_n (by decide), upm_n (by decide), upm_n (by decide), upm_n (by decide)]
    rw [e1, e2]
    exact h.me pl hpl
  have w13 : μ1.1 13 0 = nI tr := by
    rw [hμ1, upm_n (by decide), upm_n (by decide), upm_n (by decide), upm_n (by decide), upm_n (by decide), upm_s, upd_s]
  have w14 : μ1.1 14 0 = nI nb := by
    rw [hμ1, upm_n (by decide), upm_n (by decide), upm_n (by decide), upm_n (by decide), upm_s, upd_s]
  have w15 : μ1.1 15 0 = nI ni := by
    rw [hμ1, upm_n (by decide), upm_n (by decide), upm_n (by decide), upm_s, upd_s]
  have w16 : μ1.1 16 0 = nI nw := by
    rw [hμ1, upm_n (by decide), upm_n (by decide), upm_s, upd_s]
  have w17 : μ1.1 17 0 = nI ta := by
    rw [hμ1, upm_n (by decide), upm_s, upd_s]
  have w18 : μ1.1 18 0 = nI ho := by
    rw [hμ1, upm_s, upd_s]
  obtain ⟨μ2, g1, g2, g3⟩ := fm_kept (w := w) (h.tx.keep (F1 1 (by omega)) (F1 2 (by omega))) M1 (by rw [F1 4 (by omega)]; exact h.rg.hr) h.rg.rm hw w13 w14 w15 w16 w17 w18 (by omega) (by omega) (by omega) (by omega) (by omega) (by omega)
  have ev : envR μ p t = (nI tr, nI nb, nI ni, nI nw, nI ta, nI ho) := by
    unfold envR; rw [ni2, ho2, nb2, tr2, nw2, ta2]
  rw [ev]
  refine ⟨μ2, ?_, F1.tr g2, g3⟩
  unfold f_X9_says
  rw [ix3_1, ix3_2, ix3_0]
  simp only [nI_tn (show 3 * p < 2147483648 by omega), nI_tn (show 3 * p + 1 < 2147483648 by omega), nI_tn (show 3 * p + 2 < 2147483648 by omega)]
  rw [if_pos i1, if_pos i0, Option.bind_some, if_pos i2, Option.bind_some]
  have q1 : (upm μ 13 0 (μ.1 10 (3 * p + 1))).1 10 (3 * p) = nI nb := by rw [upm_n (by decide), nb2]
  have q2 : (upm (upm μ 13 0 (μ.1 10 (3 * p + 1))) 14 0 (nI nb)).1 7 0 = nI ni := by rw [upm_n (by decide), upm_n (by decide), ni2]
  have q3 : (upm (upm (upm μ 13 0 (μ.1 10 (3 * p + 1))) 14 0 (nI nb)) 15 0 (nI ni)).1 10 (3 * p + 2) = nI nw := by rw [upm_n (by decide), upm_n (by decide), upm_n (by decide), nw2]
  have q4 : (upm (upm (upm (upm (upm μ 13 0 (μ.1 10 (3 * p + 1))) 14 0 (nI nb)) 15 0 (nI ni)) 16 0 (nI nw)) 17 0 t).1 8 0 = nI ho := by rw [upm_n (by decide), upm_n (by decide), upm_n (by decide), upm_n (by decide), upm_n (by decide), ho2]
  rw [q1, q2, q3, q4, tr2, ta2, ← hμ1, g1, Option.bind_some]
  simp only []
  by_cases e : w = 1
  · subst e
    rw [if_pos (by decide), if_pos rfl]
  · rw [if_neg (by intro hc; have := congrArg Int32.toInt hc; rw [nI_ti (by omega)] at this; have : (w : Int) = 1 := this; omega), if_neg e, fe_within, Option.bind_some]
