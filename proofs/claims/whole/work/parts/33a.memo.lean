/-! What the reference keeps of its readings -/
def kEnc (t w tr nb ni nw ta ho : Nat) : Nat := (((((((t * 3 + w) * 128 + tr) * 16 + nb) * 4096 + ni) * 1024 + nw) * 16 + ta) * 32 + ho) + 1
theorem kEnc_lt {t w tr nb ni nw ta ho : Nat} (h1 : t < 6) (h2 : w < 3) (h3 : tr < 128) (h4 : nb < 16) (h5 : ni < 4096) (h6 : nw < 1024) (h7 : ta < 16) (h8 : ho < 32) : kEnc t w tr nb ni nw ta ho < 140737488355328 := by
  unfold kEnc; omega
theorem rdx {a b c d k : Nat} (hc : c < k) (hd : d < k) (h : a * k + c = b * k + d) : a = b ∧ c = d := by
  have h1 : (a * k + c) / k = (b * k + d) / k := by rw [h]
  rw [Nat.mul_comm a k, Nat.mul_comm b k, Nat.mul_add_div (by omega), Nat.mul_add_div (by omega), Nat.div_eq_of_lt hc, Nat.div_eq_of_lt hd] at h1
  have h2 : a = b := by omega
  subst h2
  exact ⟨rfl, by omega⟩
theorem kEnc_inj {t w tr nb ni nw ta ho t' w' tr' nb' ni' nw' ta' ho' : Nat} (h2 : w < 3) (h3 : tr < 128) (h4 : nb < 16) (h5 : ni < 4096) (h6 : nw < 1024) (h7 : ta < 16) (h8 : ho < 32) (g2 : w' < 3) (g3 : tr' < 128) (g4 : nb' < 16) (g5 : ni' < 4096) (g6 : nw' < 1024) (g7 : ta' < 16) (g8 : ho' < 32)
    (h : kEnc t w tr nb ni nw ta ho = kEnc t' w' tr' nb' ni' nw' ta' ho') : t = t' ∧ w = w' ∧ tr = tr' ∧ nb = nb' ∧ ni = ni' ∧ nw = nw' ∧ ta = ta' ∧ ho = ho' := by
  unfold kEnc at h
  have h := Nat.add_right_cancel h
  obtain ⟨h, a1⟩ := rdx h8 g8 h
  obtain ⟨h, a2⟩ := rdx h7 g7 h
  obtain ⟨h, a3⟩ := rdx h6 g6 h
  obtain ⟨h, a4⟩ := rdx h5 g5 h
  obtain ⟨h, a5⟩ := rdx h4 g4 h
  obtain ⟨h, a6⟩ := rdx h3 g3 h
  obtain ⟨h, a7⟩ := rdx h2 g2 h
  exact ⟨h, a7, a6, a5, a4, a3, a2, a1⟩
theorem lN_inj {a b : Nat} (ha : a < 9223372036854775808) (hb : b < 9223372036854775808) (h : lN a = lN b) : a = b := by
  have e : ∀ c, c < 9223372036854775808 → (lN c).toInt = (c : Int) := by
    intro c hc
    unfold lN
    rw [Int64.toInt_ofNat_of_lt (by omega)]
  have h2 : (lN a).toInt = (lN b).toInt := by rw [h]
  rw [e a ha, e b hb] at h2
  omega
theorem u54_all : ∀ a, a < 1024 → ((UInt64.ofNat a).toInt64).toInt32 = nI a := by decide +kernel
theorem place_ok (x : Int64) : ∃ a, a < 1024 ∧ (w_lushr x (54 : Int32)).toInt32 = nI a := by
  have e : (54 : Int32).toInt64.toUInt64 &&& Int64.toUInt64 63 = (54 : UInt64) := by decide
  unfold w_lushr
  rw [e]
  have hlt : (x.toUInt64 >>> (54 : UInt64)).toNat < 1024 := by
    rw [UInt64.toNat_shiftRight]
    have := x.toUInt64.toNat_lt
    show x.toUInt64.toNat >>> (54 % 64) < 1024
    rw [Nat.shiftRight_eq_div_pow, show (54 % 64 : Nat) = 54 from rfl]
    exact Nat.div_lt_of_lt_mul (by omega)
  refine ⟨(x.toUInt64 >>> (54 : UInt64)).toNat, hlt, ?_⟩
  have := u54_all _ hlt
  rw [UInt64.ofNat_toNat] at this
  exact this

/-- a number below B -/
def isN (x : Int32) (B : Nat) : Prop := ∃ a, a < B ∧ x = nI a
/-- the texts as the reference has them, m of them -/
def TxM (μ : Sm) (m : Nat) (Ts : Nat → Nat → List Int32) : Prop := m ≤ 6 ∧ ∀ t, t < m → ∃ n q, μ.1 2 t = nI n ∧ n ≤ 160 ∧ Byt (fun j => μ.1 1 (160 * t + j)) n ∧ pText (fun j => μ.1 1 (160 * t + j)) n = .ok q ∧ Ts t = tT q.1 q.2.1 q.2.2
/-- what is kept is right -/
def MemoI (μ : Sm) (m : Nat) (Ts : Nat → Nat → List Int32) : Prop := ∀ pl, pl < 1024 → μ.2 28 pl = 0 ∨ ∃ t w tr nb ni nw ta ho : Nat, t < m ∧ w < 3 ∧ tr < 128 ∧ nb < 16 ∧ ni < 4096 ∧ nw < 1024 ∧ ta < 16 ∧ ho < 32 ∧ μ.2 28 pl = lN (kEnc t w tr nb ni nw ta ho) ∧ μ.1 29 pl = vT (Ts t) w (nI tr, nI nb, nI ni, nI nw, nI ta, nI ho)
/-- only the reference's scratch has changed -/
def FrS (μ μ' : Sm) : Prop := ∀ a, (a < 13 ∨ 30 ≤ a) → μ'.1 a = μ.1 a
theorem FrS.rf {μ : Sm} : FrS μ μ := fun _ _ => rfl
theorem FrS.tr {μ ν ξ : Sm} (h1 : FrS μ ν) (h2 : FrS ν ξ) : FrS μ ξ := fun a h => (h2 a h).trans (h1 a h)
theorem TxM.keep {μ ν : Sm} {m : Nat} {Ts : Nat → Nat → List Int32} (h : TxM μ m Ts) (h1 : ν.1 1 = μ.1 1) (h2 : ν.1 2 = μ.1 2) : TxM ν m Ts := by
  unfold TxM at *
  rw [h1, h2]
  exact h
theorem pick3_nI {w : Nat} (h : w < 3) {T : Nat → List Int32} {e : Env} : pick3 (nI w) (vT T 0 e) (vT T 1 e) (vT T 2 e) = vT T w e := by
  match w, h with
  | 0, _ => rfl
  | 1, _ => rfl
  | 2, _ => rfl
theorem lN_0 : (0 : Int64) = lN 0 := by decide
theorem kEnc_eq (r w tr nb ni nw ta ho : Nat) : ((((((((((lN r * 3 + lN w) * 128 + lN tr) * 16 + lN nb) * 4096 + lN ni) * 1024 + lN nw) * 16 + lN ta) * 32 + lN ho) + 1) : Int64)) = lN (kEnc r w tr nb ni nw ta ho) := by
  have e3 : (3 : Int64) = lN 3 := by decide
  have e128 : (128 : Int64) = lN 128 := by decide
  have e16 : (16 : Int64) = lN 16 := by decide
  have e4096 : (4096 : Int64) = lN 4096 := by decide
  have e1024 : (1024 : Int64) = lN 1024 := by decide
  have e32 : (32 : Int64) = lN 32 := by decide
  have e1 : (1 : Int64) = lN 1 := by decide
  rw [e3, e128, e16, e4096, e1024, e32, e1]
  simp only [lN_mul, lN_add]
  unfold kEnc
  exact Eq.refl _
theorem upj_at {σ : Sm} {id j k : Nat} {v : Int64} : (upj σ id j v).2 id k = if k = j then v else σ.2 id k := by
  show (if id = id then vp_updL (σ.2 id) j v else σ.2 id) k = _
  rw [if_pos rfl]
  rfl
theorem memo_put {μ μ1 : Sm} {m r w tr nb ni nw ta ho pl : Nat} {Ts : Nat → Nat → List Int32} {V : Int32} {K : Int64} (hM : MemoI μ m Ts) (g3 : FrN μ μ1) (hpl : pl < 1024) (hV : V = vT (Ts r) w (nI tr, nI nb, nI ni, nI nw, nI ta, nI ho)) (hK : K = lN (kEnc r w tr nb ni nw ta ho)) (hrm : r < m) (hw : w < 3) (b1 : tr < 128) (b2 : nb < 16) (b3 : ni < 4096) (b4 : nw < 1024) (b5 : ta < 16) (b6 : ho < 32) : MemoI (upj (upm μ1 29 pl V) 28 pl K) m Ts := by
  intro pl' hpl'
  rw [upj_at, upj_1, upm_1, upm_2, up_s]
  by_cases e : pl' = pl
  · subst e
    rw [if_pos rfl, upd_s]
    exact Or.inr ⟨r, w, tr, nb, ni, nw, ta, ho, hrm, hw, b1, b2, b3, b4, b5, b6, hK, hV⟩
  · rw [if_neg e, upd_n e, g3.2 28 (by decide), g3.1 29 (by decide) (by decide) (by decide) (by decide) (by decide) (by decide) (by decide) (by decide)]
    exact hM pl' hpl'
theorem fm_keptT {μ : Sm} {m r w tr nb ni nw ta ho pl : Nat} {K : Int64} {Ts : Nat → Nat → List Int32} (hK : K = lN (kEnc r w tr nb ni nw ta ho)) (hpl : pl < 1024) (hT : TxM μ m Ts) (hM : MemoI μ m Ts) (hrm : r < m) (hw : w < 3) (henv : envM μ = (nI tr, nI nb, nI ni, nI nw, nI ta, nI ho)) (b1 : tr < 128) (b2 : nb < 16) (b3 : ni < 4096) (b4 : nw < 1024) (b5 : ta < 16) (b6 : ho < 32) :
    ∃ μ', (if okI (nI pl) 1024 then if (lg_cmp (μ.2 (28) (nI pl).toNatClampNeg) K) = 0 then if okI (nI pl) 1024 then some ((μ.1 (29) (nI pl).toNatClampNeg), μ) else none else (f_X9_read (nI r) (nI w) μ).bind fun (q12 : Int32 × Sm) => if okI (nI pl) 1024 then if okI (nI pl) 1024 then if okI (nI pl) 1024 then some (((upj (upm q12.2 (29) (nI pl).toNatClampNeg q12.1) (28) (nI pl).toNatClampNeg K).1 (29) (nI pl).toNatClampNeg), (upj (upm q12.2 (29) (nI pl).toNatClampNeg q12.1) (28) (nI pl).toNatClampNeg K)) else none else none else none else none) = some (vT (Ts r) w (nI tr, nI nb, nI ni, nI nw, nI ta, nI ho), μ') ∧ FrS μ μ' ∧ MemoI μ' m Ts := by
  have hm6 := hT.1
  have h6 : r < 6 := by omega
  have hok : okI (nI pl) 1024 := okI_nI hpl (by omega)
  have hlt := kEnc_lt h6 hw b1 b2 b3 b4 b5 b6
  simp only [if_pos hok, nI_tn (show pl < 2147483648 by omega)]
  by_cases hz : lg_cmp (μ.2 28 pl) K = 0
  · rw [if_pos hz]
    have heq := lg_zero.mp hz
    refine ⟨μ, ?_, FrS.rf, hM⟩
    rw [hK] at heq
    rcases hM pl hpl with h0 | ⟨t', w', tr', nb', ni', nw', ta', ho', q1, q2, q3, q4, q5, q6, q7, q8, q9, q10⟩
    · rw [h0, lN_0] at heq
      have := lN_inj (by omega) (by omega) heq
      unfold kEnc at this; omega
    · rw [q9] at heq
      have hlt' := kEnc_lt (t := t') (by omega) q2 q3 q4 q5 q6 q7 q8
      obtain ⟨e1, e2, e3, e4, e5, e6, e7, e8⟩ := kEnc_inj q2 q3 q4 q5 q6 q7 q8 hw b1 b2 b3 b4 b5 b6 (lN_inj (by omega) (by omega) heq)
      rw [q10, e1, e2, e3, e4, e5, e6, e7, e8]
  · rw [if_neg hz]
    obtain ⟨n, q, t1, t2, t3, t4, t5⟩ := hT.2 r hrm
    have hrd := fm_read (μ := μ) (n := n) (t := r) h6 t1 t2 t3 (nI w)
    rw [t4] at hrd
    obtain ⟨μ1, g1, g2, g3⟩ := hrd
    rw [henv, ← t5, pick3_nI hw] at g1
    rw [g1, Option.bind_some]
    obtain ⟨V, hV⟩ : ∃ V, V = vT (Ts r) w (nI tr, nI nb, nI ni, nI nw, nI ta, nI ho) := ⟨_, rfl⟩
    rw [← hV]
    refine ⟨upj (upm μ1 29 pl V) 28 pl K, ?_, ?_, ?_⟩
    · show some (up μ1.1 29 pl V 29 pl, upj (upm μ1 29 pl V) 28 pl K) = some (V, upj (upm μ1 29 pl V) 28 pl K)
      rw [up_s, upd_s]
    · intro a ha
      show up μ1.1 29 pl V a = μ.1 a
      rw [up_n (by omega)]
      exact g3.1 a (by omega) (by omega) (by omega) (by omega) (by omega) (by omega) (by omega) (by omega)
    · exact memo_put hM g3 hpl hV hK hrm hw b1 b2 b3 b4 b5 b6
theorem fm_kept {μ : Sm} {m r w tr nb ni nw ta ho : Nat} {Ts : Nat → Nat → List Int32} (hT : TxM μ m Ts) (hM : MemoI μ m Ts) (hr : μ.1 4 0 = nI r) (hrm : r < m) (hw : w < 3) (h13 : μ.1 13 0 = nI tr) (h14 : μ.1 14 0 = nI nb) (h15 : μ.1 15 0 = nI ni) (h16 : μ.1 16 0 = nI nw) (h17 : μ.1 17 0 = nI ta) (h18 : μ.1 18 0 = nI ho) (b1 : tr < 128) (b2 : nb < 16) (b3 : ni < 4096) (b4 : nw < 1024) (b5 : ta < 16) (b6 : ho < 32) :
    ∃ μ', f_X9_keptRead (nI w) μ = some (vT (Ts r) w (nI tr, nI nb, nI ni, nI nw, nI ta, nI ho), μ') ∧ FrS μ μ' ∧ MemoI μ' m Ts := by
  have hm6 := hT.1
  have henv : envM μ = (nI tr, nI nb, nI ni, nI nw, nI ta, nI ho) := by unfold envM; rw [h13, h14, h15, h16, h17, h18]
  have e := kEnc_eq r w tr nb ni nw ta ho
  rw [← nI_l (n := r) (by omega), ← nI_l (n := w) (by omega), ← nI_l (n := tr) (by omega), ← nI_l (n := nb) (by omega), ← nI_l (n := ni) (by omega), ← nI_l (n := nw) (by omega), ← nI_l (n := ta) (by omega), ← nI_l (n := ho) (by omega), ← h13, ← h14, ← h15, ← h16, ← h17, ← h18, ← hr] at e
  obtain ⟨K, hK⟩ : ∃ K, K = lN (kEnc r w tr nb ni nw ta ho) := ⟨_, rfl⟩
  rw [← hK] at e
  obtain ⟨pl, hpl, epl⟩ := place_ok (K * (7046029254386353131 : Int64))
  have step : ∀ (E : Int64) (v7 : Int32), E = K → v7 = nI pl → ∃ μ', (if okI v7 1024 then if (lg_cmp (μ.2 (28) (v7).toNatClampNeg) E) = 0 then if okI v7 1024 then some ((μ.1 (29) (v7).toNatClampNeg), μ) else none else (f_X9_read (μ.1 (4) 0) (nI w) μ).bind fun (q12 : Int32 × Sm) => if okI v7 1024 then if okI v7 1024 then if okI v7 1024 then some (((upj (upm q12.2 (29) (v7).toNatClampNeg q12.1) (28) (v7).toNatClampNeg E).1 (29) (v7).toNatClampNeg), (upj (upm q12.2 (29) (v7).toNatClampNeg q12.1) (28) (v7).toNatClampNeg E)) else none else none else none else none) = some (vT (Ts r) w (nI tr, nI nb, nI ni, nI nw, nI ta, nI ho), μ') ∧ FrS μ μ' ∧ MemoI μ' m Ts := by
    intro E v7 hE hv
    subst hE
    subst hv
    rw [hr]
    exact fm_keptT hK hpl hT hM hrm hw henv b1 b2 b3 b4 b5 b6
  rw [← e] at epl
  unfold f_X9_keptRead
  rw [Option.bind_some, Option.bind_some, Option.bind_some, Option.bind_some]
  exact step _ _ e epl
