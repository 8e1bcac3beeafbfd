/-! What one yields, which cups one suits, by how much one is eased: the words; and that the class says so -/
def offT (T : Nat → List Int32) : Nat → Nat
  | 0 => 0
  | n + 1 => offT T n + (T n).length
def TxC (σ : Sg) (k : Nat) (T : Nat → List Int32) : Prop :=
  offT T 3 ≤ 160 ∧ ∀ pt, pt < 3 → σ (45 + 3 * k) pt = nI (offT T (pt + 1)) ∧ (∀ j, j < (T pt).length → σ (44 + 3 * k) (offT T pt + j) = (T pt).getD j 0) ∧ dOK (T pt) 0
def vT (T : Nat → List Int32) (pt : Nat) (e : Env) : Int32 := topV (rRun e (T pt) [])
def sY (T : Nat → List Int32) (kd nb tr nw night hour : Int32) : Int32 :=
  if tr = 0 then 0 else clI (if kd = 1 then (if night - night / 2 * 2 = 0 then clI (vT T 0 (tr, nb, night, nw, 0, hour)) 0 99 else clI (vT T 0 (tr, nb, night, nw, 0, hour)) 0 99 + nb) else if kd = 2 then 2 * clI (vT T 0 (tr, nb, night, nw, 0, hour)) 0 99 else if kd = 3 then (if (if night - night / 2 * 2 = 0 then clI (vT T 0 (tr, nb, night, nw, 0, hour)) 0 99 else clI (vT T 0 (tr, nb, night, nw, 0, hour)) 0 99 + nb) < 20 then (if night - night / 2 * 2 = 0 then clI (vT T 0 (tr, nb, night, nw, 0, hour)) 0 99 else clI (vT T 0 (tr, nb, night, nw, 0, hour)) 0 99 + nb) else 20) else if kd = 4 then (if 11 ≤ hour then 2 * clI (vT T 0 (tr, nb, night, nw, 0, hour)) 0 99 else 0) else if kd = 5 then (if nw ≤ 0 then clI (vT T 0 (tr, nb, night, nw, 0, hour)) 0 99 else 0) else clI (vT T 0 (tr, nb, night, nw, 0, hour)) 0 99) 0 99
def sS (T : Nat → List Int32) (kd nb tr nw night hour c taste : Int32) : Int32 :=
  if kd = 1 then (if vT T 1 (tr, nb, night, nw, taste, hour) = 0 then 0 else if taste = nb then 0 else 1) else if kd = 2 then (if vT T 1 (tr, nb, night, nw, taste, hour) = 0 then if 3 ≤ taste then 0 else 1 else 1) else if kd = 3 then (if vT T 1 (tr, nb, night, nw, taste, hour) = 0 then (if taste = 9 then 1 else 0) else if taste = nb then (if taste = 9 then 1 else 0) else 1) else if kd = 4 then (if c = 5 then 1 else 0) else if kd = 5 then 1 else (if vT T 1 (tr, nb, night, nw, taste, hour) = 0 then 0 else 1)
def sE (T : Nat → List Int32) (kd nb tr nw night hour : Int32) : Int32 :=
  if kd = 1 then clI (vT T 2 (tr, nb, night, nw, 0, hour)) 0 99 / 2 else if kd = 2 then 0 else if kd = 3 then (if night - night / 7 * 7 = 0 then -1 else clI (vT T 2 (tr, nb, night, nw, 0, hour)) 0 99 / 2) else if kd = 4 then -nb else if kd = 5 then (if nw ≤ 0 then clI (vT T 2 (tr, nb, night, nw, 0, hour)) 0 99 else tr) else clI (vT T 2 (tr, nb, night, nw, 0, hour)) 0 99
/-- the texts stand, m of them -/
def LawC (σ : Sg) (m : Nat) (Ts : Nat → Nat → List Int32) : Prop := σ 41 0 = nI m ∧ 1 ≤ m ∧ m ≤ 6 ∧ ∀ k, k < m → TxC σ k (Ts k)
/-- a house: n sleepless, text r rules -/
def HsC (σ : Sg) (i n r : Nat) : Prop := i < 3 ∧ σ (11 * i + 3) 0 = nI n ∧ n ≤ 5 ∧ σ (11 * i + 2) 0 = nI r
theorem TxC.keep {σ τ : Sg} {k : Nat} {T : Nat → List Int32} (h : TxC σ k T) (h1 : τ (44 + 3 * k) = σ (44 + 3 * k)) (h2 : τ (45 + 3 * k) = σ (45 + 3 * k)) : TxC τ k T := by
  unfold TxC at *
  rw [h1, h2]
  exact h
theorem LawC.keep {σ τ : Sg} {m : Nat} {Ts : Nat → Nat → List Int32} (h : LawC σ m Ts) (he : ∀ a, 41 ≤ a → a < 64 → a ≠ 42 → τ a = σ a) : LawC τ m Ts := by
  obtain ⟨h1, h2, h3, h4⟩ := h
  exact ⟨by rw [he 41 (by omega) (by omega) (by omega)]; exact h1, h2, h3, fun k hk => (h4 k hk).keep (he _ (by omega) (by omega) (by omega)) (he _ (by omega) (by omega) (by omega))⟩
theorem HsC.keep {σ τ : Sg} {i n r : Nat} (h : HsC σ i n r) (h3 : τ (11 * i + 3) = σ (11 * i + 3)) (h2 : τ (11 * i + 2) = σ (11 * i + 2)) : HsC τ i n r := by
  unfold HsC at *
  rw [h3, h2]
  exact h
theorem fe_lodges {σ : Sg} {i n r p : Nat} (h : HsC σ i n r) (hp : p < n) : f_X1_lodges i (nI p) σ = some (1, σ) := by
  obtain ⟨h1, h2, h3, h4⟩ := h
  unfold f_X1_lodges
  rw [if_pos h1, if_neg (nI_pos (by omega)), h2, if_neg (by rw [nI_leI (by omega) (by omega)]; omega)]
theorem fe_lodgesN {σ : Sg} {i n r : Nat} {x : Int32} (h : HsC σ i n r) (hx : x < 0 ∨ nI n ≤ x) : f_X1_lodges i x σ = some (0, σ) := by
  obtain ⟨h1, h2, h3, h4⟩ := h
  unfold f_X1_lodges
  rw [if_pos h1]
  by_cases q : x < 0
  · rw [if_pos q]
  · rw [if_neg q, h2, if_pos (hx.resolve_left q)]
theorem fe_value {σ : Sg} {k i n r p pt : Nat} {T : Nat → List Int32} (h : HsC σ i n r) (hp : p < n) (hk : k < 7) (hT : TxC σ k T) (hpt : pt < 3) (t : Int32) : ∃ F, f_X6_value k (nI pt) i (nI p) t σ = some (vT T pt (envC σ i p t), upA σ 42 F) := by
  have hi := h.1
  have hn := h.2.2.1
  obtain ⟨ho, hT⟩ := hT
  obtain ⟨e1, e2, e3⟩ := hT pt hpt
  have hle : offT T pt + (T pt).length ≤ 160 := by
    have : offT T (pt + 1) ≤ offT T 3 := by
      match pt, hpt with
      | 0, _ => show offT T 1 ≤ offT T 1 + (T 1).length + (T 2).length; omega
      | 1, _ => show offT T 2 ≤ offT T 2 + (T 2).length; omega
      | 2, _ => exact Nat.le_refl _
    have e : offT T (pt + 1) = offT T pt + (T pt).length := rfl
    omega
  have key := fe_value_loop (k := k) (i := i) (pt := pt) (p := p) hk hi hpt (by omega) t (T pt) (offT T pt) [] σ 5000 (by omega) hle e1 e2 trivial e3 (by simp)
  obtain ⟨F, hF⟩ := key
  refine ⟨F, ?_⟩
  unfold f_X6_value
  rw [if_pos hk, if_pos hi, if_neg (nI_pos (by omega)), if_neg (by rw [show (3 : Int32) = nI 3 from rfl, nI_leI (by omega) (by omega)]; omega), if_neg (by decide), fe_lodges h hp, Option.bind_some]
  simp only []
  rw [if_neg (by decide)]
  match pt, hpt, hF with
  | 0, _, hF => rw [if_pos (by rfl)]; exact hF
  | q + 1, hpt, hF =>
    rw [if_neg (by rw [show (0 : Int32) = nI 0 from rfl, nI_eq (by omega) (by omega)]; omega), nI_pred, if_pos (okI_nI (by omega) (by omega)), nI_tn (by omega), (hT q (by omega)).1]
    exact hF
theorem fe_ruling {σ : Sg} {i n r m : Nat} {Ts : Nat → Nat → List Int32} (h : HsC σ i n r) (hL : LawC σ m Ts) (hr : r < m) : f_X2_ruling i σ = some (r, σ) := by
  obtain ⟨h1, h2, h3, h4⟩ := h
  obtain ⟨l1, l2, l3, l4⟩ := hL
  unfold f_X2_ruling f_X2_hasText
  rw [if_pos h1, h4, if_neg (nI_pos (by omega)), l1, if_neg (by rw [nI_leI (by omega) (by omega)]; omega), Option.bind_some]
  simp only []
  rw [if_neg (by decide), h4, if_pos (okI_nI (by omega) (by omega)), nI_tn (by omega)]
theorem fe_yield {σ : Sg} {i n r m p : Nat} {Ts : Nat → Nat → List Int32} (h : HsC σ i n r) (hL : LawC σ m Ts) (hr : r < m) (hp : p < n) :
    ∃ F, f_X2_yieldOf i (nI p) σ = some (sY (Ts r) (σ (11 * i + 4) p) (σ (11 * i + 5) p) (σ (11 * i + 6) p) (σ (11 * i + 7) p) (σ (11 * i) 0) (σ (11 * i + 1) 0), upA σ 42 F) := by
  have hi := h.1
  have hn := h.2.2.1
  have hm := hL.2.2.1
  have ho : okI (nI p) 5 := okI_nI (by omega) (by omega)
  unfold f_X2_yieldOf
  rw [if_pos hi, fe_lodges h hp, Option.bind_some]
  simp only []
  rw [if_neg (by decide), if_pos ho, nI_tn (by omega)]
  by_cases h0 : σ (11 * i + 6) p = 0
  · rw [if_pos h0]
    refine ⟨σ 42, ?_⟩
    unfold sY
    rw [if_pos h0, upA_self]
  · rw [if_neg h0, fe_ruling h hL hr, Option.bind_some]
    simp only []
    rw [if_pos (by omega)]
    obtain ⟨F, hF⟩ := fe_value (pt := 0) h hp (show r < 7 by omega) (hL.2.2.2 r hr) (by omega) 0
    rw [show (0 : Int32) = nI 0 from rfl] at hF ⊢
    rw [hF, Option.bind_some]
    simp only []
    rw [fe_bounded, Option.bind_some]
    simp only []
    refine ⟨F, ?_⟩
    have k3 : (upA σ 42 F) (11 * i) = σ (11 * i) := upA_n (by omega)
    have k4 : (upA σ 42 F) (11 * i + 1) = σ (11 * i + 1) := upA_n (by omega)
    have k5 : (upA σ 42 F) (11 * i + 4) = σ (11 * i + 4) := upA_n (by omega)
    have k6 : (upA σ 42 F) (11 * i + 5) = σ (11 * i + 5) := upA_n (by omega)
    have k7 : (upA σ 42 F) (11 * i + 7) = σ (11 * i + 7) := upA_n (by omega)
    have e : ∀ v : Int32, f_X2_yieldByKind i (nI p) v (upA σ 42 F) = some (if σ (11 * i + 4) p = 1 then (if σ (11 * i) 0 - σ (11 * i) 0 / 2 * 2 = 0 then v else v + σ (11 * i + 5) p) else if σ (11 * i + 4) p = 2 then 2 * v else if σ (11 * i + 4) p = 3 then (if (if σ (11 * i) 0 - σ (11 * i) 0 / 2 * 2 = 0 then v else v + σ (11 * i + 5) p) < 20 then (if σ (11 * i) 0 - σ (11 * i) 0 / 2 * 2 = 0 then v else v + σ (11 * i + 5) p) else 20) else if σ (11 * i + 4) p = 4 then (if 11 ≤ σ (11 * i + 1) 0 then 2 * v else 0) else if σ (11 * i + 4) p = 5 then (if σ (11 * i + 7) p ≤ 0 then v else 0) else v, upA σ 42 F) := by
      intro v
      have e2 : ∀ z : Int32, f_X2_yieldByKind_21 i (nI p) v z (upA σ 42 F) = some (if σ (11 * i + 4) p = 1 then z else if σ (11 * i + 4) p = 2 then 2 * v else if σ (11 * i + 4) p = 3 then (if z < 20 then z else 20) else if σ (11 * i + 4) p = 4 then (if 11 ≤ σ (11 * i + 1) 0 then 2 * v else 0) else if σ (11 * i + 4) p = 5 then (if σ (11 * i + 7) p ≤ 0 then v else 0) else v, upA σ 42 F) := by
        intro z
        unfold f_X2_yieldByKind_21
        simp only [if_pos hi, if_pos ho, nI_tn (show p < 2147483648 by omega), k4, k5, k7]
        repeat' split
        all_goals rfl
      unfold f_X2_yieldByKind
      simp only [if_pos hi, if_pos ho, nI_tn (show p < 2147483648 by omega), k3, k6, e2]
      split <;> rfl
    rw [e, Option.bind_some]
    simp only []
    rw [fe_bounded, Option.bind_some]
    unfold sY envC
    rw [if_neg h0]
    rfl
theorem fe_ease {σ : Sg} {i n r m p : Nat} {Ts : Nat → Nat → List Int32} (h : HsC σ i n r) (hL : LawC σ m Ts) (hr : r < m) (hp : p < n) :
    ∃ F, f_X2_easeOf i (nI p) σ = some (sE (Ts r) (σ (11 * i + 4) p) (σ (11 * i + 5) p) (σ (11 * i + 6) p) (σ (11 * i + 7) p) (σ (11 * i) 0) (σ (11 * i + 1) 0), upA σ 42 F) := by
  have hi := h.1
  have hn := h.2.2.1
  have hm := hL.2.2.1
  have ho : okI (nI p) 5 := okI_nI (by omega) (by omega)
  unfold f_X2_easeOf
  rw [if_pos hi, fe_lodges h hp, Option.bind_some]
  simp only []
  rw [if_neg (by decide), fe_ruling h hL hr, Option.bind_some]
  simp only []
  rw [if_pos (by omega)]
  obtain ⟨F, hF⟩ := fe_value (pt := 2) h hp (show r < 7 by omega) (hL.2.2.2 r hr) (by omega) 0
  have hF : f_X6_value r (2 : Int32) i (nI p) 0 σ = _ := hF
  rw [hF, Option.bind_some]
  simp only []
  rw [fe_bounded, Option.bind_some]
  refine ⟨F, ?_⟩
  have k3 : (upA σ 42 F) (11 * i) = σ (11 * i) := upA_n (by omega)
  have k5 : (upA σ 42 F) (11 * i + 4) = σ (11 * i + 4) := upA_n (by omega)
  have k6 : (upA σ 42 F) (11 * i + 5) = σ (11 * i + 5) := upA_n (by omega)
  have k7 : (upA σ 42 F) (11 * i + 7) = σ (11 * i + 7) := upA_n (by omega)
  have k8 : (upA σ 42 F) (11 * i + 6) = σ (11 * i + 6) := upA_n (by omega)
  simp only [if_pos ho, nI_tn (show p < 2147483648 by omega), k3, k5, k6, k7, k8]
  unfold sE envC
  repeat' split
  all_goals rfl
theorem fe_suits {σ : Sg} {i n r m p c : Nat} {Ts : Nat → Nat → List Int32} (h : HsC σ i n r) (hL : LawC σ m Ts) (hr : r < m) (hp : p < n) (hc : c < 6) :
    ∃ F, f_X2_suitsCup i (nI p) (nI c) σ = some (sS (Ts r) (σ (11 * i + 4) p) (σ (11 * i + 5) p) (σ (11 * i + 6) p) (σ (11 * i + 7) p) (σ (11 * i) 0) (σ (11 * i + 1) 0) (nI c) (σ (11 * i + 9) c), upA σ 42 F) := by
  have hi := h.1
  have hn := h.2.2.1
  have hm := hL.2.2.1
  have ho : okI (nI p) 5 := okI_nI (by omega) (by omega)
  unfold f_X2_suitsCup
  rw [if_pos hi, fe_lodges h hp, Option.bind_some]
  simp only []
  have hcup : f_X8_isCup (nI c) σ = some (1, σ) := by
    unfold f_X8_isCup
    rw [if_neg (nI_pos (by omega)), if_neg (by rw [show (6 : Int32) = nI 6 from rfl, nI_leI (by omega) (by omega)]; omega)]
  rw [if_neg (by decide), hcup, Option.bind_some]
  simp only []
  rw [if_neg (by decide), if_pos (okI_nI hc (by omega)), fe_ruling h hL hr, Option.bind_some]
  simp only []
  rw [if_pos (by omega), nI_tn (show c < 2147483648 by omega)]
  obtain ⟨F, hF⟩ := fe_value (pt := 1) h hp (show r < 7 by omega) (hL.2.2.2 r hr) (by omega) (σ (11 * i + 9) c)
  have hF : f_X6_value r (1 : Int32) i (nI p) (σ (11 * i + 9) c) σ = _ := hF
  rw [hF, Option.bind_some]
  refine ⟨F, ?_⟩
  have k5 : (upA σ 42 F) (11 * i + 4) = σ (11 * i + 4) := upA_n (by omega)
  have k6 : (upA σ 42 F) (11 * i + 5) = σ (11 * i + 5) := upA_n (by omega)
  have d1 : ¬ (1 : Int32) = 0 := by decide
  have d2 : ((0 : Int32) = 0 ∨ (0 : Int32) = 1) := Or.inl rfl
  have d3 : ((1 : Int32) = 0 ∨ (1 : Int32) = 1) := Or.inr rfl
  have e73 : ∀ y z : Int32, (y = 0 ∨ y = 1) → (z = 0 ∨ z = 1) → f_X2_suitsCup_73 i (nI p) (nI c) (σ (11 * i + 9) c) y z (upA σ 42 F) = some (if σ (11 * i + 4) p = 1 then z else if σ (11 * i + 4) p = 2 then (if y = 0 then if 3 ≤ σ (11 * i + 9) c then 0 else 1 else 1) else if σ (11 * i + 4) p = 3 then (if z = 0 then if σ (11 * i + 9) c = 9 then 1 else 0 else 1) else if σ (11 * i + 4) p = 4 then (if nI c = 5 then 1 else 0) else if σ (11 * i + 4) p = 5 then 1 else y, upA σ 42 F) := by
    intro y z hy hz
    unfold f_X2_suitsCup_73
    simp only [if_pos hi, if_pos ho, nI_tn (show p < 2147483648 by omega), k5, if_pos hy, if_pos hz]
    repeat' split
    all_goals rfl
  have e50 : ∀ y : Int32, (y = 0 ∨ y = 1) → f_X2_suitsCup_50 i (nI p) (nI c) (σ (11 * i + 9) c) y (upA σ 42 F) = f_X2_suitsCup_73 i (nI p) (nI c) (σ (11 * i + 9) c) y (if y = 0 then 0 else if σ (11 * i + 9) c = σ (11 * i + 5) p then 0 else 1) (upA σ 42 F) := by
    intro y hy
    unfold f_X2_suitsCup_50
    simp only [if_pos hi, if_pos ho, nI_tn (show p < 2147483648 by omega), k6]
    repeat' split
    all_goals rfl
  have hz : ∀ y : Int32, ((if y = 0 then (0 : Int32) else if σ (11 * i + 9) c = σ (11 * i + 5) p then 0 else 1) = 0 ∨ (if y = 0 then (0 : Int32) else if σ (11 * i + 9) c = σ (11 * i + 5) p then 0 else 1) = 1) := by
    intro y
    repeat' split
    all_goals first | exact Or.inl rfl | exact Or.inr rfl
  by_cases hv : vT (Ts r) 1 (envC σ i p (σ (11 * i + 9) c)) = 0
  · have hv2 : vT (Ts r) 1 (σ (11 * i + 6) p, σ (11 * i + 5) p, σ (11 * i) 0, σ (11 * i + 7) p, σ (11 * i + 9) c, σ (11 * i + 1) 0) = 0 := hv
    simp only [if_pos hv]
    rw [e50 _ d2, e73 _ _ d2 (hz _)]
    unfold sS
    simp only [if_pos hv2, if_true]
  · have hv2 : ¬ vT (Ts r) 1 (σ (11 * i + 6) p, σ (11 * i + 5) p, σ (11 * i) 0, σ (11 * i + 7) p, σ (11 * i + 9) c, σ (11 * i + 1) 0) = 0 := hv
    simp only [if_neg hv]
    rw [e50 _ d3, e73 _ _ d3 (hz _)]
    unfold sS
    simp only [if_neg hv2, if_neg d1]
    by_cases ht : σ (11 * i + 9) c = σ (11 * i + 5) p
    · simp only [if_pos ht, if_true]
    · simp only [if_neg ht, if_neg d1]
