/-! A night whole, in the class -/
def hdv (y : Nat → Int32) (s : Nat → Nat → Int32) (want : Nat → Int32) : Nat → Nat → Int32
  | 0 => fun _ => 0
  | p + 1 => fun c => hdv y s want p c + gg (y p) (s p) want (hdv y s want p) c
def pdv (y : Nat → Int32) (s : Nat → Nat → Int32) (want : Nat → Int32) : Nat → Int32
  | 0 => 0
  | p + 1 => pdv y s want p + (y p - lf (y p) (s p) want (hdv y s want p) 6)
def Wants (want : Nat → Int32) : Prop := ∀ c, c < 6 → R99 (want c)
theorem hdv_rng {y : Nat → Int32} {s : Nat → Nat → Int32} {want : Nat → Int32} (hw : Wants want) (hy : ∀ p, R99 (y p)) : ∀ p, Cups want (hdv y s want p)
  | 0 => fun c hc => ⟨hw c hc, R99_0, (hw c hc).1⟩
  | p + 1 => fun c hc => by
    have ih := hdv_rng (s := s) hw hy p
    have g := gg_rng (s := s p) (hy p) ih hc
    have h3 := (ih c hc).2.1
    unfold R99 at h3
    have hw3 := hw c hc
    unfold R99 at hw3
    refine ⟨hw c hc, ⟨?_, ?_⟩, g.2.2.2⟩
    · show 0 ≤ (hdv y s want p c + gg (y p) (s p) want (hdv y s want p) c).toInt
      rw [g.2.2.1]; omega
    · show (hdv y s want p c + gg (y p) (s p) want (hdv y s want p) c).toInt ≤ 99
      have := g.2.2.2; omega
theorem lf_congr {y : Int32} {s s' want want' hold hold' : Nat → Int32} : ∀ c, (∀ d, d < c → s d = s' d ∧ want d = want' d ∧ hold d = hold' d) → lf y s want hold c = lf y s' want' hold' c
  | 0, _ => rfl
  | c + 1, h => by
    have e := lf_congr (y := y) c (fun d hd => h d (by omega))
    obtain ⟨h1, h2, h3⟩ := h c (by omega)
    unfold lf
    rw [e, h1, h2, h3]
theorem gg_congr {y : Int32} {s s' want want' hold hold' : Nat → Int32} {c : Nat} (h : ∀ d, d < c + 1 → s d = s' d ∧ want d = want' d ∧ hold d = hold' d) : gg y s want hold c = gg y s' want' hold' c := by
  unfold gg
  obtain ⟨h1, h2, h3⟩ := h c (by omega)
  rw [lf_congr c (fun d hd => h d (by omega)), h1, h2, h3]
/-- while it is poured: p are through -/
def NiJ (σ0 σ : Sg) (i : Nat) (T : Nat → List Int32) (p : Nat) : Prop :=
  (∀ a, a ≠ 42 → a ≠ 11 * i + 10 → (a < 64 ∨ 69 ≤ a) → σ a = σ0 a) ∧ (∀ c, c < 6 → σ (11 * i + 10) c = hdv (yC σ0 i T) (sC σ0 i T) (σ0 (11 * i + 8)) p c) ∧ ∀ q, q < p → ∀ c, c < 6 → σ (64 + q) c = gg (yC σ0 i T q) (sC σ0 i T q) (σ0 (11 * i + 8)) (hdv (yC σ0 i T) (sC σ0 i T) (σ0 (11 * i + 8)) q) c
theorem NiJ.house {σ0 σ : Sg} {i p n r : Nat} {T : Nat → List Int32} (hJ : NiJ σ0 σ i T p) (h : HsC σ0 i n r) : HsC σ i n r := h.keep (hJ.1 _ (by have := h.1; omega) (by omega) (by have := h.1; omega)) (hJ.1 _ (by have := h.1; omega) (by omega) (by have := h.1; omega))
theorem NiJ.law {σ0 σ : Sg} {i p m : Nat} {T : Nat → List Int32} {Ts : Nat → Nat → List Int32} (hi : i < 3) (hJ : NiJ σ0 σ i T p) (h : LawC σ0 m Ts) : LawC σ m Ts := h.keep (fun a h1 h2 h3 => hJ.1 a h3 (by omega) (by omega))
theorem sC_eq {σ0 σ : Sg} {i : Nat} (T : Nat → List Int32) (h : ∀ a, a = 11 * i ∨ a = 11 * i + 1 ∨ a = 11 * i + 4 ∨ a = 11 * i + 5 ∨ a = 11 * i + 6 ∨ a = 11 * i + 7 ∨ a = 11 * i + 9 → σ a = σ0 a) : sC σ i T = sC σ0 i T := by
  funext q d
  unfold sC
  rw [h (11 * i + 4) (by omega), h (11 * i + 5) (by omega), h (11 * i + 6) (by omega), h (11 * i + 7) (by omega), h (11 * i) (by omega), h (11 * i + 1) (by omega), h (11 * i + 9) (by omega)]
theorem yC_eq {σ0 σ : Sg} {i : Nat} (T : Nat → List Int32) (h : ∀ a, a = 11 * i ∨ a = 11 * i + 1 ∨ a = 11 * i + 4 ∨ a = 11 * i + 5 ∨ a = 11 * i + 6 ∨ a = 11 * i + 7 → σ a = σ0 a) : yC σ i T = yC σ0 i T := by
  funext q
  unfold yC
  rw [h (11 * i + 4) (by omega), h (11 * i + 5) (by omega), h (11 * i + 6) (by omega), h (11 * i + 7) (by omega), h (11 * i) (by omega), h (11 * i + 1) (by omega)]
theorem fe_pourAll_loop {σ0 : Sg} {i n r m : Nat} {Ts : Nat → Nat → List Int32} (h : HsC σ0 i n r) (hL : LawC σ0 m Ts) (hr : r < m) (hw : Wants (σ0 (11 * i + 8))) :
    ∀ (d p k : Nat) (σ : Sg), p + d = n → d < k → NiJ σ0 σ i (Ts r) p →
      ∃ σ', f_X3_pourAll_26 i k (pdv (yC σ0 i (Ts r)) (sC σ0 i (Ts r)) (σ0 (11 * i + 8)) p) (nI p) σ = some (pdv (yC σ0 i (Ts r)) (sC σ0 i (Ts r)) (σ0 (11 * i + 8)) n, σ') ∧ NiJ σ0 σ' i (Ts r) n := by
  have hi := h.1
  have hn := h.2.2.1
  intro d
  induction d with
  | zero =>
    intro p k σ hpd hk hJ
    obtain ⟨k, rfl⟩ : ∃ q, k = q + 1 := ⟨k - 1, by omega⟩
    have e : p = n := by omega
    subst e
    refine ⟨σ, ?_, hJ⟩
    rw [f_X3_pourAll_26, if_pos hi, (hJ.house h).2.1, if_pos (by rw [nI_leI (by omega) (by omega)]; omega)]
  | succ d ih =>
    intro p k σ hpd hk hJ
    obtain ⟨k, rfl⟩ : ∃ q, k = q + 1 := ⟨k - 1, by omega⟩
    have hH := hJ.house h
    have w8 : σ (11 * i + 8) = σ0 (11 * i + 8) := hJ.1 _ (by omega) (by omega) (by omega)
    have es : sC σ i (Ts r) = sC σ0 i (Ts r) := sC_eq _ (fun a ha => hJ.1 a (by omega) (by omega) (by omega))
    have ey : yC σ i (Ts r) = yC σ0 i (Ts r) := yC_eq _ (fun a ha => hJ.1 a (by omega) (by omega) (by omega))
    have hC : Cups (σ (11 * i + 8)) (σ (11 * i + 10)) := by
      intro c hc
      rw [w8, hJ.2.1 c hc]
      exact hdv_rng hw (fun q => sY_rng _ _ _ _ _ _ _) p c hc
    obtain ⟨σ1, h1, h2⟩ := fe_pourOf hH (hJ.law hi hL) hr (show p < n by omega) hC
    rw [f_X3_pourAll_26, if_pos hi, hH.2.1, if_neg (by rw [nI_leI (by omega) (by omega)]; omega), if_neg (by rw [show (5 : Int32) = nI 5 from rfl, nI_leI (by omega) (by omega)]; omega), h1, Option.bind_some]
    simp only []
    rw [nI_1, ey, es, w8]
    rw [ey, es, w8] at h2
    have elf : lf (yC σ0 i (Ts r) p) (sC σ0 i (Ts r) p) (σ0 (11 * i + 8)) (σ (11 * i + 10)) 6 = lf (yC σ0 i (Ts r) p) (sC σ0 i (Ts r) p) (σ0 (11 * i + 8)) (hdv (yC σ0 i (Ts r)) (sC σ0 i (Ts r)) (σ0 (11 * i + 8)) p) 6 := lf_congr 6 (fun c hc => ⟨rfl, rfl, hJ.2.1 c hc⟩)
    have egg : ∀ c, c < 6 → gg (yC σ0 i (Ts r) p) (sC σ0 i (Ts r) p) (σ0 (11 * i + 8)) (σ (11 * i + 10)) c = gg (yC σ0 i (Ts r) p) (sC σ0 i (Ts r) p) (σ0 (11 * i + 8)) (hdv (yC σ0 i (Ts r)) (sC σ0 i (Ts r)) (σ0 (11 * i + 8)) p) c := fun c hc => gg_congr (fun d hd => ⟨rfl, rfl, hJ.2.1 d (by omega)⟩)
    rw [elf]
    refine ih (p + 1) k σ1 (by omega) (by omega) ⟨?_, ?_, ?_⟩
    · intro a a1 a2 a3
      rw [h2.1 a a1 a2 (by omega)]
      exact hJ.1 a a1 a2 a3
    · intro c hc
      rw [h2.2.1 c, if_pos hc, hJ.2.1 c hc, egg c hc]
      rfl
    · intro q hq c hc
      by_cases e : q = p
      · subst e
        rw [h2.2.2 c hc, egg c hc]
      · rw [h2.1 (64 + q) (by omega) (by omega) (by omega)]
        exact hJ.2.2 q (by omega) c hc
/-- the cups are empty first -/
theorem fe_clear {σ0 : Sg} {i : Nat} (hi : i < 3) : ∀ (d c k : Nat) (σ : Sg), c + d = 6 → d < k → (∀ a, a ≠ 11 * i + 10 → σ a = σ0 a) → (∀ c', c' < c → σ (11 * i + 10) c' = 0) →
    ∃ σ', f_X3_pourAll_2 i k (nI c) σ = f_X3_pourAll_26 i 5000 (0 : Int32) (0 : Int32) σ' ∧ (∀ a, a ≠ 11 * i + 10 → σ' a = σ0 a) ∧ ∀ c', c' < 6 → σ' (11 * i + 10) c' = 0 := by
  intro d
  induction d with
  | zero =>
    intro c k σ hcd hk h1 h2
    obtain ⟨k, rfl⟩ : ∃ q, k = q + 1 := ⟨k - 1, by omega⟩
    have e : c = 6 := by omega
    subst e
    refine ⟨σ, ?_, h1, h2⟩
    rw [f_X3_pourAll_2, if_pos hi, if_pos (by decide)]
  | succ d ih =>
    intro c k σ hcd hk h1 h2
    obtain ⟨k, rfl⟩ : ∃ q, k = q + 1 := ⟨k - 1, by omega⟩
    rw [f_X3_pourAll_2, if_pos hi, if_neg (by rw [show (6 : Int32) = nI 6 from rfl, nI_leI (by omega) (by omega)]; omega), if_pos (okI_nI (by omega) (by omega)), nI_1, nI_tn (by omega)]
    refine ih (c + 1) k _ (by omega) (by omega) (fun a ha => by rw [up_n ha]; exact h1 a ha) (fun c' hc' => ?_)
    rw [up_s]
    by_cases e : c' = c
    · subst e; exact upd_s
    · rw [upd_n e]; exact h2 c' (by omega)
theorem fe_pourAll {σ0 : Sg} {i n r m : Nat} {Ts : Nat → Nat → List Int32} (h : HsC σ0 i n r) (hL : LawC σ0 m Ts) (hr : r < m) (hw : Wants (σ0 (11 * i + 8))) :
    ∃ σ', f_X3_pourAll i σ0 = some (pdv (yC σ0 i (Ts r)) (sC σ0 i (Ts r)) (σ0 (11 * i + 8)) n, σ') ∧ NiJ σ0 σ' i (Ts r) n := by
  have hi := h.1
  obtain ⟨σ1, e1, e2, e3⟩ := fe_clear (σ0 := σ0) hi 6 0 5000 σ0 (by omega) (by omega) (fun _ _ => rfl) (fun c' hc' => absurd hc' (by omega))
  unfold f_X3_pourAll
  rw [if_pos hi]
  have e1 : f_X3_pourAll_2 i 5000 (0 : Int32) σ0 = _ := e1
  rw [e1]
  have hH : HsC σ1 i n r := h.keep (e2 _ (by omega)) (e2 _ (by omega))
  have hL1 : LawC σ1 m Ts := hL.keep (fun a h1 h2 h3 => e2 a (by omega))
  have w8 : σ1 (11 * i + 8) = σ0 (11 * i + 8) := e2 _ (by omega)
  have es : sC σ1 i (Ts r) = sC σ0 i (Ts r) := sC_eq _ (fun a ha => e2 a (by omega))
  have ey : yC σ1 i (Ts r) = yC σ0 i (Ts r) := yC_eq _ (fun a ha => e2 a (by omega))
  obtain ⟨σ2, g1, g2⟩ := fe_pourAll_loop hH hL1 hr (by rw [w8]; exact hw) n 0 5000 σ1 (by omega) (by have := h.2.2.1; omega) ⟨fun _ _ _ _ => rfl, fun c hc => e3 c hc, fun q hq => absurd hq (by omega)⟩
  rw [ey, es, w8] at g1
  refine ⟨σ2, g1, ?_⟩
  unfold NiJ at g2 ⊢
  rw [ey, es, w8] at g2
  exact ⟨fun a a1 a2 a3 => by rw [g2.1 a a1 a2 a3]; exact e2 a a2, g2.2.1, g2.2.2⟩
theorem fe_easeOne {σ : Sg} {i n r m p : Nat} {Ts : Nat → Nat → List Int32} (h : HsC σ i n r) (hL : LawC σ m Ts) (hr : r < m) (hp : p < n) :
    ∃ F, f_X2_easeOne i (nI p) σ = some (up (upA σ 42 F) (11 * i + 6) p (clI (σ (11 * i + 6) p - eC σ i (Ts r) p) 0 99)) := by
  have hi := h.1
  have hn := h.2.2.1
  have ho : okI (nI p) 5 := okI_nI (by omega) (by omega)
  obtain ⟨F, hF⟩ := fe_ease h hL hr hp
  refine ⟨F, ?_⟩
  unfold f_X2_easeOne
  rw [if_pos hi, fe_lodges h hp, Option.bind_some]
  simp only []
  rw [if_neg (by decide), if_pos ho, hF, Option.bind_some]
  simp only []
  rw [fe_bounded, Option.bind_some]
  simp only []
  rw [if_pos ho, nI_tn (by omega)]
  rfl
/-- the morning: those below p are eased -/
def MoJ (σ0 σ : Sg) (i : Nat) (T : Nat → List Int32) (p : Nat) : Prop := (∀ a, a ≠ 42 → a ≠ 11 * i + 6 → σ a = σ0 a) ∧ ∀ q, σ (11 * i + 6) q = if q < p then clI (σ0 (11 * i + 6) q - eC σ0 i T q) 0 99 else σ0 (11 * i + 6) q
theorem fe_morning {σ0 : Sg} {i n r m : Nat} {Ts : Nat → Nat → List Int32} (h : HsC σ0 i n r) (hL : LawC σ0 m Ts) (hr : r < m) (v : Int32) :
    ∀ (d p k : Nat) (σ : Sg), p + d = n → d < k → MoJ σ0 σ i (Ts r) p → ∃ σ', f_X3_pass_10 i k v (nI p) σ = some (v, up σ' (11 * i) 0 (σ0 (11 * i) 0 + 1)) ∧ MoJ σ0 σ' i (Ts r) n := by
  have hi := h.1
  have hn := h.2.2.1
  intro d
  induction d with
  | zero =>
    intro p k σ hpd hk hJ
    obtain ⟨k, rfl⟩ : ∃ q, k = q + 1 := ⟨k - 1, by omega⟩
    have e : p = n := by omega
    subst e
    refine ⟨σ, ?_, hJ⟩
    have e3 : σ (11 * i + 3) = σ0 (11 * i + 3) := hJ.1 _ (by omega) (by omega)
    have e0 : σ (11 * i) = σ0 (11 * i) := hJ.1 _ (by omega) (by omega)
    rw [f_X3_pass_10, if_pos hi, e3, h.2.1, if_pos (by rw [nI_leI (by omega) (by omega)]; omega), e0]
  | succ d ih =>
    intro p k σ hpd hk hJ
    obtain ⟨k, rfl⟩ : ∃ q, k = q + 1 := ⟨k - 1, by omega⟩
    have e3 : σ (11 * i + 3) = σ0 (11 * i + 3) := hJ.1 _ (by omega) (by omega)
    have hH : HsC σ i n r := h.keep e3 (hJ.1 _ (by omega) (by omega))
    obtain ⟨F, hF⟩ := fe_easeOne hH (hL.keep (fun a h1 h2 h3 => hJ.1 a h3 (by omega))) hr (show p < n by omega)
    rw [f_X3_pass_10, if_pos hi, hH.2.1, if_neg (by rw [nI_leI (by omega) (by omega)]; omega), hF, Option.bind_some]
    rw [nI_1]
    have ee : eC σ i (Ts r) p = eC σ0 i (Ts r) p := by
      unfold eC
      rw [hJ.1 (11 * i + 4) (by omega) (by omega), hJ.1 (11 * i + 5) (by omega) (by omega), hJ.1 (11 * i + 7) (by omega) (by omega), hJ.1 (11 * i) (by omega) (by omega), hJ.1 (11 * i + 1) (by omega) (by omega), hJ.2 p, if_neg (by omega)]
    refine ih (p + 1) k _ (by omega) (by omega) ⟨fun a a1 a2 => by rw [up_n a2, upA_n a1]; exact hJ.1 a a1 a2, fun q => ?_⟩
    rw [up_s, upA_n (by omega), ee]
    by_cases e : q = p
    · subst e
      rw [upd_s, if_pos (by omega), hJ.2 q, if_neg (by omega)]
    · rw [upd_n e, hJ.2 q]
      by_cases q2 : q < p
      · rw [if_pos q2, if_pos (by omega)]
      · rw [if_neg q2, if_neg (by omega)]
/-- a night whole: what is otherwise behind it -/
def PsJ (σ0 σ : Sg) (i : Nat) (T : Nat → List Int32) (n : Nat) : Prop :=
  (∀ a, a ≠ 42 → a ≠ 11 * i → a ≠ 11 * i + 6 → a ≠ 11 * i + 10 → (a < 64 ∨ 69 ≤ a) → σ a = σ0 a) ∧ σ (11 * i) 0 = σ0 (11 * i) 0 + 1 ∧ (∀ q, σ (11 * i + 6) q = if q < n then clI (σ0 (11 * i + 6) q - eC σ0 i T q) 0 99 else σ0 (11 * i + 6) q) ∧ (∀ c, c < 6 → σ (11 * i + 10) c = hdv (yC σ0 i T) (sC σ0 i T) (σ0 (11 * i + 8)) n c) ∧ ∀ q, q < n → ∀ c, c < 6 → σ (64 + q) c = gg (yC σ0 i T q) (sC σ0 i T q) (σ0 (11 * i + 8)) (hdv (yC σ0 i T) (sC σ0 i T) (σ0 (11 * i + 8)) q) c
theorem fe_pass {σ0 : Sg} {i n r m : Nat} {Ts : Nat → Nat → List Int32} (h : HsC σ0 i n r) (hL : LawC σ0 m Ts) (hr : r < m) (hw : Wants (σ0 (11 * i + 8))) :
    ∃ σ', f_X3_pass i σ0 = some (pdv (yC σ0 i (Ts r)) (sC σ0 i (Ts r)) (σ0 (11 * i + 8)) n, σ') ∧ PsJ σ0 σ' i (Ts r) n := by
  have hi := h.1
  have hn := h.2.2.1
  obtain ⟨σ1, g1, g2⟩ := fe_pourAll h hL hr hw
  obtain ⟨σ2, q1, q2⟩ := fe_morning (g2.house h) (g2.law hi hL) hr (pdv (yC σ0 i (Ts r)) (sC σ0 i (Ts r)) (σ0 (11 * i + 8)) n) n 0 5000 σ1 (by omega) (by omega) ⟨fun _ _ _ => rfl, fun q => by rw [if_neg (by omega)]⟩
  refine ⟨_, by unfold f_X3_pass; rw [if_pos hi, g1, Option.bind_some]; exact q1, ?_, ?_, ?_, ?_, ?_⟩
  · intro a a1 a2 a3 a4 a5
    rw [up_n a2, q2.1 a a1 a3]
    exact g2.1 a a1 a4 a5
  · rw [up_s, upd_s, g2.1 (11 * i) (by omega) (by omega) (by omega)]
  · intro q
    rw [up_n (by omega), q2.2 q]
    have ee : eC σ1 i (Ts r) q = eC σ0 i (Ts r) q := by
      unfold eC
      rw [g2.1 (11 * i + 4) (by omega) (by omega) (by omega), g2.1 (11 * i + 5) (by omega) (by omega) (by omega), g2.1 (11 * i + 6) (by omega) (by omega) (by omega), g2.1 (11 * i + 7) (by omega) (by omega) (by omega), g2.1 (11 * i) (by omega) (by omega) (by omega), g2.1 (11 * i + 1) (by omega) (by omega) (by omega)]
    rw [ee, g2.1 (11 * i + 6) (by omega) (by omega) (by omega)]
  · intro c hc
    rw [up_n (by omega), q2.1 _ (by omega) (by omega)]
    exact g2.2.1 c hc
  · intro q hq c hc
    rw [up_n (by omega), q2.1 _ (by omega) (by omega)]
    exact g2.2.2 q hq c hc
