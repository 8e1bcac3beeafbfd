/-! The parser in words: code and where it stands then, or the FAULT's place -/
abbrev PR : Type := Except Nat (List Int32 × Nat)
abbrev P3 : Type := (Nat → PR) × (Nat → PR) × (Nat → PR)
def lp (ok : Int32 → Bool) (b : Nat → Int32) (n : Nat) (sub : Nat → PR) : Nat → List Int32 → Nat → PR
  | 0, c, p => .ok (c, p)
  | f + 1, c, p => if ok (tK b n p) = true then (match sub (tE b n p) with | .error e => .error e | .ok q => lp ok b n sub f (c ++ q.1 ++ [-(tK b n p)]) q.2) else .ok (c, p)
def pOne (b : Nat → Int32) (n : Nat) (pr : Option P3) (p : Nat) : PR :=
  if tK b n p = 268 then .ok ([tL b n p], tE b n p) else if isNm (tK b n p) then .ok ([-(tK b n p)], tE b n p) else match pr with
    | none => .error (tS b n p)
    | some x => if tK b n p = 45 then (match x.1 (tE b n p) with | .error e => .error e | .ok q => .ok (q.1 ++ [-271], q.2)) else if tK b n p = 40 then (match x.2.2 (tE b n p) with | .error e => .error e | .ok q => if tK b n q.2 = 41 then .ok (q.1, tE b n q.2) else .error (tS b n q.2)) else .error (tS b n p)
def okMul (t : Int32) : Bool := decide (t = 42)
def okAdd (t : Int32) : Bool := decide (t = 43) || decide (t = 45)
def okCmp (t : Int32) : Bool := decide (t = 60) || decide (t = 61)
def okAnd (t : Int32) : Bool := decide (t = 260)
def okOr (t : Int32) : Bool := decide (t = 259)
def pLoop (ok : Int32 → Bool) (b : Nat → Int32) (n : Nat) (sub : Nat → PR) (p : Nat) : PR := match sub p with | .error e => .error e | .ok q => lp ok b n sub 200 q.1 q.2
def pTerm (b : Nat → Int32) (n : Nat) (pr : Option P3) : Nat → PR := pLoop okMul b n (pOne b n pr)
def pSum (b : Nat → Int32) (n : Nat) (pr : Option P3) : Nat → PR := pLoop okAdd b n (pTerm b n pr)
def pCmp (b : Nat → Int32) (n : Nat) (pr : Option P3) (p : Nat) : PR := match pSum b n pr p with
  | .error e => .error e
  | .ok q => if okCmp (tK b n q.2) = true then (match pSum b n pr (tE b n q.2) with | .error e => .error e | .ok r => .ok (q.1 ++ r.1 ++ [-(tK b n q.2)], r.2)) else .ok q
def pNot (b : Nat → Int32) (n : Nat) (pr : Option P3) (p : Nat) : PR := if tK b n p = 261 then (match pr with | none => .error (tS b n p) | some x => (match x.2.1 (tE b n p) with | .error e => .error e | .ok q => .ok (q.1 ++ [-261], q.2))) else pCmp b n pr p
def pAnd (b : Nat → Int32) (n : Nat) (pr : Option P3) : Nat → PR := pLoop okAnd b n (pNot b n pr)
def pAny (b : Nat → Int32) (n : Nat) (pr : Option P3) : Nat → PR := pLoop okOr b n (pAnd b n pr)
/-- what may still be opened: k -/
def prv (b : Nat → Int32) (n : Nat) : Nat → Option P3
  | 0 => none
  | k + 1 => some (pOne b n (prv b n k), pNot b n (prv b n k), pAny b n (prv b n k))
/-! the class's reader stands at p; its text t has the code c -/
def PosC (σ : Sg) (b : Nat → Int32) (n p : Nat) : Prop := σ 34 = b ∧ σ 35 0 = nI n ∧ n ≤ 160 ∧ p ≤ n ∧ Byt b n ∧ σ 36 0 = nI (tE b n p) ∧ σ 37 0 = nI (tS b n p) ∧ σ 38 0 = tK b n p ∧ (tK b n p = 268 → σ 39 0 = tL b n p)
def TxtC (σ : Sg) (t : Nat) (c : List Int32) : Prop := σ 40 0 = nI t ∧ t < 7 ∧ σ (43 + 3 * t) 0 = nI c.length ∧ ∀ j, j < c.length → σ (44 + 3 * t) j = c.getD j 0
def FrR (σ σ' : Sg) (t : Nat) : Prop := ∀ a, a ≠ 36 → a ≠ 37 → a ≠ 38 → a ≠ 39 → a ≠ 43 + 3 * t → a ≠ 44 + 3 * t → σ' a = σ a
theorem FrR.rf {σ : Sg} {t : Nat} : FrR σ σ t := fun _ _ _ _ _ _ _ => rfl
theorem FrR.tr {σ σ1 σ2 : Sg} {t : Nat} (h1 : FrR σ σ1 t) (h2 : FrR σ1 σ2 t) : FrR σ σ2 t := fun a a1 a2 a3 a4 a5 a6 => (h2 a a1 a2 a3 a4 a5 a6).trans (h1 a a1 a2 a3 a4 a5 a6)
def ClmC (res : Option (Int32 × Sg)) (R : PR) (σ : Sg) (b : Nat → Int32) (n p t : Nat) (c : List Int32) (w : Nat) : Prop := match R with
  | .error f => ∃ σ', res = some (0, σ') ∧ (σ' 37 0 = nI f ∧ f ≤ n) ∧ FrR σ σ' t
  | .ok q => ∃ σ', res = some (1, σ') ∧ PosC σ' b n q.2 ∧ TxtC σ' t (c ++ q.1) ∧ (c ++ q.1).length + w ≤ tS b n q.2 ∧ FrR σ σ' t ∧ tS b n p ≤ tS b n q.2
def OkC (m : Sg → Option (Int32 × Sg)) (S : (Nat → Int32) → Nat → Nat → PR) : Prop := ∀ (σ : Sg) (b : Nat → Int32) (n p t : Nat) (c : List Int32) (w : Nat), PosC σ b n p → TxtC σ t c → c.length + w ≤ tS b n p → ClmC (m σ) (S b n p) σ b n p t c w
theorem TxtC.keep {σ σ' : Sg} {t : Nat} {c : List Int32} (h : TxtC σ t c) (h1 : σ' 40 = σ 40) (h2 : σ' (43 + 3 * t) = σ (43 + 3 * t)) (h3 : σ' (44 + 3 * t) = σ (44 + 3 * t)) : TxtC σ' t c := by
  unfold TxtC at *
  rw [h1, h2, h3]
  exact h
/-- a step on from p, where a token stands -/
theorem stepC {σ : Sg} {b : Nat → Int32} {n p t : Nat} {c : List Int32} (h : PosC σ b n p) (hT : TxtC σ t c) : ∃ σ', f_X4_step σ = some σ' ∧ PosC σ' b n (tE b n p) ∧ TxtC σ' t c ∧ FrR σ σ' t := by
  obtain ⟨rfl, h35, hn, hp, hb, h36, h37, h38, h39⟩ := h
  obtain ⟨σ', h1, h2, h3, h4, h5, h6⟩ := fe_step h35 hn h36 (tE_le hp) hb
  have e34 : σ' 34 = σ 34 := h2 34 (by decide) (by decide) (by decide) (by decide)
  refine ⟨σ', h1, ⟨e34, by rw [h2 35 (by decide) (by decide) (by decide) (by decide)]; exact h35, hn, tE_le hp, hb, h3, h4, h5, h6⟩, hT.keep (h2 _ (by decide) (by decide) (by decide) (by decide)) (h2 _ (by omega) (by omega) (by omega) (by omega)) (h2 _ (by omega) (by omega) (by omega) (by omega)), fun a a1 a2 a3 a4 _ _ => h2 a a1 a2 a3 a4⟩
theorem addC {σ : Sg} {b : Nat → Int32} {n p t : Nat} {c : List Int32} (v : Int32) (h : PosC σ b n p) (hT : TxtC σ t c) (hc : c.length < 160) : ∃ σ', f_X6_add t v σ = some σ' ∧ PosC σ' b n p ∧ TxtC σ' t (c ++ [v]) ∧ FrR σ σ' t := by
  obtain ⟨h34, h35, hn, hp, hb, h36, h37, h38, h39⟩ := h
  obtain ⟨t1, t2, t3, t4⟩ := hT
  refine ⟨up (up σ (44 + 3 * t) c.length v) (43 + 3 * t) 0 (nI (c.length + 1)), ?_, ⟨?_, ?_, hn, hp, hb, ?_, ?_, ?_, ?_⟩, ⟨?_, t2, ?_, ?_⟩, ?_⟩
  · unfold f_X6_add
    rw [if_pos t2, t3, if_neg (by rw [show (160 : Int32) = nI 160 from rfl, nI_leI (by omega) (by omega)]; omega), if_pos (okI_nI hc (by omega)), nI_tn (by omega), up_n (show 43 + 3 * t ≠ 44 + 3 * t by omega), t3, nI_1, Option.bind_some]
  · rw [up_n (by omega), up_n (by omega)]; exact h34
  · rw [up_n (by omega), up_n (by omega)]; exact h35
  · rw [up_n (by omega), up_n (by omega)]; exact h36
  · rw [up_n (by omega), up_n (by omega)]; exact h37
  · rw [up_n (by omega), up_n (by omega)]; exact h38
  · rw [up_n (by omega), up_n (by omega)]; exact h39
  · rw [up_n (by omega), up_n (by omega)]; exact t1
  · rw [up_s, upd_s]; congr 1; simp
  · intro j hj
    rw [up_n (by omega), up_s]
    by_cases e : j = c.length
    · subst e; rw [upd_s]; simp
    · rw [upd_n e, t4 j (by simp at hj; omega)]
      simp at hj
      rw [List.getD_eq_getElem?_getD, List.getD_eq_getElem?_getD, List.getElem?_append_left (by omega)]
  · intro a a1 a2 a3 a4 a5 a6
    rw [up_n a5, up_n a6]
theorem tTn {σ : Sg} {t : Nat} {c : List Int32} (h : TxtC σ t c) : (σ 40 0).toNatClampNeg = t := by
  rw [h.1]; exact nI_tn (by have := h.2.1; omega)
/-- a token stands at p, and the next one is further on -/
theorem tS_tE {b : Nat → Int32} {n p : Nat} (hn : n ≤ 160) (h : ¬ tK b n p = 269) : tS b n p < n ∧ tS b n p + 1 ≤ tS b n (tE b n p) := by
  have h1 := tK_end h
  have h2 := tE_gt hn h1
  have h3 := tS_ge (b := b) (n := n) (p := tE b n p)
  exact ⟨h1, by omega⟩
theorem loopC {ok : Int32 → Bool} {L : Nat → Int32 → Sg → Option (Int32 × Sg)} {sub : Sg → Option (Int32 × Sg)} {S : (Nat → Int32) → Nat → Nat → PR} (hok : ok 269 = false)
    (hL : ∀ (f : Nat) (y : Int32) (τ : Sg), L (f + 1) y τ = if (160 : Int32) ≤ y then some ((1 : Int32), τ) else if ok (τ 38 0) = true then (f_X4_step τ).bind fun q6 => (sub q6).bind fun q8 => if q8.1 = 0 then some ((0 : Int32), q8.2) else if (q8.2 40 0).toNatClampNeg < 7 then (f_X6_add ((q8.2 40 0).toNatClampNeg) (-(τ 38 0)) q8.2).bind fun q12 => L f (y + (1 : Int32)) q12 else none else some ((1 : Int32), τ))
    (hs : OkC sub S) : ∀ (m g f y : Nat) (σ : Sg) (b : Nat → Int32) (n p t : Nat) (c a : List Int32) (w : Nat), n - tS b n p ≤ m → PosC σ b n p → TxtC σ t (c ++ a) → (c ++ a).length + w ≤ tS b n p → y ≤ tS b n p → 200 ≤ g + tS b n p → 5000 ≤ f + tS b n p → ClmC (L f (nI y) σ) (lp ok b n (S b n) g a p) σ b n p t c w := by
  intro m
  induction m with
  | zero =>
    intro g f y σ b n p t c a w hm hP hT hc hy hg hf
    have hn := hP.2.2.1
    have hpn := tS_le (b := b) hP.2.2.2.1
    have he : tK b n p = 269 := by unfold tK; rw [if_pos (by omega)]
    obtain ⟨g, rfl⟩ : ∃ q, g = q + 1 := ⟨g - 1, by omega⟩
    obtain ⟨f, rfl⟩ : ∃ q, f = q + 1 := ⟨f - 1, by omega⟩
    have e8 : σ 38 0 = tK b n p := hP.2.2.2.2.2.2.2.1
    have hr : lp ok b n (S b n) (g + 1) a p = .ok (a, p) := by unfold lp; rw [he, hok]; rfl
    rw [hr]
    refine ⟨σ, ?_, hP, hT, hc, FrR.rf, Nat.le_refl _⟩
    rw [hL, e8, he, hok]
    split <;> rfl
  | succ m ih =>
    intro g f y σ b n p t c a w hm hP hT hc hy hg hf
    have hn := hP.2.2.1
    have hpn := tS_le (b := b) hP.2.2.2.1
    obtain ⟨g, rfl⟩ : ∃ q, g = q + 1 := ⟨g - 1, by omega⟩
    obtain ⟨f, rfl⟩ : ∃ q, f = q + 1 := ⟨f - 1, by omega⟩
    have e8 : σ 38 0 = tK b n p := hP.2.2.2.2.2.2.2.1
    by_cases ho : ok (tK b n p) = true
    · have hne : ¬ tK b n p = 269 := fun h => by rw [h, hok] at ho; cases ho
      obtain ⟨s1, s2⟩ := tS_tE hn hne
      obtain ⟨σ1, a1, a2, a3, a4⟩ := stepC hP hT
      have hsub := hs σ1 b n (tE b n p) t (c ++ a) (w + 1) a2 a3 (by omega)
      have hl : lp ok b n (S b n) (g + 1) a p = match S b n (tE b n p) with | .error e => .error e | .ok q => lp ok b n (S b n) g (a ++ q.1 ++ [-(tK b n p)]) q.2 := by
        show (if ok (tK b n p) = true then _ else _) = _
        rw [if_pos ho]
      rw [hl]
      have hLL : L (f + 1) (nI y) σ = (sub σ1).bind fun q8 => if q8.1 = 0 then some ((0 : Int32), q8.2) else if (q8.2 40 0).toNatClampNeg < 7 then (f_X6_add ((q8.2 40 0).toNatClampNeg) (-(tK b n p)) q8.2).bind fun q12 => L f (nI (y + 1)) q12 else none := by
        rw [hL, if_neg (by rw [show (160 : Int32) = nI 160 from rfl, nI_leI (by omega) (by omega)]; omega), e8, if_pos ho, a1, Option.bind_some, nI_1]
      rw [hLL]
      cases hS : S b n (tE b n p) with
      | error e =>
        rw [hS] at hsub
        obtain ⟨σ2, b1, b2, b3⟩ := hsub
        refine ⟨σ2, ?_, b2, a4.tr b3⟩
        rw [b1, Option.bind_some]
        rfl
      | ok q =>
        rw [hS] at hsub
        obtain ⟨σ2, b1, b2, b3, b4, b5, b6⟩ := hsub
        have hq2 := tS_le (b := b) b2.2.2.2.1
        obtain ⟨σ3, d1, d2, d3, d4⟩ := addC (-(tK b n p)) b2 b3 (by omega)
        rw [b1, Option.bind_some]
        simp only []
        rw [if_neg (by decide), tTn b3, if_pos b3.2.1, d1, Option.bind_some]
        have happ : c ++ a ++ q.1 ++ [-(tK b n p)] = c ++ (a ++ q.1 ++ [-(tK b n p)]) := by simp
        have hmo : tS b n p + 1 ≤ tS b n q.2 := by omega
        have key := ih g f (y + 1) σ3 b n q.2 t c (a ++ q.1 ++ [-(tK b n p)]) w ?_ d2 (by rw [← happ]; exact d3) (by rw [← happ]; simp at b4 ⊢; omega) ?_ ?_ ?_
        · have hfr := a4.tr (b5.tr d4)
          unfold ClmC at key ⊢
          split
          · rename_i e he; rw [he] at key; obtain ⟨σ4, k1, k2, k3⟩ := key; exact ⟨σ4, k1, k2, hfr.tr k3⟩
          · rename_i r hr; rw [hr] at key; obtain ⟨σ4, k1, k2, k3, k4, k5, k6⟩ := key; exact ⟨σ4, k1, k2, k3, k4, hfr.tr k5, by omega⟩
        · omega
        · omega
        · omega
        · omega
    · have hr : lp ok b n (S b n) (g + 1) a p = .ok (a, p) := by show (if ok (tK b n p) = true then _ else _) = _; rw [if_neg ho]
      rw [hr]
      refine ⟨σ, ?_, hP, hT, hc, FrR.rf, Nat.le_refl _⟩
      rw [hL, e8, if_neg ho]
      split <;> rfl
