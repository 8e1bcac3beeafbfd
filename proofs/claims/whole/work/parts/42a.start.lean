/-! Where both begin -/
def adr (h : Nat) (u : Nat → Nat) : Nat → Nat := fun k => if k = 0 then h else u k
def s0 : Sg := fun a =>
  if a = 8 ∨ a = 19 ∨ a = 30 then eHouse_5 else if a = 9 ∨ a = 20 ∨ a = 31 then eHouse_6 else if a = 40 then (fun _ => nI 6) else if a = 41 then (fun _ => 1) else if a = 43 then (fun _ => nI 5)
  else if a = 44 then eTx (fun _ => 0) else if a = 45 then eEn (fun _ => 0) else if a = 73 ∨ a = 76 ∨ a = 79 ∨ a = 82 then (fun _ => -1) else (fun _ => 0)
def m0 : Sm := (fun a => if a = 1 then eModel_1 else if a = 2 then upd (fun _ => 0) 0 40 else if a = 3 then (fun _ => 1) else if a = 11 then eModel_6 else if a = 36 then (fun _ => -1) else (fun _ => 0), fun _ _ => 0)
/-- rows of references, by the addresses of the whole -/
def WMain2 (tt : Nat → ClassId) (h : Nat) (u : Nat → Nat) : va_W := (((WMain tt h u).set 28 (u 28, .inl (tt 4, 6, .inr (.inr (.inr (.inr (fun j => some (adr h u (30 + 3 * j))))))))).set 52 (u 52, .inl (tt 5, 5, .inr (.inr (.inr (.inr (fun j => some (adr h u (53 + j))))))))).set 62 (u 62, .inl (tt 3, 4, .inr (.inr (.inr (.inr (fun j => some (adr h u (63 + 2 * j))))))))
theorem WMain2_P {D : va_G} {tt : Nat → ClassId} {h : Nat} {u : Nat → Nat} {H : Heap} (hP : va_P D vwCl (WMain tt h u) H) : va_P D vwCl (WMain2 tt h u) H := by
  have h1 := e_qs hP 28 (fun j => some (adr h u (30 + 3 * j))) rfl (fun j hj => by unfold adr; rw [if_neg (by omega)])
  have h2 := e_qs h1 52 (fun j => some (adr h u (53 + j))) rfl (fun j hj => by unfold adr; rw [if_neg (by omega)])
  exact e_qs h2 62 (fun j => some (adr h u (63 + 2 * j))) rfl (fun j hj => by unfold adr; rw [if_neg (by omega)])
theorem WMain2_D {A : Nat → Prop} {tt : Nat → ClassId} {h : Nat} {u : Nat → Nat} (hD : va_D A (WMain tt h u)) : va_D A (WMain2 tt h u) := ((hD.set (p := 28) rfl).set (p := 52) rfl).set (p := 62) rfl
set_option maxRecDepth 100000 in
theorem XC_0 (D : va_G) (tt : Nat → ClassId) (h : Nat) (u : Nat → Nat) (ad : (Nat → Nat) × (Nat → Nat)) : XC (D, tt, adr h u, ad) s0 = WMain2 tt h u := rfl
set_option maxRecDepth 100000 in
theorem XM_0 (D : va_G) (tt : Nat → ClassId) (h : Nat) (u : Nat → Nat) (ad : (Nat → Nat) × (Nat → Nat)) : XM (D, tt, adr h u, ad) m0 = WModel tt h u := rfl
def t0 : Nat → Nat → List Int32 := fun _ => tT [1, -262, -43] [1] [0]
def isOkQ (r : Except Nat (List Int32 × List Int32 × List Int32)) (q : List Int32 × List Int32 × List Int32) : Bool := match r with
  | .ok x => decide (x = q)
  | .error _ => false
theorem okQ {r : Except Nat (List Int32 × List Int32 × List Int32)} {q : List Int32 × List Int32 × List Int32} (h : isOkQ r q = true) : r = .ok q := by
  cases r with
  | ok x => exact congrArg _ (of_decide_eq_true h)
  | error e => cases h
theorem text_0 : pText (fun j => m0.1 1 (160 * 0 + j)) 40 = .ok ([1, -262, -43], [1], [0]) := okQ (by decide +kernel)
theorem byt_0 : ∀ j, j < 40 → m0.1 1 (160 * 0 + j) = nI (m0.1 1 (160 * 0 + j)).toNatClampNeg ∧ (m0.1 1 (160 * 0 + j)).toNatClampNeg < 256 := by decide +kernel
theorem cups_0 : ∀ c, c < 6 → (s0 (11 * 0 + 8) c = m0.1 11 (3 * c) ∧ s0 (11 * 0 + 9) c = m0.1 11 (3 * c + 1) ∧ s0 (11 * 0 + 10) c = m0.1 11 (3 * c + 2)) ∧ (m0.1 11 (3 * c) = nI 10 ∧ m0.1 11 (3 * c + 1) = nI c ∧ m0.1 11 (3 * c + 2) = nI 0) := by decide +kernel
theorem steps_0 : (∀ j, j < 3 → s0 44 (0 + j) = [1, -262, -43].getD j (0 : Int32)) ∧ (∀ j, j < 1 → s0 44 (3 + j) = [1].getD j (0 : Int32)) ∧ ∀ j, j < 1 → s0 44 (4 + j) = [0].getD j (0 : Int32) := by decide +kernel
theorem ends_0 : s0 45 0 = nI 3 ∧ s0 45 1 = nI 4 ∧ s0 45 2 = nI 5 := by decide +kernel
theorem txc_0 : TxC s0 0 (t0 0) := by
  refine ⟨by decide, fun pt hpt => ?_⟩
  have hs := steps_0
  have he := ends_0
  match pt, hpt with
  | 0, _ => exact ⟨he.1, hs.1, by simp [t0, tT, dOK]⟩
  | 1, _ => exact ⟨he.2.1, hs.2.1, by simp [t0, tT, dOK]⟩
  | 2, _ => exact ⟨he.2.2, hs.2.2, by simp [t0, tT, dOK]⟩
theorem inv_0 : Inv s0 m0 := by
  refine ⟨1, 0, 0, t0, ⟨⟨by omega, rfl, by omega, rfl⟩, rfl, rfl, fun p hp => absurd hp (by omega), fun c hc => (cups_0 c hc).1⟩, ⟨rfl, by omega, by omega, fun k hk => ?_⟩, ⟨⟨by omega, by omega, by omega, rfl, rfl, ⟨0, by omega, rfl⟩, ⟨0, by omega, rfl⟩, fun p hp => absurd hp (by omega), fun c hc => ?_⟩, ⟨by omega, fun t ht => ?_⟩, fun pl hpl => Or.inl rfl⟩, ⟨0, by omega, rfl⟩, rfl, ⟨0, by omega, rfl, rfl, fun j hj => absurd hj (by omega)⟩, Or.inl ⟨rfl, rfl⟩, fun s hs => ?_⟩
  · have e : k = 0 := by omega
    subst e
    exact txc_0
  · obtain ⟨-, a, b, d⟩ := cups_0 c hc
    exact ⟨⟨10, by omega, a⟩, ⟨c, by omega, b⟩, ⟨0, by omega, d⟩⟩
  · have e : t = 0 := by omega
    subst e
    exact ⟨40, _, rfl, by omega, fun j hj => ⟨_, (byt_0 j hj).2, (byt_0 j hj).1⟩, text_0, rfl⟩
  · refine Or.inl ?_
    match s, hs with
    | 0, _ => exact ⟨rfl, rfl⟩
    | 1, _ => exact ⟨rfl, rfl⟩
    | 2, _ => exact ⟨rfl, rfl⟩
    | 3, _ => exact ⟨rfl, rfl⟩
