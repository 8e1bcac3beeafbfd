/-! What a text's code says, and that the class's stack machine says it -/
abbrev Env : Type := Int32 × Int32 × Int32 × Int32 × Int32 × Int32
def rNm (e : Env) (c : Int32) : Int32 := if c = 262 then e.1 else if c = 263 then e.2.1 else if c = 264 then e.2.2.1 else if c = 265 then e.2.2.2.1 else if c = 266 then e.2.2.2.2.1 else e.2.2.2.2.2
abbrev isNm (c : Int32) : Prop := (262 : Int32) ≤ c ∧ c ≤ 267
def rOne (c a : Int32) : Int32 := if c = -271 then -a else if a = 0 then 1 else 0
def rTwo (t a b : Int32) : Int32 := if t = 42 then a * b else if t = 43 then a + b else if t = 45 then a - b else if t = 60 then (if b ≤ a then 0 else 1) else if t = 61 then (if a = b then 1 else 0) else if t = 260 then (if a = 0 then 0 else if b = 0 then 0 else 1) else if a = 0 then (if b = 0 then 0 else 1) else 1
abbrev isUn (c : Int32) : Prop := c = -261 ∨ c = -271
def rStep (e : Env) (c : Int32) (st : List Int32) : List Int32 :=
  if 0 ≤ c then c :: st else if isNm (-c) then rNm e (-c) :: st else if isUn c then (match st with | a :: r => rOne c a :: r | [] => []) else (match st with | b :: a :: r => rTwo (-c) a b :: r | s => s)
def rRun (e : Env) (cs : List Int32) (st : List Int32) : List Int32 := cs.foldl (fun s c => rStep e c s) st
def topV : List Int32 → Int32 | [v] => v | _ => 0
/-- the stack's height stays in its bounds -/
def dOK : List Int32 → Nat → Prop
  | [], _ => True
  | c :: cs, h => if 0 ≤ c ∨ isNm (-c) then h < 32 ∧ dOK cs (h + 1) else if isUn c then 1 ≤ h ∧ dOK cs h else 2 ≤ h ∧ dOK cs (h - 1)
def StkIs (F : Nat → Int32) : List Int32 → Prop
  | [] => True
  | a :: r => F r.length = a ∧ StkIs F r
theorem StkIs.up {F : Nat → Int32} {k : Nat} {v : Int32} : ∀ {r : List Int32}, StkIs F r → r.length ≤ k → StkIs (upd F k v) r
  | [], _, _ => trivial
  | _ :: r, h, hk => ⟨by rw [upd_n (by simp at hk; omega)]; exact h.1, StkIs.up h.2 (by simp at hk; omega)⟩
def envC (σ : Sg) (i p : Nat) (t : Int32) : Env := (σ (11 * i + 6) p, σ (11 * i + 5) p, σ (11 * i) 0, σ (11 * i + 7) p, t, σ (11 * i + 1) 0)
theorem envC_42 {σ : Sg} {i p : Nat} {t : Int32} {F : Nat → Int32} (hi : i < 3) : envC (upA σ 42 F) i p t = envC σ i p t := by
  unfold envC
  rw [upA_n (by omega), upA_n (by omega), upA_n (by omega), upA_n (by omega), upA_n (by omega)]
theorem fe_ofOne (c a : Int32) (σ : Sg) : f_X6_ofOne c a σ = some (rOne c a, σ) := by
  unfold f_X6_ofOne rOne; repeat' split
  all_goals rfl
theorem fe_ofTwo (t a b : Int32) (σ : Sg) : f_X6_ofTwo t a b σ = some (rTwo t a b, σ) := by
  unfold f_X6_ofTwo rTwo; repeat' split
  all_goals rfl
theorem fe_named (c : Int32) (i p : Nat) (t : Int32) (σ : Sg) (hi : i < 3) (hp : p < 5) : f_X6_named c i (nI p) t σ = some (rNm (envC σ i p t) c, σ) := by
  unfold f_X6_named rNm envC
  rw [if_pos hi]
  have ho : okI (nI p) 5 := okI_nI hp (by omega)
  have hn : (nI p).toNatClampNeg = p := nI_tn (by omega)
  simp only [if_pos ho, hn]
  repeat' split
  all_goals rfl
theorem fe_isName (c : Int32) (σ : Sg) : f_X7_isName c σ = some (if isNm c then 1 else 0, σ) := by
  unfold f_X7_isName
  have e1 : (262 : Int32).toInt = 262 := rfl
  have e2 : (267 : Int32).toInt = 267 := rfl
  by_cases h1 : c < 262
  · rw [if_pos h1, if_neg (by intro h; have := h.1; rw [i32_le] at this; rw [i32_lt] at h1; omega)]
  · rw [if_neg h1]
    by_cases h2 : (267 : Int32) < c
    · rw [if_pos h2, if_neg (by intro h; have := h.2; rw [i32_le] at this; rw [i32_lt] at h2; omega)]
    · rw [if_neg h2, if_pos (by rw [i32_lt] at h1 h2; exact ⟨by rw [i32_le]; omega, by rw [i32_le]; omega⟩)]
/-- the loop of Text.value -/
theorem fe_value_loop {k i pt p : Nat} (hk : k < 7) (hi : i < 3) (hpt : pt < 3) (hp : p < 5) (t : Int32) : ∀ (cs : List Int32) (a : Nat) (st : List Int32) (σ : Sg) (n : Nat), cs.length < n → a + cs.length ≤ 160 → σ (45 + 3 * k) pt = nI (a + cs.length) → (∀ j, j < cs.length → σ (44 + 3 * k) (a + j) = cs.getD j 0) → StkIs (σ 42) st → dOK cs st.length → st.length ≤ 32 →
    ∃ F, f_X6_value_48 k (nI pt) i (nI p) t n (nI st.length) (nI a) σ = some (topV (rRun (envC σ i p t) cs st), upA σ 42 F) := by
  intro cs
  induction cs with
  | nil =>
    intro a st σ n hn ha he hs hst hd hl
    obtain ⟨n, rfl⟩ : ∃ m, n = m + 1 := ⟨n - 1, by simp at hn; omega⟩
    refine ⟨σ 42, ?_⟩
    rw [f_X6_value_48, if_pos hk, if_pos hi, if_pos (okI_nI hpt (by omega)), nI_tn (by omega), he, if_pos (by rw [nI_leI (by simp at ha ⊢; omega) (by omega)]; simp), upA_self]
    match st, hst, hl with
    | [], _, _ => rw [if_neg (by decide)]; rfl
    | [v], h, _ => rw [if_pos (show nI [v].length = 1 from rfl)]; have h1 : σ 42 0 = v := h.1; show some (σ 42 0, σ) = some (v, σ); rw [h1]
    | v :: w :: r, _, hl =>
      rw [if_neg (by rw [show (1 : Int32) = nI 1 from rfl, nI_eq (by omega) (by omega)]; simp)]
      rfl
  | cons c cs ih =>
    intro a st σ n hn ha he hs hst hd hl
    obtain ⟨n, rfl⟩ : ∃ m, n = m + 1 := ⟨n - 1, by simp at hn; omega⟩
    simp only [List.length_cons] at hn ha he
    have hc : σ (44 + 3 * k) a = c := by have := hs 0 (by simp); simpa using this
    have hs' : ∀ j, j < cs.length → σ (44 + 3 * k) (a + 1 + j) = cs.getD j 0 := fun j hj => by
      have := hs (j + 1) (by simp; omega)
      rw [show a + 1 + j = a + (j + 1) by omega, this]; simp
    have e1 : nI a + (1 : Int32) = nI (a + 1) := nI_1 a
    rw [f_X6_value_48, if_pos hk, if_pos hi, if_pos (okI_nI hpt (by omega)), nI_tn (by omega), he, if_neg (by rw [nI_leI (by omega) (by omega)]; omega), if_pos (okI_nI (by omega) (by omega)), nI_tn (by omega), hc]
    unfold dOK at hd
    have hrun : rRun (envC σ i p t) (c :: cs) st = rRun (envC σ i p t) cs (rStep (envC σ i p t) c st) := rfl
    rw [hrun]
    by_cases h0 : 0 ≤ c
    · rw [if_pos h0]
      rw [if_pos (Or.inl h0)] at hd
      unfold f_X6_value_82
      rw [if_pos hk, if_pos hi, if_neg (by rw [show (32 : Int32) = nI 32 from rfl, nI_leI (by omega) (by omega)]; omega), if_neg (by rw [i32_lt]; rw [i32_le] at h0; omega), if_pos (okI_nI hd.1 (by omega)), nI_tn (by omega), e1, nI_1]
      have hst2 : rStep (envC σ i p t) c st = c :: st := by unfold rStep; rw [if_pos h0]
      obtain ⟨F, hF⟩ := ih (a + 1) (c :: st) (up σ 42 st.length c) n (by omega) (by omega) (by rw [up_n (by omega), he]; congr 1; omega) (fun j hj => by rw [up_n (by omega)]; exact hs' j hj) ⟨by rw [up_s, upd_s], by rw [up_s]; exact hst.up (Nat.le_refl _)⟩ hd.2 (by simp; omega)
      refine ⟨F, ?_⟩
      rw [List.length_cons] at hF
      rw [hF, hst2]
      unfold up
      rw [envC_42 hi, upA_upA]
    · rw [if_neg h0]
      rw [fe_isName, Option.bind_some]
      by_cases hnm : isNm (-c)
      · rw [if_pos (Or.inr hnm)] at hd
        simp only [if_pos hnm]
        rw [if_neg (by decide)]
        unfold f_X6_value_82
        rw [if_pos hk, if_pos hi, if_neg (by rw [show (32 : Int32) = nI 32 from rfl, nI_leI (by omega) (by omega)]; omega), if_pos (by rw [i32_lt]; rw [i32_le] at h0; omega), fe_named _ _ _ _ _ hi hp, Option.bind_some]
        simp only []
        rw [if_pos (okI_nI hd.1 (by omega)), nI_tn (by omega), e1, nI_1]
        have hst2 : rStep (envC σ i p t) c st = rNm (envC σ i p t) (-c) :: st := by unfold rStep; rw [if_neg h0, if_pos hnm]
        obtain ⟨F, hF⟩ := ih (a + 1) (rNm (envC σ i p t) (-c) :: st) (up σ 42 st.length (rNm (envC σ i p t) (-c))) n (by omega) (by omega) (by rw [up_n (by omega), he]; congr 1; omega) (fun j hj => by rw [up_n (by omega)]; exact hs' j hj) ⟨by rw [up_s, upd_s], by rw [up_s]; exact hst.up (Nat.le_refl _)⟩ hd.2 (by simp; omega)
        refine ⟨F, ?_⟩
        rw [List.length_cons] at hF
        rw [hF, hst2]
        unfold up
        rw [envC_42 hi, upA_upA]
      · rw [if_neg (by rintro (h | h); exact h0 h; exact hnm h)] at hd
        simp only [if_neg hnm]
        rw [if_pos trivial]
        by_cases hun : isUn c
        · rw [if_pos hun] at hd
          have hgoal : (if c = (-261 : Int32) then f_X6_value_136 (f_X6_value_48 k (nI pt) i (nI p) t n) k (nI pt) i (nI p) t (nI st.length) (nI a) c σ else if c = (-271 : Int32) then f_X6_value_136 (f_X6_value_48 k (nI pt) i (nI p) t n) k (nI pt) i (nI p) t (nI st.length) (nI a) c σ else none) = f_X6_value_136 (f_X6_value_48 k (nI pt) i (nI p) t n) k (nI pt) i (nI p) t (nI st.length) (nI a) c σ := by
            rcases hun with h | h
            · rw [if_pos h]
            · rw [if_pos h]; split <;> rfl
          match st, hst, hl, hd with
          | [], _, _, hd => exact absurd hd.1 (by simp)
          | v :: r, hst, hl, hd =>
            have hlen : nI (v :: r).length - (1 : Int32) = nI r.length := by rw [List.length_cons]; exact nI_pred _
            have key : ∃ F, f_X6_value_136 (f_X6_value_48 k (nI pt) i (nI p) t n) k (nI pt) i (nI p) t (nI (v :: r).length) (nI a) c σ = some (topV (rRun (envC σ i p t) cs (rStep (envC σ i p t) c (v :: r))), upA σ 42 F) := by
              unfold f_X6_value_136
              simp only [List.length_cons] at hl
              rw [if_pos hk, if_pos hi, if_neg (by rw [show (1 : Int32) = nI 1 from rfl, nI_ltI (by simp; omega) (by omega)]; simp), hlen, if_pos (okI_nI (by omega) (by omega)), fe_ofOne, Option.bind_some]
              simp only []
              rw [if_pos (okI_nI (by omega) (by omega)), nI_tn (by omega), e1, hst.1]
              have hst2 : rStep (envC σ i p t) c (v :: r) = rOne c v :: r := by unfold rStep; rw [if_neg h0, if_neg hnm, if_pos hun]
              obtain ⟨F, hF⟩ := ih (a + 1) (rOne c v :: r) (up σ 42 r.length (rOne c v)) n (by omega) (by omega) (by rw [up_n (by omega), he]; congr 1; omega) (fun j hj => by rw [up_n (by omega)]; exact hs' j hj) ⟨by rw [up_s, upd_s], by rw [up_s]; exact hst.2.up (Nat.le_refl _)⟩ hd.2 (by simp; omega)
              refine ⟨F, ?_⟩
              rw [List.length_cons] at hF
              rw [List.length_cons, hF, hst2]
              unfold up
              rw [envC_42 hi, upA_upA]
            obtain ⟨F, hF⟩ := key
            refine ⟨F, ?_⟩
            rw [← hF]
            rcases hun with h | h
            · rw [if_pos h]
            · rw [if_neg (by rw [h]; decide), if_pos h]
        · rw [if_neg hun] at hd
          rw [if_neg (fun h => hun (Or.inl h)), if_neg (fun h => hun (Or.inr h))]
          match st, hst, hl, hd with
          | [], _, _, hd => exact absurd hd.1 (by simp)
          | [_], _, _, hd => exact absurd hd.1 (by simp)
          | w :: v :: r, hst, hl, hd =>
            simp only [List.length_cons] at hl hd
            have l1 : nI (w :: v :: r).length + (-1 : Int32) = nI (r.length + 1) := by
              have : nI (w :: v :: r).length - (1 : Int32) = nI (r.length + 1) := by rw [List.length_cons, List.length_cons]; exact nI_pred _
              rw [← this, Int32.sub_eq_add_neg]
            have l2 : nI (r.length + 1) - (1 : Int32) = nI r.length := nI_pred _
            rw [if_neg (by rw [show (2 : Int32) = nI 2 from rfl, nI_ltI (by simp; omega) (by omega)]; simp), l1, l2, if_pos (okI_nI (by omega) (by omega)), if_pos (okI_nI (by omega) (by omega)), fe_ofTwo, Option.bind_some]
            simp only []
            rw [if_pos (okI_nI (by omega) (by omega)), nI_tn (by omega), nI_tn (by omega), e1]
            have h1 : σ 42 (r.length + 1) = w := hst.1
            have h2 : σ 42 r.length = v := hst.2.1
            rw [h1, h2]
            have hst2 : rStep (envC σ i p t) c (w :: v :: r) = rTwo (-c) v w :: r := by unfold rStep; rw [if_neg h0, if_neg hnm, if_neg hun]
            obtain ⟨F, hF⟩ := ih (a + 1) (rTwo (-c) v w :: r) (up σ 42 r.length (rTwo (-c) v w)) n (by omega) (by omega) (by rw [up_n (by omega), he]; congr 1; omega) (fun j hj => by rw [up_n (by omega)]; exact hs' j hj) ⟨by rw [up_s, upd_s], by rw [up_s]; exact hst.2.2.up (Nat.le_refl _)⟩ hd.2 (by simp; omega)
            refine ⟨F, ?_⟩
            rw [List.length_cons] at hF
            rw [hF, hst2]
            unfold up
            rw [envC_42 hi, upA_upA]
