/-! A night whole in both -/
theorem hdv_congr {y y' : Nat → Int32} {s s' : Nat → Nat → Int32} {w w' : Nat → Int32} : ∀ p, (∀ q, q < p → y q = y' q) → (∀ q d, q < p → d < 6 → s q d = s' q d) → (∀ d, d < 6 → w d = w' d) → ∀ c, c < 6 → hdv y s w p c = hdv y' s' w' p c
  | 0, _, _, _, _, _ => rfl
  | p + 1, hy, hs, hw, c, hc => by
    have ih := hdv_congr p (fun q hq => hy q (by omega)) (fun q d hq hd => hs q d (by omega) hd) hw
    have hyp := hy p (by omega)
    show hdv y s w p c + gg (y p) (s p) w (hdv y s w p) c = hdv y' s' w' p c + gg (y' p) (s' p) w' (hdv y' s' w' p) c
    rw [ih c hc, hyp]
    rw [gg_congr (s := s p) (s' := s' p) (want := w) (want' := w') (hold := hdv y s w p) (hold' := hdv y' s' w' p) (fun d hd => ⟨hs p d (by omega) (by omega), hw d (by omega), ih d (by omega)⟩)]
theorem pdv_congr {y y' : Nat → Int32} {s s' : Nat → Nat → Int32} {w w' : Nat → Int32} : ∀ p, (∀ q, q < p → y q = y' q) → (∀ q d, q < p → d < 6 → s q d = s' q d) → (∀ d, d < 6 → w d = w' d) → pdv y s w p = pdv y' s' w' p
  | 0, _, _, _ => rfl
  | p + 1, hy, hs, hw => by
    have ih := pdv_congr p (fun q hq => hy q (by omega)) (fun q d hq hd => hs q d (by omega) hd) hw
    have hyp := hy p (by omega)
    show pdv y s w p + (y p - lf (y p) (s p) w (hdv y s w p) 6) = pdv y' s' w' p + (y' p - lf (y' p) (s' p) w' (hdv y' s' w' p) 6)
    rw [ih, hyp]
    rw [lf_congr (s := s p) (s' := s' p) (want := w) (want' := w') (hold := hdv y s w p) (hold' := hdv y' s' w' p) 6 (fun d hd => ⟨hs p d (by omega) (by omega), hw d (by omega), hdv_congr p (fun q hq => hy q (by omega)) (fun q d hq hd => hs q d (by omega) hd) hw d (by omega)⟩)]
theorem HoR.y {σ : Sg} {i n r : Nat} {μ : Sm} (h : HoR σ i μ n r) (T : Nat → List Int32) {p : Nat} (hp : p < n) : yC σ i T p = yM μ T p := by
  obtain ⟨h1, h2, h3, h4, h5⟩ := h
  obtain ⟨b1, b2, b3, b4⟩ := h4 p hp
  unfold yC yM
  rw [h2, h3, b1, b2, b3, b4]
theorem HoR.e {σ : Sg} {i n r : Nat} {μ : Sm} (h : HoR σ i μ n r) (T : Nat → List Int32) {p : Nat} (hp : p < n) : eC σ i T p = eM μ T p := by
  obtain ⟨h1, h2, h3, h4, h5⟩ := h
  obtain ⟨b1, b2, b3, b4⟩ := h4 p hp
  unfold eC eM
  rw [h2, h3, b1, b2, b3, b4]
theorem HoR.s {σ : Sg} {i n r : Nat} {μ : Sm} (h : HoR σ i μ n r) (T : Nat → List Int32) {p c : Nat} (hp : p < n) (hc : c < 6) : sC σ i T p c = sM μ T p c := by
  obtain ⟨h1, h2, h3, h4, h5⟩ := h
  obtain ⟨b1, b2, b3, b4⟩ := h4 p hp
  unfold sC sM
  rw [h2, h3, b1, b2, b3, b4, (h5 c hc).2.1]
theorem HoR.wt {σ : Sg} {i n r m : Nat} {μ : Sm} (h : HoR σ i μ n r) (hR : RgM μ m n r) : Wants (σ (11 * i + 8)) := fun c hc => by
  rw [(h.2.2.2.2 c hc).1]
  exact isN_R99.mp (hR.cs c hc).1
/-- frame of a night, in the reference -/
def FrP (μ μ' : Sm) : Prop := ∀ a, (a < 13 ∨ 32 ≤ a) → a ≠ 7 → a ≠ 10 → a ≠ 11 → μ'.1 a = μ.1 a
theorem FrP.rf {μ : Sm} : FrP μ μ := fun _ _ _ _ _ => rfl
theorem FrP.tr {μ ν ξ : Sm} (h1 : FrP μ ν) (h2 : FrP ν ξ) : FrP μ ξ := fun a a1 a2 a3 a4 => (h2 a a1 a2 a3 a4).trans (h1 a a1 a2 a3 a4)
theorem PsM.fr {μ μ' : Sm} {T : Nat → List Int32} {n : Nat} (h : PsM μ μ' T n) : FrP μ μ' := fun a a1 a2 a3 a4 => h.1 a (by omega) a2 a3 a4 (by omega) (by omega)
theorem isN_up {x : Int32} {k : Nat} (hk : k < 2000000000) (h : isN x k) : isN (x + 1) (k + 1) := by
  obtain ⟨a, h1, h2⟩ := h
  exact ⟨a + 1, by omega, by rw [h2, nI_1]⟩
theorem isN_mono {x : Int32} {k l : Nat} (h : isN x k) (hl : k ≤ l) : isN x l := by
  obtain ⟨a, h1, h2⟩ := h
  exact ⟨a, by omega, h2⟩
theorem PsM.ho {μ μ' : Sm} {m n r : Nat} {Ts : Nat → Nat → List Int32} (h : PsM μ μ' (Ts r) n) (hO : HoM μ m n r Ts) (hni : isN (μ.1 7 0) 4095) (hM : MemoI μ' m Ts) : HoM μ' m n r Ts := by
  have n5 := hO.rg.n5
  refine ⟨⟨hO.rg.n5, hO.rg.m6, hO.rg.rm, ?_, ?_, ?_, ?_, ?_, ?_⟩, hO.tx.keep (h.fr 1 (by omega) (by omega) (by omega) (by omega)) (h.fr 2 (by omega) (by omega) (by omega) (by omega)), hM⟩
  · rw [h.fr 12 (by omega) (by omega) (by omega) (by omega)]; exact hO.rg.hn
  · rw [h.fr 4 (by omega) (by omega) (by omega) (by omega)]; exact hO.rg.hr
  · rw [h.2.1]; exact isN_up (by omega) hni
  · rw [h.fr 8 (by omega) (by omega) (by omega) (by omega)]; exact hO.rg.ho
  · intro p hp
    obtain ⟨b1, b2, b3⟩ := h.2.2.1 p (by omega)
    obtain ⟨q1, q2, q3, q4⟩ := hO.rg.ps p hp
    rw [h.fr 9 (by omega) (by omega) (by omega) (by omega), b1, b2, b3, if_pos hp]
    exact ⟨q1, q2, isN_R99.mpr (R99_clI _), q4⟩
  · intro c hc
    obtain ⟨b1, b2, b3⟩ := h.2.2.2.1 c hc
    obtain ⟨q1, q2, q3⟩ := hO.rg.cs c hc
    rw [b1, b2, b3]
    exact ⟨q1, q2, isN_R99.mpr (hdv_rng hO.rg.wants (fun q => sY_rng _ _ _ _ _ _ _) n c hc).2.1⟩
theorem PsJ_R {σ σ' : Sg} {μ μ' : Sm} {i m n r : Nat} {Ts : Nat → Nat → List Int32} (hR : HoR σ i μ n r) (hO : HoM μ m n r Ts) (h1 : PsJ σ σ' i (Ts r) n) (h2 : PsM μ μ' (Ts r) n) : HoR σ' i μ' n r := by
  have hi := hR.1.1
  have n5 := hR.1.2.2.1
  obtain ⟨c1, c2, c3, c4, c5⟩ := h1
  obtain ⟨r1, r2, r3, r4, r5⟩ := hR
  refine ⟨r1.keep (c1 _ (by omega) (by omega) (by omega) (by omega) (by omega)) (c1 _ (by omega) (by omega) (by omega) (by omega) (by omega)), ?_, ?_, ?_, ?_⟩
  · rw [c2, h2.2.1, r2]
  · rw [c1 (11 * i + 1) (by omega) (by omega) (by omega) (by omega) (by omega), h2.fr 8 (by omega) (by omega) (by omega) (by omega)]; exact r3
  · intro p hp
    obtain ⟨b1, b2, b3⟩ := h2.2.2.1 p (by omega)
    obtain ⟨q1, q2, q3, q4⟩ := r4 p hp
    rw [c1 (11 * i + 4) (by omega) (by omega) (by omega) (by omega) (by omega), c1 (11 * i + 5) (by omega) (by omega) (by omega) (by omega) (by omega), c1 (11 * i + 7) (by omega) (by omega) (by omega) (by omega) (by omega), c3 p, h2.fr 9 (by omega) (by omega) (by omega) (by omega), b1, b2, b3, if_pos hp, if_pos hp]
    refine ⟨q1, q2, ?_, q4⟩
    rw [q3, HoR.e ⟨r1, r2, r3, r4, r5⟩ (Ts r) hp]
  · intro c hc
    obtain ⟨b1, b2, b3⟩ := h2.2.2.2.1 c hc
    obtain ⟨q1, q2, q3⟩ := r5 c hc
    rw [c1 (11 * i + 8) (by omega) (by omega) (by omega) (by omega) (by omega), c1 (11 * i + 9) (by omega) (by omega) (by omega) (by omega) (by omega), c4 c hc, b1, b2, b3]
    refine ⟨q1, q2, hdv_congr n (fun q hq => HoR.y ⟨r1, r2, r3, r4, r5⟩ (Ts r) hq) (fun q d hq hd => HoR.s ⟨r1, r2, r3, r4, r5⟩ (Ts r) hq hd) (fun d hd => (r5 d hd).1) c hc⟩
theorem sim_pass {σ : Sg} {μ : Sm} {i m n r : Nat} {Ts : Nat → Nat → List Int32} (hR : HoR σ i μ n r) (hL : LawC σ m Ts) (hO : HoM μ m n r Ts) (hni : isN (μ.1 7 0) 4095) :
    ∃ v σ' μ', f_X3_pass i σ = some (v, σ') ∧ f_X9_passes μ = some (v, μ') ∧ HoR σ' i μ' n r ∧ LawC σ' m Ts ∧ HoM μ' m n r Ts ∧ (∀ a, a ≠ 42 → a ≠ 11 * i → a ≠ 11 * i + 6 → a ≠ 11 * i + 10 → (a < 64 ∨ 69 ≤ a) → σ' a = σ a) ∧ PsM μ μ' (Ts r) n := by
  have hi := hR.1.1
  obtain ⟨σ', g1, g2⟩ := fe_pass hR.1 hL hO.rg.rm (hR.wt hO.rg)
  obtain ⟨μ', q1, q2, q3⟩ := fm_passes hO
  have e : pdv (yC σ i (Ts r)) (sC σ i (Ts r)) (σ (11 * i + 8)) n = pdv (yM μ (Ts r)) (sM μ (Ts r)) (wM μ) n := pdv_congr n (fun q hq => hR.y (Ts r) hq) (fun q d hq hd => hR.s (Ts r) hq hd) (fun d hd => (hR.2.2.2.2 d hd).1)
  rw [e] at g1
  exact ⟨_, σ', μ', g1, q1, PsJ_R hR hO g2 q2, hL.keep (fun a a1 a2 a3 => g2.1 a a3 (by omega) (by omega) (by omega) (by omega)), q2.ho hO hni q3, g2.1, q2⟩
