/-! A night whole, in the reference -/
theorem ix6 (p k : Nat) : (6 : Int32) * nI p + nI k = nI (6 * p + k) := by rw [show (6 : Int32) = nI 6 from rfl, nI_mul, nI_add]
theorem upm_e {μ : Sm} {id j k : Nat} {v : Int32} : (upm μ id j v).1 id k = if k = j then v else μ.1 id k := by rw [upm_s]; rfl
theorem isN_R99 {x : Int32} : isN x 100 ↔ R99 x := by
  unfold isN R99
  constructor
  · rintro ⟨a, h, rfl⟩
    rw [nI_ti (by omega)]; omega
  · rintro ⟨h0, h1⟩
    obtain ⟨k, h2, h3⟩ := nI_ex (n := 99) (v := x) (by rw [i32_le]; exact h0) (by rw [i32_le]; exact h1) (by omega)
    exact ⟨k, by omega, h3⟩
abbrev wM (μ : Sm) : Nat → Int32 := fun c => μ.1 11 (3 * c)
theorem RgM.wants {μ : Sm} {m n r : Nat} (h : RgM μ m n r) : Wants (wM μ) := fun c hc => isN_R99.mp (h.cs c hc).1
/-- in the midst of a night: p sleepless and c cups are through, e eases are told -/
def IJ (μ0 μ : Sm) (T : Nat → List Int32) (p c e : Nat) : Prop :=
  (∀ a, (a < 13 ∨ 30 ≤ a) → a ≠ 11 → a ≠ 30 → a ≠ 31 → μ.1 a = μ0.1 a) ∧
  (∀ d, d < 6 → μ.1 11 (3 * d) = μ0.1 11 (3 * d) ∧ μ.1 11 (3 * d + 1) = μ0.1 11 (3 * d + 1) ∧ μ.1 11 (3 * d + 2) = hdv (yM μ0 T) (sM μ0 T) (wM μ0) p d + (if d < c then gg (yM μ0 T p) (sM μ0 T p) (wM μ0) (hdv (yM μ0 T) (sM μ0 T) (wM μ0) p) d else 0)) ∧
  (∀ q d, d < 6 → (q < p ∨ q = p ∧ d < c) → μ.1 30 (6 * q + d) = gg (yM μ0 T q) (sM μ0 T q) (wM μ0) (hdv (yM μ0 T) (sM μ0 T) (wM μ0) q) d) ∧
  ∀ q, q < e → μ.1 31 q = eM μ0 T q
theorem IJ.fr {μ0 μ ν : Sm} {T : Nat → List Int32} {p c e : Nat} (h : IJ μ0 μ T p c e) (f : FrS μ ν) : IJ μ0 ν T p c e := by
  obtain ⟨h1, h2, h3, h4⟩ := h
  refine ⟨fun a a1 a2 a3 a4 => by rw [f a a1]; exact h1 a a1 a2 a3 a4, ?_, ?_, ?_⟩
  · rw [f 11 (by omega)]; exact h2
  · rw [f 30 (by omega)]; exact h3
  · rw [f 31 (by omega)]; exact h4
theorem IJ.row {μ0 μ : Sm} {T : Nat → List Int32} {p e : Nat} (h : IJ μ0 μ T p 6 e) : IJ μ0 μ T (p + 1) 0 e := by
  obtain ⟨h1, h2, h3, h4⟩ := h
  refine ⟨h1, fun d hd => ?_, fun q d hd hq => h3 q d hd (by omega), h4⟩
  obtain ⟨a1, a2, a3⟩ := h2 d hd
  refine ⟨a1, a2, ?_⟩
  rw [a3, if_pos hd, if_neg (by omega), Int32.add_zero]
  rfl
theorem IJ.rg {μ0 μ : Sm} {T : Nat → List Int32} {p c e m n r : Nat} (h : IJ μ0 μ T p c e) (hR : RgM μ0 m n r) : RgM μ m n r := by
  obtain ⟨h1, h2, h3, h4⟩ := h
  refine ⟨hR.n5, hR.m6, hR.rm, ?_, ?_, ?_, ?_, ?_, ?_⟩
  · rw [h1 12 (by omega) (by omega) (by omega) (by omega)]; exact hR.hn
  · rw [h1 4 (by omega) (by omega) (by omega) (by omega)]; exact hR.hr
  · rw [h1 7 (by omega) (by omega) (by omega) (by omega)]; exact hR.ni
  · rw [h1 8 (by omega) (by omega) (by omega) (by omega)]; exact hR.ho
  · rw [h1 9 (by omega) (by omega) (by omega) (by omega), h1 10 (by omega) (by omega) (by omega) (by omega)]; exact hR.ps
  · intro d hd
    obtain ⟨a1, a2, a3⟩ := h2 d hd
    rw [a1, a2, a3]
    refine ⟨(hR.cs d hd).1, (hR.cs d hd).2.1, isN_R99.mpr ?_⟩
    have hC := hdv_rng (y := yM μ0 T) (s := sM μ0 T) hR.wants (fun q => sY_rng _ _ _ _ _ _ _) p
    have g := gg_rng (s := sM μ0 T p) (y := yM μ0 T p) (sY_rng _ _ _ _ _ _ _) hC hd
    obtain ⟨w1, w2, w3⟩ := hC d hd
    by_cases hdc : d < c
    · rw [if_pos hdc]
      unfold R99 at *
      omega
    · rw [if_neg hdc, Int32.add_zero]
      exact w2
theorem IJ.ho {μ0 μ : Sm} {p c e m n r : Nat} {Ts : Nat → Nat → List Int32} (h : IJ μ0 μ (Ts r) p c e) (hO : HoM μ0 m n r Ts) (hM : MemoI μ m Ts) : HoM μ m n r Ts :=
  ⟨h.rg hO.rg, hO.tx.keep (h.1 1 (by omega) (by omega) (by omega) (by omega)) (h.1 2 (by omega) (by omega) (by omega) (by omega)), hM⟩
theorem IJ_yM {μ0 μ : Sm} {T : Nat → List Int32} {p c e : Nat} (h : IJ μ0 μ T p c e) (q : Nat) : yM μ T q = yM μ0 T q := by
  unfold yM
  rw [h.1 9 (by omega) (by omega) (by omega) (by omega), h.1 10 (by omega) (by omega) (by omega) (by omega), h.1 7 (by omega) (by omega) (by omega) (by omega), h.1 8 (by omega) (by omega) (by omega) (by omega)]
theorem IJ_eM {μ0 μ : Sm} {T : Nat → List Int32} {p c e : Nat} (h : IJ μ0 μ T p c e) (q : Nat) : eM μ T q = eM μ0 T q := by
  unfold eM
  rw [h.1 9 (by omega) (by omega) (by omega) (by omega), h.1 10 (by omega) (by omega) (by omega) (by omega), h.1 7 (by omega) (by omega) (by omega) (by omega), h.1 8 (by omega) (by omega) (by omega) (by omega)]
theorem IJ_sM {μ0 μ : Sm} {T : Nat → List Int32} {p c e : Nat} (h : IJ μ0 μ T p c e) (q d : Nat) (hd : d < 6) : sM μ T q d = sM μ0 T q d := by
  unfold sM
  rw [h.1 9 (by omega) (by omega) (by omega) (by omega), h.1 10 (by omega) (by omega) (by omega) (by omega), h.1 7 (by omega) (by omega) (by omega) (by omega), h.1 8 (by omega) (by omega) (by omega) (by omega), (h.2.1 d hd).2.1]
theorem memo_up {μ : Sm} {id j m : Nat} {v : Int32} {Ts : Nat → Nat → List Int32} (h : MemoI μ m Ts) (hid : id ≠ 29) : MemoI (upm μ id j v) m Ts := by
  intro pl hpl
  have e1 : (upm μ id j v).2 28 pl = μ.2 28 pl := rfl
  rw [e1, upm_n (a := 29) (fun hc => hid hc.symm)]
  exact h pl hpl
theorem sum_go (S y L g : Int32) : S + (y - L) + g = S + (y - (L - g)) := by
  rw [Int32.sub_eq_add_neg, Int32.sub_eq_add_neg, Int32.neg_sub, Int32.sub_eq_add_neg, Int32.add_comm g, Int32.add_assoc, Int32.add_assoc]
theorem IJ_step {μ0 μ : Sm} {T : Nat → List Int32} {p c e : Nat} (h : IJ μ0 μ T p c e) (hc : c < 6) (g : Int32) (hg : g = gg (yM μ0 T p) (sM μ0 T p) (wM μ0) (hdv (yM μ0 T) (sM μ0 T) (wM μ0) p) c) : IJ μ0 (upm (upm μ 30 (6 * p + c) g) 11 (3 * c + 2) (μ.1 11 (3 * c + 2) + g)) T p (c + 1) e := by
  obtain ⟨h1, h2, h3, h4⟩ := h
  refine ⟨fun a a1 a2 a3 a4 => by rw [upm_n a2, upm_n a3]; exact h1 a a1 a2 a3 a4, fun d hd => ?_, fun q d hd hq => ?_, ?_⟩
  · obtain ⟨b1, b2, b3⟩ := h2 d hd
    rw [upm_e, if_neg (by omega), upm_e, if_neg (by omega), upm_e, upm_n (by decide)]
    refine ⟨b1, b2, ?_⟩
    by_cases hdc : d = c
    · subst hdc
      rw [if_pos rfl, b3, if_neg (by omega), if_pos (by omega), Int32.add_zero, hg]
    · rw [if_neg (by omega), b3]
      by_cases hlt : d < c
      · rw [if_pos hlt, if_pos (by omega)]
      · rw [if_neg hlt, if_neg (by omega)]
  · rw [upm_n (by decide), upm_e]
    by_cases hz : 6 * q + d = 6 * p + c
    · rw [if_pos hz, hg]
      have e1 : q = p := by omega
      have e2 : d = c := by omega
      rw [e1, e2]
    · rw [if_neg hz]
      exact h3 q d hd (by omega)
  · rw [upm_n (by decide), upm_n (by decide)]
    exact h4
theorem fm_104 {k29 : Int32 → Int32 → Sm → Option (Int32 × Sm)} {k57 : Int32 → Int32 → Int32 → Int32 → Sm → Option (Int32 × Sm)} {p c : Nat} (hp : p < 5) (hc : c < 6) (y1 y3 z : Int32) (μ : Sm) :
    f_X9_passes_104 k29 k57 y1 (nI p) y3 (nI c) z μ = k57 (y1 + z) (nI p) (y3 - z) (nI (c + 1)) (upm (upm μ 30 (6 * p + c) z) 11 (3 * c + 2) (μ.1 11 (3 * c + 2) + z)) := by
  unfold f_X9_passes_104
  have i1 : okI (nI (6 * p + c)) 30 := okI_nI (by omega) (by omega)
  have i2 : okI (nI (3 * c + 2)) 18 := okI_nI (by omega) (by omega)
  rw [ix6, ix3_2, if_pos i1, if_pos i2, if_pos i2, Option.bind_some, nI_1, nI_tn (show 6 * p + c < 2147483648 by omega), nI_tn (show 3 * c + 2 < 2147483648 by omega), upm_n (a := 11) (by decide)]
theorem fm_cups {μ0 : Sm} {m n r p e : Nat} {Ts : Nat → Nat → List Int32} (hO : HoM μ0 m n r Ts) (hp : p < n) (k29 : Int32 → Int32 → Sm → Option (Int32 × Sm)) (S : Int32) :
    ∀ (d c k : Nat) (μ : Sm), c + d = 6 → d < k → IJ μ0 μ (Ts r) p c e → MemoI μ m Ts →
      ∃ μ', f_X9_passes_57 k29 k (S + (yM μ0 (Ts r) p - lf (yM μ0 (Ts r) p) (sM μ0 (Ts r) p) (wM μ0) (hdv (yM μ0 (Ts r)) (sM μ0 (Ts r)) (wM μ0) p) c)) (nI p) (lf (yM μ0 (Ts r) p) (sM μ0 (Ts r) p) (wM μ0) (hdv (yM μ0 (Ts r)) (sM μ0 (Ts r)) (wM μ0) p) c) (nI c) μ = k29 (S + (yM μ0 (Ts r) p - lf (yM μ0 (Ts r) p) (sM μ0 (Ts r) p) (wM μ0) (hdv (yM μ0 (Ts r)) (sM μ0 (Ts r)) (wM μ0) p) 6)) (nI (p + 1)) μ' ∧ IJ μ0 μ' (Ts r) p 6 e ∧ MemoI μ' m Ts := by
  have hn5 := hO.rg.n5
  intro d
  induction d with
  | zero =>
    intro c k μ hcd hk hJ hM
    obtain ⟨k, rfl⟩ : ∃ q, k = q + 1 := ⟨k - 1, by omega⟩
    have ec : c = 6 := by omega
    subst ec
    refine ⟨μ, ?_, hJ, hM⟩
    rw [f_X9_passes_57, if_pos (by decide), nI_1]
  | succ d ih =>
    intro c k μ hcd hk hJ hM
    obtain ⟨k, rfl⟩ : ∃ q, k = q + 1 := ⟨k - 1, by omega⟩
    have hc : c < 6 := by omega
    obtain ⟨μ1, g1, g2, g3⟩ := fm_suits (hJ.ho hO hM) hp hc
    rw [IJ_sM hJ p c hc] at g1
    have hJ1 := hJ.fr g2
    have i1 : okI (nI (3 * c)) 18 := okI_nI (by omega) (by omega)
    have i2 : okI (nI (3 * c + 2)) 18 := okI_nI (by omega) (by omega)
    rw [f_X9_passes_57, if_neg (by rw [show (6 : Int32) = nI 6 from rfl, nI_leI (by omega) (by omega)]; omega), g1, Option.bind_some]
    simp only []
    rw [ix3_2, ix3_0, if_pos i1, if_pos i2, fe_within, Option.bind_some, nI_tn (show 3 * c < 2147483648 by omega), nI_tn (show 3 * c + 2 < 2147483648 by omega)]
    simp only []
    rw [fm_104 (by omega) hc, fm_104 (by omega) hc]
    obtain ⟨b1, -, b3⟩ := hJ1.2.1 c hc
    rw [if_neg (show ¬ c < c by omega), Int32.add_zero] at b3
    obtain ⟨g, hg⟩ : ∃ x, x = gg (yM μ0 (Ts r) p) (sM μ0 (Ts r) p) (wM μ0) (hdv (yM μ0 (Ts r)) (sM μ0 (Ts r)) (wM μ0) p) c := ⟨_, rfl⟩
    have key := ih (c + 1) k _ (by omega) (by omega) (IJ_step hJ1 hc g hg) (memo_up (memo_up g3 (by decide)) (by decide))
    have elf : lf (yM μ0 (Ts r) p) (sM μ0 (Ts r) p) (wM μ0) (hdv (yM μ0 (Ts r)) (sM μ0 (Ts r)) (wM μ0) p) (c + 1) = lf (yM μ0 (Ts r) p) (sM μ0 (Ts r) p) (wM μ0) (hdv (yM μ0 (Ts r)) (sM μ0 (Ts r)) (wM μ0) p) c - g := by
      rw [hg]; rfl
    rw [elf, ← sum_go] at key
    unfold gg gv at hg
    by_cases hs : sM μ0 (Ts r) p c = 0
    · rw [if_pos hs]
      rw [if_pos hs] at hg
      rw [hg] at key
      exact key
    · rw [if_neg hs]
      rw [if_neg hs] at hg
      rw [hg] at key
      rw [b3, b1]
      rw [b3] at key
      exact key

/-- the sleepless, one after the other -/
theorem fm_row {μ0 : Sm} {m n r : Nat} {Ts : Nat → Nat → List Int32} (hO : HoM μ0 m n r Ts) :
    ∀ (d p k : Nat) (μ : Sm), p + d = n → d < k → IJ μ0 μ (Ts r) p 0 p → MemoI μ m Ts →
      ∃ μ', f_X9_passes_29 k (pdv (yM μ0 (Ts r)) (sM μ0 (Ts r)) (wM μ0) p) (nI p) μ = f_X9_passes_160 5000 (pdv (yM μ0 (Ts r)) (sM μ0 (Ts r)) (wM μ0) n) 0 μ' ∧ IJ μ0 μ' (Ts r) n 0 n ∧ MemoI μ' m Ts := by
  have hn5 := hO.rg.n5
  intro d
  induction d with
  | zero =>
    intro p k μ hpd hk hJ hM
    obtain ⟨k, rfl⟩ : ∃ q, k = q + 1 := ⟨k - 1, by omega⟩
    have ep : p = n := by omega
    subst ep
    refine ⟨μ, ?_, hJ, hM⟩
    rw [f_X9_passes_29, (hJ.rg hO.rg).hn, if_pos (by rw [nI_leI (by omega) (by omega)]; omega)]
  | succ d ih =>
    intro p k μ hpd hk hJ hM
    obtain ⟨k, rfl⟩ : ∃ q, k = q + 1 := ⟨k - 1, by omega⟩
    have hp : p < n := by omega
    obtain ⟨μ1, g1, g2, g3⟩ := fm_yields (hJ.ho hO hM) hp
    rw [IJ_yM hJ p] at g1
    have hJ1 := hJ.fr g2
    obtain ⟨μ2, q1, q2, q3⟩ := fm_eased (hJ1.ho hO g3) hp
    rw [IJ_eM hJ1 p] at q1
    have hJ2 := hJ1.fr q2
    have i5 : okI (nI p) 5 := okI_nI (by omega) (by omega)
    rw [f_X9_passes_29, (hJ.rg hO.rg).hn, if_neg (by rw [nI_leI (by omega) (by omega)]; omega), g1, Option.bind_some]
    simp only []
    rw [q1, Option.bind_some]
    simp only []
    rw [if_pos i5, nI_tn (show p < 2147483648 by omega)]
    have hJ3 : IJ μ0 (upm μ2 31 p (eM μ0 (Ts r) p)) (Ts r) p 0 (p + 1) := by
      obtain ⟨h1, h2, h3, h4⟩ := hJ2
      refine ⟨fun a a1 a2 a3 a4 => by rw [upm_n a4]; exact h1 a a1 a2 a3 a4, ?_, ?_, fun q hq => ?_⟩
      · rw [upm_n (by decide)]; exact h2
      · rw [upm_n (by decide)]; exact h3
      · rw [upm_e]
        by_cases e : q = p
        · rw [if_pos e, e]
        · rw [if_neg e]; exact h4 q (by omega)
    obtain ⟨μ4, z1, z2, z3⟩ := fm_cups (e := p + 1) hO hp (f_X9_passes_29 k) (pdv (yM μ0 (Ts r)) (sM μ0 (Ts r)) (wM μ0) p) 6 0 5000 _ (by omega) (by omega) hJ3 (memo_up q3 (by decide))
    have e0 : pdv (yM μ0 (Ts r)) (sM μ0 (Ts r)) (wM μ0) p + (yM μ0 (Ts r) p - lf (yM μ0 (Ts r) p) (sM μ0 (Ts r) p) (wM μ0) (hdv (yM μ0 (Ts r)) (sM μ0 (Ts r)) (wM μ0) p) 0) = pdv (yM μ0 (Ts r)) (sM μ0 (Ts r)) (wM μ0) p := by
      show pdv (yM μ0 (Ts r)) (sM μ0 (Ts r)) (wM μ0) p + (yM μ0 (Ts r) p - yM μ0 (Ts r) p) = _
      rw [Int32.sub_self, Int32.add_zero]
    rw [e0] at z1
    have z1' : f_X9_passes_57 (f_X9_passes_29 k) 5000 (pdv (yM μ0 (Ts r)) (sM μ0 (Ts r)) (wM μ0) p) (nI p) (yM μ0 (Ts r) p) 0 (upm μ2 31 p (eM μ0 (Ts r) p)) = _ := z1
    rw [z1']
    exact ih (p + 1) k μ4 (by omega) (by omega) z2.row z3
/-- a night whole: what is otherwise behind it -/
def PsM (μ0 μ : Sm) (T : Nat → List Int32) (n : Nat) : Prop :=
  (∀ a, (a < 13 ∨ 30 ≤ a) → a ≠ 7 → a ≠ 10 → a ≠ 11 → a ≠ 30 → a ≠ 31 → μ.1 a = μ0.1 a) ∧ μ.1 7 0 = μ0.1 7 0 + 1 ∧
  (∀ q, q < 5 → μ.1 10 (3 * q) = μ0.1 10 (3 * q) ∧ μ.1 10 (3 * q + 1) = (if q < n then clI (μ0.1 10 (3 * q + 1) - eM μ0 T q) 0 99 else μ0.1 10 (3 * q + 1)) ∧ μ.1 10 (3 * q + 2) = μ0.1 10 (3 * q + 2)) ∧
  (∀ d, d < 6 → μ.1 11 (3 * d) = μ0.1 11 (3 * d) ∧ μ.1 11 (3 * d + 1) = μ0.1 11 (3 * d + 1) ∧ μ.1 11 (3 * d + 2) = hdv (yM μ0 T) (sM μ0 T) (wM μ0) n d) ∧
  ∀ q d, q < n → d < 6 → μ.1 30 (6 * q + d) = gg (yM μ0 T q) (sM μ0 T q) (wM μ0) (hdv (yM μ0 T) (sM μ0 T) (wM μ0) q) d
/-- the morning: those below p are eased -/
def MoM (μ1 μ : Sm) (p : Nat) : Prop := (∀ a, a ≠ 10 → μ.1 a = μ1.1 a) ∧ μ.2 = μ1.2 ∧ ∀ q, μ.1 10 (3 * q) = μ1.1 10 (3 * q) ∧ μ.1 10 (3 * q + 1) = (if q < p then clI (μ1.1 10 (3 * q + 1) - μ1.1 31 q) 0 99 else μ1.1 10 (3 * q + 1)) ∧ μ.1 10 (3 * q + 2) = μ1.1 10 (3 * q + 2)
theorem fm_morning {μ1 : Sm} {n : Nat} (hn5 : n ≤ 5) (hn : μ1.1 12 0 = nI n) (S : Int32) :
    ∀ (d p k : Nat) (μ : Sm), p + d = n → d < k → MoM μ1 μ p → ∃ μ', f_X9_passes_160 k S (nI p) μ = some (S, upm μ' 7 0 (μ1.1 7 0 + 1)) ∧ MoM μ1 μ' n := by
  intro d
  induction d with
  | zero =>
    intro p k μ hpd hk hJ
    obtain ⟨k, rfl⟩ : ∃ q, k = q + 1 := ⟨k - 1, by omega⟩
    have ep : p = n := by omega
    subst ep
    refine ⟨μ, ?_, hJ⟩
    rw [f_X9_passes_160, hJ.1 12 (by decide), hn, if_pos (by rw [nI_leI (by omega) (by omega)]; omega), hJ.1 7 (by decide)]
  | succ d ih =>
    intro p k μ hpd hk hJ
    obtain ⟨k, rfl⟩ : ∃ q, k = q + 1 := ⟨k - 1, by omega⟩
    have i1 : okI (nI (3 * p + 1)) 15 := okI_nI (by omega) (by omega)
    have i5 : okI (nI p) 5 := okI_nI (by omega) (by omega)
    rw [f_X9_passes_160, hJ.1 12 (by decide), hn, if_neg (by rw [nI_leI (by omega) (by omega)]; omega), ix3_1, if_pos i1, if_pos i5, fe_within, Option.bind_some, if_pos i1]
    simp only []
    rw [nI_1, nI_tn (show 3 * p + 1 < 2147483648 by omega), nI_tn (show p < 2147483648 by omega), hJ.1 31 (by decide)]
    refine ih (p + 1) k _ (by omega) (by omega) ⟨fun a a1 => by rw [upm_n a1]; exact hJ.1 a a1, hJ.2.1, fun q => ?_⟩
    obtain ⟨b1, b2, b3⟩ := hJ.2.2 q
    rw [upm_e, if_neg (show ¬ 3 * q = 3 * p + 1 by omega), upm_e, upm_e, if_neg (show ¬ 3 * q + 2 = 3 * p + 1 by omega)]
    refine ⟨b1, ?_, b3⟩
    by_cases e : q = p
    · subst e
      rw [if_pos rfl, if_pos (by omega), b2, if_neg (by omega)]
    · rw [if_neg (by omega), b2]
      by_cases q2 : q < p
      · rw [if_pos q2, if_pos (by omega)]
      · rw [if_neg q2, if_neg (by omega)]
/-- the cups are empty first -/
theorem fm_clear {μ0 : Sm} : ∀ (d c k : Nat) (μ : Sm), c + d = 6 → d < k → (∀ a, a ≠ 11 → μ.1 a = μ0.1 a) → μ.2 = μ0.2 → (∀ c', c' < 6 → μ.1 11 (3 * c') = μ0.1 11 (3 * c') ∧ μ.1 11 (3 * c' + 1) = μ0.1 11 (3 * c' + 1) ∧ (c' < c → μ.1 11 (3 * c' + 2) = 0)) →
    ∃ μ', f_X9_passes_4 k 0 (nI c) μ = f_X9_passes_29 5000 0 0 μ' ∧ (∀ a, a ≠ 11 → μ'.1 a = μ0.1 a) ∧ μ'.2 = μ0.2 ∧ ∀ c', c' < 6 → μ'.1 11 (3 * c') = μ0.1 11 (3 * c') ∧ μ'.1 11 (3 * c' + 1) = μ0.1 11 (3 * c' + 1) ∧ μ'.1 11 (3 * c' + 2) = 0 := by
  intro d
  induction d with
  | zero =>
    intro c k μ hcd hk h1 h2 h3
    obtain ⟨k, rfl⟩ : ∃ q, k = q + 1 := ⟨k - 1, by omega⟩
    have e : c = 6 := by omega
    subst e
    refine ⟨μ, ?_, h1, h2, fun c' hc' => ⟨(h3 c' hc').1, (h3 c' hc').2.1, (h3 c' hc').2.2 hc'⟩⟩
    rw [f_X9_passes_4, if_pos (by decide)]
  | succ d ih =>
    intro c k μ hcd hk h1 h2 h3
    obtain ⟨k, rfl⟩ : ∃ q, k = q + 1 := ⟨k - 1, by omega⟩
    have i2 : okI (nI (3 * c + 2)) 18 := okI_nI (by omega) (by omega)
    rw [f_X9_passes_4, if_neg (by rw [show (6 : Int32) = nI 6 from rfl, nI_leI (by omega) (by omega)]; omega), ix3_2, if_pos i2, nI_1, nI_tn (show 3 * c + 2 < 2147483648 by omega)]
    refine ih (c + 1) k _ (by omega) (by omega) (fun a ha => by rw [upm_n ha]; exact h1 a ha) h2 (fun c' hc' => ?_)
    rw [upm_e, if_neg (by omega), upm_e, if_neg (by omega), upm_e]
    obtain ⟨b1, b2, b3⟩ := h3 c' hc'
    refine ⟨b1, b2, fun hlt => ?_⟩
    by_cases e : c' = c
    · subst e; rw [if_pos rfl]
    · rw [if_neg (by omega)]; exact b3 (by omega)
theorem fm_passes {μ0 : Sm} {m n r : Nat} {Ts : Nat → Nat → List Int32} (hO : HoM μ0 m n r Ts) :
    ∃ μ', f_X9_passes μ0 = some (pdv (yM μ0 (Ts r)) (sM μ0 (Ts r)) (wM μ0) n, μ') ∧ PsM μ0 μ' (Ts r) n ∧ MemoI μ' m Ts := by
  have hn5 := hO.rg.n5
  obtain ⟨μ1, e1, e2, e3, e4⟩ := fm_clear (μ0 := μ0) 6 0 5000 μ0 (by omega) (by omega) (fun _ _ => rfl) rfl (fun c' hc' => ⟨rfl, rfl, fun h => absurd h (by omega)⟩)
  unfold f_X9_passes
  have e1' : f_X9_passes_4 5000 0 0 μ0 = _ := e1
  rw [e1']
  have hJ1 : IJ μ0 μ1 (Ts r) 0 0 0 := by
    refine ⟨fun a a1 a2 a3 a4 => e2 a a2, fun d hd => ⟨(e4 d hd).1, (e4 d hd).2.1, ?_⟩, fun q d hd hq => absurd hq (by omega), fun q hq => absurd hq (by omega)⟩
    rw [(e4 d hd).2.2, if_neg (by omega)]
    rfl
  have M1 : MemoI μ1 m Ts := by
    intro pl hpl
    rw [e3, e2 29 (by decide)]
    exact hO.me pl hpl
  obtain ⟨μ2, g1, g2, g3⟩ := fm_row hO n 0 5000 μ1 (by omega) (by omega) hJ1 M1
  have g1' : f_X9_passes_29 5000 0 0 μ1 = _ := g1
  rw [g1']
  obtain ⟨μ3, q1, q2⟩ := fm_morning (μ1 := μ2) hn5 (g2.rg hO.rg).hn (pdv (yM μ0 (Ts r)) (sM μ0 (Ts r)) (wM μ0) n) n 0 5000 μ2 (by omega) (by omega) ⟨fun _ _ => rfl, rfl, fun q => ⟨rfl, by rw [if_neg (by omega)], rfl⟩⟩
  have q1' : f_X9_passes_160 5000 (pdv (yM μ0 (Ts r)) (sM μ0 (Ts r)) (wM μ0) n) 0 μ2 = _ := q1
  rw [q1']
  refine ⟨_, rfl, ⟨?_, ?_, ?_, ?_, ?_⟩, ?_⟩
  · intro a a1 a2 a3 a4 a5 a6
    rw [upm_n a2, q2.1 a a3]
    exact g2.1 a a1 a4 a5 a6
  · rw [upm_e, if_pos rfl, g2.1 7 (by omega) (by omega) (by omega) (by omega)]
  · intro q hq
    obtain ⟨b1, b2, b3⟩ := q2.2.2 q
    rw [upm_n (by decide), b1, b2, b3, g2.1 10 (by omega) (by omega) (by omega) (by omega)]
    refine ⟨rfl, ?_, rfl⟩
    by_cases hqn : q < n
    · rw [if_pos hqn, if_pos hqn, g2.2.2.2 q hqn]
    · rw [if_neg hqn, if_neg hqn]
  · intro d hd
    obtain ⟨b1, b2, b3⟩ := g2.2.1 d hd
    rw [upm_n (by decide), q2.1 11 (by decide), b1, b2, b3, if_neg (by omega), Int32.add_zero]
    exact ⟨rfl, rfl, rfl⟩
  · intro q d hq hd
    rw [upm_n (by decide), q2.1 30 (by decide)]
    exact g2.2.2.1 q d hd (Or.inl hq)
  · intro pl hpl
    have e : (upm μ3 7 0 (μ2.1 7 0 + 1)).2 = μ2.2 := q2.2.1
    rw [e, upm_n (by decide), q2.1 29 (by decide)]
    exact g3 pl hpl
