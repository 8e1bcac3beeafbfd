/-! The law's loop -/
set_option maxHeartbeats 4000000 in
set_option maxRecDepth 100000 in
theorem law_loop {p : Program} {l : Launch} {e : Jvm.Env} {s : State} {m : MethodId} {below : List Frame} {meth : Method} {c : Code} {b L : Nat} {xs : Nat → Int32} {D : va_G} {tt : Nat → ClassId} {aC aM : Nat → Nat} {ad : (Nat → Nat) × (Nat → Nat)} (C0 : lw_At p s m meth c b L xs) (F : LF D tt aC aM ad s) (hL : L ≤ 3072) : ∀ (n i : Nat), i ≤ L → L + 1 ≤ i + n → ∀ (σ : Sg) (μ : Sm) (H : Heap) (locs : List Loc), LI D tt aC aM ad s σ μ H locs → ∀ (ls : Array Slot), lv_has ls 4 [(0, .ref b), (1, .ref (aC 0)), (2, .ref (aM 0)), (3, .int (nI i))] → W p l e room_1 s m #[Value.ref b] below meth c H locs 89 5288 (lw_Z below #[Value.ref b] s) (F0 m 18 ls []) := by
  obtain ⟨hx, hb, hr, hml, hown, hts0, hX, hbl, hlocks, hgv⟩ := id C0
  have hbA : ¬ wA [] s.heap.size b := wA_nil hbl
  intro n
  induction n with
  | zero => intro i h1 h2; exact absurd h2 (by omega)
  | succ n ih =>
    intro i hiL hin σ μ H locs hI ls hl
    have hS := hI.2.2.1
    have e6 : (6 : Int32).toInt = 6 := by decide
    have eL : (Int32.ofNat L - 6).toInt = (L : Int) - 6 := by rw [show Int32.ofNat L = nI L from rfl, i32_sub (by rw [nI_ti (by omega), e6]; omega) (by rw [nI_ti (by omega), e6]; omega), nI_ti (by omega), e6]
    refine lv_iload_n hx hb dL_law_18 rfl (lv_at hl 3 rfl) ?_
    refine lv_aload_n hx hb dL_law_19 rfl (lv_at hl 0 rfl) ?_
    refine va_slen hx hb hX hbl hbA hS dL_law_20 ?_
    refine lv_bipush (v := (6 : Int32)) hx hb dL_law_21 (by decide) ?_
    refine lv_isub hx hb dL_law_23 ?_
    refine lv_icmp_gt (tgt := 1018) hx hb dL_law_24 (by decide) (fun c1 => ?_) (fun c1 => ?_)
    · refine lv_iconst (v := 1) hx hb dL_law_1018 (by decide) ?_
      refine va_forget (fun q hq => (hS.2.2 q hq).elim (fun h => by cases h) id) ?_
      refine W.widen (k := 600000) (n := 7302250) (Nat.le_of_ble_eq_true rfl) (Nat.le_of_ble_eq_true rfl) ?_
      exact lw_ret hx hb hr hlocks dL_law_1019
    · have hi : i + 6 ≤ L := by rw [i32_lt, eL, nI_ti (by omega)] at c1; omega
      have kk : ∀ (σ : Sg) (μ : Sm) (H : Heap) (locs : List Loc), LI D tt aC aM ad s σ μ H locs → W p l e room_1 s m #[Value.ref b] below meth c H locs 89 5288 (lw_Z below #[Value.ref b] s) (F0 m 1012 ls []) := by
        intro σ μ H locs hI
        refine lv_iinc (v := nI (i + 6)) (lv' := [(3, .int (nI (i + 6))), (0, .ref b), (1, .ref (aC 0)), (2, .ref (aM 0))]) hx hb dL_law_1012 hl (k := 3) rfl (by rw [← nI_add]; rfl) (by decide) rfl (fun ls hl => ?_)
        refine lv_goto (tgt := 18) hx hb dL_law_1015 (by decide) ?_
        exact ih (i + 6) hi (by omega) σ μ H locs hI ls (lv_sub hl [1, 2, 3, 0] rfl)
      refine lv_aload_n hx hb dL_law_27 rfl (lv_at hl 0 rfl) ?_
      refine lv_iload_n hx hb dL_law_28 rfl (lv_at hl 3 rfl) ?_
      refine va_sld hx hb hX hbl hbA hS (l_in0 (by omega) hL) dL_law_29 ?_
      refine lv_bipush (v := (31 : Int32)) hx hb dL_law_30 (by decide) ?_
      refine lv_iand hx hb dL_law_32 ?_
      generalize (xs (nI i).toNatClampNeg &&& (31 : Int32)) = x
      by_cases c10 : x = 0
      · refine lv_tableIn (off := 119) (tgt := 152) hx hb dL_law_33 (by rw [c10]; decide) (by rw [c10]; decide) (by rw [c10]; rfl) (by decide) ?_
        exact lc_set C0 F hL hi hl hI kk
      by_cases c11 : x = 1
      · refine lv_tableIn (off := 162) (tgt := 195) hx hb dL_law_33 (by rw [c11]; decide) (by rw [c11]; decide) (by rw [c11]; rfl) (by decide) ?_
        exact lc_wakes C0 F hL hi hl hI kk
      by_cases c12 : x = 2
      · refine lv_tableIn (off := 205) (tgt := 238) hx hb dL_law_33 (by rw [c12]; decide) (by rw [c12]; decide) (by rw [c12]; rfl) (by decide) ?_
        exact lc_told C0 F hL hi hl hI kk
      by_cases c13 : x = 3
      · refine lv_tableIn (off := 238) (tgt := 271) hx hb dL_law_33 (by rw [c13]; decide) (by rw [c13]; decide) (by rw [c13]; rfl) (by decide) ?_
        exact lc_eased C0 F hL hi hl hI kk
      by_cases c14 : x = 4
      · refine lv_tableIn (off := 261) (tgt := 294) hx hb dL_law_33 (by rw [c14]; decide) (by rw [c14]; decide) (by rw [c14]; rfl) (by decide) ?_
        exact lc_feed C0 F hL hi hl hI kk
      by_cases c15 : x = 5
      · refine lv_tableIn (off := 284) (tgt := 317) hx hb dL_law_33 (by rw [c15]; decide) (by rw [c15]; decide) (by rw [c15]; rfl) (by decide) ?_
        exact lc_text C0 F hL hi hl hI kk
      by_cases c16 : x = 6
      · refine lv_tableIn (off := 297) (tgt := 330) hx hb dL_law_33 (by rw [c16]; decide) (by rw [c16]; decide) (by rw [c16]; rfl) (by decide) ?_
        exact lc_force C0 F hL hi hl hI kk
      by_cases c17 : x = 7
      · refine lv_tableIn (off := 320) (tgt := 353) hx hb dL_law_33 (by rw [c17]; decide) (by rw [c17]; decide) (by rw [c17]; rfl) (by decide) ?_
        exact lc_night C0 F hL hi hl hI kk
      by_cases c18 : x = 8
      · refine lv_tableIn (off := 333) (tgt := 366) hx hb dL_law_33 (by rw [c18]; decide) (by rw [c18]; decide) (by rw [c18]; rfl) (by decide) ?_
        exact lc_news C0 F hL hi hl hI kk
      by_cases c19 : x = 9
      · refine lv_tableIn (off := 356) (tgt := 389) hx hb dL_law_33 (by rw [c19]; decide) (by rw [c19]; decide) (by rw [c19]; rfl) (by decide) ?_
        exact lc_run C0 F hL hi hl hI kk
      by_cases c20 : x = 10
      · refine lv_tableIn (off := 409) (tgt := 442) hx hb dL_law_33 (by rw [c20]; decide) (by rw [c20]; decide) (by rw [c20]; rfl) (by decide) ?_
        exact lc_sleeps C0 F hL hi hl hI kk
      by_cases c21 : x = 11
      · refine lv_tableIn (off := 432) (tgt := 465) hx hb dL_law_33 (by rw [c21]; decide) (by rw [c21]; decide) (by rw [c21]; rfl) (by decide) ?_
        exact lc_pour C0 F hL hi hl hI kk
      by_cases c22 : x = 12
      · refine lv_tableIn (off := 455) (tgt := 488) hx hb dL_law_33 (by rw [c22]; decide) (by rw [c22]; decide) (by rw [c22]; rfl) (by decide) ?_
        exact lc_best C0 F hL hi hl hI kk
      by_cases c23 : x = 13
      · refine lv_tableIn (off := 478) (tgt := 511) hx hb dL_law_33 (by rw [c23]; decide) (by rw [c23]; decide) (by rw [c23]; rfl) (by decide) ?_
        exact lc_blend C0 F hL hi hl hI kk
      by_cases c24 : x = 14
      · refine lv_tableIn (off := 522) (tgt := 555) hx hb dL_law_33 (by rw [c24]; decide) (by rw [c24]; decide) (by rw [c24]; rfl) (by decide) ?_
        exact lc_tells C0 F hL hi hl hI kk
      by_cases c25 : x = 15
      · refine lv_tableIn (off := 565) (tgt := 598) hx hb dL_law_33 (by rw [c25]; decide) (by rw [c25]; decide) (by rw [c25]; rfl) (by decide) ?_
        exact lc_film C0 F hL hi hl hI kk
      by_cases c26 : x = 16
      · refine lv_tableIn (off := 608) (tgt := 641) hx hb dL_law_33 (by rw [c26]; decide) (by rw [c26]; decide) (by rw [c26]; rfl) (by decide) ?_
        exact lc_drawn C0 F hL hi hl hI kk
      by_cases c27 : x = 17
      · refine lv_tableIn (off := 641) (tgt := 674) hx hb dL_law_33 (by rw [c27]; decide) (by rw [c27]; decide) (by rw [c27]; rfl) (by decide) ?_
        exact lc_chance C0 F hL hi hl hI kk
      by_cases c28 : x = 18
      · refine lv_tableIn (off := 695) (tgt := 728) hx hb dL_law_33 (by rw [c28]; decide) (by rw [c28]; decide) (by rw [c28]; rfl) (by decide) ?_
        exact lc_image C0 F hL hi hl hI kk
      by_cases c29 : x = 19
      · refine lv_tableIn (off := 708) (tgt := 741) hx hb dL_law_33 (by rw [c29]; decide) (by rw [c29]; decide) (by rw [c29]; rfl) (by decide) ?_
        exact lc_back C0 F hL hi hl hI kk
      by_cases c30 : x = 20
      · refine lv_tableIn (off := 721) (tgt := 754) hx hb dL_law_33 (by rw [c30]; decide) (by rw [c30]; decide) (by rw [c30]; rfl) (by decide) ?_
        exact lc_count C0 F hL hi hl hI kk
      by_cases c31 : x = 21
      · refine lv_tableIn (off := 744) (tgt := 777) hx hb dL_law_33 (by rw [c31]; decide) (by rw [c31]; decide) (by rw [c31]; rfl) (by decide) ?_
        exact lc_sheet C0 F hL hi hl hI kk
      by_cases c32 : x = 22
      · refine lv_tableIn (off := 787) (tgt := 820) hx hb dL_law_33 (by rw [c32]; decide) (by rw [c32]; decide) (by rw [c32]; rfl) (by decide) ?_
        exact lc_cell C0 F hL hi hl hI kk
      by_cases c33 : x = 23
      · refine lv_tableIn (off := 830) (tgt := 863) hx hb dL_law_33 (by rw [c33]; decide) (by rw [c33]; decide) (by rw [c33]; rfl) (by decide) ?_
        exact lc_copy C0 F hL hi hl hI kk
      by_cases c34 : x = 24
      · refine lv_tableIn (off := 893) (tgt := 926) hx hb dL_law_33 (by rw [c34]; decide) (by rw [c34]; decide) (by rw [c34]; rfl) (by decide) ?_
        exact lc_house C0 F hL hi hl hI kk
      by_cases c35 : x = 25
      · refine lv_tableIn (off := 946) (tgt := 979) hx hb dL_law_33 (by rw [c35]; decide) (by rw [c35]; decide) (by rw [c35]; rfl) (by decide) ?_
        exact lc_taken C0 F hL hi hl hI kk
      have n0 : ¬ x.toInt = 0 := fun q => c10 (Int32.toInt_inj.mp q)
      have n1 : ¬ x.toInt = 1 := fun q => c11 (Int32.toInt_inj.mp q)
      have n2 : ¬ x.toInt = 2 := fun q => c12 (Int32.toInt_inj.mp q)
      have n3 : ¬ x.toInt = 3 := fun q => c13 (Int32.toInt_inj.mp q)
      have n4 : ¬ x.toInt = 4 := fun q => c14 (Int32.toInt_inj.mp q)
      have n5 : ¬ x.toInt = 5 := fun q => c15 (Int32.toInt_inj.mp q)
      have n6 : ¬ x.toInt = 6 := fun q => c16 (Int32.toInt_inj.mp q)
      have n7 : ¬ x.toInt = 7 := fun q => c17 (Int32.toInt_inj.mp q)
      have n8 : ¬ x.toInt = 8 := fun q => c18 (Int32.toInt_inj.mp q)
      have n9 : ¬ x.toInt = 9 := fun q => c19 (Int32.toInt_inj.mp q)
      have n10 : ¬ x.toInt = 10 := fun q => c20 (Int32.toInt_inj.mp q)
      have n11 : ¬ x.toInt = 11 := fun q => c21 (Int32.toInt_inj.mp q)
      have n12 : ¬ x.toInt = 12 := fun q => c22 (Int32.toInt_inj.mp q)
      have n13 : ¬ x.toInt = 13 := fun q => c23 (Int32.toInt_inj.mp q)
      have n14 : ¬ x.toInt = 14 := fun q => c24 (Int32.toInt_inj.mp q)
      have n15 : ¬ x.toInt = 15 := fun q => c25 (Int32.toInt_inj.mp q)
      have n16 : ¬ x.toInt = 16 := fun q => c26 (Int32.toInt_inj.mp q)
      have n17 : ¬ x.toInt = 17 := fun q => c27 (Int32.toInt_inj.mp q)
      have n18 : ¬ x.toInt = 18 := fun q => c28 (Int32.toInt_inj.mp q)
      have n19 : ¬ x.toInt = 19 := fun q => c29 (Int32.toInt_inj.mp q)
      have n20 : ¬ x.toInt = 20 := fun q => c30 (Int32.toInt_inj.mp q)
      have n21 : ¬ x.toInt = 21 := fun q => c31 (Int32.toInt_inj.mp q)
      have n22 : ¬ x.toInt = 22 := fun q => c32 (Int32.toInt_inj.mp q)
      have n23 : ¬ x.toInt = 23 := fun q => c33 (Int32.toInt_inj.mp q)
      have n24 : ¬ x.toInt = 24 := fun q => c34 (Int32.toInt_inj.mp q)
      have n25 : ¬ x.toInt = 25 := fun q => c35 (Int32.toInt_inj.mp q)
      refine lv_tableOut (tgt := 1012) hx hb dL_law_33 (by omega) (by decide) ?_
      exact kk σ μ H locs hI
