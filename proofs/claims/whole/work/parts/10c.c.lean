def f_X3_pourOf_63 (k15 : Int32 → Int32 → Int32 → Sg → Option (Int32 × Sg)) (i2 : Nat) (x3 : Int32) (y4 : Int32) (y5 : Int32) (y6 : Int32) (y7 : Int32) (τ : Sg) : Option (Int32 × Sg) := if i2 < 3 then if okI x3 5 then if okI y6 6 then if okI y6 6 then if okI y6 6 then (some (up (up τ (64 + ((x3).toNatClampNeg)) (y6).toNatClampNeg y7) (11 * i2 + 10) (y6).toNatClampNeg (((up τ (64 + ((x3).toNatClampNeg)) (y6).toNatClampNeg y7) (11 * i2 + 10) (y6).toNatClampNeg) + y7))).bind fun (τ19 : Sg) => k15 (y4) ((y5 - y7)) ((y6 + (1 : Int32))) τ19 else none else none else none else none else none
def f_X3_pourOf_15 (i2 : Nat) (x3 : Int32) : Nat → Int32 → Int32 → Int32 → Sg → Option (Int32 × Sg)
  | 0, _, _, _, _ => none
  | n + 1, y4, y5, y6, τ => if i2 < 3 then if (6 : Int32) ≤ y6 then some ((y4 - y5), τ) else if okI y6 6 then if okI y6 6 then (some (if ((τ (11 * i2 + 8) (y6).toNatClampNeg) - (τ (11 * i2 + 10) (y6).toNatClampNeg)) < y5 then ((τ (11 * i2 + 8) (y6).toNatClampNeg) - (τ (11 * i2 + 10) (y6).toNatClampNeg)) else y5)).bind fun (v8 : Int32) => if v8 ≤ 0 then f_X3_pourOf_63 (f_X3_pourOf_15 i2 x3 n) i2 x3 (y4) (y5) (y6) (v8) τ else (f_X2_suitsCup (i2) x3 y6 τ).bind fun (q11 : Int32 × Sg) => if q11.1 = 0 then f_X3_pourOf_63 (f_X3_pourOf_15 i2 x3 n) i2 x3 (y4) (y5) (y6) ((0 : Int32)) q11.2 else f_X3_pourOf_63 (f_X3_pourOf_15 i2 x3 n) i2 x3 (y4) (y5) (y6) (v8) q11.2 else none else none else none
def f_X3_pourOf (i2 : Nat) (x3 : Int32) (σ : Sg) : Option (Int32 × Sg) := if i2 < 3 then (f_X2_yieldOf (i2) x3 σ).bind fun (q2 : Int32 × Sg) => f_X3_pourOf_15 i2 x3 5000 (q2.1) (q2.1) ((0 : Int32)) q2.2 else none
set_option maxHeartbeats 40000000 in
set_option maxRecDepth 100000 in
theorem c_X3_pourOf (l : Launch) (Γ : Geo) (hG : okC Γ) (i2 : Nat) (x3 : Int32) (σ : Sg) (r : Int32) (σ' : Sg) (hf : f_X3_pourOf i2 x3 σ = some (r, σ')) (sz : Nat) : Met l yX3_pourOf (wz yX3_pourOf cX3_pourOf 8 (some .int)) { frames := 3, cells := 0, slots := 0, locals := 77 } (va_Pc [.ref (Γ.2.2.1 (51)), .ref (Γ.2.2.1 (27)), .ref (Γ.2.2.1 (1 + 8 * i2)), .int x3] (wPre Γ.1 vwCl (tysC Γ) (XC Γ) (alC Γ) Γ.2.2.2 σ sz)) (wQi Γ.1 vwCl (tysC Γ) (XC Γ) (alC Γ) r σ' sz) 0 0 (wA (alC Γ) sz) := by
  refine w_enter (cc := cX3_pourOf) (maxL := 8) (ret := (some .int)) (by decide) rfl (Nat.le_of_ble_eq_true rfl) ?_
  intro p e s m below meth c ls hx hb hr hlocks hml hown hts hsz hP hK hkc hN hl
  subst hsz
  generalize hav : ([.ref (Γ.2.2.1 (51)), .ref (Γ.2.2.1 (27)), .ref (Γ.2.2.1 (1 + 8 * i2)), .int x3] : List Value) = av at hl hts ⊢
  have hl : lv_has ls 8 [(0, .ref (Γ.2.2.1 (51))), (1, .ref (Γ.2.2.1 (27))), (2, .ref (Γ.2.2.1 (1 + 8 * i2))), (3, .int x3)] := by rw [← hav] at hl; exact hl
  have j15 : ∀ (n15 : Nat), ∀ (y4 : Int32) (y5 : Int32) (y6 : Int32) (τ : Sg) (H : Heap) (locs : List Loc) (ls : Array Slot) (hf : f_X3_pourOf_15 i2 x3 n15 y4 y5 y6 τ = some (r, σ')) (hP : va_P Γ.1 vwCl (XC Γ τ) H) (hS : va_S (wA (alC Γ) s.heap.size) s.heap H locs) (hl : lv_has ls 8 [(0, .ref (Γ.2.2.1 (51))), (1, .ref (Γ.2.2.1 (27))), (2, .ref (Γ.2.2.1 (1 + 8 * i2))), (3, .int x3), (4, .int y4), (5, .int y5), (6, .int y6)]), W p l e { frames := 3, cells := 0, slots := 0, locals := 77 } s m av.toArray below meth c H locs 0 0 (MQ below (wQi Γ.1 vwCl (tysC Γ) (XC Γ) (alC Γ) r σ' s.heap.size) av.toArray s 0 0 (wA (alC Γ) s.heap.size)) (F0 m 15 ls []) := by
    intro n15
    induction n15 with
    | zero =>
      intro y4 y5 y6 τ H locs ls hf
      exact absurd hf (by intro h; cases h)
    | succ n15 ih15 =>
      have j63 : ∀ (y4 : Int32) (y5 : Int32) (y6 : Int32) (y7 : Int32) (τ : Sg) (H : Heap) (locs : List Loc) (ls : Array Slot) (hf : f_X3_pourOf_63 (f_X3_pourOf_15 i2 x3 n15) i2 x3 y4 y5 y6 y7 τ = some (r, σ')) (hP : va_P Γ.1 vwCl (XC Γ τ) H) (hS : va_S (wA (alC Γ) s.heap.size) s.heap H locs) (hl : lv_has ls 8 [(0, .ref (Γ.2.2.1 (51))), (1, .ref (Γ.2.2.1 (27))), (2, .ref (Γ.2.2.1 (1 + 8 * i2))), (3, .int x3), (4, .int y4), (5, .int y5), (6, .int y6), (7, .int y7)]), W p l e { frames := 3, cells := 0, slots := 0, locals := 77 } s m av.toArray below meth c H locs 0 0 (MQ below (wQi Γ.1 vwCl (tysC Γ) (XC Γ) (alC Γ) r σ' s.heap.size) av.toArray s 0 0 (wA (alC Γ) s.heap.size)) (F0 m 63 ls []) := by
        intro y4 y5 y6 y7 τ H locs ls hf hP hS hl
        unfold f_X3_pourOf_63 at hf
        obtain ⟨g14, hf⟩ := w_oi hf
        refine lv_aload_n hx hb dX3_pourOf_63 rfl (lv_at hl 0 rfl) ?_
        refine va_get (D := Γ.1) (ci := 3) (v := .ref (Γ.2.2.1 (52))) (C := RX3) (T := TX3) (N := 1) hx hb hts iX3 hown hK hP (51) (gC_Pouring Γ τ) rfl 0 (by decide) (hts (.fieldLink RX3 11 "OtherHalfOfNight$Pouring" "into" "[[I") (wzm K92)) (fun _ h9 => h9) rfl dX3_pourOf_64 ?_
        refine lv_iload_n hx hb dX3_pourOf_67 rfl (lv_at hl 3 rfl) ?_
        obtain ⟨g15, hf⟩ := w_oi hf
        refine w_aald2 (D := Γ.1) (tys := (tysC Γ)) (g := fun j => Γ.2.2.1 (53 + j)) hx hb hK hP (52) 5 (gC_intos Γ τ) rfl g15 dX3_pourOf_68 ?_
        refine lv_iload hx hb dX3_pourOf_69 (lv_at hl 6 rfl) ?_
        refine lv_iload hx hb dX3_pourOf_71 (lv_at hl 7 rfl) ?_
        obtain ⟨g16, hf⟩ := w_oi hf
        refine w_iast (D := Γ.1) (tys := (tysC Γ)) (X := XC Γ) (σ' := (up τ (64 + ((x3).toNatClampNeg)) (y6).toNatClampNeg y7)) hx hb hK hP (halC Γ) hG hS (53 + ((x3).toNatClampNeg)) 0 (gC_into Γ τ ((x3).toNatClampNeg) (w_lt g15)) rfl g16 dX3_pourOf_73 (sC_into Γ τ ((x3).toNatClampNeg) (w_lt g15) (y6).toNatClampNeg y7) (fun H locs hP hS => ?_)
        refine lv_aload_n hx hb dX3_pourOf_74 rfl (lv_at hl 2 rfl) ?_
        refine va_get (D := Γ.1) (ci := 1) (v := .ref (Γ.2.2.1 (8 + 8 * i2))) (C := RX1) (T := TX1) (N := 11) hx hb hts iX1 hown hK hP (1 + 8 * i2) (gC_House Γ (up τ (64 + ((x3).toNatClampNeg)) (y6).toNatClampNeg y7) (i2) g14) rfl 10 (by decide) (hts (.fieldLink RX3 35 "OtherHalfOfNight$House" "hold" "[I") (wzm K655)) (fun _ h9 => h9) rfl dX3_pourOf_75 ?_
        refine lv_iload hx hb dX3_pourOf_78 (lv_at hl 6 rfl) ?_
        refine lv_dup2_11 hx hb dX3_pourOf_80 rfl rfl ?_
        obtain ⟨g17, hf⟩ := w_oi hf
        refine va_iald (D := Γ.1) (tys := (tysC Γ)) hx hb hK hP (8 + 8 * i2) 0 (gC_House_hold Γ (up τ (64 + ((x3).toNatClampNeg)) (y6).toNatClampNeg y7) (i2) g14) rfl g17 dX3_pourOf_81 ?_
        refine lv_iload hx hb dX3_pourOf_82 (lv_at hl 7 rfl) ?_
        refine lv_iadd hx hb dX3_pourOf_84 ?_
        obtain ⟨g18, hf⟩ := w_oi hf
        refine w_iast (D := Γ.1) (tys := (tysC Γ)) (X := XC Γ) (σ' := (up (up τ (64 + ((x3).toNatClampNeg)) (y6).toNatClampNeg y7) (11 * i2 + 10) (y6).toNatClampNeg (((up τ (64 + ((x3).toNatClampNeg)) (y6).toNatClampNeg y7) (11 * i2 + 10) (y6).toNatClampNeg) + y7))) hx hb hK hP (halC Γ) hG hS (8 + 8 * i2) 0 (gC_House_hold Γ (up τ (64 + ((x3).toNatClampNeg)) (y6).toNatClampNeg y7) (i2) g14) rfl g18 dX3_pourOf_85 (sC_House_hold Γ (up τ (64 + ((x3).toNatClampNeg)) (y6).toNatClampNeg y7) (i2) g14 (y6).toNatClampNeg (((up τ (64 + ((x3).toNatClampNeg)) (y6).toNatClampNeg y7) (11 * i2 + 10) (y6).toNatClampNeg) + y7)) (fun H locs hP hS => ?_)
        obtain ⟨τ19, e20, hf⟩ := w_ob hf
        replace e20 := Option.some.inj e20
        rw [e20] at hP
        refine lv_iload hx hb dX3_pourOf_86 (lv_at hl 5 rfl) ?_
        refine lv_iload hx hb dX3_pourOf_88 (lv_at hl 7 rfl) ?_
        refine lv_isub hx hb dX3_pourOf_90 ?_
        refine lv_istore (lv' := [(5, .int (y5 - y7)), (0, .ref (Γ.2.2.1 (51))), (1, .ref (Γ.2.2.1 (27))), (2, .ref (Γ.2.2.1 (1 + 8 * i2))), (3, .int x3), (4, .int y4), (6, .int y6), (7, .int y7)]) hx hb dX3_pourOf_91 hl (by decide) rfl (fun ls hl => ?_)
        refine lv_iinc (v := (y6 + (1 : Int32))) (lv' := [(6, .int (y6 + (1 : Int32))), (5, .int (y5 - y7)), (0, .ref (Γ.2.2.1 (51))), (1, .ref (Γ.2.2.1 (27))), (2, .ref (Γ.2.2.1 (1 + 8 * i2))), (3, .int x3), (4, .int y4), (7, .int y7)]) hx hb dX3_pourOf_93 hl (k := 6) rfl rfl (by decide) rfl (fun ls hl => ?_)
        refine lv_goto (tgt := 15) hx hb dX3_pourOf_96 (by decide) ?_
        exact ih15 (y4) ((y5 - y7)) ((y6 + (1 : Int32))) τ19 H locs ls hf hP hS (lv_sub hl [2, 3, 4, 5, 6, 1, 0] rfl)
      intro y4 y5 y6 τ H locs ls hf hP hS hl
      unfold f_X3_pourOf_15 at hf
      obtain ⟨g4, hf⟩ := w_oi hf
      refine lv_iload hx hb dX3_pourOf_15 (lv_at hl 6 rfl) ?_
      refine lv_bipush (v := (6 : Int32)) hx hb dX3_pourOf_17 (by decide) ?_
      refine lv_icmp_ge (tgt := 99) hx hb dX3_pourOf_19 (by decide) (fun c5 => ?_) (fun c5 => ?_)
      · replace hf := (if_pos c5).symm.trans hf
        refine lv_iload hx hb dX3_pourOf_99 (lv_at hl 4 rfl) ?_
        refine lv_iload hx hb dX3_pourOf_101 (lv_at hl 5 rfl) ?_
        refine lv_isub hx hb dX3_pourOf_103 ?_
        exact w_iret (X := XC Γ) hx hb hr hlocks hK hP hS rfl hf dX3_pourOf_104
      · replace hf := (if_neg c5).symm.trans hf
        refine lv_iload hx hb dX3_pourOf_22 (lv_at hl 5 rfl) ?_
        refine lv_aload_n hx hb dX3_pourOf_24 rfl (lv_at hl 2 rfl) ?_
        refine va_get (D := Γ.1) (ci := 1) (v := .ref (Γ.2.2.1 (6 + 8 * i2))) (C := RX1) (T := TX1) (N := 11) hx hb hts iX1 hown hK hP (1 + 8 * i2) (gC_House Γ τ (i2) g4) rfl 8 (by decide) (hts (.fieldLink RX3 47 "OtherHalfOfNight$House" "want" "[I") (wzm K660)) (fun _ h9 => h9) rfl dX3_pourOf_25 ?_
        refine lv_iload hx hb dX3_pourOf_28 (lv_at hl 6 rfl) ?_
        obtain ⟨g6, hf⟩ := w_oi hf
        refine va_iald (D := Γ.1) (tys := (tysC Γ)) hx hb hK hP (6 + 8 * i2) 0 (gC_House_want Γ τ (i2) g4) rfl g6 dX3_pourOf_30 ?_
        refine lv_aload_n hx hb dX3_pourOf_31 rfl (lv_at hl 2 rfl) ?_
        refine va_get (D := Γ.1) (ci := 1) (v := .ref (Γ.2.2.1 (8 + 8 * i2))) (C := RX1) (T := TX1) (N := 11) hx hb hts iX1 hown hK hP (1 + 8 * i2) (gC_House Γ τ (i2) g4) rfl 10 (by decide) (hts (.fieldLink RX3 35 "OtherHalfOfNight$House" "hold" "[I") (wzm K655)) (fun _ h9 => h9) rfl dX3_pourOf_32 ?_
        refine lv_iload hx hb dX3_pourOf_35 (lv_at hl 6 rfl) ?_
        obtain ⟨g7, hf⟩ := w_oi hf
        refine va_iald (D := Γ.1) (tys := (tysC Γ)) hx hb hK hP (8 + 8 * i2) 0 (gC_House_hold Γ τ (i2) g4) rfl g7 dX3_pourOf_37 ?_
        refine lv_isub hx hb dX3_pourOf_38 ?_
        refine va_mmin hx hb (hml.trans hl.1.symm) hown (hts (.methodLink RX3 50 Lib.Math.min.name) (wzm K661)) (hts (.static Lib.Math.min.name) (wzm K374)) (hts (.initialized "java/lang/Math") (wzm K375)) (hts (.code Lib.Math.min.name Lib.Math.min.code 2 (some .int)) (wzm K376)) (Nat.le_of_ble_eq_true rfl) (Nat.le_of_ble_eq_true rfl) (Nat.le_refl _) (Nat.le_refl _) dX3_pourOf_39 ?_
        obtain ⟨v8, e9, hf⟩ := w_ob hf
        replace e9 := Option.some.inj e9
        rw [e9]
        refine lv_istore (lv' := [(7, .int v8), (0, .ref (Γ.2.2.1 (51))), (1, .ref (Γ.2.2.1 (27))), (2, .ref (Γ.2.2.1 (1 + 8 * i2))), (3, .int x3), (4, .int y4), (5, .int y5), (6, .int y6)]) hx hb dX3_pourOf_42 hl (by decide) rfl (fun ls hl => ?_)
        refine lv_iload hx hb dX3_pourOf_44 (lv_at hl 0 rfl) ?_
        refine lv_if_le (tgt := 63) hx hb dX3_pourOf_46 (by decide) (fun c10 => ?_) (fun c10 => ?_)
        · replace hf := (if_pos c10).symm.trans hf
          exact j63 (y4) (y5) (y6) (v8) τ H locs ls hf hP hS (lv_sub hl [1, 2, 3, 4, 5, 6, 7, 0] rfl)
        · replace hf := (if_neg c10).symm.trans hf
          refine lv_aload_n hx hb dX3_pourOf_49 rfl (lv_at hl 2 rfl) ?_
          refine lv_aload_n hx hb dX3_pourOf_50 rfl (lv_at hl 3 rfl) ?_
          refine lv_iload_n hx hb dX3_pourOf_51 rfl (lv_at hl 4 rfl) ?_
          refine lv_iload hx hb dX3_pourOf_52 (lv_at hl 7 rfl) ?_
          obtain ⟨q11, h12, hf⟩ := w_ob hf
          refine w_ci (va_runV (As := [.ref (Γ.2.2.1 (1 + 8 * i2)), .int x3, .int y6]) (rest := []) ⟨hx, hb, hml, hown, hts⟩ (c_X2_suitsCup l Γ hG (i2) x3 y6 τ q11.1 q11.2 h12 H.size) (cwV 3 hts (wzV K397 K663 K395 K396 K24) rfl rfl rfl (by decide +kernel) ⟨(Nat.le_of_ble_eq_true rfl), (Nat.le_of_ble_eq_true rfl)⟩) (w_preV hK hP hkc hN hS (gC_Law Γ τ) rfl) rfl rfl hl.1 rfl (lv_room (Nat.le_of_ble_eq_true rfl)) dX3_pourOf_54 ⟨Nat.le_refl _, Nat.le_refl _⟩) hS (fun H locs hP hS => ?_)
          refine lv_if_ne (tgt := 63) hx hb dX3_pourOf_57 (by decide) (fun c13 => ?_) (fun c13 => ?_)
          · replace hf := (if_neg c13).symm.trans hf
            exact j63 (y4) (y5) (y6) (v8) q11.2 H locs ls hf hP hS (lv_sub hl [1, 2, 3, 4, 5, 6, 7, 0] rfl)
          · replace hf := (if_pos c13).symm.trans hf
            refine lv_iconst (v := (0 : Int32)) hx hb dX3_pourOf_60 (by decide) ?_
            refine lv_istore (lv' := [(7, .int (0 : Int32)), (0, .ref (Γ.2.2.1 (51))), (1, .ref (Γ.2.2.1 (27))), (2, .ref (Γ.2.2.1 (1 + 8 * i2))), (3, .int x3), (4, .int y4), (5, .int y5), (6, .int y6)]) hx hb dX3_pourOf_61 hl (by decide) rfl (fun ls hl => ?_)
            exact j63 (y4) (y5) (y6) ((0 : Int32)) q11.2 H locs ls hf hP hS (lv_sub hl [1, 2, 3, 4, 5, 6, 7, 0] rfl)
  suffices hw : ∀ (H : Heap) (locs : List Loc), va_P Γ.1 vwCl (XC Γ σ) H → va_S (wA (alC Γ) s.heap.size) s.heap H locs → W p l e { frames := 3, cells := 0, slots := 0, locals := 77 } s m av.toArray below meth c H locs 0 0 (MQ below (wQi Γ.1 vwCl (tysC Γ) (XC Γ) (alC Γ) r σ' s.heap.size) av.toArray s 0 0 (wA (alC Γ) s.heap.size)) (F0 m 0 ls []) from hw _ [] hP va_S.rf
  clear hP
  intro H locs hP hS
  unfold f_X3_pourOf at hf
  obtain ⟨g1, hf⟩ := w_oi hf
  refine lv_aload_n hx hb dX3_pourOf_0 rfl (lv_at hl 1 rfl) ?_
  refine lv_aload_n hx hb dX3_pourOf_1 rfl (lv_at hl 2 rfl) ?_
  refine lv_iload_n hx hb dX3_pourOf_2 rfl (lv_at hl 3 rfl) ?_
  obtain ⟨q2, h3, hf⟩ := w_ob hf
  refine w_ci (va_runV (As := [.ref (Γ.2.2.1 (1 + 8 * i2)), .int x3]) (rest := []) ⟨hx, hb, hml, hown, hts⟩ (c_X2_yieldOf l Γ hG (i2) x3 σ q2.1 q2.2 h3 H.size) (cwV 2 hts (wzV K336 K662 K334 K335 K24) rfl rfl rfl (by decide +kernel) ⟨(Nat.le_of_ble_eq_true rfl), (Nat.le_of_ble_eq_true rfl)⟩) (w_preV hK hP hkc hN hS (gC_Law Γ σ) rfl) rfl rfl hl.1 rfl (lv_room (Nat.le_of_ble_eq_true rfl)) dX3_pourOf_3 ⟨Nat.le_refl _, Nat.le_refl _⟩) hS (fun H locs hP hS => ?_)
  refine lv_istore (lv' := [(4, .int q2.1), (0, .ref (Γ.2.2.1 (51))), (1, .ref (Γ.2.2.1 (27))), (2, .ref (Γ.2.2.1 (1 + 8 * i2))), (3, .int x3)]) hx hb dX3_pourOf_6 hl (by decide) rfl (fun ls hl => ?_)
  refine lv_iload hx hb dX3_pourOf_8 (lv_at hl 0 rfl) ?_
  refine lv_istore (lv' := [(5, .int q2.1), (4, .int q2.1), (0, .ref (Γ.2.2.1 (51))), (1, .ref (Γ.2.2.1 (27))), (2, .ref (Γ.2.2.1 (1 + 8 * i2))), (3, .int x3)]) hx hb dX3_pourOf_10 hl (by decide) rfl (fun ls hl => ?_)
  refine lv_iconst (v := (0 : Int32)) hx hb dX3_pourOf_12 (by decide) ?_
  refine lv_istore (lv' := [(6, .int (0 : Int32)), (5, .int q2.1), (4, .int q2.1), (0, .ref (Γ.2.2.1 (51))), (1, .ref (Γ.2.2.1 (27))), (2, .ref (Γ.2.2.1 (1 + 8 * i2))), (3, .int x3)]) hx hb dX3_pourOf_13 hl (by decide) rfl (fun ls hl => ?_)
  exact j15 5000 (q2.1) (q2.1) ((0 : Int32)) q2.2 H locs ls hf hP hS (lv_sub hl [3, 4, 5, 6, 2, 1, 0] rfl)
def f_X3_pourAll_26 (i2 : Nat) : Nat → Int32 → Int32 → Sg → Option (Int32 × Sg)
  | 0, _, _, _ => none
  | n + 1, y3, y4, τ => if i2 < 3 then if (τ (11 * i2 + 3) 0) ≤ y4 then some (y3, τ) else if (5 : Int32) ≤ y4 then some (y3, τ) else (f_X3_pourOf (i2) y4 τ).bind fun (q8 : Int32 × Sg) => (f_X3_pourAll_26 i2 n) ((y3 + q8.1)) ((y4 + (1 : Int32))) q8.2 else none
def f_X3_pourAll_2 (i2 : Nat) : Nat → Int32 → Sg → Option (Int32 × Sg)
  | 0, _, _ => none
  | n + 1, y3, τ => if i2 < 3 then if (6 : Int32) ≤ y3 then f_X3_pourAll_26 i2 5000 ((0 : Int32)) ((0 : Int32)) τ else if okI y3 6 then (f_X3_pourAll_2 i2 n) ((y3 + (1 : Int32))) (up τ (11 * i2 + 10) (y3).toNatClampNeg (0 : Int32)) else none else none
def f_X3_pourAll (i2 : Nat) (σ : Sg) : Option (Int32 × Sg) := if i2 < 3 then f_X3_pourAll_2 i2 5000 ((0 : Int32)) σ else none
set_option maxHeartbeats 40000000 in
set_option maxRecDepth 100000 in
theorem c_X3_pourAll (l : Launch) (Γ : Geo) (hG : okC Γ) (i2 : Nat) (σ : Sg) (r : Int32) (σ' : Sg) (hf : f_X3_pourAll i2 σ = some (r, σ')) (sz : Nat) : Met l yX3_pourAll (wz yX3_pourAll cX3_pourAll 5 (some .int)) { frames := 4, cells := 0, slots := 0, locals := 104 } (va_Pc [.ref (Γ.2.2.1 (51)), .ref (Γ.2.2.1 (27)), .ref (Γ.2.2.1 (1 + 8 * i2))] (wPre Γ.1 vwCl (tysC Γ) (XC Γ) (alC Γ) Γ.2.2.2 σ sz)) (wQi Γ.1 vwCl (tysC Γ) (XC Γ) (alC Γ) r σ' sz) 0 0 (wA (alC Γ) sz) := by
  refine w_enter (cc := cX3_pourAll) (maxL := 5) (ret := (some .int)) (by decide) rfl (Nat.le_of_ble_eq_true rfl) ?_
  intro p e s m below meth c ls hx hb hr hlocks hml hown hts hsz hP hK hkc hN hl
  subst hsz
  generalize hav : ([.ref (Γ.2.2.1 (51)), .ref (Γ.2.2.1 (27)), .ref (Γ.2.2.1 (1 + 8 * i2))] : List Value) = av at hl hts ⊢
  have hl : lv_has ls 5 [(0, .ref (Γ.2.2.1 (51))), (1, .ref (Γ.2.2.1 (27))), (2, .ref (Γ.2.2.1 (1 + 8 * i2)))] := by rw [← hav] at hl; exact hl
  have j26 : ∀ (n26 : Nat), ∀ (y3 : Int32) (y4 : Int32) (τ : Sg) (H : Heap) (locs : List Loc) (ls : Array Slot) (hf : f_X3_pourAll_26 i2 n26 y3 y4 τ = some (r, σ')) (hP : va_P Γ.1 vwCl (XC Γ τ) H) (hS : va_S (wA (alC Γ) s.heap.size) s.heap H locs) (hl : lv_has ls 5 [(0, .ref (Γ.2.2.1 (51))), (1, .ref (Γ.2.2.1 (27))), (2, .ref (Γ.2.2.1 (1 + 8 * i2))), (3, .int y3), (4, .int y4)]), W p l e { frames := 4, cells := 0, slots := 0, locals := 104 } s m av.toArray below meth c H locs 0 0 (MQ below (wQi Γ.1 vwCl (tysC Γ) (XC Γ) (alC Γ) r σ' s.heap.size) av.toArray s 0 0 (wA (alC Γ) s.heap.size)) (F0 m 26 ls []) := by
    intro n26
    induction n26 with
    | zero =>
      intro y3 y4 τ H locs ls hf
      exact absurd hf (by intro h; cases h)
    | succ n26 ih26 =>
      intro y3 y4 τ H locs ls hf hP hS hl
      unfold f_X3_pourAll_26 at hf
      obtain ⟨g5, hf⟩ := w_oi hf
      refine lv_iload hx hb dX3_pourAll_26 (lv_at hl 4 rfl) ?_
      refine lv_aload_n hx hb dX3_pourAll_28 rfl (lv_at hl 2 rfl) ?_
      refine va_get (D := Γ.1) (ci := 1) (v := .int (τ (11 * i2 + 3) 0)) (C := RX1) (T := TX1) (N := 11) hx hb hts iX1 hown hK hP (1 + 8 * i2) (gC_House Γ τ (i2) g5) rfl 3 (by decide) (hts (.fieldLink RX3 20 "OtherHalfOfNight$House" "ones" "I") (wzm K649)) (fun _ h9 => h9) rfl dX3_pourAll_29 ?_
      refine lv_icmp_ge (tgt := 58) hx hb dX3_pourAll_32 (by decide) (fun c6 => ?_) (fun c6 => ?_)
      · replace hf := (if_pos c6).symm.trans hf
        refine lv_iload_n hx hb dX3_pourAll_58 rfl (lv_at hl 3 rfl) ?_
        exact w_iret (X := XC Γ) hx hb hr hlocks hK hP hS rfl hf dX3_pourAll_59
      · replace hf := (if_neg c6).symm.trans hf
        refine lv_iload hx hb dX3_pourAll_35 (lv_at hl 4 rfl) ?_
        refine lv_iconst (v := (5 : Int32)) hx hb dX3_pourAll_37 (by decide) ?_
        refine lv_icmp_ge (tgt := 58) hx hb dX3_pourAll_38 (by decide) (fun c7 => ?_) (fun c7 => ?_)
        · replace hf := (if_pos c7).symm.trans hf
          refine lv_iload_n hx hb dX3_pourAll_58 rfl (lv_at hl 3 rfl) ?_
          exact w_iret (X := XC Γ) hx hb hr hlocks hK hP hS rfl hf dX3_pourAll_59
        · replace hf := (if_neg c7).symm.trans hf
          refine lv_iload_n hx hb dX3_pourAll_41 rfl (lv_at hl 3 rfl) ?_
          refine lv_aload_n hx hb dX3_pourAll_42 rfl (lv_at hl 0 rfl) ?_
          refine lv_aload_n hx hb dX3_pourAll_43 rfl (lv_at hl 1 rfl) ?_
          refine lv_aload_n hx hb dX3_pourAll_44 rfl (lv_at hl 2 rfl) ?_
          refine lv_iload hx hb dX3_pourAll_45 (lv_at hl 4 rfl) ?_
          obtain ⟨q8, h9, hf⟩ := w_ob hf
          refine w_ci (va_runV (As := [.ref (Γ.2.2.1 (27)), .ref (Γ.2.2.1 (1 + 8 * i2)), .int y4]) (rest := [.int y3]) ⟨hx, hb, hml, hown, hts⟩ (c_X3_pourOf l Γ hG (i2) y4 τ q8.1 q8.2 h9 H.size) (cwV 3 hts (wzV K659 K656 K657 K658 K28) rfl rfl rfl (by decide +kernel) ⟨(Nat.le_of_ble_eq_true rfl), (Nat.le_of_ble_eq_true rfl)⟩) (w_preV hK hP hkc hN hS (gC_Pouring Γ τ) rfl) rfl rfl hl.1 rfl (lv_room (Nat.le_of_ble_eq_true rfl)) dX3_pourAll_47 ⟨Nat.le_refl _, Nat.le_refl _⟩) hS (fun H locs hP hS => ?_)
          refine lv_iadd hx hb dX3_pourAll_50 ?_
          refine lv_istore_n (lv' := [(3, .int (y3 + q8.1)), (0, .ref (Γ.2.2.1 (51))), (1, .ref (Γ.2.2.1 (27))), (2, .ref (Γ.2.2.1 (1 + 8 * i2))), (4, .int y4)]) hx hb dX3_pourAll_51 rfl hl (by decide) rfl (fun ls hl => ?_)
          refine lv_iinc (v := (y4 + (1 : Int32))) (lv' := [(4, .int (y4 + (1 : Int32))), (3, .int (y3 + q8.1)), (0, .ref (Γ.2.2.1 (51))), (1, .ref (Γ.2.2.1 (27))), (2, .ref (Γ.2.2.1 (1 + 8 * i2)))]) hx hb dX3_pourAll_52 hl (k := 4) rfl rfl (by decide) rfl (fun ls hl => ?_)
          refine lv_goto (tgt := 26) hx hb dX3_pourAll_55 (by decide) ?_
          exact ih26 ((y3 + q8.1)) ((y4 + (1 : Int32))) q8.2 H locs ls hf hP hS (lv_sub hl [2, 3, 4, 1, 0] rfl)
  have j2 : ∀ (n2 : Nat), ∀ (y3 : Int32) (τ : Sg) (H : Heap) (locs : List Loc) (ls : Array Slot) (hf : f_X3_pourAll_2 i2 n2 y3 τ = some (r, σ')) (hP : va_P Γ.1 vwCl (XC Γ τ) H) (hS : va_S (wA (alC Γ) s.heap.size) s.heap H locs) (hl : lv_has ls 5 [(0, .ref (Γ.2.2.1 (51))), (1, .ref (Γ.2.2.1 (27))), (2, .ref (Γ.2.2.1 (1 + 8 * i2))), (3, .int y3)]), W p l e { frames := 4, cells := 0, slots := 0, locals := 104 } s m av.toArray below meth c H locs 0 0 (MQ below (wQi Γ.1 vwCl (tysC Γ) (XC Γ) (alC Γ) r σ' s.heap.size) av.toArray s 0 0 (wA (alC Γ) s.heap.size)) (F0 m 2 ls []) := by
    intro n2
    induction n2 with
    | zero =>
      intro y3 τ H locs ls hf
      exact absurd hf (by intro h; cases h)
    | succ n2 ih2 =>
      intro y3 τ H locs ls hf hP hS hl
      unfold f_X3_pourAll_2 at hf
      obtain ⟨g2, hf⟩ := w_oi hf
      refine lv_iload_n hx hb dX3_pourAll_2 rfl (lv_at hl 3 rfl) ?_
      refine lv_bipush (v := (6 : Int32)) hx hb dX3_pourAll_3 (by decide) ?_
      refine lv_icmp_ge (tgt := 21) hx hb dX3_pourAll_5 (by decide) (fun c3 => ?_) (fun c3 => ?_)
      · replace hf := (if_pos c3).symm.trans hf
        refine lv_iconst (v := (0 : Int32)) hx hb dX3_pourAll_21 (by decide) ?_
        refine lv_istore_n (lv' := [(3, .int (0 : Int32)), (0, .ref (Γ.2.2.1 (51))), (1, .ref (Γ.2.2.1 (27))), (2, .ref (Γ.2.2.1 (1 + 8 * i2)))]) hx hb dX3_pourAll_22 rfl hl (by decide) rfl (fun ls hl => ?_)
        refine lv_iconst (v := (0 : Int32)) hx hb dX3_pourAll_23 (by decide) ?_
        refine lv_istore (lv' := [(4, .int (0 : Int32)), (3, .int (0 : Int32)), (0, .ref (Γ.2.2.1 (51))), (1, .ref (Γ.2.2.1 (27))), (2, .ref (Γ.2.2.1 (1 + 8 * i2)))]) hx hb dX3_pourAll_24 hl (by decide) rfl (fun ls hl => ?_)
        exact j26 5000 ((0 : Int32)) ((0 : Int32)) τ H locs ls hf hP hS (lv_sub hl [2, 3, 4, 1, 0] rfl)
      · replace hf := (if_neg c3).symm.trans hf
        refine lv_aload_n hx hb dX3_pourAll_8 rfl (lv_at hl 2 rfl) ?_
        refine va_get (D := Γ.1) (ci := 1) (v := .ref (Γ.2.2.1 (8 + 8 * i2))) (C := RX1) (T := TX1) (N := 11) hx hb hts iX1 hown hK hP (1 + 8 * i2) (gC_House Γ τ (i2) g2) rfl 10 (by decide) (hts (.fieldLink RX3 35 "OtherHalfOfNight$House" "hold" "[I") (wzm K655)) (fun _ h9 => h9) rfl dX3_pourAll_9 ?_
        refine lv_iload_n hx hb dX3_pourAll_12 rfl (lv_at hl 3 rfl) ?_
        refine lv_iconst (v := (0 : Int32)) hx hb dX3_pourAll_13 (by decide) ?_
        obtain ⟨g4, hf⟩ := w_oi hf
        refine w_iast (D := Γ.1) (tys := (tysC Γ)) (X := XC Γ) (σ' := (up τ (11 * i2 + 10) (y3).toNatClampNeg (0 : Int32))) hx hb hK hP (halC Γ) hG hS (8 + 8 * i2) 0 (gC_House_hold Γ τ (i2) g2) rfl g4 dX3_pourAll_14 (sC_House_hold Γ τ (i2) g2 (y3).toNatClampNeg (0 : Int32)) (fun H locs hP hS => ?_)
        refine lv_iinc (v := (y3 + (1 : Int32))) (lv' := [(3, .int (y3 + (1 : Int32))), (0, .ref (Γ.2.2.1 (51))), (1, .ref (Γ.2.2.1 (27))), (2, .ref (Γ.2.2.1 (1 + 8 * i2)))]) hx hb dX3_pourAll_15 hl (k := 3) rfl rfl (by decide) rfl (fun ls hl => ?_)
        refine lv_goto (tgt := 2) hx hb dX3_pourAll_18 (by decide) ?_
        exact ih2 ((y3 + (1 : Int32))) (up τ (11 * i2 + 10) (y3).toNatClampNeg (0 : Int32)) H locs ls hf hP hS (lv_sub hl [1, 2, 3, 0] rfl)
  suffices hw : ∀ (H : Heap) (locs : List Loc), va_P Γ.1 vwCl (XC Γ σ) H → va_S (wA (alC Γ) s.heap.size) s.heap H locs → W p l e { frames := 4, cells := 0, slots := 0, locals := 104 } s m av.toArray below meth c H locs 0 0 (MQ below (wQi Γ.1 vwCl (tysC Γ) (XC Γ) (alC Γ) r σ' s.heap.size) av.toArray s 0 0 (wA (alC Γ) s.heap.size)) (F0 m 0 ls []) from hw _ [] hP va_S.rf
  clear hP
  intro H locs hP hS
  unfold f_X3_pourAll at hf
  obtain ⟨g1, hf⟩ := w_oi hf
  refine lv_iconst (v := (0 : Int32)) hx hb dX3_pourAll_0 (by decide) ?_
  refine lv_istore_n (lv' := [(3, .int (0 : Int32)), (0, .ref (Γ.2.2.1 (51))), (1, .ref (Γ.2.2.1 (27))), (2, .ref (Γ.2.2.1 (1 + 8 * i2)))]) hx hb dX3_pourAll_1 rfl hl (by decide) rfl (fun ls hl => ?_)
  exact j2 5000 ((0 : Int32)) σ H locs ls hf hP hS (lv_sub hl [1, 2, 3, 0] rfl)
def f_X3_pass_10 (i2 : Nat) : Nat → Int32 → Int32 → Sg → Option (Int32 × Sg)
  | 0, _, _, _ => none
  | n + 1, y3, y4, τ => if i2 < 3 then if (τ (11 * i2 + 3) 0) ≤ y4 then some (y3, (up τ (11 * i2) 0 ((τ (11 * i2) 0) + (1 : Int32)))) else (f_X2_easeOne (i2) y4 τ).bind fun (q6 : Sg) => (f_X3_pass_10 i2 n) (y3) ((y4 + (1 : Int32))) q6 else none
def f_X3_pass (i2 : Nat) (σ : Sg) : Option (Int32 × Sg) := if i2 < 3 then (f_X3_pourAll (i2) σ).bind fun (q2 : Int32 × Sg) => f_X3_pass_10 i2 5000 (q2.1) ((0 : Int32)) q2.2 else none
set_option maxHeartbeats 40000000 in
set_option maxRecDepth 100000 in
theorem c_X3_pass (l : Launch) (Γ : Geo) (hG : okC Γ) (i2 : Nat) (σ : Sg) (r : Int32) (σ' : Sg) (hf : f_X3_pass i2 σ = some (r, σ')) (sz : Nat) : Met l yX3_pass (wz yX3_pass cX3_pass 5 (some .int)) { frames := 5, cells := 0, slots := 0, locals := 128 } (va_Pc [.ref (Γ.2.2.1 (51)), .ref (Γ.2.2.1 (27)), .ref (Γ.2.2.1 (1 + 8 * i2))] (wPre Γ.1 vwCl (tysC Γ) (XC Γ) (alC Γ) Γ.2.2.2 σ sz)) (wQi Γ.1 vwCl (tysC Γ) (XC Γ) (alC Γ) r σ' sz) 0 0 (wA (alC Γ) sz) := by
  refine w_enter (cc := cX3_pass) (maxL := 5) (ret := (some .int)) (by decide) rfl (Nat.le_of_ble_eq_true rfl) ?_
  intro p e s m below meth c ls hx hb hr hlocks hml hown hts hsz hP hK hkc hN hl
  subst hsz
  generalize hav : ([.ref (Γ.2.2.1 (51)), .ref (Γ.2.2.1 (27)), .ref (Γ.2.2.1 (1 + 8 * i2))] : List Value) = av at hl hts ⊢
  have hl : lv_has ls 5 [(0, .ref (Γ.2.2.1 (51))), (1, .ref (Γ.2.2.1 (27))), (2, .ref (Γ.2.2.1 (1 + 8 * i2)))] := by rw [← hav] at hl; exact hl
  have j10 : ∀ (n10 : Nat), ∀ (y3 : Int32) (y4 : Int32) (τ : Sg) (H : Heap) (locs : List Loc) (ls : Array Slot) (hf : f_X3_pass_10 i2 n10 y3 y4 τ = some (r, σ')) (hP : va_P Γ.1 vwCl (XC Γ τ) H) (hS : va_S (wA (alC Γ) s.heap.size) s.heap H locs) (hl : lv_has ls 5 [(1, .ref (Γ.2.2.1 (27))), (2, .ref (Γ.2.2.1 (1 + 8 * i2))), (3, .int y3), (4, .int y4)]), W p l e { frames := 5, cells := 0, slots := 0, locals := 128 } s m av.toArray below meth c H locs 0 0 (MQ below (wQi Γ.1 vwCl (tysC Γ) (XC Γ) (alC Γ) r σ' s.heap.size) av.toArray s 0 0 (wA (alC Γ) s.heap.size)) (F0 m 10 ls []) := by
    intro n10
    induction n10 with
    | zero =>
      intro y3 y4 τ H locs ls hf
      exact absurd hf (by intro h; cases h)
    | succ n10 ih10 =>
      intro y3 y4 τ H locs ls hf hP hS hl
      unfold f_X3_pass_10 at hf
      obtain ⟨g4, hf⟩ := w_oi hf
      refine lv_iload hx hb dX3_pass_10 (lv_at hl 3 rfl) ?_
      refine lv_aload_n hx hb dX3_pass_12 rfl (lv_at hl 1 rfl) ?_
      refine va_get (D := Γ.1) (ci := 1) (v := .int (τ (11 * i2 + 3) 0)) (C := RX1) (T := TX1) (N := 11) hx hb hts iX1 hown hK hP (1 + 8 * i2) (gC_House Γ τ (i2) g4) rfl 3 (by decide) (hts (.fieldLink RX3 20 "OtherHalfOfNight$House" "ones" "I") (wzm K649)) (fun _ h9 => h9) rfl dX3_pass_13 ?_
      refine lv_icmp_ge (tgt := 32) hx hb dX3_pass_16 (by decide) (fun c5 => ?_) (fun c5 => ?_)
      · replace hf := (if_pos c5).symm.trans hf
        refine lv_aload_n hx hb dX3_pass_32 rfl (lv_at hl 1 rfl) ?_
        refine lv_dup hx hb dX3_pass_33 rfl ?_
        refine va_get (D := Γ.1) (ci := 1) (v := .int (τ (11 * i2) 0)) (C := RX1) (T := TX1) (N := 11) hx hb hts iX1 hown hK hP (1 + 8 * i2) (gC_House Γ τ (i2) g4) rfl 0 (by decide) (hts (.fieldLink RX3 32 "OtherHalfOfNight$House" "night" "I") (wzm K650)) (fun _ h9 => h9) rfl dX3_pass_34 ?_
        refine lv_iconst (v := (1 : Int32)) hx hb dX3_pass_37 (by decide) ?_
        refine lv_iadd hx hb dX3_pass_38 ?_
        refine w_put (X := XC Γ) (σ' := (up τ (11 * i2) 0 ((τ (11 * i2) 0) + (1 : Int32)))) (ci := 1) (C := RX1) (T := TX1) (N := 11) (ty := .int) hx hb hts iX1 tyX1 tyX1_ok nmX1 hown hK hP (halC Γ) hG hS (1 + 8 * i2) (gC_House Γ τ (i2) g4) rfl 0 (by decide) (hts (.fieldLink RX3 32 "OtherHalfOfNight$House" "night" "I") (wzm K650)) (fun _ h9 => h9) rfl (by decide +kernel) rfl rfl (Nat.le_of_ble_eq_true rfl) dX3_pass_39 (sC_House_night Γ τ (i2) g4 ((τ (11 * i2) 0) + (1 : Int32))) (fun H locs hP hS => ?_)
        refine lv_iload_n hx hb dX3_pass_42 rfl (lv_at hl 2 rfl) ?_
        exact w_iret (X := XC Γ) hx hb hr hlocks hK hP hS rfl hf dX3_pass_43
      · replace hf := (if_neg c5).symm.trans hf
        refine lv_aload_n hx hb dX3_pass_19 rfl (lv_at hl 0 rfl) ?_
        refine lv_aload_n hx hb dX3_pass_20 rfl (lv_at hl 1 rfl) ?_
        refine lv_iload hx hb dX3_pass_21 (lv_at hl 3 rfl) ?_
        obtain ⟨q6, h7, hf⟩ := w_ob hf
        refine w_cv (va_runV (As := [.ref (Γ.2.2.1 (1 + 8 * i2)), .int y4]) (rest := []) ⟨hx, hb, hml, hown, hts⟩ (c_X2_easeOne l Γ hG (i2) y4 τ q6 h7 H.size) (cwV 2 hts (wzV K667 K664 K665 K666 K24) rfl rfl rfl (by decide +kernel) ⟨(Nat.le_of_ble_eq_true rfl), (Nat.le_of_ble_eq_true rfl)⟩) (w_preV hK hP hkc hN hS (gC_Law Γ τ) rfl) rfl rfl hl.1 rfl (lv_room (Nat.le_of_ble_eq_true rfl)) dX3_pass_23 ⟨Nat.le_refl _, Nat.le_refl _⟩) hS (fun H locs hP hS => ?_)
        refine lv_iinc (v := (y4 + (1 : Int32))) (lv' := [(4, .int (y4 + (1 : Int32))), (1, .ref (Γ.2.2.1 (27))), (2, .ref (Γ.2.2.1 (1 + 8 * i2))), (3, .int y3)]) hx hb dX3_pass_26 hl (k := 3) rfl rfl (by decide) rfl (fun ls hl => ?_)
        refine lv_goto (tgt := 10) hx hb dX3_pass_29 (by decide) ?_
        exact ih10 (y3) ((y4 + (1 : Int32))) q6 H locs ls hf hP hS (lv_sub hl [1, 2, 3, 0] rfl)
  suffices hw : ∀ (H : Heap) (locs : List Loc), va_P Γ.1 vwCl (XC Γ σ) H → va_S (wA (alC Γ) s.heap.size) s.heap H locs → W p l e { frames := 5, cells := 0, slots := 0, locals := 128 } s m av.toArray below meth c H locs 0 0 (MQ below (wQi Γ.1 vwCl (tysC Γ) (XC Γ) (alC Γ) r σ' s.heap.size) av.toArray s 0 0 (wA (alC Γ) s.heap.size)) (F0 m 0 ls []) from hw _ [] hP va_S.rf
  clear hP
  intro H locs hP hS
  unfold f_X3_pass at hf
  obtain ⟨g1, hf⟩ := w_oi hf
  refine lv_aload_n hx hb dX3_pass_0 rfl (lv_at hl 0 rfl) ?_
  refine lv_aload_n hx hb dX3_pass_1 rfl (lv_at hl 1 rfl) ?_
  refine lv_aload_n hx hb dX3_pass_2 rfl (lv_at hl 2 rfl) ?_
  obtain ⟨q2, h3, hf⟩ := w_ob hf
  refine w_ci (va_runV (As := [.ref (Γ.2.2.1 (27)), .ref (Γ.2.2.1 (1 + 8 * i2))]) (rest := []) ⟨hx, hb, hml, hown, hts⟩ (c_X3_pourAll l Γ hG (i2) σ q2.1 q2.2 h3 H.size) (cwV 2 hts (wzV K654 K651 K652 K653 K28) rfl rfl rfl (by decide +kernel) ⟨(Nat.le_of_ble_eq_true rfl), (Nat.le_of_ble_eq_true rfl)⟩) (w_preV hK hP hkc hN hS (gC_Pouring Γ σ) rfl) rfl rfl hl.1 rfl (lv_room (Nat.le_of_ble_eq_true rfl)) dX3_pass_3 ⟨Nat.le_refl _, Nat.le_refl _⟩) hS (fun H locs hP hS => ?_)
  refine lv_istore_n (lv' := [(3, .int q2.1), (0, .ref (Γ.2.2.1 (51))), (1, .ref (Γ.2.2.1 (27))), (2, .ref (Γ.2.2.1 (1 + 8 * i2)))]) hx hb dX3_pass_6 rfl hl (by decide) rfl (fun ls hl => ?_)
  refine lv_iconst (v := (0 : Int32)) hx hb dX3_pass_7 (by decide) ?_
  refine lv_istore (lv' := [(4, .int (0 : Int32)), (3, .int q2.1), (0, .ref (Γ.2.2.1 (51))), (1, .ref (Γ.2.2.1 (27))), (2, .ref (Γ.2.2.1 (1 + 8 * i2)))]) hx hb dX3_pass_8 hl (by decide) rfl (fun ls hl => ?_)
  exact j10 5000 (q2.1) ((0 : Int32)) q2.2 H locs ls hf hP hS (lv_sub hl [3, 4, 1, 0] rfl)
def f_X0_cutBy_57 (x1 : Int32) : Nat → Int32 → Int32 → Int32 → Sg → Option (Int32 × Sg)
  | 0, _, _, _, _ => none
  | n + 1, y2, y3, y4, τ => if (6 : Int32) ≤ y4 then some (y2, τ) else if ((y3 >>> (y4 &&& 31)) &&& (1 : Int32)) = 0 then (f_X0_cutBy_57 x1 n) (y2) (y3) ((y4 + (1 : Int32))) τ else if okI y4 6 then (f_X0_cutBy_57 x1 n) ((y2 + (τ (72) (y4).toNatClampNeg))) (y3) ((y4 + (1 : Int32))) τ else none
def f_X0_cutBy_7 (x1 : Int32) : Nat → Int32 → Int32 → Int32 → Sg → Option (Int32 × Sg)
  | 0, _, _, _, _ => none
  | n + 1, y2, y3, y4, τ => if (τ (69) 0) ≤ y4 then f_X0_cutBy_57 x1 5000 (y2) (y3) ((0 : Int32)) τ else if ((x1 >>> (y4 &&& 31)) &&& (1 : Int32)) = 0 then if okI y4 5 then (f_X0_cutBy_7 x1 n) ((y2 + (τ (70) (y4).toNatClampNeg))) (y3) ((y4 + (1 : Int32))) τ else none else if okI y4 5 then (f_X0_cutBy_7 x1 n) (y2) ((y3 ||| (τ (71) (y4).toNatClampNeg))) ((y4 + (1 : Int32))) τ else none
def f_X0_cutBy (x1 : Int32) (σ : Sg) : Option (Int32 × Sg) := f_X0_cutBy_7 x1 5000 ((0 : Int32)) ((0 : Int32)) ((0 : Int32)) σ
set_option maxHeartbeats 40000000 in
set_option maxRecDepth 100000 in
theorem c_X0_cutBy (l : Launch) (Γ : Geo) (hG : okC Γ) (x1 : Int32) (σ : Sg) (r : Int32) (σ' : Sg) (hf : f_X0_cutBy x1 σ = some (r, σ')) (sz : Nat) : Met l yX0_cutBy (wz yX0_cutBy cX0_cutBy 5 (some .int)) { frames := 0, cells := 0, slots := 0, locals := 0 } (va_Pc [.ref (Γ.2.2.1 (58)), .int x1] (wPre Γ.1 vwCl (tysC Γ) (XC Γ) (alC Γ) Γ.2.2.2 σ sz)) (wQi Γ.1 vwCl (tysC Γ) (XC Γ) (alC Γ) r σ' sz) 0 0 (wA (alC Γ) sz) := by
  refine w_enter (cc := cX0_cutBy) (maxL := 5) (ret := (some .int)) (by decide) rfl (Nat.le_of_ble_eq_true rfl) ?_
  intro p e s m below meth c ls hx hb hr hlocks hml hown hts hsz hP hK hkc hN hl
  subst hsz
  generalize hav : ([.ref (Γ.2.2.1 (58)), .int x1] : List Value) = av at hl hts ⊢
  have hl : lv_has ls 5 [(0, .ref (Γ.2.2.1 (58))), (1, .int x1)] := by rw [← hav] at hl; exact hl
  have j57 : ∀ (n57 : Nat), ∀ (y2 : Int32) (y3 : Int32) (y4 : Int32) (τ : Sg) (H : Heap) (locs : List Loc) (ls : Array Slot) (hf : f_X0_cutBy_57 x1 n57 y2 y3 y4 τ = some (r, σ')) (hP : va_P Γ.1 vwCl (XC Γ τ) H) (hS : va_S (wA (alC Γ) s.heap.size) s.heap H locs) (hl : lv_has ls 5 [(0, .ref (Γ.2.2.1 (58))), (2, .int y2), (3, .int y3), (4, .int y4)]), W p l e { frames := 0, cells := 0, slots := 0, locals := 0 } s m av.toArray below meth c H locs 0 0 (MQ below (wQi Γ.1 vwCl (tysC Γ) (XC Γ) (alC Γ) r σ' s.heap.size) av.toArray s 0 0 (wA (alC Γ) s.heap.size)) (F0 m 57 ls []) := by
    intro n57
    induction n57 with
    | zero =>
      intro y2 y3 y4 τ H locs ls hf
      exact absurd hf (by intro h; cases h)
    | succ n57 ih57 =>
      intro y2 y3 y4 τ H locs ls hf hP hS hl
      unfold f_X0_cutBy_57 at hf
      refine lv_iload hx hb dX0_cutBy_57 (lv_at hl 3 rfl) ?_
      refine lv_bipush (v := (6 : Int32)) hx hb dX0_cutBy_59 (by decide) ?_
      refine lv_icmp_ge (tgt := 89) hx hb dX0_cutBy_61 (by decide) (fun c5 => ?_) (fun c5 => ?_)
      · replace hf := (if_pos c5).symm.trans hf
        refine lv_iload_n hx hb dX0_cutBy_89 rfl (lv_at hl 1 rfl) ?_
        exact w_iret (X := XC Γ) hx hb hr hlocks hK hP hS rfl hf dX0_cutBy_90
      · replace hf := (if_neg c5).symm.trans hf
        refine lv_iload_n hx hb dX0_cutBy_64 rfl (lv_at hl 2 rfl) ?_
        refine lv_iload hx hb dX0_cutBy_65 (lv_at hl 3 rfl) ?_
        refine lv_ishr hx hb dX0_cutBy_67 ?_
        refine lv_iconst (v := (1 : Int32)) hx hb dX0_cutBy_68 (by decide) ?_
        refine lv_iand hx hb dX0_cutBy_69 ?_
        refine lv_if_eq (tgt := 83) hx hb dX0_cutBy_70 (by decide) (fun c6 => ?_) (fun c6 => ?_)
        · replace hf := (if_pos c6).symm.trans hf
          refine lv_iinc (v := (y4 + (1 : Int32))) (lv' := [(4, .int (y4 + (1 : Int32))), (0, .ref (Γ.2.2.1 (58))), (2, .int y2), (3, .int y3)]) hx hb dX0_cutBy_83 hl (k := 3) rfl rfl (by decide) rfl (fun ls hl => ?_)
          refine lv_goto (tgt := 57) hx hb dX0_cutBy_86 (by decide) ?_
          exact ih57 (y2) (y3) ((y4 + (1 : Int32))) τ H locs ls hf hP hS (lv_sub hl [1, 2, 3, 0] rfl)
        · replace hf := (if_neg c6).symm.trans hf
          refine lv_iload_n hx hb dX0_cutBy_73 rfl (lv_at hl 1 rfl) ?_
          refine lv_aload_n hx hb dX0_cutBy_74 rfl (lv_at hl 0 rfl) ?_
          refine va_get (D := Γ.1) (ci := 0) (v := .ref (Γ.2.2.1 (61))) (C := RX0) (T := TX0) (N := 4) hx hb hts iX0 hown hK hP (58) (gC_Demand Γ τ) rfl 3 (by decide) (hts (.fieldLink RX0 18 "OtherHalfOfNight$Demand" "wants" "[I") (wzm K98)) (fun _ h9 => h9) rfl dX0_cutBy_75 ?_
          refine lv_iload hx hb dX0_cutBy_78 (lv_at hl 3 rfl) ?_
          obtain ⟨g7, hf⟩ := w_oi hf
          refine va_iald (D := Γ.1) (tys := (tysC Γ)) hx hb hK hP (61) 0 (gC_Demand_wants Γ τ) rfl g7 dX0_cutBy_80 ?_
          refine lv_iadd hx hb dX0_cutBy_81 ?_
          refine lv_istore_n (lv' := [(2, .int (y2 + (τ (72) (y4).toNatClampNeg))), (0, .ref (Γ.2.2.1 (58))), (3, .int y3), (4, .int y4)]) hx hb dX0_cutBy_82 rfl hl (by decide) rfl (fun ls hl => ?_)
          refine lv_iinc (v := (y4 + (1 : Int32))) (lv' := [(4, .int (y4 + (1 : Int32))), (2, .int (y2 + (τ (72) (y4).toNatClampNeg))), (0, .ref (Γ.2.2.1 (58))), (3, .int y3)]) hx hb dX0_cutBy_83 hl (k := 3) rfl rfl (by decide) rfl (fun ls hl => ?_)
          refine lv_goto (tgt := 57) hx hb dX0_cutBy_86 (by decide) ?_
          exact ih57 ((y2 + (τ (72) (y4).toNatClampNeg))) (y3) ((y4 + (1 : Int32))) τ H locs ls hf hP hS (lv_sub hl [2, 1, 3, 0] rfl)
  have j7 : ∀ (n7 : Nat), ∀ (y2 : Int32) (y3 : Int32) (y4 : Int32) (τ : Sg) (H : Heap) (locs : List Loc) (ls : Array Slot) (hf : f_X0_cutBy_7 x1 n7 y2 y3 y4 τ = some (r, σ')) (hP : va_P Γ.1 vwCl (XC Γ τ) H) (hS : va_S (wA (alC Γ) s.heap.size) s.heap H locs) (hl : lv_has ls 5 [(0, .ref (Γ.2.2.1 (58))), (1, .int x1), (2, .int y2), (3, .int y3), (4, .int y4)]), W p l e { frames := 0, cells := 0, slots := 0, locals := 0 } s m av.toArray below meth c H locs 0 0 (MQ below (wQi Γ.1 vwCl (tysC Γ) (XC Γ) (alC Γ) r σ' s.heap.size) av.toArray s 0 0 (wA (alC Γ) s.heap.size)) (F0 m 7 ls []) := by
    intro n7
    induction n7 with
    | zero =>
      intro y2 y3 y4 τ H locs ls hf
      exact absurd hf (by intro h; cases h)
    | succ n7 ih7 =>
      intro y2 y3 y4 τ H locs ls hf hP hS hl
      unfold f_X0_cutBy_7 at hf
      refine lv_iload hx hb dX0_cutBy_7 (lv_at hl 4 rfl) ?_
      refine lv_aload_n hx hb dX0_cutBy_9 rfl (lv_at hl 0 rfl) ?_
      refine va_get (D := Γ.1) (ci := 0) (v := .int (τ (69) 0)) (C := RX0) (T := TX0) (N := 4) hx hb hts iX0 hown hK hP (58) (gC_Demand Γ τ) rfl 0 (by decide) (hts (.fieldLink RX0 33 "OtherHalfOfNight$Demand" "ones" "I") (wzm K741)) (fun _ h9 => h9) rfl dX0_cutBy_10 ?_
      refine lv_icmp_ge (tgt := 54) hx hb dX0_cutBy_13 (by decide) (fun c1 => ?_) (fun c1 => ?_)
      · replace hf := (if_pos c1).symm.trans hf
        refine lv_iconst (v := (0 : Int32)) hx hb dX0_cutBy_54 (by decide) ?_
        refine lv_istore (lv' := [(4, .int (0 : Int32)), (0, .ref (Γ.2.2.1 (58))), (1, .int x1), (2, .int y2), (3, .int y3)]) hx hb dX0_cutBy_55 hl (by decide) rfl (fun ls hl => ?_)
        exact j57 5000 (y2) (y3) ((0 : Int32)) τ H locs ls hf hP hS (lv_sub hl [1, 3, 4, 0] rfl)
      · replace hf := (if_neg c1).symm.trans hf
        refine lv_iload_n hx hb dX0_cutBy_16 rfl (lv_at hl 1 rfl) ?_
        refine lv_iload hx hb dX0_cutBy_17 (lv_at hl 4 rfl) ?_
        refine lv_ishr hx hb dX0_cutBy_19 ?_
        refine lv_iconst (v := (1 : Int32)) hx hb dX0_cutBy_20 (by decide) ?_
        refine lv_iand hx hb dX0_cutBy_21 ?_
        refine lv_if_ne (tgt := 38) hx hb dX0_cutBy_22 (by decide) (fun c2 => ?_) (fun c2 => ?_)
        · replace hf := (if_neg c2).symm.trans hf
          refine lv_iload_n hx hb dX0_cutBy_38 rfl (lv_at hl 3 rfl) ?_
          refine lv_aload_n hx hb dX0_cutBy_39 rfl (lv_at hl 0 rfl) ?_
          refine va_get (D := Γ.1) (ci := 0) (v := .ref (Γ.2.2.1 (60))) (C := RX0) (T := TX0) (N := 4) hx hb hts iX0 hown hK hP (58) (gC_Demand Γ τ) rfl 2 (by decide) (hts (.fieldLink RX0 15 "OtherHalfOfNight$Demand" "suits" "[I") (wzm K97)) (fun _ h9 => h9) rfl dX0_cutBy_40 ?_
          refine lv_iload hx hb dX0_cutBy_43 (lv_at hl 4 rfl) ?_
          obtain ⟨g3, hf⟩ := w_oi hf
          refine va_iald (D := Γ.1) (tys := (tysC Γ)) hx hb hK hP (60) 0 (gC_Demand_suits Γ τ) rfl g3 dX0_cutBy_45 ?_
          refine lv_ior hx hb dX0_cutBy_46 ?_
          refine lv_istore_n (lv' := [(3, .int (y3 ||| (τ (71) (y4).toNatClampNeg))), (0, .ref (Γ.2.2.1 (58))), (1, .int x1), (2, .int y2), (4, .int y4)]) hx hb dX0_cutBy_47 rfl hl (by decide) rfl (fun ls hl => ?_)
          refine lv_iinc (v := (y4 + (1 : Int32))) (lv' := [(4, .int (y4 + (1 : Int32))), (3, .int (y3 ||| (τ (71) (y4).toNatClampNeg))), (0, .ref (Γ.2.2.1 (58))), (1, .int x1), (2, .int y2)]) hx hb dX0_cutBy_48 hl (k := 4) rfl rfl (by decide) rfl (fun ls hl => ?_)
          refine lv_goto (tgt := 7) hx hb dX0_cutBy_51 (by decide) ?_
          exact ih7 (y2) ((y3 ||| (τ (71) (y4).toNatClampNeg))) ((y4 + (1 : Int32))) τ H locs ls hf hP hS (lv_sub hl [2, 3, 4, 1, 0] rfl)
        · replace hf := (if_pos c2).symm.trans hf
          refine lv_iload_n hx hb dX0_cutBy_25 rfl (lv_at hl 2 rfl) ?_
          refine lv_aload_n hx hb dX0_cutBy_26 rfl (lv_at hl 0 rfl) ?_
          refine va_get (D := Γ.1) (ci := 0) (v := .ref (Γ.2.2.1 (59))) (C := RX0) (T := TX0) (N := 4) hx hb hts iX0 hown hK hP (58) (gC_Demand Γ τ) rfl 1 (by decide) (hts (.fieldLink RX0 9 "OtherHalfOfNight$Demand" "yields" "[I") (wzm K96)) (fun _ h9 => h9) rfl dX0_cutBy_27 ?_
          refine lv_iload hx hb dX0_cutBy_30 (lv_at hl 4 rfl) ?_
          obtain ⟨g4, hf⟩ := w_oi hf
          refine va_iald (D := Γ.1) (tys := (tysC Γ)) hx hb hK hP (59) 0 (gC_Demand_yields Γ τ) rfl g4 dX0_cutBy_32 ?_
          refine lv_iadd hx hb dX0_cutBy_33 ?_
          refine lv_istore_n (lv' := [(2, .int (y2 + (τ (70) (y4).toNatClampNeg))), (0, .ref (Γ.2.2.1 (58))), (1, .int x1), (3, .int y3), (4, .int y4)]) hx hb dX0_cutBy_34 rfl hl (by decide) rfl (fun ls hl => ?_)
          refine lv_goto (tgt := 48) hx hb dX0_cutBy_35 (by decide) ?_
          refine lv_iinc (v := (y4 + (1 : Int32))) (lv' := [(4, .int (y4 + (1 : Int32))), (2, .int (y2 + (τ (70) (y4).toNatClampNeg))), (0, .ref (Γ.2.2.1 (58))), (1, .int x1), (3, .int y3)]) hx hb dX0_cutBy_48 hl (k := 4) rfl rfl (by decide) rfl (fun ls hl => ?_)
          refine lv_goto (tgt := 7) hx hb dX0_cutBy_51 (by decide) ?_
          exact ih7 ((y2 + (τ (70) (y4).toNatClampNeg))) (y3) ((y4 + (1 : Int32))) τ H locs ls hf hP hS (lv_sub hl [2, 3, 1, 4, 0] rfl)
  suffices hw : ∀ (H : Heap) (locs : List Loc), va_P Γ.1 vwCl (XC Γ σ) H → va_S (wA (alC Γ) s.heap.size) s.heap H locs → W p l e { frames := 0, cells := 0, slots := 0, locals := 0 } s m av.toArray below meth c H locs 0 0 (MQ below (wQi Γ.1 vwCl (tysC Γ) (XC Γ) (alC Γ) r σ' s.heap.size) av.toArray s 0 0 (wA (alC Γ) s.heap.size)) (F0 m 0 ls []) from hw _ [] hP va_S.rf
  clear hP
  intro H locs hP hS
  unfold f_X0_cutBy at hf
  refine lv_iconst (v := (0 : Int32)) hx hb dX0_cutBy_0 (by decide) ?_
  refine lv_istore_n (lv' := [(2, .int (0 : Int32)), (0, .ref (Γ.2.2.1 (58))), (1, .int x1)]) hx hb dX0_cutBy_1 rfl hl (by decide) rfl (fun ls hl => ?_)
  refine lv_iconst (v := (0 : Int32)) hx hb dX0_cutBy_2 (by decide) ?_
  refine lv_istore_n (lv' := [(3, .int (0 : Int32)), (2, .int (0 : Int32)), (0, .ref (Γ.2.2.1 (58))), (1, .int x1)]) hx hb dX0_cutBy_3 rfl hl (by decide) rfl (fun ls hl => ?_)
  refine lv_iconst (v := (0 : Int32)) hx hb dX0_cutBy_4 (by decide) ?_
  refine lv_istore (lv' := [(4, .int (0 : Int32)), (3, .int (0 : Int32)), (2, .int (0 : Int32)), (0, .ref (Γ.2.2.1 (58))), (1, .int x1)]) hx hb dX0_cutBy_5 hl (by decide) rfl (fun ls hl => ?_)
  exact j7 5000 ((0 : Int32)) ((0 : Int32)) ((0 : Int32)) σ H locs ls hf hP hS (lv_sub hl [3, 4, 2, 1, 0] rfl)
def f_X0_most_8 : Nat → Int32 → Int32 → Sg → Option (Int32 × Sg)
  | 0, _, _, _ => none
  | n + 1, y1, y2, τ => if ((1 : Int32) <<< ((τ (69) 0) &&& 31)) ≤ y2 then some (y1, τ) else (f_X0_cutBy y2 τ).bind fun (q4 : Int32 × Sg) => (f_X0_most_8 n) ((if q4.1 < y1 then q4.1 else y1)) ((y2 + (1 : Int32))) q4.2
def f_X0_most (σ : Sg) : Option (Int32 × Sg) := (f_X0_cutBy (0 : Int32) σ).bind fun (q1 : Int32 × Sg) => f_X0_most_8 5000 (q1.1) ((1 : Int32)) q1.2
set_option maxHeartbeats 40000000 in
set_option maxRecDepth 100000 in
theorem c_X0_most (l : Launch) (Γ : Geo) (hG : okC Γ) (σ : Sg) (r : Int32) (σ' : Sg) (hf : f_X0_most σ = some (r, σ')) (sz : Nat) : Met l yX0_most (wz yX0_most cX0_most 3 (some .int)) { frames := 1, cells := 0, slots := 0, locals := 24 } (va_Pc [.ref (Γ.2.2.1 (58))] (wPre Γ.1 vwCl (tysC Γ) (XC Γ) (alC Γ) Γ.2.2.2 σ sz)) (wQi Γ.1 vwCl (tysC Γ) (XC Γ) (alC Γ) r σ' sz) 0 0 (wA (alC Γ) sz) := by
  refine w_enter (cc := cX0_most) (maxL := 3) (ret := (some .int)) (by decide) rfl (Nat.le_of_ble_eq_true rfl) ?_
  intro p e s m below meth c ls hx hb hr hlocks hml hown hts hsz hP hK hkc hN hl
  subst hsz
  generalize hav : ([.ref (Γ.2.2.1 (58))] : List Value) = av at hl hts ⊢
  have hl : lv_has ls 3 [(0, .ref (Γ.2.2.1 (58)))] := by rw [← hav] at hl; exact hl
  have j8 : ∀ (n8 : Nat), ∀ (y1 : Int32) (y2 : Int32) (τ : Sg) (H : Heap) (locs : List Loc) (ls : Array Slot) (hf : f_X0_most_8 n8 y1 y2 τ = some (r, σ')) (hP : va_P Γ.1 vwCl (XC Γ τ) H) (hS : va_S (wA (alC Γ) s.heap.size) s.heap H locs) (hl : lv_has ls 3 [(0, .ref (Γ.2.2.1 (58))), (1, .int y1), (2, .int y2)]), W p l e { frames := 1, cells := 0, slots := 0, locals := 24 } s m av.toArray below meth c H locs 0 0 (MQ below (wQi Γ.1 vwCl (tysC Γ) (XC Γ) (alC Γ) r σ' s.heap.size) av.toArray s 0 0 (wA (alC Γ) s.heap.size)) (F0 m 8 ls []) := by
    intro n8
    induction n8 with
    | zero =>
      intro y1 y2 τ H locs ls hf
      exact absurd hf (by intro h; cases h)
    | succ n8 ih8 =>
      intro y1 y2 τ H locs ls hf hP hS hl
      unfold f_X0_most_8 at hf
      refine lv_iload_n hx hb dX0_most_8 rfl (lv_at hl 2 rfl) ?_
      refine lv_iconst (v := (1 : Int32)) hx hb dX0_most_9 (by decide) ?_
      refine lv_aload_n hx hb dX0_most_10 rfl (lv_at hl 0 rfl) ?_
      refine va_get (D := Γ.1) (ci := 0) (v := .int (τ (69) 0)) (C := RX0) (T := TX0) (N := 4) hx hb hts iX0 hown hK hP (58) (gC_Demand Γ τ) rfl 0 (by decide) (hts (.fieldLink RX0 33 "OtherHalfOfNight$Demand" "ones" "I") (wzm K741)) (fun _ h9 => h9) rfl dX0_most_11 ?_
      refine lv_ishl hx hb dX0_most_14 ?_
      refine lv_icmp_ge (tgt := 34) hx hb dX0_most_15 (by decide) (fun c3 => ?_) (fun c3 => ?_)
      · replace hf := (if_pos c3).symm.trans hf
        refine lv_iload_n hx hb dX0_most_34 rfl (lv_at hl 1 rfl) ?_
        exact w_iret (X := XC Γ) hx hb hr hlocks hK hP hS rfl hf dX0_most_35
      · replace hf := (if_neg c3).symm.trans hf
        refine lv_iload_n hx hb dX0_most_18 rfl (lv_at hl 1 rfl) ?_
        refine lv_aload_n hx hb dX0_most_19 rfl (lv_at hl 0 rfl) ?_
        refine lv_iload_n hx hb dX0_most_20 rfl (lv_at hl 2 rfl) ?_
        obtain ⟨q4, h5, hf⟩ := w_ob hf
        refine w_ci (va_runV (As := [.int y2]) (rest := [.int y1]) ⟨hx, hb, hml, hown, hts⟩ (c_X0_cutBy l Γ hG y2 τ q4.1 q4.2 h5 H.size) (cwV 1 hts (wzV K753 K750 K751 K752 K32) rfl rfl rfl (by decide +kernel) ⟨(Nat.le_of_ble_eq_true rfl), (Nat.le_of_ble_eq_true rfl)⟩) (w_preV hK hP hkc hN hS (gC_Demand Γ τ) rfl) rfl rfl hl.1 rfl (lv_room (Nat.le_of_ble_eq_true rfl)) dX0_most_21 ⟨Nat.le_refl _, Nat.le_refl _⟩) hS (fun H locs hP hS => ?_)
        refine va_mmin hx hb (hml.trans hl.1.symm) hown (hts (.methodLink RX0 27 Lib.Math.min.name) (wzm K740)) (hts (.static Lib.Math.min.name) (wzm K374)) (hts (.initialized "java/lang/Math") (wzm K375)) (hts (.code Lib.Math.min.name Lib.Math.min.code 2 (some .int)) (wzm K376)) (Nat.le_of_ble_eq_true rfl) (Nat.le_of_ble_eq_true rfl) (Nat.le_refl _) (Nat.le_refl _) dX0_most_24 ?_
        refine lv_istore_n (lv' := [(1, .int (if q4.1 < y1 then q4.1 else y1)), (0, .ref (Γ.2.2.1 (58))), (2, .int y2)]) hx hb dX0_most_27 rfl hl (by decide) rfl (fun ls hl => ?_)
        refine lv_iinc (v := (y2 + (1 : Int32))) (lv' := [(2, .int (y2 + (1 : Int32))), (1, .int (if q4.1 < y1 then q4.1 else y1)), (0, .ref (Γ.2.2.1 (58)))]) hx hb dX0_most_28 hl (k := 2) rfl rfl (by decide) rfl (fun ls hl => ?_)
        refine lv_goto (tgt := 8) hx hb dX0_most_31 (by decide) ?_
        exact ih8 ((if q4.1 < y1 then q4.1 else y1)) ((y2 + (1 : Int32))) q4.2 H locs ls hf hP hS (lv_sub hl [2, 1, 0] rfl)
  suffices hw : ∀ (H : Heap) (locs : List Loc), va_P Γ.1 vwCl (XC Γ σ) H → va_S (wA (alC Γ) s.heap.size) s.heap H locs → W p l e { frames := 1, cells := 0, slots := 0, locals := 24 } s m av.toArray below meth c H locs 0 0 (MQ below (wQi Γ.1 vwCl (tysC Γ) (XC Γ) (alC Γ) r σ' s.heap.size) av.toArray s 0 0 (wA (alC Γ) s.heap.size)) (F0 m 0 ls []) from hw _ [] hP va_S.rf
  clear hP
  intro H locs hP hS
  unfold f_X0_most at hf
  refine lv_aload_n hx hb dX0_most_0 rfl (lv_at hl 0 rfl) ?_
  refine lv_iconst (v := (0 : Int32)) hx hb dX0_most_1 (by decide) ?_
  obtain ⟨q1, h2, hf⟩ := w_ob hf
  refine w_ci (va_runV (As := [.int (0 : Int32)]) (rest := []) ⟨hx, hb, hml, hown, hts⟩ (c_X0_cutBy l Γ hG (0 : Int32) σ q1.1 q1.2 h2 H.size) (cwV 1 hts (wzV K753 K750 K751 K752 K32) rfl rfl rfl (by decide +kernel) ⟨(Nat.le_of_ble_eq_true rfl), (Nat.le_of_ble_eq_true rfl)⟩) (w_preV hK hP hkc hN hS (gC_Demand Γ σ) rfl) rfl rfl hl.1 rfl (lv_room (Nat.le_of_ble_eq_true rfl)) dX0_most_2 ⟨Nat.le_refl _, Nat.le_refl _⟩) hS (fun H locs hP hS => ?_)
  refine lv_istore_n (lv' := [(1, .int q1.1), (0, .ref (Γ.2.2.1 (58)))]) hx hb dX0_most_5 rfl hl (by decide) rfl (fun ls hl => ?_)
  refine lv_iconst (v := (1 : Int32)) hx hb dX0_most_6 (by decide) ?_
  refine lv_istore_n (lv' := [(2, .int (1 : Int32)), (1, .int q1.1), (0, .ref (Γ.2.2.1 (58)))]) hx hb dX0_most_7 rfl hl (by decide) rfl (fun ls hl => ?_)
  exact j8 5000 (q1.1) ((1 : Int32)) q1.2 H locs ls hf hP hS (lv_sub hl [2, 1, 0] rfl)
def f_X0_leastCut_7 : Nat → Int32 → Int32 → Sg → Option (Int32 × Sg)
  | 0, _, _, _ => none
  | n + 1, y1, y2, τ => if ((1 : Int32) <<< ((τ (69) 0) &&& 31)) ≤ y2 then some ((0 : Int32), τ) else (f_X0_cutBy y2 τ).bind fun (q4 : Int32 × Sg) => if q4.1 = y1 then some (y2, q4.2) else (f_X0_leastCut_7 n) (y1) ((y2 + (1 : Int32))) q4.2
def f_X0_leastCut (σ : Sg) : Option (Int32 × Sg) := (f_X0_most σ).bind fun (q1 : Int32 × Sg) => f_X0_leastCut_7 5000 (q1.1) ((0 : Int32)) q1.2
set_option maxHeartbeats 40000000 in
set_option maxRecDepth 100000 in
theorem c_X0_leastCut (l : Launch) (Γ : Geo) (hG : okC Γ) (σ : Sg) (r : Int32) (σ' : Sg) (hf : f_X0_leastCut σ = some (r, σ')) (sz : Nat) : Met l yX0_leastCut (wz yX0_leastCut cX0_leastCut 3 (some .int)) { frames := 2, cells := 0, slots := 0, locals := 46 } (va_Pc [.ref (Γ.2.2.1 (58))] (wPre Γ.1 vwCl (tysC Γ) (XC Γ) (alC Γ) Γ.2.2.2 σ sz)) (wQi Γ.1 vwCl (tysC Γ) (XC Γ) (alC Γ) r σ' sz) 0 0 (wA (alC Γ) sz) := by
  refine w_enter (cc := cX0_leastCut) (maxL := 3) (ret := (some .int)) (by decide) rfl (Nat.le_of_ble_eq_true rfl) ?_
  intro p e s m below meth c ls hx hb hr hlocks hml hown hts hsz hP hK hkc hN hl
  subst hsz
  generalize hav : ([.ref (Γ.2.2.1 (58))] : List Value) = av at hl hts ⊢
  have hl : lv_has ls 3 [(0, .ref (Γ.2.2.1 (58)))] := by rw [← hav] at hl; exact hl
  have j7 : ∀ (n7 : Nat), ∀ (y1 : Int32) (y2 : Int32) (τ : Sg) (H : Heap) (locs : List Loc) (ls : Array Slot) (hf : f_X0_leastCut_7 n7 y1 y2 τ = some (r, σ')) (hP : va_P Γ.1 vwCl (XC Γ τ) H) (hS : va_S (wA (alC Γ) s.heap.size) s.heap H locs) (hl : lv_has ls 3 [(0, .ref (Γ.2.2.1 (58))), (1, .int y1), (2, .int y2)]), W p l e { frames := 2, cells := 0, slots := 0, locals := 46 } s m av.toArray below meth c H locs 0 0 (MQ below (wQi Γ.1 vwCl (tysC Γ) (XC Γ) (alC Γ) r σ' s.heap.size) av.toArray s 0 0 (wA (alC Γ) s.heap.size)) (F0 m 7 ls []) := by
    intro n7
    induction n7 with
    | zero =>
      intro y1 y2 τ H locs ls hf
      exact absurd hf (by intro h; cases h)
    | succ n7 ih7 =>
      intro y1 y2 τ H locs ls hf hP hS hl
      unfold f_X0_leastCut_7 at hf
      refine lv_iload_n hx hb dX0_leastCut_7 rfl (lv_at hl 2 rfl) ?_
      refine lv_iconst (v := (1 : Int32)) hx hb dX0_leastCut_8 (by decide) ?_
      refine lv_aload_n hx hb dX0_leastCut_9 rfl (lv_at hl 0 rfl) ?_
      refine va_get (D := Γ.1) (ci := 0) (v := .int (τ (69) 0)) (C := RX0) (T := TX0) (N := 4) hx hb hts iX0 hown hK hP (58) (gC_Demand Γ τ) rfl 0 (by decide) (hts (.fieldLink RX0 33 "OtherHalfOfNight$Demand" "ones" "I") (wzm K741)) (fun _ h9 => h9) rfl dX0_leastCut_10 ?_
      refine lv_ishl hx hb dX0_leastCut_13 ?_
      refine lv_icmp_ge (tgt := 34) hx hb dX0_leastCut_14 (by decide) (fun c3 => ?_) (fun c3 => ?_)
      · replace hf := (if_pos c3).symm.trans hf
        refine lv_iconst (v := (0 : Int32)) hx hb dX0_leastCut_34 (by decide) ?_
        exact w_iret (X := XC Γ) hx hb hr hlocks hK hP hS rfl hf dX0_leastCut_35
      · replace hf := (if_neg c3).symm.trans hf
        refine lv_aload_n hx hb dX0_leastCut_17 rfl (lv_at hl 0 rfl) ?_
        refine lv_iload_n hx hb dX0_leastCut_18 rfl (lv_at hl 2 rfl) ?_
        obtain ⟨q4, h5, hf⟩ := w_ob hf
        refine w_ci (va_runV (As := [.int y2]) (rest := []) ⟨hx, hb, hml, hown, hts⟩ (c_X0_cutBy l Γ hG y2 τ q4.1 q4.2 h5 H.size) (cwV 1 hts (wzV K753 K750 K751 K752 K32) rfl rfl rfl (by decide +kernel) ⟨(Nat.le_of_ble_eq_true rfl), (Nat.le_of_ble_eq_true rfl)⟩) (w_preV hK hP hkc hN hS (gC_Demand Γ τ) rfl) rfl rfl hl.1 rfl (lv_room (Nat.le_of_ble_eq_true rfl)) dX0_leastCut_19 ⟨Nat.le_refl _, Nat.le_refl _⟩) hS (fun H locs hP hS => ?_)
        refine lv_iload_n hx hb dX0_leastCut_22 rfl (lv_at hl 1 rfl) ?_
        refine lv_icmp_ne (tgt := 28) hx hb dX0_leastCut_23 (by decide) (fun c6 => ?_) (fun c6 => ?_)
        · replace hf := (if_neg c6).symm.trans hf
          refine lv_iinc (v := (y2 + (1 : Int32))) (lv' := [(2, .int (y2 + (1 : Int32))), (0, .ref (Γ.2.2.1 (58))), (1, .int y1)]) hx hb dX0_leastCut_28 hl (k := 2) rfl rfl (by decide) rfl (fun ls hl => ?_)
          refine lv_goto (tgt := 7) hx hb dX0_leastCut_31 (by decide) ?_
          exact ih7 (y1) ((y2 + (1 : Int32))) q4.2 H locs ls hf hP hS (lv_sub hl [1, 2, 0] rfl)
        · replace hf := (if_pos c6).symm.trans hf
          refine lv_iload_n hx hb dX0_leastCut_26 rfl (lv_at hl 2 rfl) ?_
          exact w_iret (X := XC Γ) hx hb hr hlocks hK hP hS rfl hf dX0_leastCut_27
  suffices hw : ∀ (H : Heap) (locs : List Loc), va_P Γ.1 vwCl (XC Γ σ) H → va_S (wA (alC Γ) s.heap.size) s.heap H locs → W p l e { frames := 2, cells := 0, slots := 0, locals := 46 } s m av.toArray below meth c H locs 0 0 (MQ below (wQi Γ.1 vwCl (tysC Γ) (XC Γ) (alC Γ) r σ' s.heap.size) av.toArray s 0 0 (wA (alC Γ) s.heap.size)) (F0 m 0 ls []) from hw _ [] hP va_S.rf
  clear hP
  intro H locs hP hS
  unfold f_X0_leastCut at hf
  refine lv_aload_n hx hb dX0_leastCut_0 rfl (lv_at hl 0 rfl) ?_
  obtain ⟨q1, h2, hf⟩ := w_ob hf
  refine w_ci (va_runV (As := []) (rest := []) ⟨hx, hb, hml, hown, hts⟩ (c_X0_most l Γ hG σ q1.1 q1.2 h2 H.size) (cwV 0 hts (wzV K749 K758 K747 K748 K32) rfl rfl rfl (by decide +kernel) ⟨(Nat.le_of_ble_eq_true rfl), (Nat.le_of_ble_eq_true rfl)⟩) (w_preV hK hP hkc hN hS (gC_Demand Γ σ) rfl) rfl rfl hl.1 rfl (lv_room (Nat.le_of_ble_eq_true rfl)) dX0_leastCut_1 ⟨Nat.le_refl _, Nat.le_refl _⟩) hS (fun H locs hP hS => ?_)
  refine lv_istore_n (lv' := [(1, .int q1.1), (0, .ref (Γ.2.2.1 (58)))]) hx hb dX0_leastCut_4 rfl hl (by decide) rfl (fun ls hl => ?_)
  refine lv_iconst (v := (0 : Int32)) hx hb dX0_leastCut_5 (by decide) ?_
  refine lv_istore_n (lv' := [(2, .int (0 : Int32)), (1, .int q1.1), (0, .ref (Γ.2.2.1 (58)))]) hx hb dX0_leastCut_6 rfl hl (by decide) rfl (fun ls hl => ?_)
  exact j7 5000 (q1.1) ((0 : Int32)) q1.2 H locs ls hf hP hS (lv_sub hl [2, 1, 0] rfl)
def f_X0_measure_14 (i2 : Nat) : Nat → Int32 → Sg → Option Sg
  | 0, _, _ => none
  | n + 1, y3, τ => if i2 < 3 then if (τ (69) 0) ≤ y3 then if (¬ (0 : Int32) < 0 ∧ ¬ (0 : Int32) < 0 ∧ ¬ (6 : Int32) < 0 ∧ ((0 : Int32)).toNatClampNeg + ((6 : Int32)).toNatClampNeg ≤ 6 ∧ ((0 : Int32)).toNatClampNeg + ((6 : Int32)).toNatClampNeg ≤ 6) then some (upA τ (72) (va_cpy (τ (11 * i2 + 8)) (τ (72)) ((0 : Int32)).toNatClampNeg ((0 : Int32)).toNatClampNeg ((6 : Int32)).toNatClampNeg)) else none else (f_X2_yieldOf (i2) y3 τ).bind fun (q5 : Int32 × Sg) => if okI y3 5 then (f_X2_suitBits (i2) y3 (up q5.2 (70) (y3).toNatClampNeg q5.1)).bind fun (q8 : Int32 × Sg) => if okI y3 5 then (f_X0_measure_14 i2 n) ((y3 + (1 : Int32))) (up q8.2 (71) (y3).toNatClampNeg q8.1) else none else none else none
def f_X0_measure (i2 : Nat) (σ : Sg) : Option Sg := if i2 < 3 then f_X0_measure_14 i2 5000 ((0 : Int32)) (up σ (69) 0 (if (5 : Int32) < (σ (11 * i2 + 3) 0) then (5 : Int32) else (σ (11 * i2 + 3) 0))) else none
set_option maxHeartbeats 40000000 in
set_option maxRecDepth 100000 in
theorem c_X0_measure (l : Launch) (Γ : Geo) (hG : okC Γ) (i2 : Nat) (σ : Sg) (σ' : Sg) (hf : f_X0_measure i2 σ = some σ') (sz : Nat) : Met l yX0_measure (wz yX0_measure cX0_measure 4 none) { frames := 4, cells := 0, slots := 0, locals := 101 } (va_Pc [.ref (Γ.2.2.1 (58)), .ref (Γ.2.2.1 (27)), .ref (Γ.2.2.1 (1 + 8 * i2))] (wPre Γ.1 vwCl (tysC Γ) (XC Γ) (alC Γ) Γ.2.2.2 σ sz)) (wQv Γ.1 vwCl (tysC Γ) (XC Γ) (alC Γ) σ' sz) 0 0 (wA (alC Γ) sz) := by
  refine w_enter (cc := cX0_measure) (maxL := 4) (ret := none) (by decide) rfl (Nat.le_of_ble_eq_true rfl) ?_
  intro p e s m below meth c ls hx hb hr hlocks hml hown hts hsz hP hK hkc hN hl
  subst hsz
  generalize hav : ([.ref (Γ.2.2.1 (58)), .ref (Γ.2.2.1 (27)), .ref (Γ.2.2.1 (1 + 8 * i2))] : List Value) = av at hl hts ⊢
  have hl : lv_has ls 4 [(0, .ref (Γ.2.2.1 (58))), (1, .ref (Γ.2.2.1 (27))), (2, .ref (Γ.2.2.1 (1 + 8 * i2)))] := by rw [← hav] at hl; exact hl
  have j14 : ∀ (n14 : Nat), ∀ (y3 : Int32) (τ : Sg) (H : Heap) (locs : List Loc) (ls : Array Slot) (hf : f_X0_measure_14 i2 n14 y3 τ = some σ') (hP : va_P Γ.1 vwCl (XC Γ τ) H) (hS : va_S (wA (alC Γ) s.heap.size) s.heap H locs) (hl : lv_has ls 4 [(0, .ref (Γ.2.2.1 (58))), (1, .ref (Γ.2.2.1 (27))), (2, .ref (Γ.2.2.1 (1 + 8 * i2))), (3, .int y3)]), W p l e { frames := 4, cells := 0, slots := 0, locals := 101 } s m av.toArray below meth c H locs 0 0 (MQ below (wQv Γ.1 vwCl (tysC Γ) (XC Γ) (alC Γ) σ' s.heap.size) av.toArray s 0 0 (wA (alC Γ) s.heap.size)) (F0 m 14 ls []) := by
    intro n14
    induction n14 with
    | zero =>
      intro y3 τ H locs ls hf
      exact absurd hf (by intro h; cases h)
    | succ n14 ih14 =>
      intro y3 τ H locs ls hf hP hS hl
      unfold f_X0_measure_14 at hf
      obtain ⟨g2, hf⟩ := w_oi hf
      refine lv_iload_n hx hb dX0_measure_14 rfl (lv_at hl 3 rfl) ?_
      refine lv_aload_n hx hb dX0_measure_15 rfl (lv_at hl 0 rfl) ?_
      refine va_get (D := Γ.1) (ci := 0) (v := .int (τ (69) 0)) (C := RX0) (T := TX0) (N := 4) hx hb hts iX0 hown hK hP (58) (gC_Demand Γ τ) rfl 0 (by decide) (hts (.fieldLink RX0 33 "OtherHalfOfNight$Demand" "ones" "I") (wzm K741)) (fun _ h9 => h9) rfl dX0_measure_16 ?_
      refine lv_icmp_ge (tgt := 52) hx hb dX0_measure_19 (by decide) (fun c3 => ?_) (fun c3 => ?_)
      · replace hf := (if_pos c3).symm.trans hf
        refine lv_aload_n hx hb dX0_measure_52 rfl (lv_at hl 2 rfl) ?_
        refine va_get (D := Γ.1) (ci := 1) (v := .ref (Γ.2.2.1 (6 + 8 * i2))) (C := RX1) (T := TX1) (N := 11) hx hb hts iX1 hown hK hP (1 + 8 * i2) (gC_House Γ τ (i2) g2) rfl 8 (by decide) (hts (.fieldLink RX0 43 "OtherHalfOfNight$House" "want" "[I") (wzm K742)) (fun _ h9 => h9) rfl dX0_measure_53 ?_
        refine lv_iconst (v := (0 : Int32)) hx hb dX0_measure_56 (by decide) ?_
        refine lv_aload_n hx hb dX0_measure_57 rfl (lv_at hl 0 rfl) ?_
        refine va_get (D := Γ.1) (ci := 0) (v := .ref (Γ.2.2.1 (61))) (C := RX0) (T := TX0) (N := 4) hx hb hts iX0 hown hK hP (58) (gC_Demand Γ τ) rfl 3 (by decide) (hts (.fieldLink RX0 18 "OtherHalfOfNight$Demand" "wants" "[I") (wzm K98)) (fun _ h9 => h9) rfl dX0_measure_58 ?_
        refine lv_iconst (v := (0 : Int32)) hx hb dX0_measure_61 (by decide) ?_
        refine lv_bipush (v := (6 : Int32)) hx hb dX0_measure_62 (by decide) ?_
        obtain ⟨g4, hf⟩ := w_oi hf
        refine w_copy (D := Γ.1) (tys := (tysC Γ)) (X := XC Γ) (σ' := (upA τ (72) (va_cpy (τ (11 * i2 + 8)) (τ (72)) ((0 : Int32)).toNatClampNeg ((0 : Int32)).toNatClampNeg ((6 : Int32)).toNatClampNeg))) hx hb (hml.trans hl.1.symm) hown (hts (.methodLink RX0 46 arraycopyName) (wzm K743)) (hts (.native arraycopyName) (wzm K705)) (hts (.static arraycopyName) (wzm K706)) (hts (.initialized "java/lang/System") (wzm K707)) hK hP (halC Γ) hG hS (6 + 8 * i2) (61) 0 0 (gC_House_want Γ τ (i2) g2) (gC_Demand_wants Γ τ) rfl rfl g4 (Nat.le_of_ble_eq_true rfl) (Nat.le_of_ble_eq_true rfl) dX0_measure_64 (sAC_Demand_wants Γ τ _) (fun H locs hP hS => ?_)
        exact w_vret (X := XC Γ) hx hb hr hlocks hK hP hS hf dX0_measure_67
      · replace hf := (if_neg c3).symm.trans hf
        refine lv_aload_n hx hb dX0_measure_22 rfl (lv_at hl 0 rfl) ?_
        refine va_get (D := Γ.1) (ci := 0) (v := .ref (Γ.2.2.1 (59))) (C := RX0) (T := TX0) (N := 4) hx hb hts iX0 hown hK hP (58) (gC_Demand Γ τ) rfl 1 (by decide) (hts (.fieldLink RX0 9 "OtherHalfOfNight$Demand" "yields" "[I") (wzm K96)) (fun _ h9 => h9) rfl dX0_measure_23 ?_
        refine lv_iload_n hx hb dX0_measure_26 rfl (lv_at hl 3 rfl) ?_
        refine lv_aload_n hx hb dX0_measure_27 rfl (lv_at hl 1 rfl) ?_
        refine lv_aload_n hx hb dX0_measure_28 rfl (lv_at hl 2 rfl) ?_
        refine lv_iload_n hx hb dX0_measure_29 rfl (lv_at hl 3 rfl) ?_
        obtain ⟨q5, h6, hf⟩ := w_ob hf
        refine w_ci (va_runV (As := [.ref (Γ.2.2.1 (1 + 8 * i2)), .int y3]) (rest := [.int y3, .ref (Γ.2.2.1 (59))]) ⟨hx, hb, hml, hown, hts⟩ (c_X2_yieldOf l Γ hG (i2) y3 τ q5.1 q5.2 h6 H.size) (cwV 2 hts (wzV K336 K744 K334 K335 K24) rfl rfl rfl (by decide +kernel) ⟨(Nat.le_of_ble_eq_true rfl), (Nat.le_of_ble_eq_true rfl)⟩) (w_preV hK hP hkc hN hS (gC_Law Γ τ) rfl) rfl rfl hl.1 rfl (lv_room (Nat.le_of_ble_eq_true rfl)) dX0_measure_30 ⟨Nat.le_refl _, Nat.le_refl _⟩) hS (fun H locs hP hS => ?_)
        obtain ⟨g7, hf⟩ := w_oi hf
        refine w_iast (D := Γ.1) (tys := (tysC Γ)) (X := XC Γ) (σ' := (up q5.2 (70) (y3).toNatClampNeg q5.1)) hx hb hK hP (halC Γ) hG hS (59) 0 (gC_Demand_yields Γ q5.2) rfl g7 dX0_measure_33 (sC_Demand_yields Γ q5.2 (y3).toNatClampNeg q5.1) (fun H locs hP hS => ?_)
        refine lv_aload_n hx hb dX0_measure_34 rfl (lv_at hl 0 rfl) ?_
        refine va_get (D := Γ.1) (ci := 0) (v := .ref (Γ.2.2.1 (60))) (C := RX0) (T := TX0) (N := 4) hx hb hts iX0 hown hK hP (58) (gC_Demand Γ (up q5.2 (70) (y3).toNatClampNeg q5.1)) rfl 2 (by decide) (hts (.fieldLink RX0 15 "OtherHalfOfNight$Demand" "suits" "[I") (wzm K97)) (fun _ h9 => h9) rfl dX0_measure_35 ?_
        refine lv_iload_n hx hb dX0_measure_38 rfl (lv_at hl 3 rfl) ?_
        refine lv_aload_n hx hb dX0_measure_39 rfl (lv_at hl 1 rfl) ?_
        refine lv_aload_n hx hb dX0_measure_40 rfl (lv_at hl 2 rfl) ?_
        refine lv_iload_n hx hb dX0_measure_41 rfl (lv_at hl 3 rfl) ?_
        obtain ⟨q8, h9, hf⟩ := w_ob hf
        refine w_ci (va_runV (As := [.ref (Γ.2.2.1 (1 + 8 * i2)), .int y3]) (rest := [.int y3, .ref (Γ.2.2.1 (60))]) ⟨hx, hb, hml, hown, hts⟩ (c_X2_suitBits l Γ hG (i2) y3 (up q5.2 (70) (y3).toNatClampNeg q5.1) q8.1 q8.2 h9 H.size) (cwV 2 hts (wzV K393 K745 K391 K392 K24) rfl rfl rfl (by decide +kernel) ⟨(Nat.le_of_ble_eq_true rfl), (Nat.le_of_ble_eq_true rfl)⟩) (w_preV hK hP hkc hN hS (gC_Law Γ (up q5.2 (70) (y3).toNatClampNeg q5.1)) rfl) rfl rfl hl.1 rfl (lv_room (Nat.le_of_ble_eq_true rfl)) dX0_measure_42 ⟨Nat.le_refl _, Nat.le_refl _⟩) hS (fun H locs hP hS => ?_)
        obtain ⟨g10, hf⟩ := w_oi hf
        refine w_iast (D := Γ.1) (tys := (tysC Γ)) (X := XC Γ) (σ' := (up q8.2 (71) (y3).toNatClampNeg q8.1)) hx hb hK hP (halC Γ) hG hS (60) 0 (gC_Demand_suits Γ q8.2) rfl g10 dX0_measure_45 (sC_Demand_suits Γ q8.2 (y3).toNatClampNeg q8.1) (fun H locs hP hS => ?_)
        refine lv_iinc (v := (y3 + (1 : Int32))) (lv' := [(3, .int (y3 + (1 : Int32))), (0, .ref (Γ.2.2.1 (58))), (1, .ref (Γ.2.2.1 (27))), (2, .ref (Γ.2.2.1 (1 + 8 * i2)))]) hx hb dX0_measure_46 hl (k := 3) rfl rfl (by decide) rfl (fun ls hl => ?_)
        refine lv_goto (tgt := 14) hx hb dX0_measure_49 (by decide) ?_
        exact ih14 ((y3 + (1 : Int32))) (up q8.2 (71) (y3).toNatClampNeg q8.1) H locs ls hf hP hS (lv_sub hl [1, 2, 3, 0] rfl)
  suffices hw : ∀ (H : Heap) (locs : List Loc), va_P Γ.1 vwCl (XC Γ σ) H → va_S (wA (alC Γ) s.heap.size) s.heap H locs → W p l e { frames := 4, cells := 0, slots := 0, locals := 101 } s m av.toArray below meth c H locs 0 0 (MQ below (wQv Γ.1 vwCl (tysC Γ) (XC Γ) (alC Γ) σ' s.heap.size) av.toArray s 0 0 (wA (alC Γ) s.heap.size)) (F0 m 0 ls []) from hw _ [] hP va_S.rf
  clear hP
  intro H locs hP hS
  unfold f_X0_measure at hf
  obtain ⟨g1, hf⟩ := w_oi hf
  refine lv_aload_n hx hb dX0_measure_0 rfl (lv_at hl 0 rfl) ?_
  refine lv_aload_n hx hb dX0_measure_1 rfl (lv_at hl 2 rfl) ?_
  refine va_get (D := Γ.1) (ci := 1) (v := .int (σ (11 * i2 + 3) 0)) (C := RX1) (T := TX1) (N := 11) hx hb hts iX1 hown hK hP (1 + 8 * i2) (gC_House Γ σ (i2) g1) rfl 3 (by decide) (hts (.fieldLink RX0 21 "OtherHalfOfNight$House" "ones" "I") (wzm K739)) (fun _ h9 => h9) rfl dX0_measure_2 ?_
  refine lv_iconst (v := (5 : Int32)) hx hb dX0_measure_5 (by decide) ?_
  refine va_mmin hx hb (hml.trans hl.1.symm) hown (hts (.methodLink RX0 27 Lib.Math.min.name) (wzm K740)) (hts (.static Lib.Math.min.name) (wzm K374)) (hts (.initialized "java/lang/Math") (wzm K375)) (hts (.code Lib.Math.min.name Lib.Math.min.code 2 (some .int)) (wzm K376)) (Nat.le_of_ble_eq_true rfl) (Nat.le_of_ble_eq_true rfl) (Nat.le_refl _) (Nat.le_refl _) dX0_measure_6 ?_
  refine w_put (X := XC Γ) (σ' := (up σ (69) 0 (if (5 : Int32) < (σ (11 * i2 + 3) 0) then (5 : Int32) else (σ (11 * i2 + 3) 0)))) (ci := 0) (C := RX0) (T := TX0) (N := 4) (ty := .int) hx hb hts iX0 tyX0 tyX0_ok nmX0 hown hK hP (halC Γ) hG hS (58) (gC_Demand Γ σ) rfl 0 (by decide) (hts (.fieldLink RX0 33 "OtherHalfOfNight$Demand" "ones" "I") (wzm K741)) (fun _ h9 => h9) rfl (by decide +kernel) rfl rfl (Nat.le_of_ble_eq_true rfl) dX0_measure_9 (sC_Demand_ones Γ σ (if (5 : Int32) < (σ (11 * i2 + 3) 0) then (5 : Int32) else (σ (11 * i2 + 3) 0))) (fun H locs hP hS => ?_)
  refine lv_iconst (v := (0 : Int32)) hx hb dX0_measure_12 (by decide) ?_
  refine lv_istore_n (lv' := [(3, .int (0 : Int32)), (0, .ref (Γ.2.2.1 (58))), (1, .ref (Γ.2.2.1 (27))), (2, .ref (Γ.2.2.1 (1 + 8 * i2)))]) hx hb dX0_measure_13 rfl hl (by decide) rfl (fun ls hl => ?_)
  exact j14 5000 ((0 : Int32)) (up σ (69) 0 (if (5 : Int32) < (σ (11 * i2 + 3) 0) then (5 : Int32) else (σ (11 * i2 + 3) 0))) H locs ls hf hP hS (lv_sub hl [1, 2, 3, 0] rfl)
def f_X0_starved_4 : Nat → Int32 → Int32 → Sg → Option (Int32 × Sg)
  | 0, _, _, _ => none
  | n + 1, y1, y2, τ => if (τ (69) 0) ≤ y2 then some (((63 : Int32) &&& (y1 ^^^ (-1 : Int32))), τ) else if okI y2 5 then if (τ (70) (y2).toNatClampNeg) ≤ 0 then (f_X0_starved_4 n) (y1) ((y2 + (1 : Int32))) τ else if okI y2 5 then (f_X0_starved_4 n) ((y1 ||| (τ (71) (y2).toNatClampNeg))) ((y2 + (1 : Int32))) τ else none else none
def f_X0_starved (σ : Sg) : Option (Int32 × Sg) := f_X0_starved_4 5000 ((0 : Int32)) ((0 : Int32)) σ
set_option maxHeartbeats 40000000 in
set_option maxRecDepth 100000 in
theorem c_X0_starved (l : Launch) (Γ : Geo) (hG : okC Γ) (σ : Sg) (r : Int32) (σ' : Sg) (hf : f_X0_starved σ = some (r, σ')) (sz : Nat) : Met l yX0_starved (wz yX0_starved cX0_starved 3 (some .int)) { frames := 0, cells := 0, slots := 0, locals := 0 } (va_Pc [.ref (Γ.2.2.1 (58))] (wPre Γ.1 vwCl (tysC Γ) (XC Γ) (alC Γ) Γ.2.2.2 σ sz)) (wQi Γ.1 vwCl (tysC Γ) (XC Γ) (alC Γ) r σ' sz) 0 0 (wA (alC Γ) sz) := by
  refine w_enter (cc := cX0_starved) (maxL := 3) (ret := (some .int)) (by decide) rfl (Nat.le_of_ble_eq_true rfl) ?_
  intro p e s m below meth c ls hx hb hr hlocks hml hown hts hsz hP hK hkc hN hl
  subst hsz
  generalize hav : ([.ref (Γ.2.2.1 (58))] : List Value) = av at hl hts ⊢
  have hl : lv_has ls 3 [(0, .ref (Γ.2.2.1 (58)))] := by rw [← hav] at hl; exact hl
  have j4 : ∀ (n4 : Nat), ∀ (y1 : Int32) (y2 : Int32) (τ : Sg) (H : Heap) (locs : List Loc) (ls : Array Slot) (hf : f_X0_starved_4 n4 y1 y2 τ = some (r, σ')) (hP : va_P Γ.1 vwCl (XC Γ τ) H) (hS : va_S (wA (alC Γ) s.heap.size) s.heap H locs) (hl : lv_has ls 3 [(0, .ref (Γ.2.2.1 (58))), (1, .int y1), (2, .int y2)]), W p l e { frames := 0, cells := 0, slots := 0, locals := 0 } s m av.toArray below meth c H locs 0 0 (MQ below (wQi Γ.1 vwCl (tysC Γ) (XC Γ) (alC Γ) r σ' s.heap.size) av.toArray s 0 0 (wA (alC Γ) s.heap.size)) (F0 m 4 ls []) := by
    intro n4
    induction n4 with
    | zero =>
      intro y1 y2 τ H locs ls hf
      exact absurd hf (by intro h; cases h)
    | succ n4 ih4 =>
      intro y1 y2 τ H locs ls hf hP hS hl
      unfold f_X0_starved_4 at hf
      refine lv_iload_n hx hb dX0_starved_4 rfl (lv_at hl 2 rfl) ?_
      refine lv_aload_n hx hb dX0_starved_5 rfl (lv_at hl 0 rfl) ?_
      refine va_get (D := Γ.1) (ci := 0) (v := .int (τ (69) 0)) (C := RX0) (T := TX0) (N := 4) hx hb hts iX0 hown hK hP (58) (gC_Demand Γ τ) rfl 0 (by decide) (hts (.fieldLink RX0 33 "OtherHalfOfNight$Demand" "ones" "I") (wzm K741)) (fun _ h9 => h9) rfl dX0_starved_6 ?_
      refine lv_icmp_ge (tgt := 36) hx hb dX0_starved_9 (by decide) (fun c1 => ?_) (fun c1 => ?_)
      · replace hf := (if_pos c1).symm.trans hf
        refine lv_bipush (v := (63 : Int32)) hx hb dX0_starved_36 (by decide) ?_
        refine lv_iload_n hx hb dX0_starved_38 rfl (lv_at hl 1 rfl) ?_
        refine lv_iconst (v := (-1 : Int32)) hx hb dX0_starved_39 (by decide) ?_
        refine lv_ixor hx hb dX0_starved_40 ?_
        refine lv_iand hx hb dX0_starved_41 ?_
        exact w_iret (X := XC Γ) hx hb hr hlocks hK hP hS rfl hf dX0_starved_42
      · replace hf := (if_neg c1).symm.trans hf
        refine lv_aload_n hx hb dX0_starved_12 rfl (lv_at hl 0 rfl) ?_
        refine va_get (D := Γ.1) (ci := 0) (v := .ref (Γ.2.2.1 (59))) (C := RX0) (T := TX0) (N := 4) hx hb hts iX0 hown hK hP (58) (gC_Demand Γ τ) rfl 1 (by decide) (hts (.fieldLink RX0 9 "OtherHalfOfNight$Demand" "yields" "[I") (wzm K96)) (fun _ h9 => h9) rfl dX0_starved_13 ?_
        refine lv_iload_n hx hb dX0_starved_16 rfl (lv_at hl 2 rfl) ?_
        obtain ⟨g2, hf⟩ := w_oi hf
        refine va_iald (D := Γ.1) (tys := (tysC Γ)) hx hb hK hP (59) 0 (gC_Demand_yields Γ τ) rfl g2 dX0_starved_17 ?_
        refine lv_if_le (tgt := 30) hx hb dX0_starved_18 (by decide) (fun c3 => ?_) (fun c3 => ?_)
        · replace hf := (if_pos c3).symm.trans hf
          refine lv_iinc (v := (y2 + (1 : Int32))) (lv' := [(2, .int (y2 + (1 : Int32))), (0, .ref (Γ.2.2.1 (58))), (1, .int y1)]) hx hb dX0_starved_30 hl (k := 2) rfl rfl (by decide) rfl (fun ls hl => ?_)
          refine lv_goto (tgt := 4) hx hb dX0_starved_33 (by decide) ?_
          exact ih4 (y1) ((y2 + (1 : Int32))) τ H locs ls hf hP hS (lv_sub hl [1, 2, 0] rfl)
        · replace hf := (if_neg c3).symm.trans hf
          refine lv_iload_n hx hb dX0_starved_21 rfl (lv_at hl 1 rfl) ?_
          refine lv_aload_n hx hb dX0_starved_22 rfl (lv_at hl 0 rfl) ?_
          refine va_get (D := Γ.1) (ci := 0) (v := .ref (Γ.2.2.1 (60))) (C := RX0) (T := TX0) (N := 4) hx hb hts iX0 hown hK hP (58) (gC_Demand Γ τ) rfl 2 (by decide) (hts (.fieldLink RX0 15 "OtherHalfOfNight$Demand" "suits" "[I") (wzm K97)) (fun _ h9 => h9) rfl dX0_starved_23 ?_
          refine lv_iload_n hx hb dX0_starved_26 rfl (lv_at hl 2 rfl) ?_
          obtain ⟨g4, hf⟩ := w_oi hf
          refine va_iald (D := Γ.1) (tys := (tysC Γ)) hx hb hK hP (60) 0 (gC_Demand_suits Γ τ) rfl g4 dX0_starved_27 ?_
          refine lv_ior hx hb dX0_starved_28 ?_
          refine lv_istore_n (lv' := [(1, .int (y1 ||| (τ (71) (y2).toNatClampNeg))), (0, .ref (Γ.2.2.1 (58))), (2, .int y2)]) hx hb dX0_starved_29 rfl hl (by decide) rfl (fun ls hl => ?_)
          refine lv_iinc (v := (y2 + (1 : Int32))) (lv' := [(2, .int (y2 + (1 : Int32))), (1, .int (y1 ||| (τ (71) (y2).toNatClampNeg))), (0, .ref (Γ.2.2.1 (58)))]) hx hb dX0_starved_30 hl (k := 2) rfl rfl (by decide) rfl (fun ls hl => ?_)
          refine lv_goto (tgt := 4) hx hb dX0_starved_33 (by decide) ?_
          exact ih4 ((y1 ||| (τ (71) (y2).toNatClampNeg))) ((y2 + (1 : Int32))) τ H locs ls hf hP hS (lv_sub hl [2, 1, 0] rfl)
  suffices hw : ∀ (H : Heap) (locs : List Loc), va_P Γ.1 vwCl (XC Γ σ) H → va_S (wA (alC Γ) s.heap.size) s.heap H locs → W p l e { frames := 0, cells := 0, slots := 0, locals := 0 } s m av.toArray below meth c H locs 0 0 (MQ below (wQi Γ.1 vwCl (tysC Γ) (XC Γ) (alC Γ) r σ' s.heap.size) av.toArray s 0 0 (wA (alC Γ) s.heap.size)) (F0 m 0 ls []) from hw _ [] hP va_S.rf
  clear hP
  intro H locs hP hS
  unfold f_X0_starved at hf
  refine lv_iconst (v := (0 : Int32)) hx hb dX0_starved_0 (by decide) ?_
  refine lv_istore_n (lv' := [(1, .int (0 : Int32)), (0, .ref (Γ.2.2.1 (58)))]) hx hb dX0_starved_1 rfl hl (by decide) rfl (fun ls hl => ?_)
  refine lv_iconst (v := (0 : Int32)) hx hb dX0_starved_2 (by decide) ?_
  refine lv_istore_n (lv' := [(2, .int (0 : Int32)), (1, .int (0 : Int32)), (0, .ref (Γ.2.2.1 (58)))]) hx hb dX0_starved_3 rfl hl (by decide) rfl (fun ls hl => ?_)
  exact j4 5000 ((0 : Int32)) ((0 : Int32)) σ H locs ls hf hP hS (lv_sub hl [2, 1, 0] rfl)
def f_X0_mostWithoutOne (x1 : Int32) (σ : Sg) : Option (Int32 × Sg) := if x1 < 0 then (f_X0_most σ).bind fun (q2 : Int32 × Sg) => some (q2.1, q2.2) else if x1 < (σ (69) 0) then if okI x1 5 then if okI x1 5 then (f_X0_most (up σ (70) (x1).toNatClampNeg (0 : Int32))).bind fun (q7 : Int32 × Sg) => if okI x1 5 then some (q7.1, (up q7.2 (70) (x1).toNatClampNeg (σ (70) (x1).toNatClampNeg))) else none else none else none else (f_X0_most σ).bind fun (q10 : Int32 × Sg) => some (q10.1, q10.2)
set_option maxHeartbeats 40000000 in
set_option maxRecDepth 100000 in
theorem c_X0_mostWithoutOne (l : Launch) (Γ : Geo) (hG : okC Γ) (x1 : Int32) (σ : Sg) (r : Int32) (σ' : Sg) (hf : f_X0_mostWithoutOne x1 σ = some (r, σ')) (sz : Nat) : Met l yX0_mostWithoutOne (wz yX0_mostWithoutOne cX0_mostWithoutOne 4 (some .int)) { frames := 2, cells := 0, slots := 0, locals := 46 } (va_Pc [.ref (Γ.2.2.1 (58)), .int x1] (wPre Γ.1 vwCl (tysC Γ) (XC Γ) (alC Γ) Γ.2.2.2 σ sz)) (wQi Γ.1 vwCl (tysC Γ) (XC Γ) (alC Γ) r σ' sz) 0 0 (wA (alC Γ) sz) := by
  refine w_enter (cc := cX0_mostWithoutOne) (maxL := 4) (ret := (some .int)) (by decide) rfl (Nat.le_of_ble_eq_true rfl) ?_
  intro p e s m below meth c ls hx hb hr hlocks hml hown hts hsz hP hK hkc hN hl
  subst hsz
  generalize hav : ([.ref (Γ.2.2.1 (58)), .int x1] : List Value) = av at hl hts ⊢
  have hl : lv_has ls 4 [(0, .ref (Γ.2.2.1 (58))), (1, .int x1)] := by rw [← hav] at hl; exact hl
  suffices hw : ∀ (H : Heap) (locs : List Loc), va_P Γ.1 vwCl (XC Γ σ) H → va_S (wA (alC Γ) s.heap.size) s.heap H locs → W p l e { frames := 2, cells := 0, slots := 0, locals := 46 } s m av.toArray below meth c H locs 0 0 (MQ below (wQi Γ.1 vwCl (tysC Γ) (XC Γ) (alC Γ) r σ' s.heap.size) av.toArray s 0 0 (wA (alC Γ) s.heap.size)) (F0 m 0 ls []) from hw _ [] hP va_S.rf
  clear hP
  intro H locs hP hS
  unfold f_X0_mostWithoutOne at hf
  refine lv_iload_n hx hb dX0_mostWithoutOne_0 rfl (lv_at hl 1 rfl) ?_
  refine lv_if_lt (tgt := 12) hx hb dX0_mostWithoutOne_1 (by decide) (fun c1 => ?_) (fun c1 => ?_)
  · replace hf := (if_pos c1).symm.trans hf
    refine lv_aload_n hx hb dX0_mostWithoutOne_12 rfl (lv_at hl 0 rfl) ?_
    obtain ⟨q2, h3, hf⟩ := w_ob hf
    refine w_ci (va_runV (As := []) (rest := []) ⟨hx, hb, hml, hown, hts⟩ (c_X0_most l Γ hG σ q2.1 q2.2 h3 H.size) (cwV 0 hts (wzV K749 K758 K747 K748 K32) rfl rfl rfl (by decide +kernel) ⟨(Nat.le_of_ble_eq_true rfl), (Nat.le_of_ble_eq_true rfl)⟩) (w_preV hK hP hkc hN hS (gC_Demand Γ σ) rfl) rfl rfl hl.1 rfl (lv_room (Nat.le_of_ble_eq_true rfl)) dX0_mostWithoutOne_13 ⟨Nat.le_refl _, Nat.le_refl _⟩) hS (fun H locs hP hS => ?_)
    exact w_iret (X := XC Γ) hx hb hr hlocks hK hP hS rfl hf dX0_mostWithoutOne_16
  · replace hf := (if_neg c1).symm.trans hf
    refine lv_iload_n hx hb dX0_mostWithoutOne_4 rfl (lv_at hl 1 rfl) ?_
    refine lv_aload_n hx hb dX0_mostWithoutOne_5 rfl (lv_at hl 0 rfl) ?_
    refine va_get (D := Γ.1) (ci := 0) (v := .int (σ (69) 0)) (C := RX0) (T := TX0) (N := 4) hx hb hts iX0 hown hK hP (58) (gC_Demand Γ σ) rfl 0 (by decide) (hts (.fieldLink RX0 33 "OtherHalfOfNight$Demand" "ones" "I") (wzm K741)) (fun _ h9 => h9) rfl dX0_mostWithoutOne_6 ?_
    refine lv_icmp_lt (tgt := 17) hx hb dX0_mostWithoutOne_9 (by decide) (fun c4 => ?_) (fun c4 => ?_)
    · replace hf := (if_pos c4).symm.trans hf
      refine lv_aload_n hx hb dX0_mostWithoutOne_17 rfl (lv_at hl 0 rfl) ?_
      refine va_get (D := Γ.1) (ci := 0) (v := .ref (Γ.2.2.1 (59))) (C := RX0) (T := TX0) (N := 4) hx hb hts iX0 hown hK hP (58) (gC_Demand Γ σ) rfl 1 (by decide) (hts (.fieldLink RX0 9 "OtherHalfOfNight$Demand" "yields" "[I") (wzm K96)) (fun _ h9 => h9) rfl dX0_mostWithoutOne_18 ?_
      refine lv_iload_n hx hb dX0_mostWithoutOne_21 rfl (lv_at hl 1 rfl) ?_
      obtain ⟨g5, hf⟩ := w_oi hf
      refine va_iald (D := Γ.1) (tys := (tysC Γ)) hx hb hK hP (59) 0 (gC_Demand_yields Γ σ) rfl g5 dX0_mostWithoutOne_22 ?_
      refine lv_istore_n (lv' := [(2, .int (σ (70) (x1).toNatClampNeg)), (0, .ref (Γ.2.2.1 (58))), (1, .int x1)]) hx hb dX0_mostWithoutOne_23 rfl hl (by decide) rfl (fun ls hl => ?_)
      refine lv_aload_n hx hb dX0_mostWithoutOne_24 rfl (lv_at hl 1 rfl) ?_
      refine va_get (D := Γ.1) (ci := 0) (v := .ref (Γ.2.2.1 (59))) (C := RX0) (T := TX0) (N := 4) hx hb hts iX0 hown hK hP (58) (gC_Demand Γ σ) rfl 1 (by decide) (hts (.fieldLink RX0 9 "OtherHalfOfNight$Demand" "yields" "[I") (wzm K96)) (fun _ h9 => h9) rfl dX0_mostWithoutOne_25 ?_
      refine lv_iload_n hx hb dX0_mostWithoutOne_28 rfl (lv_at hl 2 rfl) ?_
      refine lv_iconst (v := (0 : Int32)) hx hb dX0_mostWithoutOne_29 (by decide) ?_
      obtain ⟨g6, hf⟩ := w_oi hf
      refine w_iast (D := Γ.1) (tys := (tysC Γ)) (X := XC Γ) (σ' := (up σ (70) (x1).toNatClampNeg (0 : Int32))) hx hb hK hP (halC Γ) hG hS (59) 0 (gC_Demand_yields Γ σ) rfl g6 dX0_mostWithoutOne_30 (sC_Demand_yields Γ σ (x1).toNatClampNeg (0 : Int32)) (fun H locs hP hS => ?_)
      refine lv_aload_n hx hb dX0_mostWithoutOne_31 rfl (lv_at hl 1 rfl) ?_
      obtain ⟨q7, h8, hf⟩ := w_ob hf
      refine w_ci (va_runV (As := []) (rest := []) ⟨hx, hb, hml, hown, hts⟩ (c_X0_most l Γ hG (up σ (70) (x1).toNatClampNeg (0 : Int32)) q7.1 q7.2 h8 H.size) (cwV 0 hts (wzV K749 K758 K747 K748 K32) rfl rfl rfl (by decide +kernel) ⟨(Nat.le_of_ble_eq_true rfl), (Nat.le_of_ble_eq_true rfl)⟩) (w_preV hK hP hkc hN hS (gC_Demand Γ (up σ (70) (x1).toNatClampNeg (0 : Int32))) rfl) rfl rfl hl.1 rfl (lv_room (Nat.le_of_ble_eq_true rfl)) dX0_mostWithoutOne_32 ⟨Nat.le_refl _, Nat.le_refl _⟩) hS (fun H locs hP hS => ?_)
      refine lv_istore_n (lv' := [(3, .int q7.1), (2, .int (σ (70) (x1).toNatClampNeg)), (0, .ref (Γ.2.2.1 (58))), (1, .int x1)]) hx hb dX0_mostWithoutOne_35 rfl hl (by decide) rfl (fun ls hl => ?_)
      refine lv_aload_n hx hb dX0_mostWithoutOne_36 rfl (lv_at hl 2 rfl) ?_
      refine va_get (D := Γ.1) (ci := 0) (v := .ref (Γ.2.2.1 (59))) (C := RX0) (T := TX0) (N := 4) hx hb hts iX0 hown hK hP (58) (gC_Demand Γ q7.2) rfl 1 (by decide) (hts (.fieldLink RX0 9 "OtherHalfOfNight$Demand" "yields" "[I") (wzm K96)) (fun _ h9 => h9) rfl dX0_mostWithoutOne_37 ?_
      refine lv_iload_n hx hb dX0_mostWithoutOne_40 rfl (lv_at hl 3 rfl) ?_
      refine lv_iload_n hx hb dX0_mostWithoutOne_41 rfl (lv_at hl 1 rfl) ?_
      obtain ⟨g9, hf⟩ := w_oi hf
      refine w_iast (D := Γ.1) (tys := (tysC Γ)) (X := XC Γ) (σ' := (up q7.2 (70) (x1).toNatClampNeg (σ (70) (x1).toNatClampNeg))) hx hb hK hP (halC Γ) hG hS (59) 0 (gC_Demand_yields Γ q7.2) rfl g9 dX0_mostWithoutOne_42 (sC_Demand_yields Γ q7.2 (x1).toNatClampNeg (σ (70) (x1).toNatClampNeg)) (fun H locs hP hS => ?_)
      refine lv_iload_n hx hb dX0_mostWithoutOne_43 rfl (lv_at hl 0 rfl) ?_
      exact w_iret (X := XC Γ) hx hb hr hlocks hK hP hS rfl hf dX0_mostWithoutOne_44
    · replace hf := (if_neg c4).symm.trans hf
      refine lv_aload_n hx hb dX0_mostWithoutOne_12 rfl (lv_at hl 0 rfl) ?_
      obtain ⟨q10, h11, hf⟩ := w_ob hf
      refine w_ci (va_runV (As := []) (rest := []) ⟨hx, hb, hml, hown, hts⟩ (c_X0_most l Γ hG σ q10.1 q10.2 h11 H.size) (cwV 0 hts (wzV K749 K758 K747 K748 K32) rfl rfl rfl (by decide +kernel) ⟨(Nat.le_of_ble_eq_true rfl), (Nat.le_of_ble_eq_true rfl)⟩) (w_preV hK hP hkc hN hS (gC_Demand Γ σ) rfl) rfl rfl hl.1 rfl (lv_room (Nat.le_of_ble_eq_true rfl)) dX0_mostWithoutOne_13 ⟨Nat.le_refl _, Nat.le_refl _⟩) hS (fun H locs hP hS => ?_)
      exact w_iret (X := XC Γ) hx hb hr hlocks hK hP hS rfl hf dX0_mostWithoutOne_16
def f_X0_leastLost_6 : Nat → Int32 → Int32 → Int32 → Sg → Option (Int32 × Sg)
  | 0, _, _, _, _ => none
  | n + 1, y1, y2, y3, τ => if (τ (69) 0) ≤ y3 then some (y1, τ) else (f_X0_mostWithoutOne y3 τ).bind fun (q2 : Int32 × Sg) => if q2.1 ≤ y2 then (f_X0_leastLost_6 n) (y1) (y2) ((y3 + (1 : Int32))) q2.2 else (f_X0_leastLost_6 n) (y3) (q2.1) ((y3 + (1 : Int32))) q2.2
def f_X0_leastLost (σ : Sg) : Option (Int32 × Sg) := f_X0_leastLost_6 5000 ((-1 : Int32)) ((-1 : Int32)) ((0 : Int32)) σ
set_option maxHeartbeats 40000000 in
set_option maxRecDepth 100000 in
theorem c_X0_leastLost (l : Launch) (Γ : Geo) (hG : okC Γ) (σ : Sg) (r : Int32) (σ' : Sg) (hf : f_X0_leastLost σ = some (r, σ')) (sz : Nat) : Met l yX0_leastLost (wz yX0_leastLost cX0_leastLost 5 (some .int)) { frames := 3, cells := 0, slots := 0, locals := 69 } (va_Pc [.ref (Γ.2.2.1 (58))] (wPre Γ.1 vwCl (tysC Γ) (XC Γ) (alC Γ) Γ.2.2.2 σ sz)) (wQi Γ.1 vwCl (tysC Γ) (XC Γ) (alC Γ) r σ' sz) 0 0 (wA (alC Γ) sz) := by
  refine w_enter (cc := cX0_leastLost) (maxL := 5) (ret := (some .int)) (by decide) rfl (Nat.le_of_ble_eq_true rfl) ?_
  intro p e s m below meth c ls hx hb hr hlocks hml hown hts hsz hP hK hkc hN hl
  subst hsz
  generalize hav : ([.ref (Γ.2.2.1 (58))] : List Value) = av at hl hts ⊢
  have hl : lv_has ls 5 [(0, .ref (Γ.2.2.1 (58)))] := by rw [← hav] at hl; exact hl
  have j6 : ∀ (n6 : Nat), ∀ (y1 : Int32) (y2 : Int32) (y3 : Int32) (τ : Sg) (H : Heap) (locs : List Loc) (ls : Array Slot) (hf : f_X0_leastLost_6 n6 y1 y2 y3 τ = some (r, σ')) (hP : va_P Γ.1 vwCl (XC Γ τ) H) (hS : va_S (wA (alC Γ) s.heap.size) s.heap H locs) (hl : lv_has ls 5 [(0, .ref (Γ.2.2.1 (58))), (1, .int y1), (2, .int y2), (3, .int y3)]), W p l e { frames := 3, cells := 0, slots := 0, locals := 69 } s m av.toArray below meth c H locs 0 0 (MQ below (wQi Γ.1 vwCl (tysC Γ) (XC Γ) (alC Γ) r σ' s.heap.size) av.toArray s 0 0 (wA (alC Γ) s.heap.size)) (F0 m 6 ls []) := by
    intro n6
    induction n6 with
    | zero =>
      intro y1 y2 y3 τ H locs ls hf
      exact absurd hf (by intro h; cases h)
    | succ n6 ih6 =>
      intro y1 y2 y3 τ H locs ls hf hP hS hl
      unfold f_X0_leastLost_6 at hf
      refine lv_iload_n hx hb dX0_leastLost_6 rfl (lv_at hl 3 rfl) ?_
      refine lv_aload_n hx hb dX0_leastLost_7 rfl (lv_at hl 0 rfl) ?_
      refine va_get (D := Γ.1) (ci := 0) (v := .int (τ (69) 0)) (C := RX0) (T := TX0) (N := 4) hx hb hts iX0 hown hK hP (58) (gC_Demand Γ τ) rfl 0 (by decide) (hts (.fieldLink RX0 33 "OtherHalfOfNight$Demand" "ones" "I") (wzm K741)) (fun _ h9 => h9) rfl dX0_leastLost_8 ?_
      refine lv_icmp_ge (tgt := 38) hx hb dX0_leastLost_11 (by decide) (fun c1 => ?_) (fun c1 => ?_)
      · replace hf := (if_pos c1).symm.trans hf
        refine lv_iload_n hx hb dX0_leastLost_38 rfl (lv_at hl 1 rfl) ?_
        exact w_iret (X := XC Γ) hx hb hr hlocks hK hP hS rfl hf dX0_leastLost_39
      · replace hf := (if_neg c1).symm.trans hf
        refine lv_aload_n hx hb dX0_leastLost_14 rfl (lv_at hl 0 rfl) ?_
        refine lv_iload_n hx hb dX0_leastLost_15 rfl (lv_at hl 3 rfl) ?_
        obtain ⟨q2, h3, hf⟩ := w_ob hf
        refine w_ci (va_runV (As := [.int y3]) (rest := []) ⟨hx, hb, hml, hown, hts⟩ (c_X0_mostWithoutOne l Γ hG y3 τ q2.1 q2.2 h3 H.size) (cwV 1 hts (wzV K805 K802 K803 K804 K32) rfl rfl rfl (by decide +kernel) ⟨(Nat.le_of_ble_eq_true rfl), (Nat.le_of_ble_eq_true rfl)⟩) (w_preV hK hP hkc hN hS (gC_Demand Γ τ) rfl) rfl rfl hl.1 rfl (lv_room (Nat.le_of_ble_eq_true rfl)) dX0_leastLost_16 ⟨Nat.le_refl _, Nat.le_refl _⟩) hS (fun H locs hP hS => ?_)
        refine lv_istore (lv' := [(4, .int q2.1), (0, .ref (Γ.2.2.1 (58))), (1, .int y1), (2, .int y2), (3, .int y3)]) hx hb dX0_leastLost_19 hl (by decide) rfl (fun ls hl => ?_)
        refine lv_iload hx hb dX0_leastLost_21 (lv_at hl 0 rfl) ?_
        refine lv_iload_n hx hb dX0_leastLost_23 rfl (lv_at hl 3 rfl) ?_
        refine lv_icmp_le (tgt := 32) hx hb dX0_leastLost_24 (by decide) (fun c4 => ?_) (fun c4 => ?_)
        · replace hf := (if_pos c4).symm.trans hf
          refine lv_iinc (v := (y3 + (1 : Int32))) (lv' := [(3, .int (y3 + (1 : Int32))), (4, .int q2.1), (0, .ref (Γ.2.2.1 (58))), (1, .int y1), (2, .int y2)]) hx hb dX0_leastLost_32 hl (k := 4) rfl rfl (by decide) rfl (fun ls hl => ?_)
          refine lv_goto (tgt := 6) hx hb dX0_leastLost_35 (by decide) ?_
          exact ih6 (y1) (y2) ((y3 + (1 : Int32))) q2.2 H locs ls hf hP hS (lv_sub hl [2, 3, 4, 0] rfl)
        · replace hf := (if_neg c4).symm.trans hf
          refine lv_iload hx hb dX0_leastLost_27 (lv_at hl 0 rfl) ?_
          refine lv_istore_n (lv' := [(2, .int q2.1), (4, .int q2.1), (0, .ref (Γ.2.2.1 (58))), (1, .int y1), (3, .int y3)]) hx hb dX0_leastLost_29 rfl hl (by decide) rfl (fun ls hl => ?_)
          refine lv_iload_n hx hb dX0_leastLost_30 rfl (lv_at hl 4 rfl) ?_
          refine lv_istore_n (lv' := [(1, .int y3), (2, .int q2.1), (4, .int q2.1), (0, .ref (Γ.2.2.1 (58))), (3, .int y3)]) hx hb dX0_leastLost_31 rfl hl (by decide) rfl (fun ls hl => ?_)
          refine lv_iinc (v := (y3 + (1 : Int32))) (lv' := [(3, .int (y3 + (1 : Int32))), (1, .int y3), (2, .int q2.1), (4, .int q2.1), (0, .ref (Γ.2.2.1 (58)))]) hx hb dX0_leastLost_32 hl (k := 4) rfl rfl (by decide) rfl (fun ls hl => ?_)
          refine lv_goto (tgt := 6) hx hb dX0_leastLost_35 (by decide) ?_
          exact ih6 (y3) (q2.1) ((y3 + (1 : Int32))) q2.2 H locs ls hf hP hS (lv_sub hl [4, 1, 2, 0] rfl)
  suffices hw : ∀ (H : Heap) (locs : List Loc), va_P Γ.1 vwCl (XC Γ σ) H → va_S (wA (alC Γ) s.heap.size) s.heap H locs → W p l e { frames := 3, cells := 0, slots := 0, locals := 69 } s m av.toArray below meth c H locs 0 0 (MQ below (wQi Γ.1 vwCl (tysC Γ) (XC Γ) (alC Γ) r σ' s.heap.size) av.toArray s 0 0 (wA (alC Γ) s.heap.size)) (F0 m 0 ls []) from hw _ [] hP va_S.rf
  clear hP
  intro H locs hP hS
  unfold f_X0_leastLost at hf
  refine lv_iconst (v := (-1 : Int32)) hx hb dX0_leastLost_0 (by decide) ?_
  refine lv_istore_n (lv' := [(1, .int (-1 : Int32)), (0, .ref (Γ.2.2.1 (58)))]) hx hb dX0_leastLost_1 rfl hl (by decide) rfl (fun ls hl => ?_)
  refine lv_iconst (v := (-1 : Int32)) hx hb dX0_leastLost_2 (by decide) ?_
  refine lv_istore_n (lv' := [(2, .int (-1 : Int32)), (1, .int (-1 : Int32)), (0, .ref (Γ.2.2.1 (58)))]) hx hb dX0_leastLost_3 rfl hl (by decide) rfl (fun ls hl => ?_)
  refine lv_iconst (v := (0 : Int32)) hx hb dX0_leastLost_4 (by decide) ?_
  refine lv_istore_n (lv' := [(3, .int (0 : Int32)), (2, .int (-1 : Int32)), (1, .int (-1 : Int32)), (0, .ref (Γ.2.2.1 (58)))]) hx hb dX0_leastLost_5 rfl hl (by decide) rfl (fun ls hl => ?_)
  exact j6 5000 ((-1 : Int32)) ((-1 : Int32)) ((0 : Int32)) σ H locs ls hf hP hS (lv_sub hl [3, 2, 1, 0] rfl)
def f_X0_mostWithWant (x1 : Int32) (x2 : Int32) (σ : Sg) : Option (Int32 × Sg) := (f_X8_isCup x1 σ).bind fun (q1 : Int32 × Sg) => if q1.1 = 0 then (f_X0_most q1.2).bind fun (q9 : Int32 × Sg) => some (q9.1, q9.2) else if okI x1 6 then if okI x1 6 then (f_X0_most (up q1.2 (72) (x1).toNatClampNeg x2)).bind fun (q6 : Int32 × Sg) => if okI x1 6 then some (q6.1, (up q6.2 (72) (x1).toNatClampNeg (q1.2 (72) (x1).toNatClampNeg))) else none else none else none
set_option maxHeartbeats 40000000 in
set_option maxRecDepth 100000 in
theorem c_X0_mostWithWant (l : Launch) (Γ : Geo) (hG : okC Γ) (x1 : Int32) (x2 : Int32) (σ : Sg) (r : Int32) (σ' : Sg) (hf : f_X0_mostWithWant x1 x2 σ = some (r, σ')) (sz : Nat) : Met l yX0_mostWithWant (wz yX0_mostWithWant cX0_mostWithWant 5 (some .int)) { frames := 2, cells := 0, slots := 0, locals := 46 } (va_Pc [.ref (Γ.2.2.1 (58)), .int x1, .int x2] (wPre Γ.1 vwCl (tysC Γ) (XC Γ) (alC Γ) Γ.2.2.2 σ sz)) (wQi Γ.1 vwCl (tysC Γ) (XC Γ) (alC Γ) r σ' sz) 0 0 (wA (alC Γ) sz) := by
  refine w_enter (cc := cX0_mostWithWant) (maxL := 5) (ret := (some .int)) (by decide) rfl (Nat.le_of_ble_eq_true rfl) ?_
  intro p e s m below meth c ls hx hb hr hlocks hml hown hts hsz hP hK hkc hN hl
  subst hsz
  generalize hav : ([.ref (Γ.2.2.1 (58)), .int x1, .int x2] : List Value) = av at hl hts ⊢
  have hl : lv_has ls 5 [(0, .ref (Γ.2.2.1 (58))), (1, .int x1), (2, .int x2)] := by rw [← hav] at hl; exact hl
  suffices hw : ∀ (H : Heap) (locs : List Loc), va_P Γ.1 vwCl (XC Γ σ) H → va_S (wA (alC Γ) s.heap.size) s.heap H locs → W p l e { frames := 2, cells := 0, slots := 0, locals := 46 } s m av.toArray below meth c H locs 0 0 (MQ below (wQi Γ.1 vwCl (tysC Γ) (XC Γ) (alC Γ) r σ' s.heap.size) av.toArray s 0 0 (wA (alC Γ) s.heap.size)) (F0 m 0 ls []) from hw _ [] hP va_S.rf
  clear hP
  intro H locs hP hS
  unfold f_X0_mostWithWant at hf
  refine lv_iload_n hx hb dX0_mostWithWant_0 rfl (lv_at hl 1 rfl) ?_
  obtain ⟨q1, h2, hf⟩ := w_ob hf
  refine w_ci (va_runSN (As := [.int x1]) (rest := []) ⟨hx, hb, hml, hown, hts⟩ (c_X8_isCup l Γ hG x1 σ q1.1 q1.2 h2 H.size) ⟨va_cnB 1 hts (wzC K147) rfl rfl rfl (hN _ (List.mem_of_getElem? (i := 0) rfl)) (hts (.initialized RX8) (wzm K2)) (by decide +kernel) ⟨(Nat.le_of_ble_eq_true rfl), (Nat.le_of_ble_eq_true rfl)⟩, (hts (.static yX8_isCup) (wzm K146)), trivial⟩ (w_pre hK hP hkc hN hS) rfl rfl hl.1 rfl (lv_room (Nat.le_of_ble_eq_true rfl)) dX0_mostWithWant_1 ⟨Nat.le_refl _, Nat.le_refl _⟩) hS (fun H locs hP hS => ?_)
  refine lv_if_ne (tgt := 12) hx hb dX0_mostWithWant_4 (by decide) (fun c3 => ?_) (fun c3 => ?_)
  · replace hf := (if_neg c3).symm.trans hf
    refine lv_aload_n hx hb dX0_mostWithWant_12 rfl (lv_at hl 0 rfl) ?_
    refine va_get (D := Γ.1) (ci := 0) (v := .ref (Γ.2.2.1 (61))) (C := RX0) (T := TX0) (N := 4) hx hb hts iX0 hown hK hP (58) (gC_Demand Γ q1.2) rfl 3 (by decide) (hts (.fieldLink RX0 18 "OtherHalfOfNight$Demand" "wants" "[I") (wzm K98)) (fun _ h9 => h9) rfl dX0_mostWithWant_13 ?_
    refine lv_iload_n hx hb dX0_mostWithWant_16 rfl (lv_at hl 1 rfl) ?_
    obtain ⟨g4, hf⟩ := w_oi hf
    refine va_iald (D := Γ.1) (tys := (tysC Γ)) hx hb hK hP (61) 0 (gC_Demand_wants Γ q1.2) rfl g4 dX0_mostWithWant_17 ?_
    refine lv_istore_n (lv' := [(3, .int (q1.2 (72) (x1).toNatClampNeg)), (0, .ref (Γ.2.2.1 (58))), (1, .int x1), (2, .int x2)]) hx hb dX0_mostWithWant_18 rfl hl (by decide) rfl (fun ls hl => ?_)
    refine lv_aload_n hx hb dX0_mostWithWant_19 rfl (lv_at hl 1 rfl) ?_
    refine va_get (D := Γ.1) (ci := 0) (v := .ref (Γ.2.2.1 (61))) (C := RX0) (T := TX0) (N := 4) hx hb hts iX0 hown hK hP (58) (gC_Demand Γ q1.2) rfl 3 (by decide) (hts (.fieldLink RX0 18 "OtherHalfOfNight$Demand" "wants" "[I") (wzm K98)) (fun _ h9 => h9) rfl dX0_mostWithWant_20 ?_
    refine lv_iload_n hx hb dX0_mostWithWant_23 rfl (lv_at hl 2 rfl) ?_
    refine lv_iload_n hx hb dX0_mostWithWant_24 rfl (lv_at hl 3 rfl) ?_
    obtain ⟨g5, hf⟩ := w_oi hf
    refine w_iast (D := Γ.1) (tys := (tysC Γ)) (X := XC Γ) (σ' := (up q1.2 (72) (x1).toNatClampNeg x2)) hx hb hK hP (halC Γ) hG hS (61) 0 (gC_Demand_wants Γ q1.2) rfl g5 dX0_mostWithWant_25 (sC_Demand_wants Γ q1.2 (x1).toNatClampNeg x2) (fun H locs hP hS => ?_)
    refine lv_aload_n hx hb dX0_mostWithWant_26 rfl (lv_at hl 1 rfl) ?_
    obtain ⟨q6, h7, hf⟩ := w_ob hf
    refine w_ci (va_runV (As := []) (rest := []) ⟨hx, hb, hml, hown, hts⟩ (c_X0_most l Γ hG (up q1.2 (72) (x1).toNatClampNeg x2) q6.1 q6.2 h7 H.size) (cwV 0 hts (wzV K749 K758 K747 K748 K32) rfl rfl rfl (by decide +kernel) ⟨(Nat.le_of_ble_eq_true rfl), (Nat.le_of_ble_eq_true rfl)⟩) (w_preV hK hP hkc hN hS (gC_Demand Γ (up q1.2 (72) (x1).toNatClampNeg x2)) rfl) rfl rfl hl.1 rfl (lv_room (Nat.le_of_ble_eq_true rfl)) dX0_mostWithWant_27 ⟨Nat.le_refl _, Nat.le_refl _⟩) hS (fun H locs hP hS => ?_)
    refine lv_istore (lv' := [(4, .int q6.1), (3, .int (q1.2 (72) (x1).toNatClampNeg)), (0, .ref (Γ.2.2.1 (58))), (1, .int x1), (2, .int x2)]) hx hb dX0_mostWithWant_30 hl (by decide) rfl (fun ls hl => ?_)
    refine lv_aload_n hx hb dX0_mostWithWant_32 rfl (lv_at hl 2 rfl) ?_
    refine va_get (D := Γ.1) (ci := 0) (v := .ref (Γ.2.2.1 (61))) (C := RX0) (T := TX0) (N := 4) hx hb hts iX0 hown hK hP (58) (gC_Demand Γ q6.2) rfl 3 (by decide) (hts (.fieldLink RX0 18 "OtherHalfOfNight$Demand" "wants" "[I") (wzm K98)) (fun _ h9 => h9) rfl dX0_mostWithWant_33 ?_
    refine lv_iload_n hx hb dX0_mostWithWant_36 rfl (lv_at hl 3 rfl) ?_
    refine lv_iload_n hx hb dX0_mostWithWant_37 rfl (lv_at hl 1 rfl) ?_
    obtain ⟨g8, hf⟩ := w_oi hf
    refine w_iast (D := Γ.1) (tys := (tysC Γ)) (X := XC Γ) (σ' := (up q6.2 (72) (x1).toNatClampNeg (q1.2 (72) (x1).toNatClampNeg))) hx hb hK hP (halC Γ) hG hS (61) 0 (gC_Demand_wants Γ q6.2) rfl g8 dX0_mostWithWant_38 (sC_Demand_wants Γ q6.2 (x1).toNatClampNeg (q1.2 (72) (x1).toNatClampNeg)) (fun H locs hP hS => ?_)
    refine lv_iload hx hb dX0_mostWithWant_39 (lv_at hl 0 rfl) ?_
    exact w_iret (X := XC Γ) hx hb hr hlocks hK hP hS rfl hf dX0_mostWithWant_41
  · replace hf := (if_pos c3).symm.trans hf
    refine lv_aload_n hx hb dX0_mostWithWant_7 rfl (lv_at hl 0 rfl) ?_
    obtain ⟨q9, h10, hf⟩ := w_ob hf
    refine w_ci (va_runV (As := []) (rest := []) ⟨hx, hb, hml, hown, hts⟩ (c_X0_most l Γ hG q1.2 q9.1 q9.2 h10 H.size) (cwV 0 hts (wzV K749 K758 K747 K748 K32) rfl rfl rfl (by decide +kernel) ⟨(Nat.le_of_ble_eq_true rfl), (Nat.le_of_ble_eq_true rfl)⟩) (w_preV hK hP hkc hN hS (gC_Demand Γ q1.2) rfl) rfl rfl hl.1 rfl (lv_room (Nat.le_of_ble_eq_true rfl)) dX0_mostWithWant_8 ⟨Nat.le_refl _, Nat.le_refl _⟩) hS (fun H locs hP hS => ?_)
    exact w_iret (X := XC Γ) hx hb hr hlocks hK hP hS rfl hf dX0_mostWithWant_11
def f_X0_emptiest_4 : Nat → Int32 → Int32 → Sg → Option (Int32 × Sg)
  | 0, _, _, _ => none
  | n + 1, y1, y2, τ => if (6 : Int32) ≤ y2 then some (y1, τ) else (f_X0_mostWithWant y2 (0 : Int32) τ).bind fun (q2 : Int32 × Sg) => (f_X0_mostWithWant y1 (0 : Int32) q2.2).bind fun (q4 : Int32 × Sg) => if q2.1 ≤ q4.1 then (f_X0_emptiest_4 n) (y1) ((y2 + (1 : Int32))) q4.2 else (f_X0_emptiest_4 n) (y2) ((y2 + (1 : Int32))) q4.2
def f_X0_emptiest (σ : Sg) : Option (Int32 × Sg) := f_X0_emptiest_4 5000 ((0 : Int32)) ((1 : Int32)) σ
set_option maxHeartbeats 40000000 in
set_option maxRecDepth 100000 in
theorem c_X0_emptiest (l : Launch) (Γ : Geo) (hG : okC Γ) (σ : Sg) (r : Int32) (σ' : Sg) (hf : f_X0_emptiest σ = some (r, σ')) (sz : Nat) : Met l yX0_emptiest (wz yX0_emptiest cX0_emptiest 3 (some .int)) { frames := 3, cells := 0, slots := 0, locals := 70 } (va_Pc [.ref (Γ.2.2.1 (58))] (wPre Γ.1 vwCl (tysC Γ) (XC Γ) (alC Γ) Γ.2.2.2 σ sz)) (wQi Γ.1 vwCl (tysC Γ) (XC Γ) (alC Γ) r σ' sz) 0 0 (wA (alC Γ) sz) := by
  refine w_enter (cc := cX0_emptiest) (maxL := 3) (ret := (some .int)) (by decide) rfl (Nat.le_of_ble_eq_true rfl) ?_
  intro p e s m below meth c ls hx hb hr hlocks hml hown hts hsz hP hK hkc hN hl
  subst hsz
  generalize hav : ([.ref (Γ.2.2.1 (58))] : List Value) = av at hl hts ⊢
  have hl : lv_has ls 3 [(0, .ref (Γ.2.2.1 (58)))] := by rw [← hav] at hl; exact hl
  have j4 : ∀ (n4 : Nat), ∀ (y1 : Int32) (y2 : Int32) (τ : Sg) (H : Heap) (locs : List Loc) (ls : Array Slot) (hf : f_X0_emptiest_4 n4 y1 y2 τ = some (r, σ')) (hP : va_P Γ.1 vwCl (XC Γ τ) H) (hS : va_S (wA (alC Γ) s.heap.size) s.heap H locs) (hl : lv_has ls 3 [(0, .ref (Γ.2.2.1 (58))), (1, .int y1), (2, .int y2)]), W p l e { frames := 3, cells := 0, slots := 0, locals := 70 } s m av.toArray below meth c H locs 0 0 (MQ below (wQi Γ.1 vwCl (tysC Γ) (XC Γ) (alC Γ) r σ' s.heap.size) av.toArray s 0 0 (wA (alC Γ) s.heap.size)) (F0 m 4 ls []) := by
    intro n4
    induction n4 with
    | zero =>
      intro y1 y2 τ H locs ls hf
      exact absurd hf (by intro h; cases h)
    | succ n4 ih4 =>
      intro y1 y2 τ H locs ls hf hP hS hl
      unfold f_X0_emptiest_4 at hf
      refine lv_iload_n hx hb dX0_emptiest_4 rfl (lv_at hl 2 rfl) ?_
      refine lv_bipush (v := (6 : Int32)) hx hb dX0_emptiest_5 (by decide) ?_
      refine lv_icmp_ge (tgt := 33) hx hb dX0_emptiest_7 (by decide) (fun c1 => ?_) (fun c1 => ?_)
      · replace hf := (if_pos c1).symm.trans hf
        refine lv_iload_n hx hb dX0_emptiest_33 rfl (lv_at hl 1 rfl) ?_
        exact w_iret (X := XC Γ) hx hb hr hlocks hK hP hS rfl hf dX0_emptiest_34
      · replace hf := (if_neg c1).symm.trans hf
        refine lv_aload_n hx hb dX0_emptiest_10 rfl (lv_at hl 0 rfl) ?_
        refine lv_iload_n hx hb dX0_emptiest_11 rfl (lv_at hl 2 rfl) ?_
        refine lv_iconst (v := (0 : Int32)) hx hb dX0_emptiest_12 (by decide) ?_
        obtain ⟨q2, h3, hf⟩ := w_ob hf
        refine w_ci (va_runV (As := [.int y2, .int (0 : Int32)]) (rest := []) ⟨hx, hb, hml, hown, hts⟩ (c_X0_mostWithWant l Γ hG y2 (0 : Int32) τ q2.1 q2.2 h3 H.size) (cwV 2 hts (wzV K814 K811 K812 K813 K32) rfl rfl rfl (by decide +kernel) ⟨(Nat.le_of_ble_eq_true rfl), (Nat.le_of_ble_eq_true rfl)⟩) (w_preV hK hP hkc hN hS (gC_Demand Γ τ) rfl) rfl rfl hl.1 rfl (lv_room (Nat.le_of_ble_eq_true rfl)) dX0_emptiest_13 ⟨Nat.le_refl _, Nat.le_refl _⟩) hS (fun H locs hP hS => ?_)
        refine lv_aload_n hx hb dX0_emptiest_16 rfl (lv_at hl 0 rfl) ?_
        refine lv_iload_n hx hb dX0_emptiest_17 rfl (lv_at hl 1 rfl) ?_
        refine lv_iconst (v := (0 : Int32)) hx hb dX0_emptiest_18 (by decide) ?_
        obtain ⟨q4, h5, hf⟩ := w_ob hf
        refine w_ci (va_runV (As := [.int y1, .int (0 : Int32)]) (rest := [.int q2.1]) ⟨hx, hb, hml, hown, hts⟩ (c_X0_mostWithWant l Γ hG y1 (0 : Int32) q2.2 q4.1 q4.2 h5 H.size) (cwV 2 hts (wzV K814 K811 K812 K813 K32) rfl rfl rfl (by decide +kernel) ⟨(Nat.le_of_ble_eq_true rfl), (Nat.le_of_ble_eq_true rfl)⟩) (w_preV hK hP hkc hN hS (gC_Demand Γ q2.2) rfl) rfl rfl hl.1 rfl (lv_room (Nat.le_of_ble_eq_true rfl)) dX0_emptiest_19 ⟨Nat.le_refl _, Nat.le_refl _⟩) hS (fun H locs hP hS => ?_)
        refine lv_icmp_le (tgt := 27) hx hb dX0_emptiest_22 (by decide) (fun c6 => ?_) (fun c6 => ?_)
        · replace hf := (if_pos c6).symm.trans hf
          refine lv_iinc (v := (y2 + (1 : Int32))) (lv' := [(2, .int (y2 + (1 : Int32))), (0, .ref (Γ.2.2.1 (58))), (1, .int y1)]) hx hb dX0_emptiest_27 hl (k := 2) rfl rfl (by decide) rfl (fun ls hl => ?_)
          refine lv_goto (tgt := 4) hx hb dX0_emptiest_30 (by decide) ?_
          exact ih4 (y1) ((y2 + (1 : Int32))) q4.2 H locs ls hf hP hS (lv_sub hl [1, 2, 0] rfl)
        · replace hf := (if_neg c6).symm.trans hf
          refine lv_iload_n hx hb dX0_emptiest_25 rfl (lv_at hl 2 rfl) ?_
          refine lv_istore_n (lv' := [(1, .int y2), (0, .ref (Γ.2.2.1 (58))), (2, .int y2)]) hx hb dX0_emptiest_26 rfl hl (by decide) rfl (fun ls hl => ?_)
          refine lv_iinc (v := (y2 + (1 : Int32))) (lv' := [(2, .int (y2 + (1 : Int32))), (1, .int y2), (0, .ref (Γ.2.2.1 (58)))]) hx hb dX0_emptiest_27 hl (k := 2) rfl rfl (by decide) rfl (fun ls hl => ?_)
          refine lv_goto (tgt := 4) hx hb dX0_emptiest_30 (by decide) ?_
          exact ih4 (y2) ((y2 + (1 : Int32))) q4.2 H locs ls hf hP hS (lv_sub hl [2, 1, 0] rfl)
  suffices hw : ∀ (H : Heap) (locs : List Loc), va_P Γ.1 vwCl (XC Γ σ) H → va_S (wA (alC Γ) s.heap.size) s.heap H locs → W p l e { frames := 3, cells := 0, slots := 0, locals := 70 } s m av.toArray below meth c H locs 0 0 (MQ below (wQi Γ.1 vwCl (tysC Γ) (XC Γ) (alC Γ) r σ' s.heap.size) av.toArray s 0 0 (wA (alC Γ) s.heap.size)) (F0 m 0 ls []) from hw _ [] hP va_S.rf
  clear hP
  intro H locs hP hS
  unfold f_X0_emptiest at hf
  refine lv_iconst (v := (0 : Int32)) hx hb dX0_emptiest_0 (by decide) ?_
  refine lv_istore_n (lv' := [(1, .int (0 : Int32)), (0, .ref (Γ.2.2.1 (58)))]) hx hb dX0_emptiest_1 rfl hl (by decide) rfl (fun ls hl => ?_)
  refine lv_iconst (v := (1 : Int32)) hx hb dX0_emptiest_2 (by decide) ?_
  refine lv_istore_n (lv' := [(2, .int (1 : Int32)), (1, .int (0 : Int32)), (0, .ref (Γ.2.2.1 (58)))]) hx hb dX0_emptiest_3 rfl hl (by decide) rfl (fun ls hl => ?_)
  exact j4 5000 ((0 : Int32)) ((1 : Int32)) σ H locs ls hf hP hS (lv_sub hl [2, 1, 0] rfl)
def f_X0_mostWithOneMore (x1 : Int32) (σ : Sg) : Option (Int32 × Sg) := (f_X8_isCup x1 σ).bind fun (q1 : Int32 × Sg) => if q1.1 = 0 then (f_X0_most q1.2).bind fun (q4 : Int32 × Sg) => some (q4.1, q4.2) else if okI x1 6 then (f_X8_bounded ((q1.2 (72) (x1).toNatClampNeg) + (1 : Int32)) q1.2).bind fun (q7 : Int32 × Sg) => (f_X0_mostWithWant x1 q7.1 q7.2).bind fun (q9 : Int32 × Sg) => some (q9.1, q9.2) else none
set_option maxHeartbeats 40000000 in
set_option maxRecDepth 100000 in
theorem c_X0_mostWithOneMore (l : Launch) (Γ : Geo) (hG : okC Γ) (x1 : Int32) (σ : Sg) (r : Int32) (σ' : Sg) (hf : f_X0_mostWithOneMore x1 σ = some (r, σ')) (sz : Nat) : Met l yX0_mostWithOneMore (wz yX0_mostWithOneMore cX0_mostWithOneMore 2 (some .int)) { frames := 3, cells := 0, slots := 0, locals := 70 } (va_Pc [.ref (Γ.2.2.1 (58)), .int x1] (wPre Γ.1 vwCl (tysC Γ) (XC Γ) (alC Γ) Γ.2.2.2 σ sz)) (wQi Γ.1 vwCl (tysC Γ) (XC Γ) (alC Γ) r σ' sz) 0 0 (wA (alC Γ) sz) := by
  refine w_enter (cc := cX0_mostWithOneMore) (maxL := 2) (ret := (some .int)) (by decide) rfl (Nat.le_of_ble_eq_true rfl) ?_
  intro p e s m below meth c ls hx hb hr hlocks hml hown hts hsz hP hK hkc hN hl
  subst hsz
  generalize hav : ([.ref (Γ.2.2.1 (58)), .int x1] : List Value) = av at hl hts ⊢
  have hl : lv_has ls 2 [(0, .ref (Γ.2.2.1 (58))), (1, .int x1)] := by rw [← hav] at hl; exact hl
  suffices hw : ∀ (H : Heap) (locs : List Loc), va_P Γ.1 vwCl (XC Γ σ) H → va_S (wA (alC Γ) s.heap.size) s.heap H locs → W p l e { frames := 3, cells := 0, slots := 0, locals := 70 } s m av.toArray below meth c H locs 0 0 (MQ below (wQi Γ.1 vwCl (tysC Γ) (XC Γ) (alC Γ) r σ' s.heap.size) av.toArray s 0 0 (wA (alC Γ) s.heap.size)) (F0 m 0 ls []) from hw _ [] hP va_S.rf
  clear hP
  intro H locs hP hS
  unfold f_X0_mostWithOneMore at hf
  refine lv_iload_n hx hb dX0_mostWithOneMore_0 rfl (lv_at hl 1 rfl) ?_
  obtain ⟨q1, h2, hf⟩ := w_ob hf
  refine w_ci (va_runSN (As := [.int x1]) (rest := []) ⟨hx, hb, hml, hown, hts⟩ (c_X8_isCup l Γ hG x1 σ q1.1 q1.2 h2 H.size) ⟨va_cnB 1 hts (wzC K147) rfl rfl rfl (hN _ (List.mem_of_getElem? (i := 0) rfl)) (hts (.initialized RX8) (wzm K2)) (by decide +kernel) ⟨(Nat.le_of_ble_eq_true rfl), (Nat.le_of_ble_eq_true rfl)⟩, (hts (.static yX8_isCup) (wzm K146)), trivial⟩ (w_pre hK hP hkc hN hS) rfl rfl hl.1 rfl (lv_room (Nat.le_of_ble_eq_true rfl)) dX0_mostWithOneMore_1 ⟨Nat.le_refl _, Nat.le_refl _⟩) hS (fun H locs hP hS => ?_)
  refine lv_if_eq (tgt := 26) hx hb dX0_mostWithOneMore_4 (by decide) (fun c3 => ?_) (fun c3 => ?_)
  · replace hf := (if_pos c3).symm.trans hf
    refine lv_aload_n hx hb dX0_mostWithOneMore_26 rfl (lv_at hl 0 rfl) ?_
    obtain ⟨q4, h5, hf⟩ := w_ob hf
    refine w_ci (va_runV (As := []) (rest := []) ⟨hx, hb, hml, hown, hts⟩ (c_X0_most l Γ hG q1.2 q4.1 q4.2 h5 H.size) (cwV 0 hts (wzV K749 K758 K747 K748 K32) rfl rfl rfl (by decide +kernel) ⟨(Nat.le_of_ble_eq_true rfl), (Nat.le_of_ble_eq_true rfl)⟩) (w_preV hK hP hkc hN hS (gC_Demand Γ q1.2) rfl) rfl rfl hl.1 rfl (lv_room (Nat.le_of_ble_eq_true rfl)) dX0_mostWithOneMore_27 ⟨Nat.le_refl _, Nat.le_refl _⟩) hS (fun H locs hP hS => ?_)
    exact w_iret (X := XC Γ) hx hb hr hlocks hK hP hS rfl hf dX0_mostWithOneMore_30
  · replace hf := (if_neg c3).symm.trans hf
    refine lv_aload_n hx hb dX0_mostWithOneMore_7 rfl (lv_at hl 0 rfl) ?_
    refine lv_iload_n hx hb dX0_mostWithOneMore_8 rfl (lv_at hl 1 rfl) ?_
    refine lv_aload_n hx hb dX0_mostWithOneMore_9 rfl (lv_at hl 0 rfl) ?_
    refine va_get (D := Γ.1) (ci := 0) (v := .ref (Γ.2.2.1 (61))) (C := RX0) (T := TX0) (N := 4) hx hb hts iX0 hown hK hP (58) (gC_Demand Γ q1.2) rfl 3 (by decide) (hts (.fieldLink RX0 18 "OtherHalfOfNight$Demand" "wants" "[I") (wzm K98)) (fun _ h9 => h9) rfl dX0_mostWithOneMore_10 ?_
    refine lv_iload_n hx hb dX0_mostWithOneMore_13 rfl (lv_at hl 1 rfl) ?_
    obtain ⟨g6, hf⟩ := w_oi hf
    refine va_iald (D := Γ.1) (tys := (tysC Γ)) hx hb hK hP (61) 0 (gC_Demand_wants Γ q1.2) rfl g6 dX0_mostWithOneMore_14 ?_
    refine lv_iconst (v := (1 : Int32)) hx hb dX0_mostWithOneMore_15 (by decide) ?_
    refine lv_iadd hx hb dX0_mostWithOneMore_16 ?_
    obtain ⟨q7, h8, hf⟩ := w_ob hf
    refine w_ci (va_runSN (As := [.int ((q1.2 (72) (x1).toNatClampNeg) + (1 : Int32))]) (rest := [.int x1, .ref (Γ.2.2.1 (58))]) ⟨hx, hb, hml, hown, hts⟩ (c_X8_bounded l Γ hG ((q1.2 (72) (x1).toNatClampNeg) + (1 : Int32)) q1.2 q7.1 q7.2 h8 H.size) ⟨va_cnB 1 hts (wzC K372) rfl rfl rfl (hN _ (List.mem_of_getElem? (i := 1) rfl)) (hts (.initialized RX8) (wzm K2)) (by decide +kernel) ⟨(Nat.le_of_ble_eq_true rfl), (Nat.le_of_ble_eq_true rfl)⟩, (hts (.static yX8_bounded) (wzm K371)), trivial⟩ (w_pre hK hP hkc hN hS) rfl rfl hl.1 rfl (lv_room (Nat.le_of_ble_eq_true rfl)) dX0_mostWithOneMore_17 ⟨Nat.le_refl _, Nat.le_refl _⟩) hS (fun H locs hP hS => ?_)
    obtain ⟨q9, h10, hf⟩ := w_ob hf
    refine w_ci (va_runV (As := [.int x1, .int q7.1]) (rest := []) ⟨hx, hb, hml, hown, hts⟩ (c_X0_mostWithWant l Γ hG x1 q7.1 q7.2 q9.1 q9.2 h10 H.size) (cwV 2 hts (wzV K814 K811 K812 K813 K32) rfl rfl rfl (by decide +kernel) ⟨(Nat.le_of_ble_eq_true rfl), (Nat.le_of_ble_eq_true rfl)⟩) (w_preV hK hP hkc hN hS (gC_Demand Γ q7.2) rfl) rfl rfl hl.1 rfl (lv_room (Nat.le_of_ble_eq_true rfl)) dX0_mostWithOneMore_20 ⟨Nat.le_refl _, Nat.le_refl _⟩) hS (fun H locs hP hS => ?_)
    refine lv_goto (tgt := 30) hx hb dX0_mostWithOneMore_23 (by decide) ?_
    exact w_iret (X := XC Γ) hx hb hr hlocks hK hP hS rfl hf dX0_mostWithOneMore_30
def f_X0_dearest_4 : Nat → Int32 → Int32 → Sg → Option (Int32 × Sg)
  | 0, _, _, _ => none
  | n + 1, y1, y2, τ => if (6 : Int32) ≤ y2 then some (y1, τ) else (f_X0_mostWithOneMore y2 τ).bind fun (q2 : Int32 × Sg) => (f_X0_mostWithOneMore y1 q2.2).bind fun (q4 : Int32 × Sg) => if q2.1 ≤ q4.1 then (f_X0_dearest_4 n) (y1) ((y2 + (1 : Int32))) q4.2 else (f_X0_dearest_4 n) (y2) ((y2 + (1 : Int32))) q4.2
def f_X0_dearest (σ : Sg) : Option (Int32 × Sg) := f_X0_dearest_4 5000 ((0 : Int32)) ((1 : Int32)) σ
set_option maxHeartbeats 40000000 in
set_option maxRecDepth 100000 in
theorem c_X0_dearest (l : Launch) (Γ : Geo) (hG : okC Γ) (σ : Sg) (r : Int32) (σ' : Sg) (hf : f_X0_dearest σ = some (r, σ')) (sz : Nat) : Met l yX0_dearest (wz yX0_dearest cX0_dearest 3 (some .int)) { frames := 4, cells := 0, slots := 0, locals := 91 } (va_Pc [.ref (Γ.2.2.1 (58))] (wPre Γ.1 vwCl (tysC Γ) (XC Γ) (alC Γ) Γ.2.2.2 σ sz)) (wQi Γ.1 vwCl (tysC Γ) (XC Γ) (alC Γ) r σ' sz) 0 0 (wA (alC Γ) sz) := by
  refine w_enter (cc := cX0_dearest) (maxL := 3) (ret := (some .int)) (by decide) rfl (Nat.le_of_ble_eq_true rfl) ?_
  intro p e s m below meth c ls hx hb hr hlocks hml hown hts hsz hP hK hkc hN hl
  subst hsz
  generalize hav : ([.ref (Γ.2.2.1 (58))] : List Value) = av at hl hts ⊢
  have hl : lv_has ls 3 [(0, .ref (Γ.2.2.1 (58)))] := by rw [← hav] at hl; exact hl
  have j4 : ∀ (n4 : Nat), ∀ (y1 : Int32) (y2 : Int32) (τ : Sg) (H : Heap) (locs : List Loc) (ls : Array Slot) (hf : f_X0_dearest_4 n4 y1 y2 τ = some (r, σ')) (hP : va_P Γ.1 vwCl (XC Γ τ) H) (hS : va_S (wA (alC Γ) s.heap.size) s.heap H locs) (hl : lv_has ls 3 [(0, .ref (Γ.2.2.1 (58))), (1, .int y1), (2, .int y2)]), W p l e { frames := 4, cells := 0, slots := 0, locals := 91 } s m av.toArray below meth c H locs 0 0 (MQ below (wQi Γ.1 vwCl (tysC Γ) (XC Γ) (alC Γ) r σ' s.heap.size) av.toArray s 0 0 (wA (alC Γ) s.heap.size)) (F0 m 4 ls []) := by
    intro n4
    induction n4 with
    | zero =>
      intro y1 y2 τ H locs ls hf
      exact absurd hf (by intro h; cases h)
    | succ n4 ih4 =>
      intro y1 y2 τ H locs ls hf hP hS hl
      unfold f_X0_dearest_4 at hf
      refine lv_iload_n hx hb dX0_dearest_4 rfl (lv_at hl 2 rfl) ?_
      refine lv_bipush (v := (6 : Int32)) hx hb dX0_dearest_5 (by decide) ?_
      refine lv_icmp_ge (tgt := 31) hx hb dX0_dearest_7 (by decide) (fun c1 => ?_) (fun c1 => ?_)
      · replace hf := (if_pos c1).symm.trans hf
        refine lv_iload_n hx hb dX0_dearest_31 rfl (lv_at hl 1 rfl) ?_
        exact w_iret (X := XC Γ) hx hb hr hlocks hK hP hS rfl hf dX0_dearest_32
      · replace hf := (if_neg c1).symm.trans hf
        refine lv_aload_n hx hb dX0_dearest_10 rfl (lv_at hl 0 rfl) ?_
        refine lv_iload_n hx hb dX0_dearest_11 rfl (lv_at hl 2 rfl) ?_
        obtain ⟨q2, h3, hf⟩ := w_ob hf
        refine w_ci (va_runV (As := [.int y2]) (rest := []) ⟨hx, hb, hml, hown, hts⟩ (c_X0_mostWithOneMore l Γ hG y2 τ q2.1 q2.2 h3 H.size) (cwV 1 hts (wzV K823 K820 K821 K822 K32) rfl rfl rfl (by decide +kernel) ⟨(Nat.le_of_ble_eq_true rfl), (Nat.le_of_ble_eq_true rfl)⟩) (w_preV hK hP hkc hN hS (gC_Demand Γ τ) rfl) rfl rfl hl.1 rfl (lv_room (Nat.le_of_ble_eq_true rfl)) dX0_dearest_12 ⟨Nat.le_refl _, Nat.le_refl _⟩) hS (fun H locs hP hS => ?_)
        refine lv_aload_n hx hb dX0_dearest_15 rfl (lv_at hl 0 rfl) ?_
        refine lv_iload_n hx hb dX0_dearest_16 rfl (lv_at hl 1 rfl) ?_
        obtain ⟨q4, h5, hf⟩ := w_ob hf
        refine w_ci (va_runV (As := [.int y1]) (rest := [.int q2.1]) ⟨hx, hb, hml, hown, hts⟩ (c_X0_mostWithOneMore l Γ hG y1 q2.2 q4.1 q4.2 h5 H.size) (cwV 1 hts (wzV K823 K820 K821 K822 K32) rfl rfl rfl (by decide +kernel) ⟨(Nat.le_of_ble_eq_true rfl), (Nat.le_of_ble_eq_true rfl)⟩) (w_preV hK hP hkc hN hS (gC_Demand Γ q2.2) rfl) rfl rfl hl.1 rfl (lv_room (Nat.le_of_ble_eq_true rfl)) dX0_dearest_17 ⟨Nat.le_refl _, Nat.le_refl _⟩) hS (fun H locs hP hS => ?_)
        refine lv_icmp_le (tgt := 25) hx hb dX0_dearest_20 (by decide) (fun c6 => ?_) (fun c6 => ?_)
        · replace hf := (if_pos c6).symm.trans hf
          refine lv_iinc (v := (y2 + (1 : Int32))) (lv' := [(2, .int (y2 + (1 : Int32))), (0, .ref (Γ.2.2.1 (58))), (1, .int y1)]) hx hb dX0_dearest_25 hl (k := 2) rfl rfl (by decide) rfl (fun ls hl => ?_)
          refine lv_goto (tgt := 4) hx hb dX0_dearest_28 (by decide) ?_
          exact ih4 (y1) ((y2 + (1 : Int32))) q4.2 H locs ls hf hP hS (lv_sub hl [1, 2, 0] rfl)
        · replace hf := (if_neg c6).symm.trans hf
          refine lv_iload_n hx hb dX0_dearest_23 rfl (lv_at hl 2 rfl) ?_
          refine lv_istore_n (lv' := [(1, .int y2), (0, .ref (Γ.2.2.1 (58))), (2, .int y2)]) hx hb dX0_dearest_24 rfl hl (by decide) rfl (fun ls hl => ?_)
          refine lv_iinc (v := (y2 + (1 : Int32))) (lv' := [(2, .int (y2 + (1 : Int32))), (1, .int y2), (0, .ref (Γ.2.2.1 (58)))]) hx hb dX0_dearest_25 hl (k := 2) rfl rfl (by decide) rfl (fun ls hl => ?_)
          refine lv_goto (tgt := 4) hx hb dX0_dearest_28 (by decide) ?_
          exact ih4 (y2) ((y2 + (1 : Int32))) q4.2 H locs ls hf hP hS (lv_sub hl [2, 1, 0] rfl)
  suffices hw : ∀ (H : Heap) (locs : List Loc), va_P Γ.1 vwCl (XC Γ σ) H → va_S (wA (alC Γ) s.heap.size) s.heap H locs → W p l e { frames := 4, cells := 0, slots := 0, locals := 91 } s m av.toArray below meth c H locs 0 0 (MQ below (wQi Γ.1 vwCl (tysC Γ) (XC Γ) (alC Γ) r σ' s.heap.size) av.toArray s 0 0 (wA (alC Γ) s.heap.size)) (F0 m 0 ls []) from hw _ [] hP va_S.rf
  clear hP
  intro H locs hP hS
  unfold f_X0_dearest at hf
  refine lv_iconst (v := (0 : Int32)) hx hb dX0_dearest_0 (by decide) ?_
  refine lv_istore_n (lv' := [(1, .int (0 : Int32)), (0, .ref (Γ.2.2.1 (58)))]) hx hb dX0_dearest_1 rfl hl (by decide) rfl (fun ls hl => ?_)
  refine lv_iconst (v := (1 : Int32)) hx hb dX0_dearest_2 (by decide) ?_
  refine lv_istore_n (lv' := [(2, .int (1 : Int32)), (1, .int (0 : Int32)), (0, .ref (Γ.2.2.1 (58)))]) hx hb dX0_dearest_3 rfl hl (by decide) rfl (fun ls hl => ?_)
  exact j4 5000 ((0 : Int32)) ((1 : Int32)) σ H locs ls hf hP hS (lv_sub hl [2, 1, 0] rfl)
def f_X5_isMissing (i0 : Nat) (σ : Sg) : Option (Int32 × Sg) := if i0 < 4 then if (σ (73 + 3 * i0) 0) = (-1 : Int32) then some ((1 : Int32), σ) else some ((0 : Int32), σ) else none
set_option maxHeartbeats 40000000 in
set_option maxRecDepth 100000 in
theorem c_X5_isMissing (l : Launch) (Γ : Geo) (hG : okC Γ) (i0 : Nat) (σ : Sg) (r : Int32) (σ' : Sg) (hf : f_X5_isMissing i0 σ = some (r, σ')) (sz : Nat) : Met l yX5_isMissing (wz yX5_isMissing cX5_isMissing 1 (some .boolean)) { frames := 0, cells := 0, slots := 0, locals := 0 } (va_Pc [.ref (Γ.2.2.1 (63 + 2 * i0))] (wPre Γ.1 vwCl (tysC Γ) (XC Γ) (alC Γ) Γ.2.2.2 σ sz)) (wQi Γ.1 vwCl (tysC Γ) (XC Γ) (alC Γ) r σ' sz) 0 0 (wA (alC Γ) sz) := by
  refine w_enter (cc := cX5_isMissing) (maxL := 1) (ret := (some .boolean)) (by decide) rfl (Nat.le_of_ble_eq_true rfl) ?_
  intro p e s m below meth c ls hx hb hr hlocks hml hown hts hsz hP hK hkc hN hl
  subst hsz
  generalize hav : ([.ref (Γ.2.2.1 (63 + 2 * i0))] : List Value) = av at hl hts ⊢
  have hl : lv_has ls 1 [(0, .ref (Γ.2.2.1 (63 + 2 * i0)))] := by rw [← hav] at hl; exact hl
  suffices hw : ∀ (H : Heap) (locs : List Loc), va_P Γ.1 vwCl (XC Γ σ) H → va_S (wA (alC Γ) s.heap.size) s.heap H locs → W p l e { frames := 0, cells := 0, slots := 0, locals := 0 } s m av.toArray below meth c H locs 0 0 (MQ below (wQi Γ.1 vwCl (tysC Γ) (XC Γ) (alC Γ) r σ' s.heap.size) av.toArray s 0 0 (wA (alC Γ) s.heap.size)) (F0 m 0 ls []) from hw _ [] hP va_S.rf
  clear hP
  intro H locs hP hS
  unfold f_X5_isMissing at hf
  obtain ⟨g1, hf⟩ := w_oi hf
  refine lv_aload_n hx hb dX5_isMissing_0 rfl (lv_at hl 0 rfl) ?_
  refine va_get (D := Γ.1) (ci := 5) (v := .int (σ (73 + 3 * i0) 0)) (C := RX5) (T := TX5) (N := 3) hx hb hts iX5 hown hK hP (63 + 2 * i0) (gC_Sheet Γ σ (i0) g1) rfl 0 (by decide) (hts (.fieldLink RX5 9 "OtherHalfOfNight$Sheet" "sort" "I") (wzm K102)) (fun _ h9 => h9) rfl dX5_isMissing_1 ?_
  refine lv_iconst (v := (-1 : Int32)) hx hb dX5_isMissing_4 (by decide) ?_
  refine lv_icmp_ne (tgt := 12) hx hb dX5_isMissing_5 (by decide) (fun c2 => ?_) (fun c2 => ?_)
  · replace hf := (if_neg c2).symm.trans hf
    refine lv_iconst (v := (0 : Int32)) hx hb dX5_isMissing_12 (by decide) ?_
    exact w_iret (X := XC Γ) hx hb hr hlocks hK hP hS (by decide) hf dX5_isMissing_13
  · replace hf := (if_pos c2).symm.trans hf
    refine lv_iconst (v := (1 : Int32)) hx hb dX5_isMissing_8 (by decide) ?_
    refine lv_goto (tgt := 13) hx hb dX5_isMissing_9 (by decide) ?_
    exact w_iret (X := XC Γ) hx hb hr hlocks hK hP hS (by decide) hf dX5_isMissing_13
def f_X5_become_21 (i0 : Nat) (x1 : Int32) (x2 : Int32) : Nat → Int32 → Sg → Option Sg
  | 0, _, _ => none
  | n + 1, y3, τ => if i0 < 4 then if (40 : Int32) ≤ y3 then some τ else if okI y3 40 then (f_X5_become_21 i0 x1 x2 n) ((y3 + (1 : Int32))) (up τ (75 + 3 * i0) (y3).toNatClampNeg (0 : Int32)) else none else none
def f_X5_become (i0 : Nat) (x1 : Int32) (x2 : Int32) (σ : Sg) : Option Sg := if i0 < 4 then (some (up (up σ (73 + 3 * i0) 0 x1) (74 + 3 * i0) 0 (if (0 : Int32) < (if x2 < (40 : Int32) then x2 else (40 : Int32)) then (if x2 < (40 : Int32) then x2 else (40 : Int32)) else (0 : Int32)))).bind fun (τ2 : Sg) => f_X5_become_21 i0 x1 x2 5000 ((0 : Int32)) τ2 else none
set_option maxHeartbeats 40000000 in
set_option maxRecDepth 100000 in
theorem c_X5_become (l : Launch) (Γ : Geo) (hG : okC Γ) (i0 : Nat) (x1 : Int32) (x2 : Int32) (σ : Sg) (σ' : Sg) (hf : f_X5_become i0 x1 x2 σ = some σ') (sz : Nat) : Met l yX5_become (wz yX5_become cX5_become 4 none) { frames := 1, cells := 0, slots := 0, locals := 21 } (va_Pc [.ref (Γ.2.2.1 (63 + 2 * i0)), .int x1, .int x2] (wPre Γ.1 vwCl (tysC Γ) (XC Γ) (alC Γ) Γ.2.2.2 σ sz)) (wQv Γ.1 vwCl (tysC Γ) (XC Γ) (alC Γ) σ' sz) 0 0 (wA (alC Γ) sz) := by
  refine w_enter (cc := cX5_become) (maxL := 4) (ret := none) (by decide) rfl (Nat.le_of_ble_eq_true rfl) ?_
  intro p e s m below meth c ls hx hb hr hlocks hml hown hts hsz hP hK hkc hN hl
  subst hsz
  generalize hav : ([.ref (Γ.2.2.1 (63 + 2 * i0)), .int x1, .int x2] : List Value) = av at hl hts ⊢
  have hl : lv_has ls 4 [(0, .ref (Γ.2.2.1 (63 + 2 * i0))), (1, .int x1), (2, .int x2)] := by rw [← hav] at hl; exact hl
  have j21 : ∀ (n21 : Nat), ∀ (y3 : Int32) (τ : Sg) (H : Heap) (locs : List Loc) (ls : Array Slot) (hf : f_X5_become_21 i0 x1 x2 n21 y3 τ = some σ') (hP : va_P Γ.1 vwCl (XC Γ τ) H) (hS : va_S (wA (alC Γ) s.heap.size) s.heap H locs) (hl : lv_has ls 4 [(0, .ref (Γ.2.2.1 (63 + 2 * i0))), (3, .int y3)]), W p l e { frames := 1, cells := 0, slots := 0, locals := 21 } s m av.toArray below meth c H locs 0 0 (MQ below (wQv Γ.1 vwCl (tysC Γ) (XC Γ) (alC Γ) σ' s.heap.size) av.toArray s 0 0 (wA (alC Γ) s.heap.size)) (F0 m 21 ls []) := by
    intro n21
    induction n21 with
    | zero =>
      intro y3 τ H locs ls hf
      exact absurd hf (by intro h; cases h)
    | succ n21 ih21 =>
      intro y3 τ H locs ls hf hP hS hl
      unfold f_X5_become_21 at hf
      obtain ⟨g4, hf⟩ := w_oi hf
      refine lv_iload_n hx hb dX5_become_21 rfl (lv_at hl 1 rfl) ?_
      refine lv_bipush (v := (40 : Int32)) hx hb dX5_become_22 (by decide) ?_
      refine lv_icmp_ge (tgt := 40) hx hb dX5_become_24 (by decide) (fun c5 => ?_) (fun c5 => ?_)
      · replace hf := (if_pos c5).symm.trans hf
        exact w_vret (X := XC Γ) hx hb hr hlocks hK hP hS hf dX5_become_40
      · replace hf := (if_neg c5).symm.trans hf
        refine lv_aload_n hx hb dX5_become_27 rfl (lv_at hl 0 rfl) ?_
        refine va_get (D := Γ.1) (ci := 5) (v := .ref (Γ.2.2.1 (64 + 2 * i0))) (C := RX5) (T := TX5) (N := 3) hx hb hts iX5 hown hK hP (63 + 2 * i0) (gC_Sheet Γ τ (i0) g4) rfl 2 (by decide) (hts (.fieldLink RX5 13 "OtherHalfOfNight$Sheet" "items" "[I") (wzm K103)) (fun _ h9 => h9) rfl dX5_become_28 ?_
        refine lv_iload_n hx hb dX5_become_31 rfl (lv_at hl 1 rfl) ?_
        refine lv_iconst (v := (0 : Int32)) hx hb dX5_become_32 (by decide) ?_
        obtain ⟨g6, hf⟩ := w_oi hf
        refine w_iast (D := Γ.1) (tys := (tysC Γ)) (X := XC Γ) (σ' := (up τ (75 + 3 * i0) (y3).toNatClampNeg (0 : Int32))) hx hb hK hP (halC Γ) hG hS (64 + 2 * i0) 0 (gC_Sheet_items Γ τ (i0) g4) rfl g6 dX5_become_33 (sC_Sheet_items Γ τ (i0) g4 (y3).toNatClampNeg (0 : Int32)) (fun H locs hP hS => ?_)
        refine lv_iinc (v := (y3 + (1 : Int32))) (lv' := [(3, .int (y3 + (1 : Int32))), (0, .ref (Γ.2.2.1 (63 + 2 * i0)))]) hx hb dX5_become_34 hl (k := 1) rfl rfl (by decide) rfl (fun ls hl => ?_)
        refine lv_goto (tgt := 21) hx hb dX5_become_37 (by decide) ?_
        exact ih21 ((y3 + (1 : Int32))) (up τ (75 + 3 * i0) (y3).toNatClampNeg (0 : Int32)) H locs ls hf hP hS (lv_sub hl [1, 0] rfl)
  suffices hw : ∀ (H : Heap) (locs : List Loc), va_P Γ.1 vwCl (XC Γ σ) H → va_S (wA (alC Γ) s.heap.size) s.heap H locs → W p l e { frames := 1, cells := 0, slots := 0, locals := 21 } s m av.toArray below meth c H locs 0 0 (MQ below (wQv Γ.1 vwCl (tysC Γ) (XC Γ) (alC Γ) σ' s.heap.size) av.toArray s 0 0 (wA (alC Γ) s.heap.size)) (F0 m 0 ls []) from hw _ [] hP va_S.rf
  clear hP
  intro H locs hP hS
  unfold f_X5_become at hf
  obtain ⟨g1, hf⟩ := w_oi hf
  refine lv_aload_n hx hb dX5_become_0 rfl (lv_at hl 0 rfl) ?_
  refine lv_iload_n hx hb dX5_become_1 rfl (lv_at hl 1 rfl) ?_
  refine w_put (X := XC Γ) (σ' := (up σ (73 + 3 * i0) 0 x1)) (ci := 5) (C := RX5) (T := TX5) (N := 3) (ty := .int) hx hb hts iX5 tyX5 tyX5_ok nmX5 hown hK hP (halC Γ) hG hS (63 + 2 * i0) (gC_Sheet Γ σ (i0) g1) rfl 0 (by decide) (hts (.fieldLink RX5 9 "OtherHalfOfNight$Sheet" "sort" "I") (wzm K102)) (fun _ h9 => h9) rfl (by decide +kernel) rfl rfl (Nat.le_of_ble_eq_true rfl) dX5_become_2 (sC_Sheet_sort Γ σ (i0) g1 x1) (fun H locs hP hS => ?_)
  refine lv_aload_n hx hb dX5_become_5 rfl (lv_at hl 0 rfl) ?_
  refine lv_iconst (v := (0 : Int32)) hx hb dX5_become_6 (by decide) ?_
  refine lv_bipush (v := (40 : Int32)) hx hb dX5_become_7 (by decide) ?_
  refine lv_iload_n hx hb dX5_become_9 rfl (lv_at hl 2 rfl) ?_
  refine va_mmin hx hb (hml.trans hl.1.symm) hown (hts (.methodLink RX5 17 Lib.Math.min.name) (wzm K912)) (hts (.static Lib.Math.min.name) (wzm K374)) (hts (.initialized "java/lang/Math") (wzm K375)) (hts (.code Lib.Math.min.name Lib.Math.min.code 2 (some .int)) (wzm K376)) (Nat.le_of_ble_eq_true rfl) (Nat.le_of_ble_eq_true rfl) (Nat.le_refl _) (Nat.le_refl _) dX5_become_10 ?_
  refine va_mmax hx hb (hml.trans hl.1.symm) hown (hts (.methodLink RX5 23 Lib.Math.max.name) (wzm K913)) (hts (.static Lib.Math.max.name) (wzm K378)) (hts (.initialized "java/lang/Math") (wzm K375)) (hts (.code Lib.Math.max.name Lib.Math.max.code 2 (some .int)) (wzm K379)) (Nat.le_of_ble_eq_true rfl) (Nat.le_of_ble_eq_true rfl) (Nat.le_refl _) (Nat.le_refl _) dX5_become_13 ?_
  refine w_put (X := XC Γ) (σ' := (up (up σ (73 + 3 * i0) 0 x1) (74 + 3 * i0) 0 (if (0 : Int32) < (if x2 < (40 : Int32) then x2 else (40 : Int32)) then (if x2 < (40 : Int32) then x2 else (40 : Int32)) else (0 : Int32)))) (ci := 5) (C := RX5) (T := TX5) (N := 3) (ty := .int) hx hb hts iX5 tyX5 tyX5_ok nmX5 hown hK hP (halC Γ) hG hS (63 + 2 * i0) (gC_Sheet Γ (up σ (73 + 3 * i0) 0 x1) (i0) g1) rfl 1 (by decide) (hts (.fieldLink RX5 26 "OtherHalfOfNight$Sheet" "size" "I") (wzm K914)) (fun _ h9 => h9) rfl (by decide +kernel) rfl rfl (Nat.le_of_ble_eq_true rfl) dX5_become_16 (sC_Sheet_size Γ (up σ (73 + 3 * i0) 0 x1) (i0) g1 (if (0 : Int32) < (if x2 < (40 : Int32) then x2 else (40 : Int32)) then (if x2 < (40 : Int32) then x2 else (40 : Int32)) else (0 : Int32))) (fun H locs hP hS => ?_)
  obtain ⟨τ2, e3, hf⟩ := w_ob hf
  replace e3 := Option.some.inj e3
  rw [e3] at hP
  refine lv_iconst (v := (0 : Int32)) hx hb dX5_become_19 (by decide) ?_
  refine lv_istore_n (lv' := [(3, .int (0 : Int32)), (0, .ref (Γ.2.2.1 (63 + 2 * i0))), (1, .int x1), (2, .int x2)]) hx hb dX5_become_20 rfl hl (by decide) rfl (fun ls hl => ?_)
  exact j21 5000 ((0 : Int32)) τ2 H locs ls hf hP hS (lv_sub hl [1, 0] rfl)
def f_X5_hasRange (i0 : Nat) (x1 : Int32) (x2 : Int32) (σ : Sg) : Option (Int32 × Sg) := if i0 < 4 then if x1 < 0 then some ((0 : Int32), σ) else if x2 < 0 then some ((0 : Int32), σ) else if ((σ (74 + 3 * i0) 0) - x2) < x1 then some ((0 : Int32), σ) else some ((1 : Int32), σ) else none
set_option maxHeartbeats 40000000 in
set_option maxRecDepth 100000 in
theorem c_X5_hasRange (l : Launch) (Γ : Geo) (hG : okC Γ) (i0 : Nat) (x1 : Int32) (x2 : Int32) (σ : Sg) (r : Int32) (σ' : Sg) (hf : f_X5_hasRange i0 x1 x2 σ = some (r, σ')) (sz : Nat) : Met l yX5_hasRange (wz yX5_hasRange cX5_hasRange 3 (some .boolean)) { frames := 0, cells := 0, slots := 0, locals := 0 } (va_Pc [.ref (Γ.2.2.1 (63 + 2 * i0)), .int x1, .int x2] (wPre Γ.1 vwCl (tysC Γ) (XC Γ) (alC Γ) Γ.2.2.2 σ sz)) (wQi Γ.1 vwCl (tysC Γ) (XC Γ) (alC Γ) r σ' sz) 0 0 (wA (alC Γ) sz) := by
  refine w_enter (cc := cX5_hasRange) (maxL := 3) (ret := (some .boolean)) (by decide) rfl (Nat.le_of_ble_eq_true rfl) ?_
  intro p e s m below meth c ls hx hb hr hlocks hml hown hts hsz hP hK hkc hN hl
  subst hsz
  generalize hav : ([.ref (Γ.2.2.1 (63 + 2 * i0)), .int x1, .int x2] : List Value) = av at hl hts ⊢
  have hl : lv_has ls 3 [(0, .ref (Γ.2.2.1 (63 + 2 * i0))), (1, .int x1), (2, .int x2)] := by rw [← hav] at hl; exact hl
  suffices hw : ∀ (H : Heap) (locs : List Loc), va_P Γ.1 vwCl (XC Γ σ) H → va_S (wA (alC Γ) s.heap.size) s.heap H locs → W p l e { frames := 0, cells := 0, slots := 0, locals := 0 } s m av.toArray below meth c H locs 0 0 (MQ below (wQi Γ.1 vwCl (tysC Γ) (XC Γ) (alC Γ) r σ' s.heap.size) av.toArray s 0 0 (wA (alC Γ) s.heap.size)) (F0 m 0 ls []) from hw _ [] hP va_S.rf
  clear hP
  intro H locs hP hS
  unfold f_X5_hasRange at hf
  obtain ⟨g1, hf⟩ := w_oi hf
  refine lv_iload_n hx hb dX5_hasRange_0 rfl (lv_at hl 1 rfl) ?_
  refine lv_if_lt (tgt := 22) hx hb dX5_hasRange_1 (by decide) (fun c2 => ?_) (fun c2 => ?_)
  · replace hf := (if_pos c2).symm.trans hf
    refine lv_iconst (v := (0 : Int32)) hx hb dX5_hasRange_22 (by decide) ?_
    exact w_iret (X := XC Γ) hx hb hr hlocks hK hP hS (by decide) hf dX5_hasRange_23
  · replace hf := (if_neg c2).symm.trans hf
    refine lv_iload_n hx hb dX5_hasRange_4 rfl (lv_at hl 2 rfl) ?_
    refine lv_if_lt (tgt := 22) hx hb dX5_hasRange_5 (by decide) (fun c3 => ?_) (fun c3 => ?_)
    · replace hf := (if_pos c3).symm.trans hf
      refine lv_iconst (v := (0 : Int32)) hx hb dX5_hasRange_22 (by decide) ?_
      exact w_iret (X := XC Γ) hx hb hr hlocks hK hP hS (by decide) hf dX5_hasRange_23
    · replace hf := (if_neg c3).symm.trans hf
      refine lv_iload_n hx hb dX5_hasRange_8 rfl (lv_at hl 1 rfl) ?_
      refine lv_aload_n hx hb dX5_hasRange_9 rfl (lv_at hl 0 rfl) ?_
      refine va_get (D := Γ.1) (ci := 5) (v := .int (σ (74 + 3 * i0) 0)) (C := RX5) (T := TX5) (N := 3) hx hb hts iX5 hown hK hP (63 + 2 * i0) (gC_Sheet Γ σ (i0) g1) rfl 1 (by decide) (hts (.fieldLink RX5 26 "OtherHalfOfNight$Sheet" "size" "I") (wzm K914)) (fun _ h9 => h9) rfl dX5_hasRange_10 ?_
      refine lv_iload_n hx hb dX5_hasRange_13 rfl (lv_at hl 2 rfl) ?_
      refine lv_isub hx hb dX5_hasRange_14 ?_
      refine lv_icmp_gt (tgt := 22) hx hb dX5_hasRange_15 (by decide) (fun c4 => ?_) (fun c4 => ?_)
      · replace hf := (if_pos c4).symm.trans hf
        refine lv_iconst (v := (0 : Int32)) hx hb dX5_hasRange_22 (by decide) ?_
        exact w_iret (X := XC Γ) hx hb hr hlocks hK hP hS (by decide) hf dX5_hasRange_23
      · replace hf := (if_neg c4).symm.trans hf
        refine lv_iconst (v := (1 : Int32)) hx hb dX5_hasRange_18 (by decide) ?_
        refine lv_goto (tgt := 23) hx hb dX5_hasRange_19 (by decide) ?_
        exact w_iret (X := XC Γ) hx hb hr hlocks hK hP hS (by decide) hf dX5_hasRange_23
def f_X5_put (i0 : Nat) (x1 : Int32) (x2 : Int32) (σ : Sg) : Option (Int32 × Sg) := if i0 < 4 then (f_X5_hasRange (i0) x1 (1 : Int32) σ).bind fun (q2 : Int32 × Sg) => if q2.1 = 0 then some ((0 : Int32), q2.2) else if (q2.2 (73 + 3 * i0) 0) = 0 then if okI x1 40 then some ((1 : Int32), (up q2.2 (75 + 3 * i0) (x1).toNatClampNeg ((x2).toInt8.toInt32))) else none else if (q2.2 (73 + 3 * i0) 0) = (1 : Int32) then if okI x1 40 then some ((1 : Int32), (up q2.2 (75 + 3 * i0) (x1).toNatClampNeg ((x2).toInt16.toInt32))) else none else if okI x1 40 then some ((1 : Int32), (up q2.2 (75 + 3 * i0) (x1).toNatClampNeg x2)) else none else none
set_option maxHeartbeats 40000000 in
set_option maxRecDepth 100000 in
theorem c_X5_put (l : Launch) (Γ : Geo) (hG : okC Γ) (i0 : Nat) (x1 : Int32) (x2 : Int32) (σ : Sg) (r : Int32) (σ' : Sg) (hf : f_X5_put i0 x1 x2 σ = some (r, σ')) (sz : Nat) : Met l yX5_put (wz yX5_put cX5_put 3 (some .boolean)) { frames := 1, cells := 0, slots := 0, locals := 22 } (va_Pc [.ref (Γ.2.2.1 (63 + 2 * i0)), .int x1, .int x2] (wPre Γ.1 vwCl (tysC Γ) (XC Γ) (alC Γ) Γ.2.2.2 σ sz)) (wQi Γ.1 vwCl (tysC Γ) (XC Γ) (alC Γ) r σ' sz) 0 0 (wA (alC Γ) sz) := by
  refine w_enter (cc := cX5_put) (maxL := 3) (ret := (some .boolean)) (by decide) rfl (Nat.le_of_ble_eq_true rfl) ?_
  intro p e s m below meth c ls hx hb hr hlocks hml hown hts hsz hP hK hkc hN hl
  subst hsz
  generalize hav : ([.ref (Γ.2.2.1 (63 + 2 * i0)), .int x1, .int x2] : List Value) = av at hl hts ⊢
  have hl : lv_has ls 3 [(0, .ref (Γ.2.2.1 (63 + 2 * i0))), (1, .int x1), (2, .int x2)] := by rw [← hav] at hl; exact hl
  suffices hw : ∀ (H : Heap) (locs : List Loc), va_P Γ.1 vwCl (XC Γ σ) H → va_S (wA (alC Γ) s.heap.size) s.heap H locs → W p l e { frames := 1, cells := 0, slots := 0, locals := 22 } s m av.toArray below meth c H locs 0 0 (MQ below (wQi Γ.1 vwCl (tysC Γ) (XC Γ) (alC Γ) r σ' s.heap.size) av.toArray s 0 0 (wA (alC Γ) s.heap.size)) (F0 m 0 ls []) from hw _ [] hP va_S.rf
  clear hP
  intro H locs hP hS
  unfold f_X5_put at hf
  obtain ⟨g1, hf⟩ := w_oi hf
  refine lv_aload_n hx hb dX5_put_0 rfl (lv_at hl 0 rfl) ?_
  refine lv_iload_n hx hb dX5_put_1 rfl (lv_at hl 1 rfl) ?_
  refine lv_iconst (v := (1 : Int32)) hx hb dX5_put_2 (by decide) ?_
  obtain ⟨q2, h3, hf⟩ := w_ob hf
  refine w_ci (va_runV (As := [.int x1, .int (1 : Int32)]) (rest := []) ⟨hx, hb, hml, hown, hts⟩ (c_X5_hasRange l Γ hG (i0) x1 (1 : Int32) σ q2.1 q2.2 h3 H.size) (cwV 2 hts (wzV K922 K919 K920 K921 K37) rfl rfl rfl (by decide +kernel) ⟨(Nat.le_of_ble_eq_true rfl), (Nat.le_of_ble_eq_true rfl)⟩) (w_preV hK hP hkc hN hS (gC_Sheet Γ σ (i0) g1) rfl) rfl rfl hl.1 rfl (lv_room (Nat.le_of_ble_eq_true rfl)) dX5_put_3 ⟨Nat.le_refl _, Nat.le_refl _⟩) hS (fun H locs hP hS => ?_)
  refine lv_if_ne (tgt := 11) hx hb dX5_put_6 (by decide) (fun c4 => ?_) (fun c4 => ?_)
  · replace hf := (if_neg c4).symm.trans hf
    refine lv_aload_n hx hb dX5_put_11 rfl (lv_at hl 0 rfl) ?_
    refine va_get (D := Γ.1) (ci := 5) (v := .int (q2.2 (73 + 3 * i0) 0)) (C := RX5) (T := TX5) (N := 3) hx hb hts iX5 hown hK hP (63 + 2 * i0) (gC_Sheet Γ q2.2 (i0) g1) rfl 0 (by decide) (hts (.fieldLink RX5 9 "OtherHalfOfNight$Sheet" "sort" "I") (wzm K102)) (fun _ h9 => h9) rfl dX5_put_12 ?_
    refine lv_if_ne (tgt := 29) hx hb dX5_put_15 (by decide) (fun c5 => ?_) (fun c5 => ?_)
    · replace hf := (if_neg c5).symm.trans hf
      refine lv_aload_n hx hb dX5_put_29 rfl (lv_at hl 0 rfl) ?_
      refine va_get (D := Γ.1) (ci := 5) (v := .ref (Γ.2.2.1 (64 + 2 * i0))) (C := RX5) (T := TX5) (N := 3) hx hb hts iX5 hown hK hP (63 + 2 * i0) (gC_Sheet Γ q2.2 (i0) g1) rfl 2 (by decide) (hts (.fieldLink RX5 13 "OtherHalfOfNight$Sheet" "items" "[I") (wzm K103)) (fun _ h9 => h9) rfl dX5_put_30 ?_
      refine lv_iload_n hx hb dX5_put_33 rfl (lv_at hl 1 rfl) ?_
      refine lv_aload_n hx hb dX5_put_34 rfl (lv_at hl 0 rfl) ?_
      refine va_get (D := Γ.1) (ci := 5) (v := .int (q2.2 (73 + 3 * i0) 0)) (C := RX5) (T := TX5) (N := 3) hx hb hts iX5 hown hK hP (63 + 2 * i0) (gC_Sheet Γ q2.2 (i0) g1) rfl 0 (by decide) (hts (.fieldLink RX5 9 "OtherHalfOfNight$Sheet" "sort" "I") (wzm K102)) (fun _ h9 => h9) rfl dX5_put_35 ?_
      refine lv_iconst (v := (1 : Int32)) hx hb dX5_put_38 (by decide) ?_
      refine lv_icmp_ne (tgt := 47) hx hb dX5_put_39 (by decide) (fun c6 => ?_) (fun c6 => ?_)
      · replace hf := (if_neg c6).symm.trans hf
        refine lv_iload_n hx hb dX5_put_47 rfl (lv_at hl 2 rfl) ?_
        obtain ⟨g7, hf⟩ := w_oi hf
        refine w_iast (D := Γ.1) (tys := (tysC Γ)) (X := XC Γ) (σ' := (up q2.2 (75 + 3 * i0) (x1).toNatClampNeg x2)) hx hb hK hP (halC Γ) hG hS (64 + 2 * i0) 0 (gC_Sheet_items Γ q2.2 (i0) g1) rfl g7 dX5_put_48 (sC_Sheet_items Γ q2.2 (i0) g1 (x1).toNatClampNeg x2) (fun H locs hP hS => ?_)
        refine lv_iconst (v := (1 : Int32)) hx hb dX5_put_49 (by decide) ?_
        exact w_iret (X := XC Γ) hx hb hr hlocks hK hP hS (by decide) hf dX5_put_50
      · replace hf := (if_pos c6).symm.trans hf
        refine lv_iload_n hx hb dX5_put_42 rfl (lv_at hl 2 rfl) ?_
        refine lv_i2s (v := ((x2).toInt16.toInt32)) hx hb dX5_put_43 rfl ?_
        refine lv_goto (tgt := 48) hx hb dX5_put_44 (by decide) ?_
        obtain ⟨g8, hf⟩ := w_oi hf
        refine w_iast (D := Γ.1) (tys := (tysC Γ)) (X := XC Γ) (σ' := (up q2.2 (75 + 3 * i0) (x1).toNatClampNeg ((x2).toInt16.toInt32))) hx hb hK hP (halC Γ) hG hS (64 + 2 * i0) 0 (gC_Sheet_items Γ q2.2 (i0) g1) rfl g8 dX5_put_48 (sC_Sheet_items Γ q2.2 (i0) g1 (x1).toNatClampNeg ((x2).toInt16.toInt32)) (fun H locs hP hS => ?_)
        refine lv_iconst (v := (1 : Int32)) hx hb dX5_put_49 (by decide) ?_
        exact w_iret (X := XC Γ) hx hb hr hlocks hK hP hS (by decide) hf dX5_put_50
    · replace hf := (if_pos c5).symm.trans hf
      refine lv_aload_n hx hb dX5_put_18 rfl (lv_at hl 0 rfl) ?_
      refine va_get (D := Γ.1) (ci := 5) (v := .ref (Γ.2.2.1 (64 + 2 * i0))) (C := RX5) (T := TX5) (N := 3) hx hb hts iX5 hown hK hP (63 + 2 * i0) (gC_Sheet Γ q2.2 (i0) g1) rfl 2 (by decide) (hts (.fieldLink RX5 13 "OtherHalfOfNight$Sheet" "items" "[I") (wzm K103)) (fun _ h9 => h9) rfl dX5_put_19 ?_
      refine lv_iload_n hx hb dX5_put_22 rfl (lv_at hl 1 rfl) ?_
      refine lv_iload_n hx hb dX5_put_23 rfl (lv_at hl 2 rfl) ?_
      refine lv_i2b (v := ((x2).toInt8.toInt32)) hx hb dX5_put_24 rfl ?_
      obtain ⟨g9, hf⟩ := w_oi hf
      refine w_iast (D := Γ.1) (tys := (tysC Γ)) (X := XC Γ) (σ' := (up q2.2 (75 + 3 * i0) (x1).toNatClampNeg ((x2).toInt8.toInt32))) hx hb hK hP (halC Γ) hG hS (64 + 2 * i0) 0 (gC_Sheet_items Γ q2.2 (i0) g1) rfl g9 dX5_put_25 (sC_Sheet_items Γ q2.2 (i0) g1 (x1).toNatClampNeg ((x2).toInt8.toInt32)) (fun H locs hP hS => ?_)
      refine lv_goto (tgt := 49) hx hb dX5_put_26 (by decide) ?_
      refine lv_iconst (v := (1 : Int32)) hx hb dX5_put_49 (by decide) ?_
      exact w_iret (X := XC Γ) hx hb hr hlocks hK hP hS (by decide) hf dX5_put_50
  · replace hf := (if_pos c4).symm.trans hf
    refine lv_iconst (v := (0 : Int32)) hx hb dX5_put_9 (by decide) ?_
    exact w_iret (X := XC Γ) hx hb hr hlocks hK hP hS (by decide) hf dX5_put_10
def f_X4_take (x1 : Int32) (σ : Sg) : Option (Int32 × Sg) := if (σ (35) 0) < (160 : Int32) then if okI (σ (35) 0) 160 then some ((1 : Int32), (up (up σ (34) ((σ (35) 0)).toNatClampNeg x1) (35) 0 (((up σ (34) ((σ (35) 0)).toNatClampNeg x1) (35) 0) + (1 : Int32)))) else none else some ((0 : Int32), σ)
set_option maxHeartbeats 40000000 in
set_option maxRecDepth 100000 in
theorem c_X4_take (l : Launch) (Γ : Geo) (hG : okC Γ) (x1 : Int32) (σ : Sg) (r : Int32) (σ' : Sg) (hf : f_X4_take x1 σ = some (r, σ')) (sz : Nat) : Met l yX4_take (wz yX4_take cX4_take 2 (some .boolean)) { frames := 0, cells := 0, slots := 0, locals := 0 } (va_Pc [.ref (Γ.2.2.1 (25)), .int x1] (wPre Γ.1 vwCl (tysC Γ) (XC Γ) (alC Γ) Γ.2.2.2 σ sz)) (wQi Γ.1 vwCl (tysC Γ) (XC Γ) (alC Γ) r σ' sz) 0 0 (wA (alC Γ) sz) := by
  refine w_enter (cc := cX4_take) (maxL := 2) (ret := (some .boolean)) (by decide) rfl (Nat.le_of_ble_eq_true rfl) ?_
  intro p e s m below meth c ls hx hb hr hlocks hml hown hts hsz hP hK hkc hN hl
  subst hsz
  generalize hav : ([.ref (Γ.2.2.1 (25)), .int x1] : List Value) = av at hl hts ⊢
  have hl : lv_has ls 2 [(0, .ref (Γ.2.2.1 (25))), (1, .int x1)] := by rw [← hav] at hl; exact hl
  suffices hw : ∀ (H : Heap) (locs : List Loc), va_P Γ.1 vwCl (XC Γ σ) H → va_S (wA (alC Γ) s.heap.size) s.heap H locs → W p l e { frames := 0, cells := 0, slots := 0, locals := 0 } s m av.toArray below meth c H locs 0 0 (MQ below (wQi Γ.1 vwCl (tysC Γ) (XC Γ) (alC Γ) r σ' s.heap.size) av.toArray s 0 0 (wA (alC Γ) s.heap.size)) (F0 m 0 ls []) from hw _ [] hP va_S.rf
  clear hP
  intro H locs hP hS
  unfold f_X4_take at hf
  refine lv_aload_n hx hb dX4_take_0 rfl (lv_at hl 0 rfl) ?_
  refine va_get (D := Γ.1) (ci := 4) (v := .int (σ (35) 0)) (C := RX4) (T := TX4) (N := 7) hx hb hts iX4 hown hK hP (25) (gC_Reader Γ σ) rfl 1 (by decide) (hts (.fieldLink RX4 22 "OtherHalfOfNight$Reader" "size" "I") (wzm K425)) (fun _ h9 => h9) rfl dX4_take_1 ?_
  refine lv_sipush (v := (160 : Int32)) hx hb dX4_take_4 (by decide) ?_
  refine lv_icmp_lt (tgt := 12) hx hb dX4_take_7 (by decide) (fun c1 => ?_) (fun c1 => ?_)
  · replace hf := (if_pos c1).symm.trans hf
    refine lv_aload_n hx hb dX4_take_12 rfl (lv_at hl 0 rfl) ?_
    refine va_get (D := Γ.1) (ci := 4) (v := .ref (Γ.2.2.1 (26))) (C := RX4) (T := TX4) (N := 7) hx hb hts iX4 hown hK hP (25) (gC_Reader Γ σ) rfl 0 (by decide) (hts (.fieldLink RX4 9 "OtherHalfOfNight$Reader" "tape" "[I") (wzm K53)) (fun _ h9 => h9) rfl dX4_take_13 ?_
    refine lv_aload_n hx hb dX4_take_16 rfl (lv_at hl 0 rfl) ?_
    refine va_get (D := Γ.1) (ci := 4) (v := .int (σ (35) 0)) (C := RX4) (T := TX4) (N := 7) hx hb hts iX4 hown hK hP (25) (gC_Reader Γ σ) rfl 1 (by decide) (hts (.fieldLink RX4 22 "OtherHalfOfNight$Reader" "size" "I") (wzm K425)) (fun _ h9 => h9) rfl dX4_take_17 ?_
    refine lv_iload_n hx hb dX4_take_20 rfl (lv_at hl 1 rfl) ?_
    obtain ⟨g2, hf⟩ := w_oi hf
    refine w_iast (D := Γ.1) (tys := (tysC Γ)) (X := XC Γ) (σ' := (up σ (34) ((σ (35) 0)).toNatClampNeg x1)) hx hb hK hP (halC Γ) hG hS (26) 0 (gC_Reader_tape Γ σ) rfl g2 dX4_take_21 (sC_Reader_tape Γ σ ((σ (35) 0)).toNatClampNeg x1) (fun H locs hP hS => ?_)
    refine lv_aload_n hx hb dX4_take_22 rfl (lv_at hl 0 rfl) ?_
    refine lv_dup hx hb dX4_take_23 rfl ?_
    refine va_get (D := Γ.1) (ci := 4) (v := .int ((up σ (34) ((σ (35) 0)).toNatClampNeg x1) (35) 0)) (C := RX4) (T := TX4) (N := 7) hx hb hts iX4 hown hK hP (25) (gC_Reader Γ (up σ (34) ((σ (35) 0)).toNatClampNeg x1)) rfl 1 (by decide) (hts (.fieldLink RX4 22 "OtherHalfOfNight$Reader" "size" "I") (wzm K425)) (fun _ h9 => h9) rfl dX4_take_24 ?_
    refine lv_iconst (v := (1 : Int32)) hx hb dX4_take_27 (by decide) ?_
    refine lv_iadd hx hb dX4_take_28 ?_
    refine w_put (X := XC Γ) (σ' := (up (up σ (34) ((σ (35) 0)).toNatClampNeg x1) (35) 0 (((up σ (34) ((σ (35) 0)).toNatClampNeg x1) (35) 0) + (1 : Int32)))) (ci := 4) (C := RX4) (T := TX4) (N := 7) (ty := .int) hx hb hts iX4 tyX4 tyX4_ok nmX4 hown hK hP (halC Γ) hG hS (25) (gC_Reader Γ (up σ (34) ((σ (35) 0)).toNatClampNeg x1)) rfl 1 (by decide) (hts (.fieldLink RX4 22 "OtherHalfOfNight$Reader" "size" "I") (wzm K425)) (fun _ h9 => h9) rfl (by decide +kernel) rfl rfl (Nat.le_of_ble_eq_true rfl) dX4_take_29 (sC_Reader_size Γ (up σ (34) ((σ (35) 0)).toNatClampNeg x1) (((up σ (34) ((σ (35) 0)).toNatClampNeg x1) (35) 0) + (1 : Int32))) (fun H locs hP hS => ?_)
    refine lv_iconst (v := (1 : Int32)) hx hb dX4_take_32 (by decide) ?_
    exact w_iret (X := XC Γ) hx hb hr hlocks hK hP hS (by decide) hf dX4_take_33
  · replace hf := (if_neg c1).symm.trans hf
    refine lv_iconst (v := (0 : Int32)) hx hb dX4_take_10 (by decide) ?_
    exact w_iret (X := XC Γ) hx hb hr hlocks hK hP hS (by decide) hf dX4_take_11
