def fb_X4_readAny_12 (rec : Nat → Int32 → Sg → Option (Int32 × Sg)) (x1 : Int32) : Nat → Int32 → Sg → Option (Int32 × Sg)
  | 0, _, _ => none
  | n + 1, y2, τ => if (160 : Int32) ≤ y2 then some ((1 : Int32), τ) else if (τ (38) 0) = (259 : Int32) then (f_X4_step τ).bind fun (q6 : Sg) => (rec 1 x1 q6).bind fun (q8 : Int32 × Sg) => if q8.1 = 0 then some ((0 : Int32), q8.2) else if (q8.2 (40) 0).toNatClampNeg < 7 then (f_X6_add ((q8.2 (40) 0).toNatClampNeg) (-259 : Int32) q8.2).bind fun (q12 : Sg) => (fb_X4_readAny_12 rec x1 n) ((y2 + (1 : Int32))) q12 else none else some ((1 : Int32), τ)
def fb_X4_readAny (rec : Nat → Int32 → Sg → Option (Int32 × Sg)) (x1 : Int32) (σ : Sg) : Option (Int32 × Sg) := (rec 1 x1 σ).bind fun (q1 : Int32 × Sg) => if q1.1 = 0 then some ((0 : Int32), q1.2) else fb_X4_readAny_12 rec x1 5000 ((0 : Int32)) q1.2
set_option maxHeartbeats 40000000 in
set_option maxRecDepth 100000 in
theorem cb_X4_readAny (l : Launch) (Γ : Geo) (hG : okC Γ) (rec : Nat → Int32 → Sg → Option (Int32 × Sg)) (d : Nat) (hrec0 : ∀ (x1 : Int32) (σ : Sg) (r : Int32) (σ' : Sg), rec 0 x1 σ = some (r, σ') → ∀ (sz : Nat), Met l yX4_readAny (wz yX4_readAny cX4_readAny 3 (some .boolean)) { frames := d + 12, cells := 0, slots := 0, locals := 40 * (d) + 400 } (va_Pc [.ref (Γ.2.2.1 (25)), .int x1] (wPre Γ.1 vwCl (tysC Γ) (XC Γ) (alC Γ) Γ.2.2.2 σ sz)) (wQi Γ.1 vwCl (tysC Γ) (XC Γ) (alC Γ) r σ' sz) 0 0 (wA (alC Γ) sz)) (hrec1 : ∀ (x1 : Int32) (σ : Sg) (r : Int32) (σ' : Sg), rec 1 x1 σ = some (r, σ') → ∀ (sz : Nat), Met l yX4_readAnd (wz yX4_readAnd cX4_readAnd 3 (some .boolean)) { frames := d + 12, cells := 0, slots := 0, locals := 40 * (d) + 400 } (va_Pc [.ref (Γ.2.2.1 (25)), .int x1] (wPre Γ.1 vwCl (tysC Γ) (XC Γ) (alC Γ) Γ.2.2.2 σ sz)) (wQi Γ.1 vwCl (tysC Γ) (XC Γ) (alC Γ) r σ' sz) 0 0 (wA (alC Γ) sz)) (hrec2 : ∀ (x1 : Int32) (σ : Sg) (r : Int32) (σ' : Sg), rec 2 x1 σ = some (r, σ') → ∀ (sz : Nat), Met l yX4_readNot (wz yX4_readNot cX4_readNot 2 (some .boolean)) { frames := d + 12, cells := 0, slots := 0, locals := 40 * (d) + 400 } (va_Pc [.ref (Γ.2.2.1 (25)), .int x1] (wPre Γ.1 vwCl (tysC Γ) (XC Γ) (alC Γ) Γ.2.2.2 σ sz)) (wQi Γ.1 vwCl (tysC Γ) (XC Γ) (alC Γ) r σ' sz) 0 0 (wA (alC Γ) sz)) (hrec3 : ∀ (x1 : Int32) (σ : Sg) (r : Int32) (σ' : Sg), rec 3 x1 σ = some (r, σ') → ∀ (sz : Nat), Met l yX4_readComparison (wz yX4_readComparison cX4_readComparison 3 (some .boolean)) { frames := d + 12, cells := 0, slots := 0, locals := 40 * (d) + 400 } (va_Pc [.ref (Γ.2.2.1 (25)), .int x1] (wPre Γ.1 vwCl (tysC Γ) (XC Γ) (alC Γ) Γ.2.2.2 σ sz)) (wQi Γ.1 vwCl (tysC Γ) (XC Γ) (alC Γ) r σ' sz) 0 0 (wA (alC Γ) sz)) (hrec4 : ∀ (x1 : Int32) (σ : Sg) (r : Int32) (σ' : Sg), rec 4 x1 σ = some (r, σ') → ∀ (sz : Nat), Met l yX4_readSum (wz yX4_readSum cX4_readSum 4 (some .boolean)) { frames := d + 12, cells := 0, slots := 0, locals := 40 * (d) + 400 } (va_Pc [.ref (Γ.2.2.1 (25)), .int x1] (wPre Γ.1 vwCl (tysC Γ) (XC Γ) (alC Γ) Γ.2.2.2 σ sz)) (wQi Γ.1 vwCl (tysC Γ) (XC Γ) (alC Γ) r σ' sz) 0 0 (wA (alC Γ) sz)) (hrec5 : ∀ (x1 : Int32) (σ : Sg) (r : Int32) (σ' : Sg), rec 5 x1 σ = some (r, σ') → ∀ (sz : Nat), Met l yX4_readTerm (wz yX4_readTerm cX4_readTerm 3 (some .boolean)) { frames := d + 12, cells := 0, slots := 0, locals := 40 * (d) + 400 } (va_Pc [.ref (Γ.2.2.1 (25)), .int x1] (wPre Γ.1 vwCl (tysC Γ) (XC Γ) (alC Γ) Γ.2.2.2 σ sz)) (wQi Γ.1 vwCl (tysC Γ) (XC Γ) (alC Γ) r σ' sz) 0 0 (wA (alC Γ) sz)) (hrec6 : ∀ (x1 : Int32) (σ : Sg) (r : Int32) (σ' : Sg), rec 6 x1 σ = some (r, σ') → ∀ (sz : Nat), Met l yX4_readOne (wz yX4_readOne cX4_readOne 2 (some .boolean)) { frames := d + 12, cells := 0, slots := 0, locals := 40 * (d) + 400 } (va_Pc [.ref (Γ.2.2.1 (25)), .int x1] (wPre Γ.1 vwCl (tysC Γ) (XC Γ) (alC Γ) Γ.2.2.2 σ sz)) (wQi Γ.1 vwCl (tysC Γ) (XC Γ) (alC Γ) r σ' sz) 0 0 (wA (alC Γ) sz)) (hrec7 : ∀ (x1 : Int32) (σ : Sg) (r : Int32) (σ' : Sg), rec 7 x1 σ = some (r, σ') → ∀ (sz : Nat), Met l yX4_readBracket (wz yX4_readBracket cX4_readBracket 2 (some .boolean)) { frames := d + 12, cells := 0, slots := 0, locals := 40 * (d) + 400 } (va_Pc [.ref (Γ.2.2.1 (25)), .int x1] (wPre Γ.1 vwCl (tysC Γ) (XC Γ) (alC Γ) Γ.2.2.2 σ sz)) (wQi Γ.1 vwCl (tysC Γ) (XC Γ) (alC Γ) r σ' sz) 0 0 (wA (alC Γ) sz)) (x1 : Int32) (σ : Sg) (r : Int32) (σ' : Sg) (hf : fb_X4_readAny rec x1 σ = some (r, σ')) (sz : Nat) : Met l yX4_readAny (wz yX4_readAny cX4_readAny 3 (some .boolean)) { frames := d + 1 + 12, cells := 0, slots := 0, locals := 40 * (d + 1) + 400 } (va_Pc [.ref (Γ.2.2.1 (25)), .int x1] (wPre Γ.1 vwCl (tysC Γ) (XC Γ) (alC Γ) Γ.2.2.2 σ sz)) (wQi Γ.1 vwCl (tysC Γ) (XC Γ) (alC Γ) r σ' sz) 0 0 (wA (alC Γ) sz) := by
  refine w_enter (cc := cX4_readAny) (maxL := 3) (ret := (some .boolean)) (by decide) rfl (Nat.le_of_ble_eq_true rfl) ?_
  intro p e s m below meth c ls hx hb hr hlocks hml hown hts hsz hP hK hkc hN hl
  subst hsz
  generalize hav : ([.ref (Γ.2.2.1 (25)), .int x1] : List Value) = av at hl hts ⊢
  have hl : lv_has ls 3 [(0, .ref (Γ.2.2.1 (25))), (1, .int x1)] := by rw [← hav] at hl; exact hl
  have j12 : ∀ (n12 : Nat), ∀ (y2 : Int32) (τ : Sg) (H : Heap) (locs : List Loc) (ls : Array Slot) (hf : fb_X4_readAny_12 rec x1 n12 y2 τ = some (r, σ')) (hP : va_P Γ.1 vwCl (XC Γ τ) H) (hS : va_S (wA (alC Γ) s.heap.size) s.heap H locs) (hl : lv_has ls 3 [(0, .ref (Γ.2.2.1 (25))), (1, .int x1), (2, .int y2)]), W p l e { frames := d + 1 + 12, cells := 0, slots := 0, locals := 40 * (d + 1) + 400 } s m av.toArray below meth c H locs 0 0 (MQ below (wQi Γ.1 vwCl (tysC Γ) (XC Γ) (alC Γ) r σ' s.heap.size) av.toArray s 0 0 (wA (alC Γ) s.heap.size)) (F0 m 12 ls []) := by
    intro n12
    induction n12 with
    | zero =>
      intro y2 τ H locs ls hf
      exact absurd hf (by intro h; cases h)
    | succ n12 ih12 =>
      intro y2 τ H locs ls hf hP hS hl
      unfold fb_X4_readAny_12 at hf
      refine lv_iload_n hx hb dX4_readAny_12 rfl (lv_at hl 2 rfl) ?_
      refine lv_sipush (v := (160 : Int32)) hx hb dX4_readAny_13 (by decide) ?_
      refine lv_icmp_ge (tgt := 59) hx hb dX4_readAny_16 (by decide) (fun c4 => ?_) (fun c4 => ?_)
      · replace hf := (if_pos c4).symm.trans hf
        refine lv_iconst (v := (1 : Int32)) hx hb dX4_readAny_59 (by decide) ?_
        exact w_iret (X := XC Γ) hx hb hr hlocks hK hP hS (by decide) hf dX4_readAny_60
      · replace hf := (if_neg c4).symm.trans hf
        refine lv_aload_n hx hb dX4_readAny_19 rfl (lv_at hl 0 rfl) ?_
        refine va_get (D := Γ.1) (ci := 4) (v := .int (τ (38) 0)) (C := RX4) (T := TX4) (N := 7) hx hb hts iX4 hown hK hP (25) (gC_Reader Γ τ) rfl 5 (by decide) (hts (.fieldLink RX4 41 "OtherHalfOfNight$Reader" "token" "I") (wzm K449)) (fun _ h9 => h9) rfl dX4_readAny_20 ?_
        refine lv_sipush (v := (259 : Int32)) hx hb dX4_readAny_23 (by decide) ?_
        refine lv_icmp_ne (tgt := 59) hx hb dX4_readAny_26 (by decide) (fun c5 => ?_) (fun c5 => ?_)
        · replace hf := (if_neg c5).symm.trans hf
          refine lv_iconst (v := (1 : Int32)) hx hb dX4_readAny_59 (by decide) ?_
          exact w_iret (X := XC Γ) hx hb hr hlocks hK hP hS (by decide) hf dX4_readAny_60
        · replace hf := (if_pos c5).symm.trans hf
          refine lv_aload_n hx hb dX4_readAny_29 rfl (lv_at hl 0 rfl) ?_
          obtain ⟨q6, h7, hf⟩ := w_ob hf
          refine w_cv (va_runV (As := []) (rest := []) ⟨hx, hb, hml, hown, hts⟩ (c_X4_step l Γ hG τ q6 h7 H.size) (cwV 0 hts (wzV K455 K452 K453 K454 K20) rfl rfl rfl (by decide +kernel) ⟨(by dsimp only; omega), (by dsimp only; omega)⟩) (w_preV hK hP hkc hN hS (gC_Reader Γ τ) rfl) rfl rfl hl.1 rfl (lv_room (Nat.le_of_ble_eq_true rfl)) dX4_readAny_30 ⟨Nat.le_refl _, Nat.le_refl _⟩) hS (fun H locs hP hS => ?_)
          refine lv_aload_n hx hb dX4_readAny_33 rfl (lv_at hl 0 rfl) ?_
          refine lv_iload_n hx hb dX4_readAny_34 rfl (lv_at hl 1 rfl) ?_
          obtain ⟨q8, h9, hf⟩ := w_ob hf
          refine w_ci (va_runV (As := [.int x1]) (rest := []) ⟨hx, hb, hml, hown, hts⟩ (hrec1 x1 q6 q8.1 q8.2 h9 H.size) (cwV 1 hts (wzV K595 K591 K592 K593 K20) rfl rfl rfl (by decide +kernel) ⟨(by dsimp only; omega), (by dsimp only; omega)⟩) (w_preV hK hP hkc hN hS (gC_Reader Γ q6) rfl) rfl rfl hl.1 rfl (lv_room (Nat.le_of_ble_eq_true rfl)) dX4_readAny_35 ⟨Nat.le_refl _, Nat.le_refl _⟩) hS (fun H locs hP hS => ?_)
          refine lv_if_ne (tgt := 43) hx hb dX4_readAny_38 (by decide) (fun c10 => ?_) (fun c10 => ?_)
          · replace hf := (if_neg c10).symm.trans hf
            refine lv_aload_n hx hb dX4_readAny_43 rfl (lv_at hl 0 rfl) ?_
            obtain ⟨g11, hf⟩ := w_oi hf
            refine va_get (D := Γ.1) (ci := 4) (v := .ref (Γ.2.2.1 (30 + 3 * ((q8.2 (40) 0).toNatClampNeg)))) (C := RX4) (T := TX4) (N := 7) hx hb hts iX4 hown hK hP (25) (gC_Reader Γ q8.2) rfl 2 (by decide) (hts (.fieldLink RX4 18 "OtherHalfOfNight$Reader" "text" "LOtherHalfOfNight$Text;") (wzm K57)) (fun _ h9 => h9) rfl dX4_readAny_44 ?_
            refine lv_sipush (v := (-259 : Int32)) hx hb dX4_readAny_47 (by decide) ?_
            obtain ⟨q12, h13, hf⟩ := w_ob hf
            refine w_cv (va_runV (As := [.int (-259 : Int32)]) (rest := []) ⟨hx, hb, hml, hown, hts⟩ (c_X6_add l Γ hG ((q8.2 (40) 0).toNatClampNeg) (-259 : Int32) q8.2 q12 h13 H.size) (cwV 1 hts (wzV K83 K594 K81 K82 K56) rfl rfl rfl (by decide +kernel) ⟨(by dsimp only; omega), (by dsimp only; omega)⟩) (w_preV hK hP hkc hN hS (gC_Text Γ q8.2 ((q8.2 (40) 0).toNatClampNeg) g11) rfl) rfl rfl hl.1 rfl (lv_room (Nat.le_of_ble_eq_true rfl)) dX4_readAny_50 ⟨Nat.le_refl _, Nat.le_refl _⟩) hS (fun H locs hP hS => ?_)
            refine lv_iinc (v := (y2 + (1 : Int32))) (lv' := [(2, .int (y2 + (1 : Int32))), (0, .ref (Γ.2.2.1 (25))), (1, .int x1)]) hx hb dX4_readAny_53 hl (k := 2) rfl rfl (by decide) rfl (fun ls hl => ?_)
            refine lv_goto (tgt := 12) hx hb dX4_readAny_56 (by decide) ?_
            exact ih12 ((y2 + (1 : Int32))) q12 H locs ls hf hP hS (lv_sub hl [1, 2, 0] rfl)
          · replace hf := (if_pos c10).symm.trans hf
            refine lv_iconst (v := (0 : Int32)) hx hb dX4_readAny_41 (by decide) ?_
            exact w_iret (X := XC Γ) hx hb hr hlocks hK hP hS (by decide) hf dX4_readAny_42
  suffices hw : ∀ (H : Heap) (locs : List Loc), va_P Γ.1 vwCl (XC Γ σ) H → va_S (wA (alC Γ) s.heap.size) s.heap H locs → W p l e { frames := d + 1 + 12, cells := 0, slots := 0, locals := 40 * (d + 1) + 400 } s m av.toArray below meth c H locs 0 0 (MQ below (wQi Γ.1 vwCl (tysC Γ) (XC Γ) (alC Γ) r σ' s.heap.size) av.toArray s 0 0 (wA (alC Γ) s.heap.size)) (F0 m 0 ls []) from hw _ [] hP va_S.rf
  clear hP
  intro H locs hP hS
  unfold fb_X4_readAny at hf
  refine lv_aload_n hx hb dX4_readAny_0 rfl (lv_at hl 0 rfl) ?_
  refine lv_iload_n hx hb dX4_readAny_1 rfl (lv_at hl 1 rfl) ?_
  obtain ⟨q1, h2, hf⟩ := w_ob hf
  refine w_ci (va_runV (As := [.int x1]) (rest := []) ⟨hx, hb, hml, hown, hts⟩ (hrec1 x1 σ q1.1 q1.2 h2 H.size) (cwV 1 hts (wzV K595 K591 K592 K593 K20) rfl rfl rfl (by decide +kernel) ⟨(by dsimp only; omega), (by dsimp only; omega)⟩) (w_preV hK hP hkc hN hS (gC_Reader Γ σ) rfl) rfl rfl hl.1 rfl (lv_room (Nat.le_of_ble_eq_true rfl)) dX4_readAny_2 ⟨Nat.le_refl _, Nat.le_refl _⟩) hS (fun H locs hP hS => ?_)
  refine lv_if_ne (tgt := 10) hx hb dX4_readAny_5 (by decide) (fun c3 => ?_) (fun c3 => ?_)
  · replace hf := (if_neg c3).symm.trans hf
    refine lv_iconst (v := (0 : Int32)) hx hb dX4_readAny_10 (by decide) ?_
    refine lv_istore_n (lv' := [(2, .int (0 : Int32)), (0, .ref (Γ.2.2.1 (25))), (1, .int x1)]) hx hb dX4_readAny_11 rfl hl (by decide) rfl (fun ls hl => ?_)
    exact j12 5000 ((0 : Int32)) q1.2 H locs ls hf hP hS (lv_sub hl [1, 2, 0] rfl)
  · replace hf := (if_pos c3).symm.trans hf
    refine lv_iconst (v := (0 : Int32)) hx hb dX4_readAny_8 (by decide) ?_
    exact w_iret (X := XC Γ) hx hb hr hlocks hK hP hS (by decide) hf dX4_readAny_9
def fb_X4_readAnd_12 (rec : Nat → Int32 → Sg → Option (Int32 × Sg)) (x1 : Int32) : Nat → Int32 → Sg → Option (Int32 × Sg)
  | 0, _, _ => none
  | n + 1, y2, τ => if (160 : Int32) ≤ y2 then some ((1 : Int32), τ) else if (τ (38) 0) = (260 : Int32) then (f_X4_step τ).bind fun (q6 : Sg) => (rec 2 x1 q6).bind fun (q8 : Int32 × Sg) => if q8.1 = 0 then some ((0 : Int32), q8.2) else if (q8.2 (40) 0).toNatClampNeg < 7 then (f_X6_add ((q8.2 (40) 0).toNatClampNeg) (-260 : Int32) q8.2).bind fun (q12 : Sg) => (fb_X4_readAnd_12 rec x1 n) ((y2 + (1 : Int32))) q12 else none else some ((1 : Int32), τ)
def fb_X4_readAnd (rec : Nat → Int32 → Sg → Option (Int32 × Sg)) (x1 : Int32) (σ : Sg) : Option (Int32 × Sg) := (rec 2 x1 σ).bind fun (q1 : Int32 × Sg) => if q1.1 = 0 then some ((0 : Int32), q1.2) else fb_X4_readAnd_12 rec x1 5000 ((0 : Int32)) q1.2
set_option maxHeartbeats 40000000 in
set_option maxRecDepth 100000 in
theorem cb_X4_readAnd (l : Launch) (Γ : Geo) (hG : okC Γ) (rec : Nat → Int32 → Sg → Option (Int32 × Sg)) (d : Nat) (hrec0 : ∀ (x1 : Int32) (σ : Sg) (r : Int32) (σ' : Sg), rec 0 x1 σ = some (r, σ') → ∀ (sz : Nat), Met l yX4_readAny (wz yX4_readAny cX4_readAny 3 (some .boolean)) { frames := d + 12, cells := 0, slots := 0, locals := 40 * (d) + 400 } (va_Pc [.ref (Γ.2.2.1 (25)), .int x1] (wPre Γ.1 vwCl (tysC Γ) (XC Γ) (alC Γ) Γ.2.2.2 σ sz)) (wQi Γ.1 vwCl (tysC Γ) (XC Γ) (alC Γ) r σ' sz) 0 0 (wA (alC Γ) sz)) (hrec1 : ∀ (x1 : Int32) (σ : Sg) (r : Int32) (σ' : Sg), rec 1 x1 σ = some (r, σ') → ∀ (sz : Nat), Met l yX4_readAnd (wz yX4_readAnd cX4_readAnd 3 (some .boolean)) { frames := d + 12, cells := 0, slots := 0, locals := 40 * (d) + 400 } (va_Pc [.ref (Γ.2.2.1 (25)), .int x1] (wPre Γ.1 vwCl (tysC Γ) (XC Γ) (alC Γ) Γ.2.2.2 σ sz)) (wQi Γ.1 vwCl (tysC Γ) (XC Γ) (alC Γ) r σ' sz) 0 0 (wA (alC Γ) sz)) (hrec2 : ∀ (x1 : Int32) (σ : Sg) (r : Int32) (σ' : Sg), rec 2 x1 σ = some (r, σ') → ∀ (sz : Nat), Met l yX4_readNot (wz yX4_readNot cX4_readNot 2 (some .boolean)) { frames := d + 12, cells := 0, slots := 0, locals := 40 * (d) + 400 } (va_Pc [.ref (Γ.2.2.1 (25)), .int x1] (wPre Γ.1 vwCl (tysC Γ) (XC Γ) (alC Γ) Γ.2.2.2 σ sz)) (wQi Γ.1 vwCl (tysC Γ) (XC Γ) (alC Γ) r σ' sz) 0 0 (wA (alC Γ) sz)) (hrec3 : ∀ (x1 : Int32) (σ : Sg) (r : Int32) (σ' : Sg), rec 3 x1 σ = some (r, σ') → ∀ (sz : Nat), Met l yX4_readComparison (wz yX4_readComparison cX4_readComparison 3 (some .boolean)) { frames := d + 12, cells := 0, slots := 0, locals := 40 * (d) + 400 } (va_Pc [.ref (Γ.2.2.1 (25)), .int x1] (wPre Γ.1 vwCl (tysC Γ) (XC Γ) (alC Γ) Γ.2.2.2 σ sz)) (wQi Γ.1 vwCl (tysC Γ) (XC Γ) (alC Γ) r σ' sz) 0 0 (wA (alC Γ) sz)) (hrec4 : ∀ (x1 : Int32) (σ : Sg) (r : Int32) (σ' : Sg), rec 4 x1 σ = some (r, σ') → ∀ (sz : Nat), Met l yX4_readSum (wz yX4_readSum cX4_readSum 4 (some .boolean)) { frames := d + 12, cells := 0, slots := 0, locals := 40 * (d) + 400 } (va_Pc [.ref (Γ.2.2.1 (25)), .int x1] (wPre Γ.1 vwCl (tysC Γ) (XC Γ) (alC Γ) Γ.2.2.2 σ sz)) (wQi Γ.1 vwCl (tysC Γ) (XC Γ) (alC Γ) r σ' sz) 0 0 (wA (alC Γ) sz)) (hrec5 : ∀ (x1 : Int32) (σ : Sg) (r : Int32) (σ' : Sg), rec 5 x1 σ = some (r, σ') → ∀ (sz : Nat), Met l yX4_readTerm (wz yX4_readTerm cX4_readTerm 3 (some .boolean)) { frames := d + 12, cells := 0, slots := 0, locals := 40 * (d) + 400 } (va_Pc [.ref (Γ.2.2.1 (25)), .int x1] (wPre Γ.1 vwCl (tysC Γ) (XC Γ) (alC Γ) Γ.2.2.2 σ sz)) (wQi Γ.1 vwCl (tysC Γ) (XC Γ) (alC Γ) r σ' sz) 0 0 (wA (alC Γ) sz)) (hrec6 : ∀ (x1 : Int32) (σ : Sg) (r : Int32) (σ' : Sg), rec 6 x1 σ = some (r, σ') → ∀ (sz : Nat), Met l yX4_readOne (wz yX4_readOne cX4_readOne 2 (some .boolean)) { frames := d + 12, cells := 0, slots := 0, locals := 40 * (d) + 400 } (va_Pc [.ref (Γ.2.2.1 (25)), .int x1] (wPre Γ.1 vwCl (tysC Γ) (XC Γ) (alC Γ) Γ.2.2.2 σ sz)) (wQi Γ.1 vwCl (tysC Γ) (XC Γ) (alC Γ) r σ' sz) 0 0 (wA (alC Γ) sz)) (hrec7 : ∀ (x1 : Int32) (σ : Sg) (r : Int32) (σ' : Sg), rec 7 x1 σ = some (r, σ') → ∀ (sz : Nat), Met l yX4_readBracket (wz yX4_readBracket cX4_readBracket 2 (some .boolean)) { frames := d + 12, cells := 0, slots := 0, locals := 40 * (d) + 400 } (va_Pc [.ref (Γ.2.2.1 (25)), .int x1] (wPre Γ.1 vwCl (tysC Γ) (XC Γ) (alC Γ) Γ.2.2.2 σ sz)) (wQi Γ.1 vwCl (tysC Γ) (XC Γ) (alC Γ) r σ' sz) 0 0 (wA (alC Γ) sz)) (x1 : Int32) (σ : Sg) (r : Int32) (σ' : Sg) (hf : fb_X4_readAnd rec x1 σ = some (r, σ')) (sz : Nat) : Met l yX4_readAnd (wz yX4_readAnd cX4_readAnd 3 (some .boolean)) { frames := d + 1 + 12, cells := 0, slots := 0, locals := 40 * (d + 1) + 400 } (va_Pc [.ref (Γ.2.2.1 (25)), .int x1] (wPre Γ.1 vwCl (tysC Γ) (XC Γ) (alC Γ) Γ.2.2.2 σ sz)) (wQi Γ.1 vwCl (tysC Γ) (XC Γ) (alC Γ) r σ' sz) 0 0 (wA (alC Γ) sz) := by
  refine w_enter (cc := cX4_readAnd) (maxL := 3) (ret := (some .boolean)) (by decide) rfl (Nat.le_of_ble_eq_true rfl) ?_
  intro p e s m below meth c ls hx hb hr hlocks hml hown hts hsz hP hK hkc hN hl
  subst hsz
  generalize hav : ([.ref (Γ.2.2.1 (25)), .int x1] : List Value) = av at hl hts ⊢
  have hl : lv_has ls 3 [(0, .ref (Γ.2.2.1 (25))), (1, .int x1)] := by rw [← hav] at hl; exact hl
  have j12 : ∀ (n12 : Nat), ∀ (y2 : Int32) (τ : Sg) (H : Heap) (locs : List Loc) (ls : Array Slot) (hf : fb_X4_readAnd_12 rec x1 n12 y2 τ = some (r, σ')) (hP : va_P Γ.1 vwCl (XC Γ τ) H) (hS : va_S (wA (alC Γ) s.heap.size) s.heap H locs) (hl : lv_has ls 3 [(0, .ref (Γ.2.2.1 (25))), (1, .int x1), (2, .int y2)]), W p l e { frames := d + 1 + 12, cells := 0, slots := 0, locals := 40 * (d + 1) + 400 } s m av.toArray below meth c H locs 0 0 (MQ below (wQi Γ.1 vwCl (tysC Γ) (XC Γ) (alC Γ) r σ' s.heap.size) av.toArray s 0 0 (wA (alC Γ) s.heap.size)) (F0 m 12 ls []) := by
    intro n12
    induction n12 with
    | zero =>
      intro y2 τ H locs ls hf
      exact absurd hf (by intro h; cases h)
    | succ n12 ih12 =>
      intro y2 τ H locs ls hf hP hS hl
      unfold fb_X4_readAnd_12 at hf
      refine lv_iload_n hx hb dX4_readAnd_12 rfl (lv_at hl 2 rfl) ?_
      refine lv_sipush (v := (160 : Int32)) hx hb dX4_readAnd_13 (by decide) ?_
      refine lv_icmp_ge (tgt := 59) hx hb dX4_readAnd_16 (by decide) (fun c4 => ?_) (fun c4 => ?_)
      · replace hf := (if_pos c4).symm.trans hf
        refine lv_iconst (v := (1 : Int32)) hx hb dX4_readAnd_59 (by decide) ?_
        exact w_iret (X := XC Γ) hx hb hr hlocks hK hP hS (by decide) hf dX4_readAnd_60
      · replace hf := (if_neg c4).symm.trans hf
        refine lv_aload_n hx hb dX4_readAnd_19 rfl (lv_at hl 0 rfl) ?_
        refine va_get (D := Γ.1) (ci := 4) (v := .int (τ (38) 0)) (C := RX4) (T := TX4) (N := 7) hx hb hts iX4 hown hK hP (25) (gC_Reader Γ τ) rfl 5 (by decide) (hts (.fieldLink RX4 41 "OtherHalfOfNight$Reader" "token" "I") (wzm K449)) (fun _ h9 => h9) rfl dX4_readAnd_20 ?_
        refine lv_sipush (v := (260 : Int32)) hx hb dX4_readAnd_23 (by decide) ?_
        refine lv_icmp_ne (tgt := 59) hx hb dX4_readAnd_26 (by decide) (fun c5 => ?_) (fun c5 => ?_)
        · replace hf := (if_neg c5).symm.trans hf
          refine lv_iconst (v := (1 : Int32)) hx hb dX4_readAnd_59 (by decide) ?_
          exact w_iret (X := XC Γ) hx hb hr hlocks hK hP hS (by decide) hf dX4_readAnd_60
        · replace hf := (if_pos c5).symm.trans hf
          refine lv_aload_n hx hb dX4_readAnd_29 rfl (lv_at hl 0 rfl) ?_
          obtain ⟨q6, h7, hf⟩ := w_ob hf
          refine w_cv (va_runV (As := []) (rest := []) ⟨hx, hb, hml, hown, hts⟩ (c_X4_step l Γ hG τ q6 h7 H.size) (cwV 0 hts (wzV K455 K452 K453 K454 K20) rfl rfl rfl (by decide +kernel) ⟨(by dsimp only; omega), (by dsimp only; omega)⟩) (w_preV hK hP hkc hN hS (gC_Reader Γ τ) rfl) rfl rfl hl.1 rfl (lv_room (Nat.le_of_ble_eq_true rfl)) dX4_readAnd_30 ⟨Nat.le_refl _, Nat.le_refl _⟩) hS (fun H locs hP hS => ?_)
          refine lv_aload_n hx hb dX4_readAnd_33 rfl (lv_at hl 0 rfl) ?_
          refine lv_iload_n hx hb dX4_readAnd_34 rfl (lv_at hl 1 rfl) ?_
          obtain ⟨q8, h9, hf⟩ := w_ob hf
          refine w_ci (va_runV (As := [.int x1]) (rest := []) ⟨hx, hb, hml, hown, hts⟩ (hrec2 x1 q6 q8.1 q8.2 h9 H.size) (cwV 1 hts (wzV K604 K596 K597 K598 K20) rfl rfl rfl (by decide +kernel) ⟨(by dsimp only; omega), (by dsimp only; omega)⟩) (w_preV hK hP hkc hN hS (gC_Reader Γ q6) rfl) rfl rfl hl.1 rfl (lv_room (Nat.le_of_ble_eq_true rfl)) dX4_readAnd_35 ⟨Nat.le_refl _, Nat.le_refl _⟩) hS (fun H locs hP hS => ?_)
          refine lv_if_ne (tgt := 43) hx hb dX4_readAnd_38 (by decide) (fun c10 => ?_) (fun c10 => ?_)
          · replace hf := (if_neg c10).symm.trans hf
            refine lv_aload_n hx hb dX4_readAnd_43 rfl (lv_at hl 0 rfl) ?_
            obtain ⟨g11, hf⟩ := w_oi hf
            refine va_get (D := Γ.1) (ci := 4) (v := .ref (Γ.2.2.1 (30 + 3 * ((q8.2 (40) 0).toNatClampNeg)))) (C := RX4) (T := TX4) (N := 7) hx hb hts iX4 hown hK hP (25) (gC_Reader Γ q8.2) rfl 2 (by decide) (hts (.fieldLink RX4 18 "OtherHalfOfNight$Reader" "text" "LOtherHalfOfNight$Text;") (wzm K57)) (fun _ h9 => h9) rfl dX4_readAnd_44 ?_
            refine lv_sipush (v := (-260 : Int32)) hx hb dX4_readAnd_47 (by decide) ?_
            obtain ⟨q12, h13, hf⟩ := w_ob hf
            refine w_cv (va_runV (As := [.int (-260 : Int32)]) (rest := []) ⟨hx, hb, hml, hown, hts⟩ (c_X6_add l Γ hG ((q8.2 (40) 0).toNatClampNeg) (-260 : Int32) q8.2 q12 h13 H.size) (cwV 1 hts (wzV K83 K594 K81 K82 K56) rfl rfl rfl (by decide +kernel) ⟨(by dsimp only; omega), (by dsimp only; omega)⟩) (w_preV hK hP hkc hN hS (gC_Text Γ q8.2 ((q8.2 (40) 0).toNatClampNeg) g11) rfl) rfl rfl hl.1 rfl (lv_room (Nat.le_of_ble_eq_true rfl)) dX4_readAnd_50 ⟨Nat.le_refl _, Nat.le_refl _⟩) hS (fun H locs hP hS => ?_)
            refine lv_iinc (v := (y2 + (1 : Int32))) (lv' := [(2, .int (y2 + (1 : Int32))), (0, .ref (Γ.2.2.1 (25))), (1, .int x1)]) hx hb dX4_readAnd_53 hl (k := 2) rfl rfl (by decide) rfl (fun ls hl => ?_)
            refine lv_goto (tgt := 12) hx hb dX4_readAnd_56 (by decide) ?_
            exact ih12 ((y2 + (1 : Int32))) q12 H locs ls hf hP hS (lv_sub hl [1, 2, 0] rfl)
          · replace hf := (if_pos c10).symm.trans hf
            refine lv_iconst (v := (0 : Int32)) hx hb dX4_readAnd_41 (by decide) ?_
            exact w_iret (X := XC Γ) hx hb hr hlocks hK hP hS (by decide) hf dX4_readAnd_42
  suffices hw : ∀ (H : Heap) (locs : List Loc), va_P Γ.1 vwCl (XC Γ σ) H → va_S (wA (alC Γ) s.heap.size) s.heap H locs → W p l e { frames := d + 1 + 12, cells := 0, slots := 0, locals := 40 * (d + 1) + 400 } s m av.toArray below meth c H locs 0 0 (MQ below (wQi Γ.1 vwCl (tysC Γ) (XC Γ) (alC Γ) r σ' s.heap.size) av.toArray s 0 0 (wA (alC Γ) s.heap.size)) (F0 m 0 ls []) from hw _ [] hP va_S.rf
  clear hP
  intro H locs hP hS
  unfold fb_X4_readAnd at hf
  refine lv_aload_n hx hb dX4_readAnd_0 rfl (lv_at hl 0 rfl) ?_
  refine lv_iload_n hx hb dX4_readAnd_1 rfl (lv_at hl 1 rfl) ?_
  obtain ⟨q1, h2, hf⟩ := w_ob hf
  refine w_ci (va_runV (As := [.int x1]) (rest := []) ⟨hx, hb, hml, hown, hts⟩ (hrec2 x1 σ q1.1 q1.2 h2 H.size) (cwV 1 hts (wzV K604 K596 K597 K598 K20) rfl rfl rfl (by decide +kernel) ⟨(by dsimp only; omega), (by dsimp only; omega)⟩) (w_preV hK hP hkc hN hS (gC_Reader Γ σ) rfl) rfl rfl hl.1 rfl (lv_room (Nat.le_of_ble_eq_true rfl)) dX4_readAnd_2 ⟨Nat.le_refl _, Nat.le_refl _⟩) hS (fun H locs hP hS => ?_)
  refine lv_if_ne (tgt := 10) hx hb dX4_readAnd_5 (by decide) (fun c3 => ?_) (fun c3 => ?_)
  · replace hf := (if_neg c3).symm.trans hf
    refine lv_iconst (v := (0 : Int32)) hx hb dX4_readAnd_10 (by decide) ?_
    refine lv_istore_n (lv' := [(2, .int (0 : Int32)), (0, .ref (Γ.2.2.1 (25))), (1, .int x1)]) hx hb dX4_readAnd_11 rfl hl (by decide) rfl (fun ls hl => ?_)
    exact j12 5000 ((0 : Int32)) q1.2 H locs ls hf hP hS (lv_sub hl [1, 2, 0] rfl)
  · replace hf := (if_pos c3).symm.trans hf
    refine lv_iconst (v := (0 : Int32)) hx hb dX4_readAnd_8 (by decide) ?_
    exact w_iret (X := XC Γ) hx hb hr hlocks hK hP hS (by decide) hf dX4_readAnd_9
def fb_X4_readNot (rec : Nat → Int32 → Sg → Option (Int32 × Sg)) (x1 : Int32) (σ : Sg) : Option (Int32 × Sg) := if (σ (38) 0) = (261 : Int32) then if x1 < (5 : Int32) then (f_X4_step σ).bind fun (q3 : Sg) => (rec 2 (x1 + (1 : Int32)) q3).bind fun (q5 : Int32 × Sg) => if q5.1 = 0 then some ((0 : Int32), q5.2) else if (q5.2 (40) 0).toNatClampNeg < 7 then (f_X6_add ((q5.2 (40) 0).toNatClampNeg) (-261 : Int32) q5.2).bind fun (q9 : Sg) => some ((1 : Int32), q9) else none else some ((0 : Int32), σ) else (rec 3 x1 σ).bind fun (q11 : Int32 × Sg) => if (q11.1 = 0 ∨ q11.1 = 1) then some (q11.1, q11.2) else none
set_option maxHeartbeats 40000000 in
set_option maxRecDepth 100000 in
theorem cb_X4_readNot (l : Launch) (Γ : Geo) (hG : okC Γ) (rec : Nat → Int32 → Sg → Option (Int32 × Sg)) (d : Nat) (hrec0 : ∀ (x1 : Int32) (σ : Sg) (r : Int32) (σ' : Sg), rec 0 x1 σ = some (r, σ') → ∀ (sz : Nat), Met l yX4_readAny (wz yX4_readAny cX4_readAny 3 (some .boolean)) { frames := d + 12, cells := 0, slots := 0, locals := 40 * (d) + 400 } (va_Pc [.ref (Γ.2.2.1 (25)), .int x1] (wPre Γ.1 vwCl (tysC Γ) (XC Γ) (alC Γ) Γ.2.2.2 σ sz)) (wQi Γ.1 vwCl (tysC Γ) (XC Γ) (alC Γ) r σ' sz) 0 0 (wA (alC Γ) sz)) (hrec1 : ∀ (x1 : Int32) (σ : Sg) (r : Int32) (σ' : Sg), rec 1 x1 σ = some (r, σ') → ∀ (sz : Nat), Met l yX4_readAnd (wz yX4_readAnd cX4_readAnd 3 (some .boolean)) { frames := d + 12, cells := 0, slots := 0, locals := 40 * (d) + 400 } (va_Pc [.ref (Γ.2.2.1 (25)), .int x1] (wPre Γ.1 vwCl (tysC Γ) (XC Γ) (alC Γ) Γ.2.2.2 σ sz)) (wQi Γ.1 vwCl (tysC Γ) (XC Γ) (alC Γ) r σ' sz) 0 0 (wA (alC Γ) sz)) (hrec2 : ∀ (x1 : Int32) (σ : Sg) (r : Int32) (σ' : Sg), rec 2 x1 σ = some (r, σ') → ∀ (sz : Nat), Met l yX4_readNot (wz yX4_readNot cX4_readNot 2 (some .boolean)) { frames := d + 12, cells := 0, slots := 0, locals := 40 * (d) + 400 } (va_Pc [.ref (Γ.2.2.1 (25)), .int x1] (wPre Γ.1 vwCl (tysC Γ) (XC Γ) (alC Γ) Γ.2.2.2 σ sz)) (wQi Γ.1 vwCl (tysC Γ) (XC Γ) (alC Γ) r σ' sz) 0 0 (wA (alC Γ) sz)) (hrec3 : ∀ (x1 : Int32) (σ : Sg) (r : Int32) (σ' : Sg), rec 3 x1 σ = some (r, σ') → ∀ (sz : Nat), Met l yX4_readComparison (wz yX4_readComparison cX4_readComparison 3 (some .boolean)) { frames := d + 12, cells := 0, slots := 0, locals := 40 * (d) + 400 } (va_Pc [.ref (Γ.2.2.1 (25)), .int x1] (wPre Γ.1 vwCl (tysC Γ) (XC Γ) (alC Γ) Γ.2.2.2 σ sz)) (wQi Γ.1 vwCl (tysC Γ) (XC Γ) (alC Γ) r σ' sz) 0 0 (wA (alC Γ) sz)) (hrec4 : ∀ (x1 : Int32) (σ : Sg) (r : Int32) (σ' : Sg), rec 4 x1 σ = some (r, σ') → ∀ (sz : Nat), Met l yX4_readSum (wz yX4_readSum cX4_readSum 4 (some .boolean)) { frames := d + 12, cells := 0, slots := 0, locals := 40 * (d) + 400 } (va_Pc [.ref (Γ.2.2.1 (25)), .int x1] (wPre Γ.1 vwCl (tysC Γ) (XC Γ) (alC Γ) Γ.2.2.2 σ sz)) (wQi Γ.1 vwCl (tysC Γ) (XC Γ) (alC Γ) r σ' sz) 0 0 (wA (alC Γ) sz)) (hrec5 : ∀ (x1 : Int32) (σ : Sg) (r : Int32) (σ' : Sg), rec 5 x1 σ = some (r, σ') → ∀ (sz : Nat), Met l yX4_readTerm (wz yX4_readTerm cX4_readTerm 3 (some .boolean)) { frames := d + 12, cells := 0, slots := 0, locals := 40 * (d) + 400 } (va_Pc [.ref (Γ.2.2.1 (25)), .int x1] (wPre Γ.1 vwCl (tysC Γ) (XC Γ) (alC Γ) Γ.2.2.2 σ sz)) (wQi Γ.1 vwCl (tysC Γ) (XC Γ) (alC Γ) r σ' sz) 0 0 (wA (alC Γ) sz)) (hrec6 : ∀ (x1 : Int32) (σ : Sg) (r : Int32) (σ' : Sg), rec 6 x1 σ = some (r, σ') → ∀ (sz : Nat), Met l yX4_readOne (wz yX4_readOne cX4_readOne 2 (some .boolean)) { frames := d + 12, cells := 0, slots := 0, locals := 40 * (d) + 400 } (va_Pc [.ref (Γ.2.2.1 (25)), .int x1] (wPre Γ.1 vwCl (tysC Γ) (XC Γ) (alC Γ) Γ.2.2.2 σ sz)) (wQi Γ.1 vwCl (tysC Γ) (XC Γ) (alC Γ) r σ' sz) 0 0 (wA (alC Γ) sz)) (hrec7 : ∀ (x1 : Int32) (σ : Sg) (r : Int32) (σ' : Sg), rec 7 x1 σ = some (r, σ') → ∀ (sz : Nat), Met l yX4_readBracket (wz yX4_readBracket cX4_readBracket 2 (some .boolean)) { frames := d + 12, cells := 0, slots := 0, locals := 40 * (d) + 400 } (va_Pc [.ref (Γ.2.2.1 (25)), .int x1] (wPre Γ.1 vwCl (tysC Γ) (XC Γ) (alC Γ) Γ.2.2.2 σ sz)) (wQi Γ.1 vwCl (tysC Γ) (XC Γ) (alC Γ) r σ' sz) 0 0 (wA (alC Γ) sz)) (x1 : Int32) (σ : Sg) (r : Int32) (σ' : Sg) (hf : fb_X4_readNot rec x1 σ = some (r, σ')) (sz : Nat) : Met l yX4_readNot (wz yX4_readNot cX4_readNot 2 (some .boolean)) { frames := d + 1 + 12, cells := 0, slots := 0, locals := 40 * (d + 1) + 400 } (va_Pc [.ref (Γ.2.2.1 (25)), .int x1] (wPre Γ.1 vwCl (tysC Γ) (XC Γ) (alC Γ) Γ.2.2.2 σ sz)) (wQi Γ.1 vwCl (tysC Γ) (XC Γ) (alC Γ) r σ' sz) 0 0 (wA (alC Γ) sz) := by
  refine w_enter (cc := cX4_readNot) (maxL := 2) (ret := (some .boolean)) (by decide) rfl (Nat.le_of_ble_eq_true rfl) ?_
  intro p e s m below meth c ls hx hb hr hlocks hml hown hts hsz hP hK hkc hN hl
  subst hsz
  generalize hav : ([.ref (Γ.2.2.1 (25)), .int x1] : List Value) = av at hl hts ⊢
  have hl : lv_has ls 2 [(0, .ref (Γ.2.2.1 (25))), (1, .int x1)] := by rw [← hav] at hl; exact hl
  suffices hw : ∀ (H : Heap) (locs : List Loc), va_P Γ.1 vwCl (XC Γ σ) H → va_S (wA (alC Γ) s.heap.size) s.heap H locs → W p l e { frames := d + 1 + 12, cells := 0, slots := 0, locals := 40 * (d + 1) + 400 } s m av.toArray below meth c H locs 0 0 (MQ below (wQi Γ.1 vwCl (tysC Γ) (XC Γ) (alC Γ) r σ' s.heap.size) av.toArray s 0 0 (wA (alC Γ) s.heap.size)) (F0 m 0 ls []) from hw _ [] hP va_S.rf
  clear hP
  intro H locs hP hS
  unfold fb_X4_readNot at hf
  refine lv_aload_n hx hb dX4_readNot_0 rfl (lv_at hl 0 rfl) ?_
  refine va_get (D := Γ.1) (ci := 4) (v := .int (σ (38) 0)) (C := RX4) (T := TX4) (N := 7) hx hb hts iX4 hown hK hP (25) (gC_Reader Γ σ) rfl 5 (by decide) (hts (.fieldLink RX4 41 "OtherHalfOfNight$Reader" "token" "I") (wzm K449)) (fun _ h9 => h9) rfl dX4_readNot_1 ?_
  refine lv_sipush (v := (261 : Int32)) hx hb dX4_readNot_4 (by decide) ?_
  refine lv_icmp_eq (tgt := 16) hx hb dX4_readNot_7 (by decide) (fun c1 => ?_) (fun c1 => ?_)
  · replace hf := (if_pos c1).symm.trans hf
    refine lv_iload_n hx hb dX4_readNot_16 rfl (lv_at hl 1 rfl) ?_
    refine lv_iconst (v := (5 : Int32)) hx hb dX4_readNot_17 (by decide) ?_
    refine lv_icmp_lt (tgt := 23) hx hb dX4_readNot_18 (by decide) (fun c2 => ?_) (fun c2 => ?_)
    · replace hf := (if_pos c2).symm.trans hf
      refine lv_aload_n hx hb dX4_readNot_23 rfl (lv_at hl 0 rfl) ?_
      obtain ⟨q3, h4, hf⟩ := w_ob hf
      refine w_cv (va_runV (As := []) (rest := []) ⟨hx, hb, hml, hown, hts⟩ (c_X4_step l Γ hG σ q3 h4 H.size) (cwV 0 hts (wzV K455 K452 K453 K454 K20) rfl rfl rfl (by decide +kernel) ⟨(by dsimp only; omega), (by dsimp only; omega)⟩) (w_preV hK hP hkc hN hS (gC_Reader Γ σ) rfl) rfl rfl hl.1 rfl (lv_room (Nat.le_of_ble_eq_true rfl)) dX4_readNot_24 ⟨Nat.le_refl _, Nat.le_refl _⟩) hS (fun H locs hP hS => ?_)
      refine lv_aload_n hx hb dX4_readNot_27 rfl (lv_at hl 0 rfl) ?_
      refine lv_iload_n hx hb dX4_readNot_28 rfl (lv_at hl 1 rfl) ?_
      refine lv_iconst (v := (1 : Int32)) hx hb dX4_readNot_29 (by decide) ?_
      refine lv_iadd hx hb dX4_readNot_30 ?_
      obtain ⟨q5, h6, hf⟩ := w_ob hf
      refine w_ci (va_runV (As := [.int (x1 + (1 : Int32))]) (rest := []) ⟨hx, hb, hml, hown, hts⟩ (hrec2 (x1 + (1 : Int32)) q3 q5.1 q5.2 h6 H.size) (cwV 1 hts (wzV K604 K596 K597 K598 K20) rfl rfl rfl (by decide +kernel) ⟨(by dsimp only; omega), (by dsimp only; omega)⟩) (w_preV hK hP hkc hN hS (gC_Reader Γ q3) rfl) rfl rfl hl.1 rfl (lv_room (Nat.le_of_ble_eq_true rfl)) dX4_readNot_31 ⟨Nat.le_refl _, Nat.le_refl _⟩) hS (fun H locs hP hS => ?_)
      refine lv_if_ne (tgt := 39) hx hb dX4_readNot_34 (by decide) (fun c7 => ?_) (fun c7 => ?_)
      · replace hf := (if_neg c7).symm.trans hf
        refine lv_aload_n hx hb dX4_readNot_39 rfl (lv_at hl 0 rfl) ?_
        obtain ⟨g8, hf⟩ := w_oi hf
        refine va_get (D := Γ.1) (ci := 4) (v := .ref (Γ.2.2.1 (30 + 3 * ((q5.2 (40) 0).toNatClampNeg)))) (C := RX4) (T := TX4) (N := 7) hx hb hts iX4 hown hK hP (25) (gC_Reader Γ q5.2) rfl 2 (by decide) (hts (.fieldLink RX4 18 "OtherHalfOfNight$Reader" "text" "LOtherHalfOfNight$Text;") (wzm K57)) (fun _ h9 => h9) rfl dX4_readNot_40 ?_
        refine lv_sipush (v := (-261 : Int32)) hx hb dX4_readNot_43 (by decide) ?_
        obtain ⟨q9, h10, hf⟩ := w_ob hf
        refine w_cv (va_runV (As := [.int (-261 : Int32)]) (rest := []) ⟨hx, hb, hml, hown, hts⟩ (c_X6_add l Γ hG ((q5.2 (40) 0).toNatClampNeg) (-261 : Int32) q5.2 q9 h10 H.size) (cwV 1 hts (wzV K83 K594 K81 K82 K56) rfl rfl rfl (by decide +kernel) ⟨(by dsimp only; omega), (by dsimp only; omega)⟩) (w_preV hK hP hkc hN hS (gC_Text Γ q5.2 ((q5.2 (40) 0).toNatClampNeg) g8) rfl) rfl rfl hl.1 rfl (lv_room (Nat.le_of_ble_eq_true rfl)) dX4_readNot_46 ⟨Nat.le_refl _, Nat.le_refl _⟩) hS (fun H locs hP hS => ?_)
        refine lv_iconst (v := (1 : Int32)) hx hb dX4_readNot_49 (by decide) ?_
        exact w_iret (X := XC Γ) hx hb hr hlocks hK hP hS (by decide) hf dX4_readNot_50
      · replace hf := (if_pos c7).symm.trans hf
        refine lv_iconst (v := (0 : Int32)) hx hb dX4_readNot_37 (by decide) ?_
        exact w_iret (X := XC Γ) hx hb hr hlocks hK hP hS (by decide) hf dX4_readNot_38
    · replace hf := (if_neg c2).symm.trans hf
      refine lv_iconst (v := (0 : Int32)) hx hb dX4_readNot_21 (by decide) ?_
      exact w_iret (X := XC Γ) hx hb hr hlocks hK hP hS (by decide) hf dX4_readNot_22
  · replace hf := (if_neg c1).symm.trans hf
    refine lv_aload_n hx hb dX4_readNot_10 rfl (lv_at hl 0 rfl) ?_
    refine lv_iload_n hx hb dX4_readNot_11 rfl (lv_at hl 1 rfl) ?_
    obtain ⟨q11, h12, hf⟩ := w_ob hf
    refine w_ci (va_runV (As := [.int x1]) (rest := []) ⟨hx, hb, hml, hown, hts⟩ (hrec3 x1 σ q11.1 q11.2 h12 H.size) (cwV 1 hts (wzV K600 K605 K606 K607 K20) rfl rfl rfl (by decide +kernel) ⟨(by dsimp only; omega), (by dsimp only; omega)⟩) (w_preV hK hP hkc hN hS (gC_Reader Γ σ) rfl) rfl rfl hl.1 rfl (lv_room (Nat.le_of_ble_eq_true rfl)) dX4_readNot_12 ⟨Nat.le_refl _, Nat.le_refl _⟩) hS (fun H locs hP hS => ?_)
    obtain ⟨g13, hf⟩ := w_oi hf
    exact w_iret (X := XC Γ) hx hb hr hlocks hK hP hS (w_nb g13) hf dX4_readNot_15
def fb_X4_readComparison_30 (rec : Nat → Int32 → Sg → Option (Int32 × Sg)) (x1 : Int32) (τ : Sg) : Option (Int32 × Sg) := (f_X4_step τ).bind fun (q6 : Sg) => (rec 4 x1 q6).bind fun (q8 : Int32 × Sg) => if q8.1 = 0 then some ((0 : Int32), q8.2) else if (q8.2 (40) 0).toNatClampNeg < 7 then (f_X6_add ((q8.2 (40) 0).toNatClampNeg) (-(τ (38) 0)) q8.2).bind fun (q12 : Sg) => some ((1 : Int32), q12) else none
def fb_X4_readComparison (rec : Nat → Int32 → Sg → Option (Int32 × Sg)) (x1 : Int32) (σ : Sg) : Option (Int32 × Sg) := (rec 4 x1 σ).bind fun (q1 : Int32 × Sg) => if q1.1 = 0 then some ((0 : Int32), q1.2) else if (q1.2 (38) 0) = (60 : Int32) then fb_X4_readComparison_30 rec x1 q1.2 else if (q1.2 (38) 0) = (61 : Int32) then fb_X4_readComparison_30 rec x1 q1.2 else some ((1 : Int32), q1.2)
set_option maxHeartbeats 40000000 in
set_option maxRecDepth 100000 in
theorem cb_X4_readComparison (l : Launch) (Γ : Geo) (hG : okC Γ) (rec : Nat → Int32 → Sg → Option (Int32 × Sg)) (d : Nat) (hrec0 : ∀ (x1 : Int32) (σ : Sg) (r : Int32) (σ' : Sg), rec 0 x1 σ = some (r, σ') → ∀ (sz : Nat), Met l yX4_readAny (wz yX4_readAny cX4_readAny 3 (some .boolean)) { frames := d + 12, cells := 0, slots := 0, locals := 40 * (d) + 400 } (va_Pc [.ref (Γ.2.2.1 (25)), .int x1] (wPre Γ.1 vwCl (tysC Γ) (XC Γ) (alC Γ) Γ.2.2.2 σ sz)) (wQi Γ.1 vwCl (tysC Γ) (XC Γ) (alC Γ) r σ' sz) 0 0 (wA (alC Γ) sz)) (hrec1 : ∀ (x1 : Int32) (σ : Sg) (r : Int32) (σ' : Sg), rec 1 x1 σ = some (r, σ') → ∀ (sz : Nat), Met l yX4_readAnd (wz yX4_readAnd cX4_readAnd 3 (some .boolean)) { frames := d + 12, cells := 0, slots := 0, locals := 40 * (d) + 400 } (va_Pc [.ref (Γ.2.2.1 (25)), .int x1] (wPre Γ.1 vwCl (tysC Γ) (XC Γ) (alC Γ) Γ.2.2.2 σ sz)) (wQi Γ.1 vwCl (tysC Γ) (XC Γ) (alC Γ) r σ' sz) 0 0 (wA (alC Γ) sz)) (hrec2 : ∀ (x1 : Int32) (σ : Sg) (r : Int32) (σ' : Sg), rec 2 x1 σ = some (r, σ') → ∀ (sz : Nat), Met l yX4_readNot (wz yX4_readNot cX4_readNot 2 (some .boolean)) { frames := d + 12, cells := 0, slots := 0, locals := 40 * (d) + 400 } (va_Pc [.ref (Γ.2.2.1 (25)), .int x1] (wPre Γ.1 vwCl (tysC Γ) (XC Γ) (alC Γ) Γ.2.2.2 σ sz)) (wQi Γ.1 vwCl (tysC Γ) (XC Γ) (alC Γ) r σ' sz) 0 0 (wA (alC Γ) sz)) (hrec3 : ∀ (x1 : Int32) (σ : Sg) (r : Int32) (σ' : Sg), rec 3 x1 σ = some (r, σ') → ∀ (sz : Nat), Met l yX4_readComparison (wz yX4_readComparison cX4_readComparison 3 (some .boolean)) { frames := d + 12, cells := 0, slots := 0, locals := 40 * (d) + 400 } (va_Pc [.ref (Γ.2.2.1 (25)), .int x1] (wPre Γ.1 vwCl (tysC Γ) (XC Γ) (alC Γ) Γ.2.2.2 σ sz)) (wQi Γ.1 vwCl (tysC Γ) (XC Γ) (alC Γ) r σ' sz) 0 0 (wA (alC Γ) sz)) (hrec4 : ∀ (x1 : Int32) (σ : Sg) (r : Int32) (σ' : Sg), rec 4 x1 σ = some (r, σ') → ∀ (sz : Nat), Met l yX4_readSum (wz yX4_readSum cX4_readSum 4 (some .boolean)) { frames := d + 12, cells := 0, slots := 0, locals := 40 * (d) + 400 } (va_Pc [.ref (Γ.2.2.1 (25)), .int x1] (wPre Γ.1 vwCl (tysC Γ) (XC Γ) (alC Γ) Γ.2.2.2 σ sz)) (wQi Γ.1 vwCl (tysC Γ) (XC Γ) (alC Γ) r σ' sz) 0 0 (wA (alC Γ) sz)) (hrec5 : ∀ (x1 : Int32) (σ : Sg) (r : Int32) (σ' : Sg), rec 5 x1 σ = some (r, σ') → ∀ (sz : Nat), Met l yX4_readTerm (wz yX4_readTerm cX4_readTerm 3 (some .boolean)) { frames := d + 12, cells := 0, slots := 0, locals := 40 * (d) + 400 } (va_Pc [.ref (Γ.2.2.1 (25)), .int x1] (wPre Γ.1 vwCl (tysC Γ) (XC Γ) (alC Γ) Γ.2.2.2 σ sz)) (wQi Γ.1 vwCl (tysC Γ) (XC Γ) (alC Γ) r σ' sz) 0 0 (wA (alC Γ) sz)) (hrec6 : ∀ (x1 : Int32) (σ : Sg) (r : Int32) (σ' : Sg), rec 6 x1 σ = some (r, σ') → ∀ (sz : Nat), Met l yX4_readOne (wz yX4_readOne cX4_readOne 2 (some .boolean)) { frames := d + 12, cells := 0, slots := 0, locals := 40 * (d) + 400 } (va_Pc [.ref (Γ.2.2.1 (25)), .int x1] (wPre Γ.1 vwCl (tysC Γ) (XC Γ) (alC Γ) Γ.2.2.2 σ sz)) (wQi Γ.1 vwCl (tysC Γ) (XC Γ) (alC Γ) r σ' sz) 0 0 (wA (alC Γ) sz)) (hrec7 : ∀ (x1 : Int32) (σ : Sg) (r : Int32) (σ' : Sg), rec 7 x1 σ = some (r, σ') → ∀ (sz : Nat), Met l yX4_readBracket (wz yX4_readBracket cX4_readBracket 2 (some .boolean)) { frames := d + 12, cells := 0, slots := 0, locals := 40 * (d) + 400 } (va_Pc [.ref (Γ.2.2.1 (25)), .int x1] (wPre Γ.1 vwCl (tysC Γ) (XC Γ) (alC Γ) Γ.2.2.2 σ sz)) (wQi Γ.1 vwCl (tysC Γ) (XC Γ) (alC Γ) r σ' sz) 0 0 (wA (alC Γ) sz)) (x1 : Int32) (σ : Sg) (r : Int32) (σ' : Sg) (hf : fb_X4_readComparison rec x1 σ = some (r, σ')) (sz : Nat) : Met l yX4_readComparison (wz yX4_readComparison cX4_readComparison 3 (some .boolean)) { frames := d + 1 + 12, cells := 0, slots := 0, locals := 40 * (d + 1) + 400 } (va_Pc [.ref (Γ.2.2.1 (25)), .int x1] (wPre Γ.1 vwCl (tysC Γ) (XC Γ) (alC Γ) Γ.2.2.2 σ sz)) (wQi Γ.1 vwCl (tysC Γ) (XC Γ) (alC Γ) r σ' sz) 0 0 (wA (alC Γ) sz) := by
  refine w_enter (cc := cX4_readComparison) (maxL := 3) (ret := (some .boolean)) (by decide) rfl (Nat.le_of_ble_eq_true rfl) ?_
  intro p e s m below meth c ls hx hb hr hlocks hml hown hts hsz hP hK hkc hN hl
  subst hsz
  generalize hav : ([.ref (Γ.2.2.1 (25)), .int x1] : List Value) = av at hl hts ⊢
  have hl : lv_has ls 3 [(0, .ref (Γ.2.2.1 (25))), (1, .int x1)] := by rw [← hav] at hl; exact hl
  have j30 : ∀ (τ : Sg) (H : Heap) (locs : List Loc) (ls : Array Slot) (hf : fb_X4_readComparison_30 rec x1 τ = some (r, σ')) (hP : va_P Γ.1 vwCl (XC Γ τ) H) (hS : va_S (wA (alC Γ) s.heap.size) s.heap H locs) (hl : lv_has ls 3 [(0, .ref (Γ.2.2.1 (25))), (1, .int x1)]), W p l e { frames := d + 1 + 12, cells := 0, slots := 0, locals := 40 * (d + 1) + 400 } s m av.toArray below meth c H locs 0 0 (MQ below (wQi Γ.1 vwCl (tysC Γ) (XC Γ) (alC Γ) r σ' s.heap.size) av.toArray s 0 0 (wA (alC Γ) s.heap.size)) (F0 m 30 ls []) := by
    intro τ H locs ls hf hP hS hl
    unfold fb_X4_readComparison_30 at hf
    refine lv_aload_n hx hb dX4_readComparison_30 rfl (lv_at hl 0 rfl) ?_
    refine va_get (D := Γ.1) (ci := 4) (v := .int (τ (38) 0)) (C := RX4) (T := TX4) (N := 7) hx hb hts iX4 hown hK hP (25) (gC_Reader Γ τ) rfl 5 (by decide) (hts (.fieldLink RX4 41 "OtherHalfOfNight$Reader" "token" "I") (wzm K449)) (fun _ h9 => h9) rfl dX4_readComparison_31 ?_
    refine lv_istore_n (lv' := [(2, .int (τ (38) 0)), (0, .ref (Γ.2.2.1 (25))), (1, .int x1)]) hx hb dX4_readComparison_34 rfl hl (by decide) rfl (fun ls hl => ?_)
    refine lv_aload_n hx hb dX4_readComparison_35 rfl (lv_at hl 1 rfl) ?_
    obtain ⟨q6, h7, hf⟩ := w_ob hf
    refine w_cv (va_runV (As := []) (rest := []) ⟨hx, hb, hml, hown, hts⟩ (c_X4_step l Γ hG τ q6 h7 H.size) (cwV 0 hts (wzV K455 K452 K453 K454 K20) rfl rfl rfl (by decide +kernel) ⟨(by dsimp only; omega), (by dsimp only; omega)⟩) (w_preV hK hP hkc hN hS (gC_Reader Γ τ) rfl) rfl rfl hl.1 rfl (lv_room (Nat.le_of_ble_eq_true rfl)) dX4_readComparison_36 ⟨Nat.le_refl _, Nat.le_refl _⟩) hS (fun H locs hP hS => ?_)
    refine lv_aload_n hx hb dX4_readComparison_39 rfl (lv_at hl 1 rfl) ?_
    refine lv_iload_n hx hb dX4_readComparison_40 rfl (lv_at hl 2 rfl) ?_
    obtain ⟨q8, h9, hf⟩ := w_ob hf
    refine w_ci (va_runV (As := [.int x1]) (rest := []) ⟨hx, hb, hml, hown, hts⟩ (hrec4 x1 q6 q8.1 q8.2 h9 H.size) (cwV 1 hts (wzV K616 K601 K602 K603 K20) rfl rfl rfl (by decide +kernel) ⟨(by dsimp only; omega), (by dsimp only; omega)⟩) (w_preV hK hP hkc hN hS (gC_Reader Γ q6) rfl) rfl rfl hl.1 rfl (lv_room (Nat.le_of_ble_eq_true rfl)) dX4_readComparison_41 ⟨Nat.le_refl _, Nat.le_refl _⟩) hS (fun H locs hP hS => ?_)
    refine lv_if_ne (tgt := 49) hx hb dX4_readComparison_44 (by decide) (fun c10 => ?_) (fun c10 => ?_)
    · replace hf := (if_neg c10).symm.trans hf
      refine lv_aload_n hx hb dX4_readComparison_49 rfl (lv_at hl 1 rfl) ?_
      obtain ⟨g11, hf⟩ := w_oi hf
      refine va_get (D := Γ.1) (ci := 4) (v := .ref (Γ.2.2.1 (30 + 3 * ((q8.2 (40) 0).toNatClampNeg)))) (C := RX4) (T := TX4) (N := 7) hx hb hts iX4 hown hK hP (25) (gC_Reader Γ q8.2) rfl 2 (by decide) (hts (.fieldLink RX4 18 "OtherHalfOfNight$Reader" "text" "LOtherHalfOfNight$Text;") (wzm K57)) (fun _ h9 => h9) rfl dX4_readComparison_50 ?_
      refine lv_iload_n hx hb dX4_readComparison_53 rfl (lv_at hl 0 rfl) ?_
      refine lv_ineg hx hb dX4_readComparison_54 ?_
      obtain ⟨q12, h13, hf⟩ := w_ob hf
      refine w_cv (va_runV (As := [.int (-(τ (38) 0))]) (rest := []) ⟨hx, hb, hml, hown, hts⟩ (c_X6_add l Γ hG ((q8.2 (40) 0).toNatClampNeg) (-(τ (38) 0)) q8.2 q12 h13 H.size) (cwV 1 hts (wzV K83 K594 K81 K82 K56) rfl rfl rfl (by decide +kernel) ⟨(by dsimp only; omega), (by dsimp only; omega)⟩) (w_preV hK hP hkc hN hS (gC_Text Γ q8.2 ((q8.2 (40) 0).toNatClampNeg) g11) rfl) rfl rfl hl.1 rfl (lv_room (Nat.le_of_ble_eq_true rfl)) dX4_readComparison_55 ⟨Nat.le_refl _, Nat.le_refl _⟩) hS (fun H locs hP hS => ?_)
      refine lv_iconst (v := (1 : Int32)) hx hb dX4_readComparison_58 (by decide) ?_
      exact w_iret (X := XC Γ) hx hb hr hlocks hK hP hS (by decide) hf dX4_readComparison_59
    · replace hf := (if_pos c10).symm.trans hf
      refine lv_iconst (v := (0 : Int32)) hx hb dX4_readComparison_47 (by decide) ?_
      exact w_iret (X := XC Γ) hx hb hr hlocks hK hP hS (by decide) hf dX4_readComparison_48
  suffices hw : ∀ (H : Heap) (locs : List Loc), va_P Γ.1 vwCl (XC Γ σ) H → va_S (wA (alC Γ) s.heap.size) s.heap H locs → W p l e { frames := d + 1 + 12, cells := 0, slots := 0, locals := 40 * (d + 1) + 400 } s m av.toArray below meth c H locs 0 0 (MQ below (wQi Γ.1 vwCl (tysC Γ) (XC Γ) (alC Γ) r σ' s.heap.size) av.toArray s 0 0 (wA (alC Γ) s.heap.size)) (F0 m 0 ls []) from hw _ [] hP va_S.rf
  clear hP
  intro H locs hP hS
  unfold fb_X4_readComparison at hf
  refine lv_aload_n hx hb dX4_readComparison_0 rfl (lv_at hl 0 rfl) ?_
  refine lv_iload_n hx hb dX4_readComparison_1 rfl (lv_at hl 1 rfl) ?_
  obtain ⟨q1, h2, hf⟩ := w_ob hf
  refine w_ci (va_runV (As := [.int x1]) (rest := []) ⟨hx, hb, hml, hown, hts⟩ (hrec4 x1 σ q1.1 q1.2 h2 H.size) (cwV 1 hts (wzV K616 K601 K602 K603 K20) rfl rfl rfl (by decide +kernel) ⟨(by dsimp only; omega), (by dsimp only; omega)⟩) (w_preV hK hP hkc hN hS (gC_Reader Γ σ) rfl) rfl rfl hl.1 rfl (lv_room (Nat.le_of_ble_eq_true rfl)) dX4_readComparison_2 ⟨Nat.le_refl _, Nat.le_refl _⟩) hS (fun H locs hP hS => ?_)
  refine lv_if_ne (tgt := 10) hx hb dX4_readComparison_5 (by decide) (fun c3 => ?_) (fun c3 => ?_)
  · replace hf := (if_neg c3).symm.trans hf
    refine lv_aload_n hx hb dX4_readComparison_10 rfl (lv_at hl 0 rfl) ?_
    refine va_get (D := Γ.1) (ci := 4) (v := .int (q1.2 (38) 0)) (C := RX4) (T := TX4) (N := 7) hx hb hts iX4 hown hK hP (25) (gC_Reader Γ q1.2) rfl 5 (by decide) (hts (.fieldLink RX4 41 "OtherHalfOfNight$Reader" "token" "I") (wzm K449)) (fun _ h9 => h9) rfl dX4_readComparison_11 ?_
    refine lv_bipush (v := (60 : Int32)) hx hb dX4_readComparison_14 (by decide) ?_
    refine lv_icmp_eq (tgt := 30) hx hb dX4_readComparison_16 (by decide) (fun c4 => ?_) (fun c4 => ?_)
    · replace hf := (if_pos c4).symm.trans hf
      exact j30 q1.2 H locs ls hf hP hS (lv_sub hl [0, 1] rfl)
    · replace hf := (if_neg c4).symm.trans hf
      refine lv_aload_n hx hb dX4_readComparison_19 rfl (lv_at hl 0 rfl) ?_
      refine va_get (D := Γ.1) (ci := 4) (v := .int (q1.2 (38) 0)) (C := RX4) (T := TX4) (N := 7) hx hb hts iX4 hown hK hP (25) (gC_Reader Γ q1.2) rfl 5 (by decide) (hts (.fieldLink RX4 41 "OtherHalfOfNight$Reader" "token" "I") (wzm K449)) (fun _ h9 => h9) rfl dX4_readComparison_20 ?_
      refine lv_bipush (v := (61 : Int32)) hx hb dX4_readComparison_23 (by decide) ?_
      refine lv_icmp_eq (tgt := 30) hx hb dX4_readComparison_25 (by decide) (fun c5 => ?_) (fun c5 => ?_)
      · replace hf := (if_pos c5).symm.trans hf
        exact j30 q1.2 H locs ls hf hP hS (lv_sub hl [0, 1] rfl)
      · replace hf := (if_neg c5).symm.trans hf
        refine lv_iconst (v := (1 : Int32)) hx hb dX4_readComparison_28 (by decide) ?_
        exact w_iret (X := XC Γ) hx hb hr hlocks hK hP hS (by decide) hf dX4_readComparison_29
  · replace hf := (if_pos c3).symm.trans hf
    refine lv_iconst (v := (0 : Int32)) hx hb dX4_readComparison_8 (by decide) ?_
    exact w_iret (X := XC Γ) hx hb hr hlocks hK hP hS (by decide) hf dX4_readComparison_9
def fb_X4_readSum_37 (rec : Nat → Int32 → Sg → Option (Int32 × Sg)) (k12 : Int32 → Sg → Option (Int32 × Sg)) (x1 : Int32) (y2 : Int32) (τ : Sg) : Option (Int32 × Sg) := (f_X4_step τ).bind fun (q7 : Sg) => (rec 5 x1 q7).bind fun (q9 : Int32 × Sg) => if q9.1 = 0 then some ((0 : Int32), q9.2) else if (q9.2 (40) 0).toNatClampNeg < 7 then (f_X6_add ((q9.2 (40) 0).toNatClampNeg) (-(τ (38) 0)) q9.2).bind fun (q13 : Sg) => k12 ((y2 + (1 : Int32))) q13 else none
def fb_X4_readSum_12 (rec : Nat → Int32 → Sg → Option (Int32 × Sg)) (x1 : Int32) : Nat → Int32 → Sg → Option (Int32 × Sg)
  | 0, _, _ => none
  | n + 1, y2, τ => if (160 : Int32) ≤ y2 then some ((1 : Int32), τ) else if (τ (38) 0) = (43 : Int32) then fb_X4_readSum_37 rec (fb_X4_readSum_12 rec x1 n) x1 (y2) τ else if (τ (38) 0) = (45 : Int32) then fb_X4_readSum_37 rec (fb_X4_readSum_12 rec x1 n) x1 (y2) τ else some ((1 : Int32), τ)
def fb_X4_readSum (rec : Nat → Int32 → Sg → Option (Int32 × Sg)) (x1 : Int32) (σ : Sg) : Option (Int32 × Sg) := (rec 5 x1 σ).bind fun (q1 : Int32 × Sg) => if q1.1 = 0 then some ((0 : Int32), q1.2) else fb_X4_readSum_12 rec x1 5000 ((0 : Int32)) q1.2
set_option maxHeartbeats 40000000 in
set_option maxRecDepth 100000 in
theorem cb_X4_readSum (l : Launch) (Γ : Geo) (hG : okC Γ) (rec : Nat → Int32 → Sg → Option (Int32 × Sg)) (d : Nat) (hrec0 : ∀ (x1 : Int32) (σ : Sg) (r : Int32) (σ' : Sg), rec 0 x1 σ = some (r, σ') → ∀ (sz : Nat), Met l yX4_readAny (wz yX4_readAny cX4_readAny 3 (some .boolean)) { frames := d + 12, cells := 0, slots := 0, locals := 40 * (d) + 400 } (va_Pc [.ref (Γ.2.2.1 (25)), .int x1] (wPre Γ.1 vwCl (tysC Γ) (XC Γ) (alC Γ) Γ.2.2.2 σ sz)) (wQi Γ.1 vwCl (tysC Γ) (XC Γ) (alC Γ) r σ' sz) 0 0 (wA (alC Γ) sz)) (hrec1 : ∀ (x1 : Int32) (σ : Sg) (r : Int32) (σ' : Sg), rec 1 x1 σ = some (r, σ') → ∀ (sz : Nat), Met l yX4_readAnd (wz yX4_readAnd cX4_readAnd 3 (some .boolean)) { frames := d + 12, cells := 0, slots := 0, locals := 40 * (d) + 400 } (va_Pc [.ref (Γ.2.2.1 (25)), .int x1] (wPre Γ.1 vwCl (tysC Γ) (XC Γ) (alC Γ) Γ.2.2.2 σ sz)) (wQi Γ.1 vwCl (tysC Γ) (XC Γ) (alC Γ) r σ' sz) 0 0 (wA (alC Γ) sz)) (hrec2 : ∀ (x1 : Int32) (σ : Sg) (r : Int32) (σ' : Sg), rec 2 x1 σ = some (r, σ') → ∀ (sz : Nat), Met l yX4_readNot (wz yX4_readNot cX4_readNot 2 (some .boolean)) { frames := d + 12, cells := 0, slots := 0, locals := 40 * (d) + 400 } (va_Pc [.ref (Γ.2.2.1 (25)), .int x1] (wPre Γ.1 vwCl (tysC Γ) (XC Γ) (alC Γ) Γ.2.2.2 σ sz)) (wQi Γ.1 vwCl (tysC Γ) (XC Γ) (alC Γ) r σ' sz) 0 0 (wA (alC Γ) sz)) (hrec3 : ∀ (x1 : Int32) (σ : Sg) (r : Int32) (σ' : Sg), rec 3 x1 σ = some (r, σ') → ∀ (sz : Nat), Met l yX4_readComparison (wz yX4_readComparison cX4_readComparison 3 (some .boolean)) { frames := d + 12, cells := 0, slots := 0, locals := 40 * (d) + 400 } (va_Pc [.ref (Γ.2.2.1 (25)), .int x1] (wPre Γ.1 vwCl (tysC Γ) (XC Γ) (alC Γ) Γ.2.2.2 σ sz)) (wQi Γ.1 vwCl (tysC Γ) (XC Γ) (alC Γ) r σ' sz) 0 0 (wA (alC Γ) sz)) (hrec4 : ∀ (x1 : Int32) (σ : Sg) (r : Int32) (σ' : Sg), rec 4 x1 σ = some (r, σ') → ∀ (sz : Nat), Met l yX4_readSum (wz yX4_readSum cX4_readSum 4 (some .boolean)) { frames := d + 12, cells := 0, slots := 0, locals := 40 * (d) + 400 } (va_Pc [.ref (Γ.2.2.1 (25)), .int x1] (wPre Γ.1 vwCl (tysC Γ) (XC Γ) (alC Γ) Γ.2.2.2 σ sz)) (wQi Γ.1 vwCl (tysC Γ) (XC Γ) (alC Γ) r σ' sz) 0 0 (wA (alC Γ) sz)) (hrec5 : ∀ (x1 : Int32) (σ : Sg) (r : Int32) (σ' : Sg), rec 5 x1 σ = some (r, σ') → ∀ (sz : Nat), Met l yX4_readTerm (wz yX4_readTerm cX4_readTerm 3 (some .boolean)) { frames := d + 12, cells := 0, slots := 0, locals := 40 * (d) + 400 } (va_Pc [.ref (Γ.2.2.1 (25)), .int x1] (wPre Γ.1 vwCl (tysC Γ) (XC Γ) (alC Γ) Γ.2.2.2 σ sz)) (wQi Γ.1 vwCl (tysC Γ) (XC Γ) (alC Γ) r σ' sz) 0 0 (wA (alC Γ) sz)) (hrec6 : ∀ (x1 : Int32) (σ : Sg) (r : Int32) (σ' : Sg), rec 6 x1 σ = some (r, σ') → ∀ (sz : Nat), Met l yX4_readOne (wz yX4_readOne cX4_readOne 2 (some .boolean)) { frames := d + 12, cells := 0, slots := 0, locals := 40 * (d) + 400 } (va_Pc [.ref (Γ.2.2.1 (25)), .int x1] (wPre Γ.1 vwCl (tysC Γ) (XC Γ) (alC Γ) Γ.2.2.2 σ sz)) (wQi Γ.1 vwCl (tysC Γ) (XC Γ) (alC Γ) r σ' sz) 0 0 (wA (alC Γ) sz)) (hrec7 : ∀ (x1 : Int32) (σ : Sg) (r : Int32) (σ' : Sg), rec 7 x1 σ = some (r, σ') → ∀ (sz : Nat), Met l yX4_readBracket (wz yX4_readBracket cX4_readBracket 2 (some .boolean)) { frames := d + 12, cells := 0, slots := 0, locals := 40 * (d) + 400 } (va_Pc [.ref (Γ.2.2.1 (25)), .int x1] (wPre Γ.1 vwCl (tysC Γ) (XC Γ) (alC Γ) Γ.2.2.2 σ sz)) (wQi Γ.1 vwCl (tysC Γ) (XC Γ) (alC Γ) r σ' sz) 0 0 (wA (alC Γ) sz)) (x1 : Int32) (σ : Sg) (r : Int32) (σ' : Sg) (hf : fb_X4_readSum rec x1 σ = some (r, σ')) (sz : Nat) : Met l yX4_readSum (wz yX4_readSum cX4_readSum 4 (some .boolean)) { frames := d + 1 + 12, cells := 0, slots := 0, locals := 40 * (d + 1) + 400 } (va_Pc [.ref (Γ.2.2.1 (25)), .int x1] (wPre Γ.1 vwCl (tysC Γ) (XC Γ) (alC Γ) Γ.2.2.2 σ sz)) (wQi Γ.1 vwCl (tysC Γ) (XC Γ) (alC Γ) r σ' sz) 0 0 (wA (alC Γ) sz) := by
  refine w_enter (cc := cX4_readSum) (maxL := 4) (ret := (some .boolean)) (by decide) rfl (Nat.le_of_ble_eq_true rfl) ?_
  intro p e s m below meth c ls hx hb hr hlocks hml hown hts hsz hP hK hkc hN hl
  subst hsz
  generalize hav : ([.ref (Γ.2.2.1 (25)), .int x1] : List Value) = av at hl hts ⊢
  have hl : lv_has ls 4 [(0, .ref (Γ.2.2.1 (25))), (1, .int x1)] := by rw [← hav] at hl; exact hl
  have j12 : ∀ (n12 : Nat), ∀ (y2 : Int32) (τ : Sg) (H : Heap) (locs : List Loc) (ls : Array Slot) (hf : fb_X4_readSum_12 rec x1 n12 y2 τ = some (r, σ')) (hP : va_P Γ.1 vwCl (XC Γ τ) H) (hS : va_S (wA (alC Γ) s.heap.size) s.heap H locs) (hl : lv_has ls 4 [(0, .ref (Γ.2.2.1 (25))), (1, .int x1), (2, .int y2)]), W p l e { frames := d + 1 + 12, cells := 0, slots := 0, locals := 40 * (d + 1) + 400 } s m av.toArray below meth c H locs 0 0 (MQ below (wQi Γ.1 vwCl (tysC Γ) (XC Γ) (alC Γ) r σ' s.heap.size) av.toArray s 0 0 (wA (alC Γ) s.heap.size)) (F0 m 12 ls []) := by
    intro n12
    induction n12 with
    | zero =>
      intro y2 τ H locs ls hf
      exact absurd hf (by intro h; cases h)
    | succ n12 ih12 =>
      have j37 : ∀ (y2 : Int32) (τ : Sg) (H : Heap) (locs : List Loc) (ls : Array Slot) (hf : fb_X4_readSum_37 rec (fb_X4_readSum_12 rec x1 n12) x1 y2 τ = some (r, σ')) (hP : va_P Γ.1 vwCl (XC Γ τ) H) (hS : va_S (wA (alC Γ) s.heap.size) s.heap H locs) (hl : lv_has ls 4 [(0, .ref (Γ.2.2.1 (25))), (1, .int x1), (2, .int y2)]), W p l e { frames := d + 1 + 12, cells := 0, slots := 0, locals := 40 * (d + 1) + 400 } s m av.toArray below meth c H locs 0 0 (MQ below (wQi Γ.1 vwCl (tysC Γ) (XC Γ) (alC Γ) r σ' s.heap.size) av.toArray s 0 0 (wA (alC Γ) s.heap.size)) (F0 m 37 ls []) := by
        intro y2 τ H locs ls hf hP hS hl
        unfold fb_X4_readSum_37 at hf
        refine lv_aload_n hx hb dX4_readSum_37 rfl (lv_at hl 0 rfl) ?_
        refine va_get (D := Γ.1) (ci := 4) (v := .int (τ (38) 0)) (C := RX4) (T := TX4) (N := 7) hx hb hts iX4 hown hK hP (25) (gC_Reader Γ τ) rfl 5 (by decide) (hts (.fieldLink RX4 41 "OtherHalfOfNight$Reader" "token" "I") (wzm K449)) (fun _ h9 => h9) rfl dX4_readSum_38 ?_
        refine lv_istore_n (lv' := [(3, .int (τ (38) 0)), (0, .ref (Γ.2.2.1 (25))), (1, .int x1), (2, .int y2)]) hx hb dX4_readSum_41 rfl hl (by decide) rfl (fun ls hl => ?_)
        refine lv_aload_n hx hb dX4_readSum_42 rfl (lv_at hl 1 rfl) ?_
        obtain ⟨q7, h8, hf⟩ := w_ob hf
        refine w_cv (va_runV (As := []) (rest := []) ⟨hx, hb, hml, hown, hts⟩ (c_X4_step l Γ hG τ q7 h8 H.size) (cwV 0 hts (wzV K455 K452 K453 K454 K20) rfl rfl rfl (by decide +kernel) ⟨(by dsimp only; omega), (by dsimp only; omega)⟩) (w_preV hK hP hkc hN hS (gC_Reader Γ τ) rfl) rfl rfl hl.1 rfl (lv_room (Nat.le_of_ble_eq_true rfl)) dX4_readSum_43 ⟨Nat.le_refl _, Nat.le_refl _⟩) hS (fun H locs hP hS => ?_)
        refine lv_aload_n hx hb dX4_readSum_46 rfl (lv_at hl 1 rfl) ?_
        refine lv_iload_n hx hb dX4_readSum_47 rfl (lv_at hl 2 rfl) ?_
        obtain ⟨q9, h10, hf⟩ := w_ob hf
        refine w_ci (va_runV (As := [.int x1]) (rest := []) ⟨hx, hb, hml, hown, hts⟩ (hrec5 x1 q7 q9.1 q9.2 h10 H.size) (cwV 1 hts (wzV K620 K617 K618 K619 K20) rfl rfl rfl (by decide +kernel) ⟨(by dsimp only; omega), (by dsimp only; omega)⟩) (w_preV hK hP hkc hN hS (gC_Reader Γ q7) rfl) rfl rfl hl.1 rfl (lv_room (Nat.le_of_ble_eq_true rfl)) dX4_readSum_48 ⟨Nat.le_refl _, Nat.le_refl _⟩) hS (fun H locs hP hS => ?_)
        refine lv_if_ne (tgt := 56) hx hb dX4_readSum_51 (by decide) (fun c11 => ?_) (fun c11 => ?_)
        · replace hf := (if_neg c11).symm.trans hf
          refine lv_aload_n hx hb dX4_readSum_56 rfl (lv_at hl 1 rfl) ?_
          obtain ⟨g12, hf⟩ := w_oi hf
          refine va_get (D := Γ.1) (ci := 4) (v := .ref (Γ.2.2.1 (30 + 3 * ((q9.2 (40) 0).toNatClampNeg)))) (C := RX4) (T := TX4) (N := 7) hx hb hts iX4 hown hK hP (25) (gC_Reader Γ q9.2) rfl 2 (by decide) (hts (.fieldLink RX4 18 "OtherHalfOfNight$Reader" "text" "LOtherHalfOfNight$Text;") (wzm K57)) (fun _ h9 => h9) rfl dX4_readSum_57 ?_
          refine lv_iload_n hx hb dX4_readSum_60 rfl (lv_at hl 0 rfl) ?_
          refine lv_ineg hx hb dX4_readSum_61 ?_
          obtain ⟨q13, h14, hf⟩ := w_ob hf
          refine w_cv (va_runV (As := [.int (-(τ (38) 0))]) (rest := []) ⟨hx, hb, hml, hown, hts⟩ (c_X6_add l Γ hG ((q9.2 (40) 0).toNatClampNeg) (-(τ (38) 0)) q9.2 q13 h14 H.size) (cwV 1 hts (wzV K83 K594 K81 K82 K56) rfl rfl rfl (by decide +kernel) ⟨(by dsimp only; omega), (by dsimp only; omega)⟩) (w_preV hK hP hkc hN hS (gC_Text Γ q9.2 ((q9.2 (40) 0).toNatClampNeg) g12) rfl) rfl rfl hl.1 rfl (lv_room (Nat.le_of_ble_eq_true rfl)) dX4_readSum_62 ⟨Nat.le_refl _, Nat.le_refl _⟩) hS (fun H locs hP hS => ?_)
          refine lv_iinc (v := (y2 + (1 : Int32))) (lv' := [(2, .int (y2 + (1 : Int32))), (3, .int (τ (38) 0)), (0, .ref (Γ.2.2.1 (25))), (1, .int x1)]) hx hb dX4_readSum_65 hl (k := 3) rfl rfl (by decide) rfl (fun ls hl => ?_)
          refine lv_goto (tgt := 12) hx hb dX4_readSum_68 (by decide) ?_
          exact ih12 ((y2 + (1 : Int32))) q13 H locs ls hf hP hS (lv_sub hl [2, 3, 0] rfl)
        · replace hf := (if_pos c11).symm.trans hf
          refine lv_iconst (v := (0 : Int32)) hx hb dX4_readSum_54 (by decide) ?_
          exact w_iret (X := XC Γ) hx hb hr hlocks hK hP hS (by decide) hf dX4_readSum_55
      intro y2 τ H locs ls hf hP hS hl
      unfold fb_X4_readSum_12 at hf
      refine lv_iload_n hx hb dX4_readSum_12 rfl (lv_at hl 2 rfl) ?_
      refine lv_sipush (v := (160 : Int32)) hx hb dX4_readSum_13 (by decide) ?_
      refine lv_icmp_ge (tgt := 71) hx hb dX4_readSum_16 (by decide) (fun c4 => ?_) (fun c4 => ?_)
      · replace hf := (if_pos c4).symm.trans hf
        refine lv_iconst (v := (1 : Int32)) hx hb dX4_readSum_71 (by decide) ?_
        exact w_iret (X := XC Γ) hx hb hr hlocks hK hP hS (by decide) hf dX4_readSum_72
      · replace hf := (if_neg c4).symm.trans hf
        refine lv_aload_n hx hb dX4_readSum_19 rfl (lv_at hl 0 rfl) ?_
        refine va_get (D := Γ.1) (ci := 4) (v := .int (τ (38) 0)) (C := RX4) (T := TX4) (N := 7) hx hb hts iX4 hown hK hP (25) (gC_Reader Γ τ) rfl 5 (by decide) (hts (.fieldLink RX4 41 "OtherHalfOfNight$Reader" "token" "I") (wzm K449)) (fun _ h9 => h9) rfl dX4_readSum_20 ?_
        refine lv_bipush (v := (43 : Int32)) hx hb dX4_readSum_23 (by decide) ?_
        refine lv_icmp_eq (tgt := 37) hx hb dX4_readSum_25 (by decide) (fun c5 => ?_) (fun c5 => ?_)
        · replace hf := (if_pos c5).symm.trans hf
          exact j37 (y2) τ H locs ls hf hP hS (lv_sub hl [0, 1, 2] rfl)
        · replace hf := (if_neg c5).symm.trans hf
          refine lv_aload_n hx hb dX4_readSum_28 rfl (lv_at hl 0 rfl) ?_
          refine va_get (D := Γ.1) (ci := 4) (v := .int (τ (38) 0)) (C := RX4) (T := TX4) (N := 7) hx hb hts iX4 hown hK hP (25) (gC_Reader Γ τ) rfl 5 (by decide) (hts (.fieldLink RX4 41 "OtherHalfOfNight$Reader" "token" "I") (wzm K449)) (fun _ h9 => h9) rfl dX4_readSum_29 ?_
          refine lv_bipush (v := (45 : Int32)) hx hb dX4_readSum_32 (by decide) ?_
          refine lv_icmp_ne (tgt := 71) hx hb dX4_readSum_34 (by decide) (fun c6 => ?_) (fun c6 => ?_)
          · replace hf := (if_neg c6).symm.trans hf
            refine lv_iconst (v := (1 : Int32)) hx hb dX4_readSum_71 (by decide) ?_
            exact w_iret (X := XC Γ) hx hb hr hlocks hK hP hS (by decide) hf dX4_readSum_72
          · replace hf := (if_pos c6).symm.trans hf
            exact j37 (y2) τ H locs ls hf hP hS (lv_sub hl [0, 1, 2] rfl)
  suffices hw : ∀ (H : Heap) (locs : List Loc), va_P Γ.1 vwCl (XC Γ σ) H → va_S (wA (alC Γ) s.heap.size) s.heap H locs → W p l e { frames := d + 1 + 12, cells := 0, slots := 0, locals := 40 * (d + 1) + 400 } s m av.toArray below meth c H locs 0 0 (MQ below (wQi Γ.1 vwCl (tysC Γ) (XC Γ) (alC Γ) r σ' s.heap.size) av.toArray s 0 0 (wA (alC Γ) s.heap.size)) (F0 m 0 ls []) from hw _ [] hP va_S.rf
  clear hP
  intro H locs hP hS
  unfold fb_X4_readSum at hf
  refine lv_aload_n hx hb dX4_readSum_0 rfl (lv_at hl 0 rfl) ?_
  refine lv_iload_n hx hb dX4_readSum_1 rfl (lv_at hl 1 rfl) ?_
  obtain ⟨q1, h2, hf⟩ := w_ob hf
  refine w_ci (va_runV (As := [.int x1]) (rest := []) ⟨hx, hb, hml, hown, hts⟩ (hrec5 x1 σ q1.1 q1.2 h2 H.size) (cwV 1 hts (wzV K620 K617 K618 K619 K20) rfl rfl rfl (by decide +kernel) ⟨(by dsimp only; omega), (by dsimp only; omega)⟩) (w_preV hK hP hkc hN hS (gC_Reader Γ σ) rfl) rfl rfl hl.1 rfl (lv_room (Nat.le_of_ble_eq_true rfl)) dX4_readSum_2 ⟨Nat.le_refl _, Nat.le_refl _⟩) hS (fun H locs hP hS => ?_)
  refine lv_if_ne (tgt := 10) hx hb dX4_readSum_5 (by decide) (fun c3 => ?_) (fun c3 => ?_)
  · replace hf := (if_neg c3).symm.trans hf
    refine lv_iconst (v := (0 : Int32)) hx hb dX4_readSum_10 (by decide) ?_
    refine lv_istore_n (lv' := [(2, .int (0 : Int32)), (0, .ref (Γ.2.2.1 (25))), (1, .int x1)]) hx hb dX4_readSum_11 rfl hl (by decide) rfl (fun ls hl => ?_)
    exact j12 5000 ((0 : Int32)) q1.2 H locs ls hf hP hS (lv_sub hl [1, 2, 0] rfl)
  · replace hf := (if_pos c3).symm.trans hf
    refine lv_iconst (v := (0 : Int32)) hx hb dX4_readSum_8 (by decide) ?_
    exact w_iret (X := XC Γ) hx hb hr hlocks hK hP hS (by decide) hf dX4_readSum_9
def fb_X4_readTerm_12 (rec : Nat → Int32 → Sg → Option (Int32 × Sg)) (x1 : Int32) : Nat → Int32 → Sg → Option (Int32 × Sg)
  | 0, _, _ => none
  | n + 1, y2, τ => if (160 : Int32) ≤ y2 then some ((1 : Int32), τ) else if (τ (38) 0) = (42 : Int32) then (f_X4_step τ).bind fun (q6 : Sg) => (rec 6 x1 q6).bind fun (q8 : Int32 × Sg) => if q8.1 = 0 then some ((0 : Int32), q8.2) else if (q8.2 (40) 0).toNatClampNeg < 7 then (f_X6_add ((q8.2 (40) 0).toNatClampNeg) (-42 : Int32) q8.2).bind fun (q12 : Sg) => (fb_X4_readTerm_12 rec x1 n) ((y2 + (1 : Int32))) q12 else none else some ((1 : Int32), τ)
def fb_X4_readTerm (rec : Nat → Int32 → Sg → Option (Int32 × Sg)) (x1 : Int32) (σ : Sg) : Option (Int32 × Sg) := (rec 6 x1 σ).bind fun (q1 : Int32 × Sg) => if q1.1 = 0 then some ((0 : Int32), q1.2) else fb_X4_readTerm_12 rec x1 5000 ((0 : Int32)) q1.2
set_option maxHeartbeats 40000000 in
set_option maxRecDepth 100000 in
theorem cb_X4_readTerm (l : Launch) (Γ : Geo) (hG : okC Γ) (rec : Nat → Int32 → Sg → Option (Int32 × Sg)) (d : Nat) (hrec0 : ∀ (x1 : Int32) (σ : Sg) (r : Int32) (σ' : Sg), rec 0 x1 σ = some (r, σ') → ∀ (sz : Nat), Met l yX4_readAny (wz yX4_readAny cX4_readAny 3 (some .boolean)) { frames := d + 12, cells := 0, slots := 0, locals := 40 * (d) + 400 } (va_Pc [.ref (Γ.2.2.1 (25)), .int x1] (wPre Γ.1 vwCl (tysC Γ) (XC Γ) (alC Γ) Γ.2.2.2 σ sz)) (wQi Γ.1 vwCl (tysC Γ) (XC Γ) (alC Γ) r σ' sz) 0 0 (wA (alC Γ) sz)) (hrec1 : ∀ (x1 : Int32) (σ : Sg) (r : Int32) (σ' : Sg), rec 1 x1 σ = some (r, σ') → ∀ (sz : Nat), Met l yX4_readAnd (wz yX4_readAnd cX4_readAnd 3 (some .boolean)) { frames := d + 12, cells := 0, slots := 0, locals := 40 * (d) + 400 } (va_Pc [.ref (Γ.2.2.1 (25)), .int x1] (wPre Γ.1 vwCl (tysC Γ) (XC Γ) (alC Γ) Γ.2.2.2 σ sz)) (wQi Γ.1 vwCl (tysC Γ) (XC Γ) (alC Γ) r σ' sz) 0 0 (wA (alC Γ) sz)) (hrec2 : ∀ (x1 : Int32) (σ : Sg) (r : Int32) (σ' : Sg), rec 2 x1 σ = some (r, σ') → ∀ (sz : Nat), Met l yX4_readNot (wz yX4_readNot cX4_readNot 2 (some .boolean)) { frames := d + 12, cells := 0, slots := 0, locals := 40 * (d) + 400 } (va_Pc [.ref (Γ.2.2.1 (25)), .int x1] (wPre Γ.1 vwCl (tysC Γ) (XC Γ) (alC Γ) Γ.2.2.2 σ sz)) (wQi Γ.1 vwCl (tysC Γ) (XC Γ) (alC Γ) r σ' sz) 0 0 (wA (alC Γ) sz)) (hrec3 : ∀ (x1 : Int32) (σ : Sg) (r : Int32) (σ' : Sg), rec 3 x1 σ = some (r, σ') → ∀ (sz : Nat), Met l yX4_readComparison (wz yX4_readComparison cX4_readComparison 3 (some .boolean)) { frames := d + 12, cells := 0, slots := 0, locals := 40 * (d) + 400 } (va_Pc [.ref (Γ.2.2.1 (25)), .int x1] (wPre Γ.1 vwCl (tysC Γ) (XC Γ) (alC Γ) Γ.2.2.2 σ sz)) (wQi Γ.1 vwCl (tysC Γ) (XC Γ) (alC Γ) r σ' sz) 0 0 (wA (alC Γ) sz)) (hrec4 : ∀ (x1 : Int32) (σ : Sg) (r : Int32) (σ' : Sg), rec 4 x1 σ = some (r, σ') → ∀ (sz : Nat), Met l yX4_readSum (wz yX4_readSum cX4_readSum 4 (some .boolean)) { frames := d + 12, cells := 0, slots := 0, locals := 40 * (d) + 400 } (va_Pc [.ref (Γ.2.2.1 (25)), .int x1] (wPre Γ.1 vwCl (tysC Γ) (XC Γ) (alC Γ) Γ.2.2.2 σ sz)) (wQi Γ.1 vwCl (tysC Γ) (XC Γ) (alC Γ) r σ' sz) 0 0 (wA (alC Γ) sz)) (hrec5 : ∀ (x1 : Int32) (σ : Sg) (r : Int32) (σ' : Sg), rec 5 x1 σ = some (r, σ') → ∀ (sz : Nat), Met l yX4_readTerm (wz yX4_readTerm cX4_readTerm 3 (some .boolean)) { frames := d + 12, cells := 0, slots := 0, locals := 40 * (d) + 400 } (va_Pc [.ref (Γ.2.2.1 (25)), .int x1] (wPre Γ.1 vwCl (tysC Γ) (XC Γ) (alC Γ) Γ.2.2.2 σ sz)) (wQi Γ.1 vwCl (tysC Γ) (XC Γ) (alC Γ) r σ' sz) 0 0 (wA (alC Γ) sz)) (hrec6 : ∀ (x1 : Int32) (σ : Sg) (r : Int32) (σ' : Sg), rec 6 x1 σ = some (r, σ') → ∀ (sz : Nat), Met l yX4_readOne (wz yX4_readOne cX4_readOne 2 (some .boolean)) { frames := d + 12, cells := 0, slots := 0, locals := 40 * (d) + 400 } (va_Pc [.ref (Γ.2.2.1 (25)), .int x1] (wPre Γ.1 vwCl (tysC Γ) (XC Γ) (alC Γ) Γ.2.2.2 σ sz)) (wQi Γ.1 vwCl (tysC Γ) (XC Γ) (alC Γ) r σ' sz) 0 0 (wA (alC Γ) sz)) (hrec7 : ∀ (x1 : Int32) (σ : Sg) (r : Int32) (σ' : Sg), rec 7 x1 σ = some (r, σ') → ∀ (sz : Nat), Met l yX4_readBracket (wz yX4_readBracket cX4_readBracket 2 (some .boolean)) { frames := d + 12, cells := 0, slots := 0, locals := 40 * (d) + 400 } (va_Pc [.ref (Γ.2.2.1 (25)), .int x1] (wPre Γ.1 vwCl (tysC Γ) (XC Γ) (alC Γ) Γ.2.2.2 σ sz)) (wQi Γ.1 vwCl (tysC Γ) (XC Γ) (alC Γ) r σ' sz) 0 0 (wA (alC Γ) sz)) (x1 : Int32) (σ : Sg) (r : Int32) (σ' : Sg) (hf : fb_X4_readTerm rec x1 σ = some (r, σ')) (sz : Nat) : Met l yX4_readTerm (wz yX4_readTerm cX4_readTerm 3 (some .boolean)) { frames := d + 1 + 12, cells := 0, slots := 0, locals := 40 * (d + 1) + 400 } (va_Pc [.ref (Γ.2.2.1 (25)), .int x1] (wPre Γ.1 vwCl (tysC Γ) (XC Γ) (alC Γ) Γ.2.2.2 σ sz)) (wQi Γ.1 vwCl (tysC Γ) (XC Γ) (alC Γ) r σ' sz) 0 0 (wA (alC Γ) sz) := by
  refine w_enter (cc := cX4_readTerm) (maxL := 3) (ret := (some .boolean)) (by decide) rfl (Nat.le_of_ble_eq_true rfl) ?_
  intro p e s m below meth c ls hx hb hr hlocks hml hown hts hsz hP hK hkc hN hl
  subst hsz
  generalize hav : ([.ref (Γ.2.2.1 (25)), .int x1] : List Value) = av at hl hts ⊢
  have hl : lv_has ls 3 [(0, .ref (Γ.2.2.1 (25))), (1, .int x1)] := by rw [← hav] at hl; exact hl
  have j12 : ∀ (n12 : Nat), ∀ (y2 : Int32) (τ : Sg) (H : Heap) (locs : List Loc) (ls : Array Slot) (hf : fb_X4_readTerm_12 rec x1 n12 y2 τ = some (r, σ')) (hP : va_P Γ.1 vwCl (XC Γ τ) H) (hS : va_S (wA (alC Γ) s.heap.size) s.heap H locs) (hl : lv_has ls 3 [(0, .ref (Γ.2.2.1 (25))), (1, .int x1), (2, .int y2)]), W p l e { frames := d + 1 + 12, cells := 0, slots := 0, locals := 40 * (d + 1) + 400 } s m av.toArray below meth c H locs 0 0 (MQ below (wQi Γ.1 vwCl (tysC Γ) (XC Γ) (alC Γ) r σ' s.heap.size) av.toArray s 0 0 (wA (alC Γ) s.heap.size)) (F0 m 12 ls []) := by
    intro n12
    induction n12 with
    | zero =>
      intro y2 τ H locs ls hf
      exact absurd hf (by intro h; cases h)
    | succ n12 ih12 =>
      intro y2 τ H locs ls hf hP hS hl
      unfold fb_X4_readTerm_12 at hf
      refine lv_iload_n hx hb dX4_readTerm_12 rfl (lv_at hl 2 rfl) ?_
      refine lv_sipush (v := (160 : Int32)) hx hb dX4_readTerm_13 (by decide) ?_
      refine lv_icmp_ge (tgt := 57) hx hb dX4_readTerm_16 (by decide) (fun c4 => ?_) (fun c4 => ?_)
      · replace hf := (if_pos c4).symm.trans hf
        refine lv_iconst (v := (1 : Int32)) hx hb dX4_readTerm_57 (by decide) ?_
        exact w_iret (X := XC Γ) hx hb hr hlocks hK hP hS (by decide) hf dX4_readTerm_58
      · replace hf := (if_neg c4).symm.trans hf
        refine lv_aload_n hx hb dX4_readTerm_19 rfl (lv_at hl 0 rfl) ?_
        refine va_get (D := Γ.1) (ci := 4) (v := .int (τ (38) 0)) (C := RX4) (T := TX4) (N := 7) hx hb hts iX4 hown hK hP (25) (gC_Reader Γ τ) rfl 5 (by decide) (hts (.fieldLink RX4 41 "OtherHalfOfNight$Reader" "token" "I") (wzm K449)) (fun _ h9 => h9) rfl dX4_readTerm_20 ?_
        refine lv_bipush (v := (42 : Int32)) hx hb dX4_readTerm_23 (by decide) ?_
        refine lv_icmp_ne (tgt := 57) hx hb dX4_readTerm_25 (by decide) (fun c5 => ?_) (fun c5 => ?_)
        · replace hf := (if_neg c5).symm.trans hf
          refine lv_iconst (v := (1 : Int32)) hx hb dX4_readTerm_57 (by decide) ?_
          exact w_iret (X := XC Γ) hx hb hr hlocks hK hP hS (by decide) hf dX4_readTerm_58
        · replace hf := (if_pos c5).symm.trans hf
          refine lv_aload_n hx hb dX4_readTerm_28 rfl (lv_at hl 0 rfl) ?_
          obtain ⟨q6, h7, hf⟩ := w_ob hf
          refine w_cv (va_runV (As := []) (rest := []) ⟨hx, hb, hml, hown, hts⟩ (c_X4_step l Γ hG τ q6 h7 H.size) (cwV 0 hts (wzV K455 K452 K453 K454 K20) rfl rfl rfl (by decide +kernel) ⟨(by dsimp only; omega), (by dsimp only; omega)⟩) (w_preV hK hP hkc hN hS (gC_Reader Γ τ) rfl) rfl rfl hl.1 rfl (lv_room (Nat.le_of_ble_eq_true rfl)) dX4_readTerm_29 ⟨Nat.le_refl _, Nat.le_refl _⟩) hS (fun H locs hP hS => ?_)
          refine lv_aload_n hx hb dX4_readTerm_32 rfl (lv_at hl 0 rfl) ?_
          refine lv_iload_n hx hb dX4_readTerm_33 rfl (lv_at hl 1 rfl) ?_
          obtain ⟨q8, h9, hf⟩ := w_ob hf
          refine w_ci (va_runV (As := [.int x1]) (rest := []) ⟨hx, hb, hml, hown, hts⟩ (hrec6 x1 q6 q8.1 q8.2 h9 H.size) (cwV 1 hts (wzV K608 K610 K611 K612 K20) rfl rfl rfl (by decide +kernel) ⟨(by dsimp only; omega), (by dsimp only; omega)⟩) (w_preV hK hP hkc hN hS (gC_Reader Γ q6) rfl) rfl rfl hl.1 rfl (lv_room (Nat.le_of_ble_eq_true rfl)) dX4_readTerm_34 ⟨Nat.le_refl _, Nat.le_refl _⟩) hS (fun H locs hP hS => ?_)
          refine lv_if_ne (tgt := 42) hx hb dX4_readTerm_37 (by decide) (fun c10 => ?_) (fun c10 => ?_)
          · replace hf := (if_neg c10).symm.trans hf
            refine lv_aload_n hx hb dX4_readTerm_42 rfl (lv_at hl 0 rfl) ?_
            obtain ⟨g11, hf⟩ := w_oi hf
            refine va_get (D := Γ.1) (ci := 4) (v := .ref (Γ.2.2.1 (30 + 3 * ((q8.2 (40) 0).toNatClampNeg)))) (C := RX4) (T := TX4) (N := 7) hx hb hts iX4 hown hK hP (25) (gC_Reader Γ q8.2) rfl 2 (by decide) (hts (.fieldLink RX4 18 "OtherHalfOfNight$Reader" "text" "LOtherHalfOfNight$Text;") (wzm K57)) (fun _ h9 => h9) rfl dX4_readTerm_43 ?_
            refine lv_bipush (v := (-42 : Int32)) hx hb dX4_readTerm_46 (by decide) ?_
            obtain ⟨q12, h13, hf⟩ := w_ob hf
            refine w_cv (va_runV (As := [.int (-42 : Int32)]) (rest := []) ⟨hx, hb, hml, hown, hts⟩ (c_X6_add l Γ hG ((q8.2 (40) 0).toNatClampNeg) (-42 : Int32) q8.2 q12 h13 H.size) (cwV 1 hts (wzV K83 K594 K81 K82 K56) rfl rfl rfl (by decide +kernel) ⟨(by dsimp only; omega), (by dsimp only; omega)⟩) (w_preV hK hP hkc hN hS (gC_Text Γ q8.2 ((q8.2 (40) 0).toNatClampNeg) g11) rfl) rfl rfl hl.1 rfl (lv_room (Nat.le_of_ble_eq_true rfl)) dX4_readTerm_48 ⟨Nat.le_refl _, Nat.le_refl _⟩) hS (fun H locs hP hS => ?_)
            refine lv_iinc (v := (y2 + (1 : Int32))) (lv' := [(2, .int (y2 + (1 : Int32))), (0, .ref (Γ.2.2.1 (25))), (1, .int x1)]) hx hb dX4_readTerm_51 hl (k := 2) rfl rfl (by decide) rfl (fun ls hl => ?_)
            refine lv_goto (tgt := 12) hx hb dX4_readTerm_54 (by decide) ?_
            exact ih12 ((y2 + (1 : Int32))) q12 H locs ls hf hP hS (lv_sub hl [1, 2, 0] rfl)
          · replace hf := (if_pos c10).symm.trans hf
            refine lv_iconst (v := (0 : Int32)) hx hb dX4_readTerm_40 (by decide) ?_
            exact w_iret (X := XC Γ) hx hb hr hlocks hK hP hS (by decide) hf dX4_readTerm_41
  suffices hw : ∀ (H : Heap) (locs : List Loc), va_P Γ.1 vwCl (XC Γ σ) H → va_S (wA (alC Γ) s.heap.size) s.heap H locs → W p l e { frames := d + 1 + 12, cells := 0, slots := 0, locals := 40 * (d + 1) + 400 } s m av.toArray below meth c H locs 0 0 (MQ below (wQi Γ.1 vwCl (tysC Γ) (XC Γ) (alC Γ) r σ' s.heap.size) av.toArray s 0 0 (wA (alC Γ) s.heap.size)) (F0 m 0 ls []) from hw _ [] hP va_S.rf
  clear hP
  intro H locs hP hS
  unfold fb_X4_readTerm at hf
  refine lv_aload_n hx hb dX4_readTerm_0 rfl (lv_at hl 0 rfl) ?_
  refine lv_iload_n hx hb dX4_readTerm_1 rfl (lv_at hl 1 rfl) ?_
  obtain ⟨q1, h2, hf⟩ := w_ob hf
  refine w_ci (va_runV (As := [.int x1]) (rest := []) ⟨hx, hb, hml, hown, hts⟩ (hrec6 x1 σ q1.1 q1.2 h2 H.size) (cwV 1 hts (wzV K608 K610 K611 K612 K20) rfl rfl rfl (by decide +kernel) ⟨(by dsimp only; omega), (by dsimp only; omega)⟩) (w_preV hK hP hkc hN hS (gC_Reader Γ σ) rfl) rfl rfl hl.1 rfl (lv_room (Nat.le_of_ble_eq_true rfl)) dX4_readTerm_2 ⟨Nat.le_refl _, Nat.le_refl _⟩) hS (fun H locs hP hS => ?_)
  refine lv_if_ne (tgt := 10) hx hb dX4_readTerm_5 (by decide) (fun c3 => ?_) (fun c3 => ?_)
  · replace hf := (if_neg c3).symm.trans hf
    refine lv_iconst (v := (0 : Int32)) hx hb dX4_readTerm_10 (by decide) ?_
    refine lv_istore_n (lv' := [(2, .int (0 : Int32)), (0, .ref (Γ.2.2.1 (25))), (1, .int x1)]) hx hb dX4_readTerm_11 rfl hl (by decide) rfl (fun ls hl => ?_)
    exact j12 5000 ((0 : Int32)) q1.2 H locs ls hf hP hS (lv_sub hl [1, 2, 0] rfl)
  · replace hf := (if_pos c3).symm.trans hf
    refine lv_iconst (v := (0 : Int32)) hx hb dX4_readTerm_8 (by decide) ?_
    exact w_iret (X := XC Γ) hx hb hr hlocks hK hP hS (by decide) hf dX4_readTerm_9
def fb_X4_readOne_20 (rec : Nat → Int32 → Sg → Option (Int32 × Sg)) (x1 : Int32) (τ : Sg) : Option (Int32 × Sg) := if (τ (40) 0).toNatClampNeg < 7 then if (τ (38) 0) = (268 : Int32) then (f_X6_add ((τ (40) 0).toNatClampNeg) (τ (39) 0) τ).bind fun (q25 : Sg) => (f_X4_step q25).bind fun (q27 : Sg) => some ((1 : Int32), q27) else (f_X6_add ((τ (40) 0).toNatClampNeg) (-(τ (38) 0)) τ).bind fun (q21 : Sg) => (f_X4_step q21).bind fun (q23 : Sg) => some ((1 : Int32), q23) else none
def fb_X4_readOne (rec : Nat → Int32 → Sg → Option (Int32 × Sg)) (x1 : Int32) (σ : Sg) : Option (Int32 × Sg) := if (σ (38) 0) = (268 : Int32) then fb_X4_readOne_20 rec x1 σ else (f_X7_isName (σ (38) 0) σ).bind fun (q2 : Int32 × Sg) => if q2.1 = 0 then if x1 < (5 : Int32) then if (q2.2 (38) 0) = (45 : Int32) then (f_X4_step q2.2).bind fun (q11 : Sg) => (rec 6 (x1 + (1 : Int32)) q11).bind fun (q13 : Int32 × Sg) => if q13.1 = 0 then some ((0 : Int32), q13.2) else if (q13.2 (40) 0).toNatClampNeg < 7 then (f_X6_add ((q13.2 (40) 0).toNatClampNeg) (-271 : Int32) q13.2).bind fun (q17 : Sg) => some ((1 : Int32), q17) else none else if (q2.2 (38) 0) = (40 : Int32) then (rec 7 (x1 + (1 : Int32)) q2.2).bind fun (q8 : Int32 × Sg) => if q8.1 = 0 then some ((0 : Int32), q8.2) else some ((1 : Int32), q8.2) else some ((0 : Int32), q2.2) else some ((0 : Int32), q2.2) else fb_X4_readOne_20 rec x1 q2.2
set_option maxHeartbeats 40000000 in
set_option maxRecDepth 100000 in
theorem cb_X4_readOne (l : Launch) (Γ : Geo) (hG : okC Γ) (rec : Nat → Int32 → Sg → Option (Int32 × Sg)) (d : Nat) (hrec0 : ∀ (x1 : Int32) (σ : Sg) (r : Int32) (σ' : Sg), rec 0 x1 σ = some (r, σ') → ∀ (sz : Nat), Met l yX4_readAny (wz yX4_readAny cX4_readAny 3 (some .boolean)) { frames := d + 12, cells := 0, slots := 0, locals := 40 * (d) + 400 } (va_Pc [.ref (Γ.2.2.1 (25)), .int x1] (wPre Γ.1 vwCl (tysC Γ) (XC Γ) (alC Γ) Γ.2.2.2 σ sz)) (wQi Γ.1 vwCl (tysC Γ) (XC Γ) (alC Γ) r σ' sz) 0 0 (wA (alC Γ) sz)) (hrec1 : ∀ (x1 : Int32) (σ : Sg) (r : Int32) (σ' : Sg), rec 1 x1 σ = some (r, σ') → ∀ (sz : Nat), Met l yX4_readAnd (wz yX4_readAnd cX4_readAnd 3 (some .boolean)) { frames := d + 12, cells := 0, slots := 0, locals := 40 * (d) + 400 } (va_Pc [.ref (Γ.2.2.1 (25)), .int x1] (wPre Γ.1 vwCl (tysC Γ) (XC Γ) (alC Γ) Γ.2.2.2 σ sz)) (wQi Γ.1 vwCl (tysC Γ) (XC Γ) (alC Γ) r σ' sz) 0 0 (wA (alC Γ) sz)) (hrec2 : ∀ (x1 : Int32) (σ : Sg) (r : Int32) (σ' : Sg), rec 2 x1 σ = some (r, σ') → ∀ (sz : Nat), Met l yX4_readNot (wz yX4_readNot cX4_readNot 2 (some .boolean)) { frames := d + 12, cells := 0, slots := 0, locals := 40 * (d) + 400 } (va_Pc [.ref (Γ.2.2.1 (25)), .int x1] (wPre Γ.1 vwCl (tysC Γ) (XC Γ) (alC Γ) Γ.2.2.2 σ sz)) (wQi Γ.1 vwCl (tysC Γ) (XC Γ) (alC Γ) r σ' sz) 0 0 (wA (alC Γ) sz)) (hrec3 : ∀ (x1 : Int32) (σ : Sg) (r : Int32) (σ' : Sg), rec 3 x1 σ = some (r, σ') → ∀ (sz : Nat), Met l yX4_readComparison (wz yX4_readComparison cX4_readComparison 3 (some .boolean)) { frames := d + 12, cells := 0, slots := 0, locals := 40 * (d) + 400 } (va_Pc [.ref (Γ.2.2.1 (25)), .int x1] (wPre Γ.1 vwCl (tysC Γ) (XC Γ) (alC Γ) Γ.2.2.2 σ sz)) (wQi Γ.1 vwCl (tysC Γ) (XC Γ) (alC Γ) r σ' sz) 0 0 (wA (alC Γ) sz)) (hrec4 : ∀ (x1 : Int32) (σ : Sg) (r : Int32) (σ' : Sg), rec 4 x1 σ = some (r, σ') → ∀ (sz : Nat), Met l yX4_readSum (wz yX4_readSum cX4_readSum 4 (some .boolean)) { frames := d + 12, cells := 0, slots := 0, locals := 40 * (d) + 400 } (va_Pc [.ref (Γ.2.2.1 (25)), .int x1] (wPre Γ.1 vwCl (tysC Γ) (XC Γ) (alC Γ) Γ.2.2.2 σ sz)) (wQi Γ.1 vwCl (tysC Γ) (XC Γ) (alC Γ) r σ' sz) 0 0 (wA (alC Γ) sz)) (hrec5 : ∀ (x1 : Int32) (σ : Sg) (r : Int32) (σ' : Sg), rec 5 x1 σ = some (r, σ') → ∀ (sz : Nat), Met l yX4_readTerm (wz yX4_readTerm cX4_readTerm 3 (some .boolean)) { frames := d + 12, cells := 0, slots := 0, locals := 40 * (d) + 400 } (va_Pc [.ref (Γ.2.2.1 (25)), .int x1] (wPre Γ.1 vwCl (tysC Γ) (XC Γ) (alC Γ) Γ.2.2.2 σ sz)) (wQi Γ.1 vwCl (tysC Γ) (XC Γ) (alC Γ) r σ' sz) 0 0 (wA (alC Γ) sz)) (hrec6 : ∀ (x1 : Int32) (σ : Sg) (r : Int32) (σ' : Sg), rec 6 x1 σ = some (r, σ') → ∀ (sz : Nat), Met l yX4_readOne (wz yX4_readOne cX4_readOne 2 (some .boolean)) { frames := d + 12, cells := 0, slots := 0, locals := 40 * (d) + 400 } (va_Pc [.ref (Γ.2.2.1 (25)), .int x1] (wPre Γ.1 vwCl (tysC Γ) (XC Γ) (alC Γ) Γ.2.2.2 σ sz)) (wQi Γ.1 vwCl (tysC Γ) (XC Γ) (alC Γ) r σ' sz) 0 0 (wA (alC Γ) sz)) (hrec7 : ∀ (x1 : Int32) (σ : Sg) (r : Int32) (σ' : Sg), rec 7 x1 σ = some (r, σ') → ∀ (sz : Nat), Met l yX4_readBracket (wz yX4_readBracket cX4_readBracket 2 (some .boolean)) { frames := d + 12, cells := 0, slots := 0, locals := 40 * (d) + 400 } (va_Pc [.ref (Γ.2.2.1 (25)), .int x1] (wPre Γ.1 vwCl (tysC Γ) (XC Γ) (alC Γ) Γ.2.2.2 σ sz)) (wQi Γ.1 vwCl (tysC Γ) (XC Γ) (alC Γ) r σ' sz) 0 0 (wA (alC Γ) sz)) (x1 : Int32) (σ : Sg) (r : Int32) (σ' : Sg) (hf : fb_X4_readOne rec x1 σ = some (r, σ')) (sz : Nat) : Met l yX4_readOne (wz yX4_readOne cX4_readOne 2 (some .boolean)) { frames := d + 1 + 12, cells := 0, slots := 0, locals := 40 * (d + 1) + 400 } (va_Pc [.ref (Γ.2.2.1 (25)), .int x1] (wPre Γ.1 vwCl (tysC Γ) (XC Γ) (alC Γ) Γ.2.2.2 σ sz)) (wQi Γ.1 vwCl (tysC Γ) (XC Γ) (alC Γ) r σ' sz) 0 0 (wA (alC Γ) sz) := by
  refine w_enter (cc := cX4_readOne) (maxL := 2) (ret := (some .boolean)) (by decide) rfl (Nat.le_of_ble_eq_true rfl) ?_
  intro p e s m below meth c ls hx hb hr hlocks hml hown hts hsz hP hK hkc hN hl
  subst hsz
  generalize hav : ([.ref (Γ.2.2.1 (25)), .int x1] : List Value) = av at hl hts ⊢
  have hl : lv_has ls 2 [(0, .ref (Γ.2.2.1 (25))), (1, .int x1)] := by rw [← hav] at hl; exact hl
  have j20 : ∀ (τ : Sg) (H : Heap) (locs : List Loc) (ls : Array Slot) (hf : fb_X4_readOne_20 rec x1 τ = some (r, σ')) (hP : va_P Γ.1 vwCl (XC Γ τ) H) (hS : va_S (wA (alC Γ) s.heap.size) s.heap H locs) (hl : lv_has ls 2 [(0, .ref (Γ.2.2.1 (25)))]), W p l e { frames := d + 1 + 12, cells := 0, slots := 0, locals := 40 * (d + 1) + 400 } s m av.toArray below meth c H locs 0 0 (MQ below (wQi Γ.1 vwCl (tysC Γ) (XC Γ) (alC Γ) r σ' s.heap.size) av.toArray s 0 0 (wA (alC Γ) s.heap.size)) (F0 m 20 ls []) := by
    intro τ H locs ls hf hP hS hl
    unfold fb_X4_readOne_20 at hf
    refine lv_aload_n hx hb dX4_readOne_20 rfl (lv_at hl 0 rfl) ?_
    obtain ⟨g19, hf⟩ := w_oi hf
    refine va_get (D := Γ.1) (ci := 4) (v := .ref (Γ.2.2.1 (30 + 3 * ((τ (40) 0).toNatClampNeg)))) (C := RX4) (T := TX4) (N := 7) hx hb hts iX4 hown hK hP (25) (gC_Reader Γ τ) rfl 2 (by decide) (hts (.fieldLink RX4 18 "OtherHalfOfNight$Reader" "text" "LOtherHalfOfNight$Text;") (wzm K57)) (fun _ h9 => h9) rfl dX4_readOne_21 ?_
    refine lv_aload_n hx hb dX4_readOne_24 rfl (lv_at hl 0 rfl) ?_
    refine va_get (D := Γ.1) (ci := 4) (v := .int (τ (38) 0)) (C := RX4) (T := TX4) (N := 7) hx hb hts iX4 hown hK hP (25) (gC_Reader Γ τ) rfl 5 (by decide) (hts (.fieldLink RX4 41 "OtherHalfOfNight$Reader" "token" "I") (wzm K449)) (fun _ h9 => h9) rfl dX4_readOne_25 ?_
    refine lv_sipush (v := (268 : Int32)) hx hb dX4_readOne_28 (by decide) ?_
    refine lv_icmp_ne (tgt := 41) hx hb dX4_readOne_31 (by decide) (fun c20 => ?_) (fun c20 => ?_)
    · replace hf := (if_neg c20).symm.trans hf
      refine lv_aload_n hx hb dX4_readOne_41 rfl (lv_at hl 0 rfl) ?_
      refine va_get (D := Γ.1) (ci := 4) (v := .int (τ (38) 0)) (C := RX4) (T := TX4) (N := 7) hx hb hts iX4 hown hK hP (25) (gC_Reader Γ τ) rfl 5 (by decide) (hts (.fieldLink RX4 41 "OtherHalfOfNight$Reader" "token" "I") (wzm K449)) (fun _ h9 => h9) rfl dX4_readOne_42 ?_
      refine lv_ineg hx hb dX4_readOne_45 ?_
      obtain ⟨q21, h22, hf⟩ := w_ob hf
      refine w_cv (va_runV (As := [.int (-(τ (38) 0))]) (rest := []) ⟨hx, hb, hml, hown, hts⟩ (c_X6_add l Γ hG ((τ (40) 0).toNatClampNeg) (-(τ (38) 0)) τ q21 h22 H.size) (cwV 1 hts (wzV K83 K594 K81 K82 K56) rfl rfl rfl (by decide +kernel) ⟨(by dsimp only; omega), (by dsimp only; omega)⟩) (w_preV hK hP hkc hN hS (gC_Text Γ τ ((τ (40) 0).toNatClampNeg) g19) rfl) rfl rfl hl.1 rfl (lv_room (Nat.le_of_ble_eq_true rfl)) dX4_readOne_46 ⟨Nat.le_refl _, Nat.le_refl _⟩) hS (fun H locs hP hS => ?_)
      refine lv_aload_n hx hb dX4_readOne_49 rfl (lv_at hl 0 rfl) ?_
      obtain ⟨q23, h24, hf⟩ := w_ob hf
      refine w_cv (va_runV (As := []) (rest := []) ⟨hx, hb, hml, hown, hts⟩ (c_X4_step l Γ hG q21 q23 h24 H.size) (cwV 0 hts (wzV K455 K452 K453 K454 K20) rfl rfl rfl (by decide +kernel) ⟨(by dsimp only; omega), (by dsimp only; omega)⟩) (w_preV hK hP hkc hN hS (gC_Reader Γ q21) rfl) rfl rfl hl.1 rfl (lv_room (Nat.le_of_ble_eq_true rfl)) dX4_readOne_50 ⟨Nat.le_refl _, Nat.le_refl _⟩) hS (fun H locs hP hS => ?_)
      refine lv_iconst (v := (1 : Int32)) hx hb dX4_readOne_53 (by decide) ?_
      exact w_iret (X := XC Γ) hx hb hr hlocks hK hP hS (by decide) hf dX4_readOne_54
    · replace hf := (if_pos c20).symm.trans hf
      refine lv_aload_n hx hb dX4_readOne_34 rfl (lv_at hl 0 rfl) ?_
      refine va_get (D := Γ.1) (ci := 4) (v := .int (τ (39) 0)) (C := RX4) (T := TX4) (N := 7) hx hb hts iX4 hown hK hP (25) (gC_Reader Γ τ) rfl 6 (by decide) (hts (.fieldLink RX4 79 "OtherHalfOfNight$Reader" "literal" "I") (wzm K526)) (fun _ h9 => h9) rfl dX4_readOne_35 ?_
      refine lv_goto (tgt := 46) hx hb dX4_readOne_38 (by decide) ?_
      obtain ⟨q25, h26, hf⟩ := w_ob hf
      refine w_cv (va_runV (As := [.int (τ (39) 0)]) (rest := []) ⟨hx, hb, hml, hown, hts⟩ (c_X6_add l Γ hG ((τ (40) 0).toNatClampNeg) (τ (39) 0) τ q25 h26 H.size) (cwV 1 hts (wzV K83 K594 K81 K82 K56) rfl rfl rfl (by decide +kernel) ⟨(by dsimp only; omega), (by dsimp only; omega)⟩) (w_preV hK hP hkc hN hS (gC_Text Γ τ ((τ (40) 0).toNatClampNeg) g19) rfl) rfl rfl hl.1 rfl (lv_room (Nat.le_of_ble_eq_true rfl)) dX4_readOne_46 ⟨Nat.le_refl _, Nat.le_refl _⟩) hS (fun H locs hP hS => ?_)
      refine lv_aload_n hx hb dX4_readOne_49 rfl (lv_at hl 0 rfl) ?_
      obtain ⟨q27, h28, hf⟩ := w_ob hf
      refine w_cv (va_runV (As := []) (rest := []) ⟨hx, hb, hml, hown, hts⟩ (c_X4_step l Γ hG q25 q27 h28 H.size) (cwV 0 hts (wzV K455 K452 K453 K454 K20) rfl rfl rfl (by decide +kernel) ⟨(by dsimp only; omega), (by dsimp only; omega)⟩) (w_preV hK hP hkc hN hS (gC_Reader Γ q25) rfl) rfl rfl hl.1 rfl (lv_room (Nat.le_of_ble_eq_true rfl)) dX4_readOne_50 ⟨Nat.le_refl _, Nat.le_refl _⟩) hS (fun H locs hP hS => ?_)
      refine lv_iconst (v := (1 : Int32)) hx hb dX4_readOne_53 (by decide) ?_
      exact w_iret (X := XC Γ) hx hb hr hlocks hK hP hS (by decide) hf dX4_readOne_54
  suffices hw : ∀ (H : Heap) (locs : List Loc), va_P Γ.1 vwCl (XC Γ σ) H → va_S (wA (alC Γ) s.heap.size) s.heap H locs → W p l e { frames := d + 1 + 12, cells := 0, slots := 0, locals := 40 * (d + 1) + 400 } s m av.toArray below meth c H locs 0 0 (MQ below (wQi Γ.1 vwCl (tysC Γ) (XC Γ) (alC Γ) r σ' s.heap.size) av.toArray s 0 0 (wA (alC Γ) s.heap.size)) (F0 m 0 ls []) from hw _ [] hP va_S.rf
  clear hP
  intro H locs hP hS
  unfold fb_X4_readOne at hf
  refine lv_aload_n hx hb dX4_readOne_0 rfl (lv_at hl 0 rfl) ?_
  refine va_get (D := Γ.1) (ci := 4) (v := .int (σ (38) 0)) (C := RX4) (T := TX4) (N := 7) hx hb hts iX4 hown hK hP (25) (gC_Reader Γ σ) rfl 5 (by decide) (hts (.fieldLink RX4 41 "OtherHalfOfNight$Reader" "token" "I") (wzm K449)) (fun _ h9 => h9) rfl dX4_readOne_1 ?_
  refine lv_sipush (v := (268 : Int32)) hx hb dX4_readOne_4 (by decide) ?_
  refine lv_icmp_eq (tgt := 20) hx hb dX4_readOne_7 (by decide) (fun c1 => ?_) (fun c1 => ?_)
  · replace hf := (if_pos c1).symm.trans hf
    exact j20 σ H locs ls hf hP hS (lv_sub hl [0] rfl)
  · replace hf := (if_neg c1).symm.trans hf
    refine lv_aload_n hx hb dX4_readOne_10 rfl (lv_at hl 0 rfl) ?_
    refine va_get (D := Γ.1) (ci := 4) (v := .int (σ (38) 0)) (C := RX4) (T := TX4) (N := 7) hx hb hts iX4 hown hK hP (25) (gC_Reader Γ σ) rfl 5 (by decide) (hts (.fieldLink RX4 41 "OtherHalfOfNight$Reader" "token" "I") (wzm K449)) (fun _ h9 => h9) rfl dX4_readOne_11 ?_
    obtain ⟨q2, h3, hf⟩ := w_ob hf
    refine w_ci (va_runS (As := [.int (σ (38) 0)]) (rest := []) ⟨hx, hb, hml, hown, hts⟩ (c_X7_isName l Γ hG (σ (38) 0) σ q2.1 q2.2 h3 H.size) (va_cwS 1 hts (wzS2 K356 K609 K354 K355) rfl rfl rfl (by decide +kernel) ⟨(by dsimp only; omega), (by dsimp only; omega)⟩) (w_pre hK hP hkc hN hS) rfl rfl hl.1 rfl (lv_room (Nat.le_of_ble_eq_true rfl)) dX4_readOne_14 ⟨Nat.le_refl _, Nat.le_refl _⟩) hS (fun H locs hP hS => ?_)
    refine lv_if_eq (tgt := 55) hx hb dX4_readOne_17 (by decide) (fun c4 => ?_) (fun c4 => ?_)
    · replace hf := (if_pos c4).symm.trans hf
      refine lv_iload_n hx hb dX4_readOne_55 rfl (lv_at hl 1 rfl) ?_
      refine lv_iconst (v := (5 : Int32)) hx hb dX4_readOne_56 (by decide) ?_
      refine lv_icmp_lt (tgt := 62) hx hb dX4_readOne_57 (by decide) (fun c5 => ?_) (fun c5 => ?_)
      · replace hf := (if_pos c5).symm.trans hf
        refine lv_aload_n hx hb dX4_readOne_62 rfl (lv_at hl 0 rfl) ?_
        refine va_get (D := Γ.1) (ci := 4) (v := .int (q2.2 (38) 0)) (C := RX4) (T := TX4) (N := 7) hx hb hts iX4 hown hK hP (25) (gC_Reader Γ q2.2) rfl 5 (by decide) (hts (.fieldLink RX4 41 "OtherHalfOfNight$Reader" "token" "I") (wzm K449)) (fun _ h9 => h9) rfl dX4_readOne_63 ?_
        refine lv_bipush (v := (45 : Int32)) hx hb dX4_readOne_66 (by decide) ?_
        refine lv_icmp_ne (tgt := 99) hx hb dX4_readOne_68 (by decide) (fun c6 => ?_) (fun c6 => ?_)
        · replace hf := (if_neg c6).symm.trans hf
          refine lv_aload_n hx hb dX4_readOne_99 rfl (lv_at hl 0 rfl) ?_
          refine va_get (D := Γ.1) (ci := 4) (v := .int (q2.2 (38) 0)) (C := RX4) (T := TX4) (N := 7) hx hb hts iX4 hown hK hP (25) (gC_Reader Γ q2.2) rfl 5 (by decide) (hts (.fieldLink RX4 41 "OtherHalfOfNight$Reader" "token" "I") (wzm K449)) (fun _ h9 => h9) rfl dX4_readOne_100 ?_
          refine lv_bipush (v := (40 : Int32)) hx hb dX4_readOne_103 (by decide) ?_
          refine lv_icmp_ne (tgt := 122) hx hb dX4_readOne_105 (by decide) (fun c7 => ?_) (fun c7 => ?_)
          · replace hf := (if_neg c7).symm.trans hf
            refine lv_iconst (v := (0 : Int32)) hx hb dX4_readOne_122 (by decide) ?_
            exact w_iret (X := XC Γ) hx hb hr hlocks hK hP hS (by decide) hf dX4_readOne_123
          · replace hf := (if_pos c7).symm.trans hf
            refine lv_aload_n hx hb dX4_readOne_108 rfl (lv_at hl 0 rfl) ?_
            refine lv_iload_n hx hb dX4_readOne_109 rfl (lv_at hl 1 rfl) ?_
            refine lv_iconst (v := (1 : Int32)) hx hb dX4_readOne_110 (by decide) ?_
            refine lv_iadd hx hb dX4_readOne_111 ?_
            obtain ⟨q8, h9, hf⟩ := w_ob hf
            refine w_ci (va_runV (As := [.int (x1 + (1 : Int32))]) (rest := []) ⟨hx, hb, hml, hown, hts⟩ (hrec7 (x1 + (1 : Int32)) q2.2 q8.1 q8.2 h9 H.size) (cwV 1 hts (wzV K599 K613 K614 K615 K20) rfl rfl rfl (by decide +kernel) ⟨(by dsimp only; omega), (by dsimp only; omega)⟩) (w_preV hK hP hkc hN hS (gC_Reader Γ q2.2) rfl) rfl rfl hl.1 rfl (lv_room (Nat.le_of_ble_eq_true rfl)) dX4_readOne_112 ⟨Nat.le_refl _, Nat.le_refl _⟩) hS (fun H locs hP hS => ?_)
            refine lv_if_eq (tgt := 122) hx hb dX4_readOne_115 (by decide) (fun c10 => ?_) (fun c10 => ?_)
            · replace hf := (if_pos c10).symm.trans hf
              refine lv_iconst (v := (0 : Int32)) hx hb dX4_readOne_122 (by decide) ?_
              exact w_iret (X := XC Γ) hx hb hr hlocks hK hP hS (by decide) hf dX4_readOne_123
            · replace hf := (if_neg c10).symm.trans hf
              refine lv_iconst (v := (1 : Int32)) hx hb dX4_readOne_118 (by decide) ?_
              refine lv_goto (tgt := 123) hx hb dX4_readOne_119 (by decide) ?_
              exact w_iret (X := XC Γ) hx hb hr hlocks hK hP hS (by decide) hf dX4_readOne_123
        · replace hf := (if_pos c6).symm.trans hf
          refine lv_aload_n hx hb dX4_readOne_71 rfl (lv_at hl 0 rfl) ?_
          obtain ⟨q11, h12, hf⟩ := w_ob hf
          refine w_cv (va_runV (As := []) (rest := []) ⟨hx, hb, hml, hown, hts⟩ (c_X4_step l Γ hG q2.2 q11 h12 H.size) (cwV 0 hts (wzV K455 K452 K453 K454 K20) rfl rfl rfl (by decide +kernel) ⟨(by dsimp only; omega), (by dsimp only; omega)⟩) (w_preV hK hP hkc hN hS (gC_Reader Γ q2.2) rfl) rfl rfl hl.1 rfl (lv_room (Nat.le_of_ble_eq_true rfl)) dX4_readOne_72 ⟨Nat.le_refl _, Nat.le_refl _⟩) hS (fun H locs hP hS => ?_)
          refine lv_aload_n hx hb dX4_readOne_75 rfl (lv_at hl 0 rfl) ?_
          refine lv_iload_n hx hb dX4_readOne_76 rfl (lv_at hl 1 rfl) ?_
          refine lv_iconst (v := (1 : Int32)) hx hb dX4_readOne_77 (by decide) ?_
          refine lv_iadd hx hb dX4_readOne_78 ?_
          obtain ⟨q13, h14, hf⟩ := w_ob hf
          refine w_ci (va_runV (As := [.int (x1 + (1 : Int32))]) (rest := []) ⟨hx, hb, hml, hown, hts⟩ (hrec6 (x1 + (1 : Int32)) q11 q13.1 q13.2 h14 H.size) (cwV 1 hts (wzV K608 K610 K611 K612 K20) rfl rfl rfl (by decide +kernel) ⟨(by dsimp only; omega), (by dsimp only; omega)⟩) (w_preV hK hP hkc hN hS (gC_Reader Γ q11) rfl) rfl rfl hl.1 rfl (lv_room (Nat.le_of_ble_eq_true rfl)) dX4_readOne_79 ⟨Nat.le_refl _, Nat.le_refl _⟩) hS (fun H locs hP hS => ?_)
          refine lv_if_ne (tgt := 87) hx hb dX4_readOne_82 (by decide) (fun c15 => ?_) (fun c15 => ?_)
          · replace hf := (if_neg c15).symm.trans hf
            refine lv_aload_n hx hb dX4_readOne_87 rfl (lv_at hl 0 rfl) ?_
            obtain ⟨g16, hf⟩ := w_oi hf
            refine va_get (D := Γ.1) (ci := 4) (v := .ref (Γ.2.2.1 (30 + 3 * ((q13.2 (40) 0).toNatClampNeg)))) (C := RX4) (T := TX4) (N := 7) hx hb hts iX4 hown hK hP (25) (gC_Reader Γ q13.2) rfl 2 (by decide) (hts (.fieldLink RX4 18 "OtherHalfOfNight$Reader" "text" "LOtherHalfOfNight$Text;") (wzm K57)) (fun _ h9 => h9) rfl dX4_readOne_88 ?_
            refine lv_sipush (v := (-271 : Int32)) hx hb dX4_readOne_91 (by decide) ?_
            obtain ⟨q17, h18, hf⟩ := w_ob hf
            refine w_cv (va_runV (As := [.int (-271 : Int32)]) (rest := []) ⟨hx, hb, hml, hown, hts⟩ (c_X6_add l Γ hG ((q13.2 (40) 0).toNatClampNeg) (-271 : Int32) q13.2 q17 h18 H.size) (cwV 1 hts (wzV K83 K594 K81 K82 K56) rfl rfl rfl (by decide +kernel) ⟨(by dsimp only; omega), (by dsimp only; omega)⟩) (w_preV hK hP hkc hN hS (gC_Text Γ q13.2 ((q13.2 (40) 0).toNatClampNeg) g16) rfl) rfl rfl hl.1 rfl (lv_room (Nat.le_of_ble_eq_true rfl)) dX4_readOne_94 ⟨Nat.le_refl _, Nat.le_refl _⟩) hS (fun H locs hP hS => ?_)
            refine lv_iconst (v := (1 : Int32)) hx hb dX4_readOne_97 (by decide) ?_
            exact w_iret (X := XC Γ) hx hb hr hlocks hK hP hS (by decide) hf dX4_readOne_98
          · replace hf := (if_pos c15).symm.trans hf
            refine lv_iconst (v := (0 : Int32)) hx hb dX4_readOne_85 (by decide) ?_
            exact w_iret (X := XC Γ) hx hb hr hlocks hK hP hS (by decide) hf dX4_readOne_86
      · replace hf := (if_neg c5).symm.trans hf
        refine lv_iconst (v := (0 : Int32)) hx hb dX4_readOne_60 (by decide) ?_
        exact w_iret (X := XC Γ) hx hb hr hlocks hK hP hS (by decide) hf dX4_readOne_61
    · replace hf := (if_neg c4).symm.trans hf
      exact j20 q2.2 H locs ls hf hP hS (lv_sub hl [0] rfl)
def fb_X4_readBracket (rec : Nat → Int32 → Sg → Option (Int32 × Sg)) (x1 : Int32) (σ : Sg) : Option (Int32 × Sg) := (f_X4_step σ).bind fun (q1 : Sg) => (rec 0 x1 q1).bind fun (q3 : Int32 × Sg) => if q3.1 = 0 then some ((0 : Int32), q3.2) else if (q3.2 (38) 0) = (41 : Int32) then (f_X4_step q3.2).bind fun (q7 : Sg) => some ((1 : Int32), q7) else some ((0 : Int32), q3.2)
set_option maxHeartbeats 40000000 in
set_option maxRecDepth 100000 in
theorem cb_X4_readBracket (l : Launch) (Γ : Geo) (hG : okC Γ) (rec : Nat → Int32 → Sg → Option (Int32 × Sg)) (d : Nat) (hrec0 : ∀ (x1 : Int32) (σ : Sg) (r : Int32) (σ' : Sg), rec 0 x1 σ = some (r, σ') → ∀ (sz : Nat), Met l yX4_readAny (wz yX4_readAny cX4_readAny 3 (some .boolean)) { frames := d + 12, cells := 0, slots := 0, locals := 40 * (d) + 400 } (va_Pc [.ref (Γ.2.2.1 (25)), .int x1] (wPre Γ.1 vwCl (tysC Γ) (XC Γ) (alC Γ) Γ.2.2.2 σ sz)) (wQi Γ.1 vwCl (tysC Γ) (XC Γ) (alC Γ) r σ' sz) 0 0 (wA (alC Γ) sz)) (hrec1 : ∀ (x1 : Int32) (σ : Sg) (r : Int32) (σ' : Sg), rec 1 x1 σ = some (r, σ') → ∀ (sz : Nat), Met l yX4_readAnd (wz yX4_readAnd cX4_readAnd 3 (some .boolean)) { frames := d + 12, cells := 0, slots := 0, locals := 40 * (d) + 400 } (va_Pc [.ref (Γ.2.2.1 (25)), .int x1] (wPre Γ.1 vwCl (tysC Γ) (XC Γ) (alC Γ) Γ.2.2.2 σ sz)) (wQi Γ.1 vwCl (tysC Γ) (XC Γ) (alC Γ) r σ' sz) 0 0 (wA (alC Γ) sz)) (hrec2 : ∀ (x1 : Int32) (σ : Sg) (r : Int32) (σ' : Sg), rec 2 x1 σ = some (r, σ') → ∀ (sz : Nat), Met l yX4_readNot (wz yX4_readNot cX4_readNot 2 (some .boolean)) { frames := d + 12, cells := 0, slots := 0, locals := 40 * (d) + 400 } (va_Pc [.ref (Γ.2.2.1 (25)), .int x1] (wPre Γ.1 vwCl (tysC Γ) (XC Γ) (alC Γ) Γ.2.2.2 σ sz)) (wQi Γ.1 vwCl (tysC Γ) (XC Γ) (alC Γ) r σ' sz) 0 0 (wA (alC Γ) sz)) (hrec3 : ∀ (x1 : Int32) (σ : Sg) (r : Int32) (σ' : Sg), rec 3 x1 σ = some (r, σ') → ∀ (sz : Nat), Met l yX4_readComparison (wz yX4_readComparison cX4_readComparison 3 (some .boolean)) { frames := d + 12, cells := 0, slots := 0, locals := 40 * (d) + 400 } (va_Pc [.ref (Γ.2.2.1 (25)), .int x1] (wPre Γ.1 vwCl (tysC Γ) (XC Γ) (alC Γ) Γ.2.2.2 σ sz)) (wQi Γ.1 vwCl (tysC Γ) (XC Γ) (alC Γ) r σ' sz) 0 0 (wA (alC Γ) sz)) (hrec4 : ∀ (x1 : Int32) (σ : Sg) (r : Int32) (σ' : Sg), rec 4 x1 σ = some (r, σ') → ∀ (sz : Nat), Met l yX4_readSum (wz yX4_readSum cX4_readSum 4 (some .boolean)) { frames := d + 12, cells := 0, slots := 0, locals := 40 * (d) + 400 } (va_Pc [.ref (Γ.2.2.1 (25)), .int x1] (wPre Γ.1 vwCl (tysC Γ) (XC Γ) (alC Γ) Γ.2.2.2 σ sz)) (wQi Γ.1 vwCl (tysC Γ) (XC Γ) (alC Γ) r σ' sz) 0 0 (wA (alC Γ) sz)) (hrec5 : ∀ (x1 : Int32) (σ : Sg) (r : Int32) (σ' : Sg), rec 5 x1 σ = some (r, σ') → ∀ (sz : Nat), Met l yX4_readTerm (wz yX4_readTerm cX4_readTerm 3 (some .boolean)) { frames := d + 12, cells := 0, slots := 0, locals := 40 * (d) + 400 } (va_Pc [.ref (Γ.2.2.1 (25)), .int x1] (wPre Γ.1 vwCl (tysC Γ) (XC Γ) (alC Γ) Γ.2.2.2 σ sz)) (wQi Γ.1 vwCl (tysC Γ) (XC Γ) (alC Γ) r σ' sz) 0 0 (wA (alC Γ) sz)) (hrec6 : ∀ (x1 : Int32) (σ : Sg) (r : Int32) (σ' : Sg), rec 6 x1 σ = some (r, σ') → ∀ (sz : Nat), Met l yX4_readOne (wz yX4_readOne cX4_readOne 2 (some .boolean)) { frames := d + 12, cells := 0, slots := 0, locals := 40 * (d) + 400 } (va_Pc [.ref (Γ.2.2.1 (25)), .int x1] (wPre Γ.1 vwCl (tysC Γ) (XC Γ) (alC Γ) Γ.2.2.2 σ sz)) (wQi Γ.1 vwCl (tysC Γ) (XC Γ) (alC Γ) r σ' sz) 0 0 (wA (alC Γ) sz)) (hrec7 : ∀ (x1 : Int32) (σ : Sg) (r : Int32) (σ' : Sg), rec 7 x1 σ = some (r, σ') → ∀ (sz : Nat), Met l yX4_readBracket (wz yX4_readBracket cX4_readBracket 2 (some .boolean)) { frames := d + 12, cells := 0, slots := 0, locals := 40 * (d) + 400 } (va_Pc [.ref (Γ.2.2.1 (25)), .int x1] (wPre Γ.1 vwCl (tysC Γ) (XC Γ) (alC Γ) Γ.2.2.2 σ sz)) (wQi Γ.1 vwCl (tysC Γ) (XC Γ) (alC Γ) r σ' sz) 0 0 (wA (alC Γ) sz)) (x1 : Int32) (σ : Sg) (r : Int32) (σ' : Sg) (hf : fb_X4_readBracket rec x1 σ = some (r, σ')) (sz : Nat) : Met l yX4_readBracket (wz yX4_readBracket cX4_readBracket 2 (some .boolean)) { frames := d + 1 + 12, cells := 0, slots := 0, locals := 40 * (d + 1) + 400 } (va_Pc [.ref (Γ.2.2.1 (25)), .int x1] (wPre Γ.1 vwCl (tysC Γ) (XC Γ) (alC Γ) Γ.2.2.2 σ sz)) (wQi Γ.1 vwCl (tysC Γ) (XC Γ) (alC Γ) r σ' sz) 0 0 (wA (alC Γ) sz) := by
  refine w_enter (cc := cX4_readBracket) (maxL := 2) (ret := (some .boolean)) (by decide) rfl (Nat.le_of_ble_eq_true rfl) ?_
  intro p e s m below meth c ls hx hb hr hlocks hml hown hts hsz hP hK hkc hN hl
  subst hsz
  generalize hav : ([.ref (Γ.2.2.1 (25)), .int x1] : List Value) = av at hl hts ⊢
  have hl : lv_has ls 2 [(0, .ref (Γ.2.2.1 (25))), (1, .int x1)] := by rw [← hav] at hl; exact hl
  suffices hw : ∀ (H : Heap) (locs : List Loc), va_P Γ.1 vwCl (XC Γ σ) H → va_S (wA (alC Γ) s.heap.size) s.heap H locs → W p l e { frames := d + 1 + 12, cells := 0, slots := 0, locals := 40 * (d + 1) + 400 } s m av.toArray below meth c H locs 0 0 (MQ below (wQi Γ.1 vwCl (tysC Γ) (XC Γ) (alC Γ) r σ' s.heap.size) av.toArray s 0 0 (wA (alC Γ) s.heap.size)) (F0 m 0 ls []) from hw _ [] hP va_S.rf
  clear hP
  intro H locs hP hS
  unfold fb_X4_readBracket at hf
  refine lv_aload_n hx hb dX4_readBracket_0 rfl (lv_at hl 0 rfl) ?_
  obtain ⟨q1, h2, hf⟩ := w_ob hf
  refine w_cv (va_runV (As := []) (rest := []) ⟨hx, hb, hml, hown, hts⟩ (c_X4_step l Γ hG σ q1 h2 H.size) (cwV 0 hts (wzV K455 K452 K453 K454 K20) rfl rfl rfl (by decide +kernel) ⟨(by dsimp only; omega), (by dsimp only; omega)⟩) (w_preV hK hP hkc hN hS (gC_Reader Γ σ) rfl) rfl rfl hl.1 rfl (lv_room (Nat.le_of_ble_eq_true rfl)) dX4_readBracket_1 ⟨Nat.le_refl _, Nat.le_refl _⟩) hS (fun H locs hP hS => ?_)
  refine lv_aload_n hx hb dX4_readBracket_4 rfl (lv_at hl 0 rfl) ?_
  refine lv_iload_n hx hb dX4_readBracket_5 rfl (lv_at hl 1 rfl) ?_
  obtain ⟨q3, h4, hf⟩ := w_ob hf
  refine w_ci (va_runV (As := [.int x1]) (rest := []) ⟨hx, hb, hml, hown, hts⟩ (hrec0 x1 q1 q3.1 q3.2 h4 H.size) (cwV 1 hts (wzV K590 K587 K588 K589 K20) rfl rfl rfl (by decide +kernel) ⟨(by dsimp only; omega), (by dsimp only; omega)⟩) (w_preV hK hP hkc hN hS (gC_Reader Γ q1) rfl) rfl rfl hl.1 rfl (lv_room (Nat.le_of_ble_eq_true rfl)) dX4_readBracket_6 ⟨Nat.le_refl _, Nat.le_refl _⟩) hS (fun H locs hP hS => ?_)
  refine lv_if_eq (tgt := 21) hx hb dX4_readBracket_9 (by decide) (fun c5 => ?_) (fun c5 => ?_)
  · replace hf := (if_pos c5).symm.trans hf
    refine lv_iconst (v := (0 : Int32)) hx hb dX4_readBracket_21 (by decide) ?_
    exact w_iret (X := XC Γ) hx hb hr hlocks hK hP hS (by decide) hf dX4_readBracket_22
  · replace hf := (if_neg c5).symm.trans hf
    refine lv_aload_n hx hb dX4_readBracket_12 rfl (lv_at hl 0 rfl) ?_
    refine va_get (D := Γ.1) (ci := 4) (v := .int (q3.2 (38) 0)) (C := RX4) (T := TX4) (N := 7) hx hb hts iX4 hown hK hP (25) (gC_Reader Γ q3.2) rfl 5 (by decide) (hts (.fieldLink RX4 41 "OtherHalfOfNight$Reader" "token" "I") (wzm K449)) (fun _ h9 => h9) rfl dX4_readBracket_13 ?_
    refine lv_bipush (v := (41 : Int32)) hx hb dX4_readBracket_16 (by decide) ?_
    refine lv_icmp_eq (tgt := 23) hx hb dX4_readBracket_18 (by decide) (fun c6 => ?_) (fun c6 => ?_)
    · replace hf := (if_pos c6).symm.trans hf
      refine lv_aload_n hx hb dX4_readBracket_23 rfl (lv_at hl 0 rfl) ?_
      obtain ⟨q7, h8, hf⟩ := w_ob hf
      refine w_cv (va_runV (As := []) (rest := []) ⟨hx, hb, hml, hown, hts⟩ (c_X4_step l Γ hG q3.2 q7 h8 H.size) (cwV 0 hts (wzV K455 K452 K453 K454 K20) rfl rfl rfl (by decide +kernel) ⟨(by dsimp only; omega), (by dsimp only; omega)⟩) (w_preV hK hP hkc hN hS (gC_Reader Γ q3.2) rfl) rfl rfl hl.1 rfl (lv_room (Nat.le_of_ble_eq_true rfl)) dX4_readBracket_24 ⟨Nat.le_refl _, Nat.le_refl _⟩) hS (fun H locs hP hS => ?_)
      refine lv_iconst (v := (1 : Int32)) hx hb dX4_readBracket_27 (by decide) ?_
      exact w_iret (X := XC Γ) hx hb hr hlocks hK hP hS (by decide) hf dX4_readBracket_28
    · replace hf := (if_neg c6).symm.trans hf
      refine lv_iconst (v := (0 : Int32)) hx hb dX4_readBracket_21 (by decide) ?_
      exact w_iret (X := XC Γ) hx hb hr hlocks hK hP hS (by decide) hf dX4_readBracket_22
def grpC : Nat → Nat → Int32 → Sg → Option (Int32 × Sg)
  | 0 => fun _ _ _ => none
  | d + 1 => fun t x1 σ => if t = 0 then fb_X4_readAny (grpC d) x1 σ else if t = 1 then fb_X4_readAnd (grpC d) x1 σ else if t = 2 then fb_X4_readNot (grpC d) x1 σ else if t = 3 then fb_X4_readComparison (grpC d) x1 σ else if t = 4 then fb_X4_readSum (grpC d) x1 σ else if t = 5 then fb_X4_readTerm (grpC d) x1 σ else if t = 6 then fb_X4_readOne (grpC d) x1 σ else fb_X4_readBracket (grpC d) x1 σ
theorem c_grpC (l : Launch) (Γ : Geo) (hG : okC Γ) : ∀ (d : Nat), (∀ (x1 : Int32) (σ : Sg) (r : Int32) (σ' : Sg), grpC d 0 x1 σ = some (r, σ') → ∀ (sz : Nat), Met l yX4_readAny (wz yX4_readAny cX4_readAny 3 (some .boolean)) { frames := d + 12, cells := 0, slots := 0, locals := 40 * (d) + 400 } (va_Pc [.ref (Γ.2.2.1 (25)), .int x1] (wPre Γ.1 vwCl (tysC Γ) (XC Γ) (alC Γ) Γ.2.2.2 σ sz)) (wQi Γ.1 vwCl (tysC Γ) (XC Γ) (alC Γ) r σ' sz) 0 0 (wA (alC Γ) sz)) ∧ (∀ (x1 : Int32) (σ : Sg) (r : Int32) (σ' : Sg), grpC d 1 x1 σ = some (r, σ') → ∀ (sz : Nat), Met l yX4_readAnd (wz yX4_readAnd cX4_readAnd 3 (some .boolean)) { frames := d + 12, cells := 0, slots := 0, locals := 40 * (d) + 400 } (va_Pc [.ref (Γ.2.2.1 (25)), .int x1] (wPre Γ.1 vwCl (tysC Γ) (XC Γ) (alC Γ) Γ.2.2.2 σ sz)) (wQi Γ.1 vwCl (tysC Γ) (XC Γ) (alC Γ) r σ' sz) 0 0 (wA (alC Γ) sz)) ∧ (∀ (x1 : Int32) (σ : Sg) (r : Int32) (σ' : Sg), grpC d 2 x1 σ = some (r, σ') → ∀ (sz : Nat), Met l yX4_readNot (wz yX4_readNot cX4_readNot 2 (some .boolean)) { frames := d + 12, cells := 0, slots := 0, locals := 40 * (d) + 400 } (va_Pc [.ref (Γ.2.2.1 (25)), .int x1] (wPre Γ.1 vwCl (tysC Γ) (XC Γ) (alC Γ) Γ.2.2.2 σ sz)) (wQi Γ.1 vwCl (tysC Γ) (XC Γ) (alC Γ) r σ' sz) 0 0 (wA (alC Γ) sz)) ∧ (∀ (x1 : Int32) (σ : Sg) (r : Int32) (σ' : Sg), grpC d 3 x1 σ = some (r, σ') → ∀ (sz : Nat), Met l yX4_readComparison (wz yX4_readComparison cX4_readComparison 3 (some .boolean)) { frames := d + 12, cells := 0, slots := 0, locals := 40 * (d) + 400 } (va_Pc [.ref (Γ.2.2.1 (25)), .int x1] (wPre Γ.1 vwCl (tysC Γ) (XC Γ) (alC Γ) Γ.2.2.2 σ sz)) (wQi Γ.1 vwCl (tysC Γ) (XC Γ) (alC Γ) r σ' sz) 0 0 (wA (alC Γ) sz)) ∧ (∀ (x1 : Int32) (σ : Sg) (r : Int32) (σ' : Sg), grpC d 4 x1 σ = some (r, σ') → ∀ (sz : Nat), Met l yX4_readSum (wz yX4_readSum cX4_readSum 4 (some .boolean)) { frames := d + 12, cells := 0, slots := 0, locals := 40 * (d) + 400 } (va_Pc [.ref (Γ.2.2.1 (25)), .int x1] (wPre Γ.1 vwCl (tysC Γ) (XC Γ) (alC Γ) Γ.2.2.2 σ sz)) (wQi Γ.1 vwCl (tysC Γ) (XC Γ) (alC Γ) r σ' sz) 0 0 (wA (alC Γ) sz)) ∧ (∀ (x1 : Int32) (σ : Sg) (r : Int32) (σ' : Sg), grpC d 5 x1 σ = some (r, σ') → ∀ (sz : Nat), Met l yX4_readTerm (wz yX4_readTerm cX4_readTerm 3 (some .boolean)) { frames := d + 12, cells := 0, slots := 0, locals := 40 * (d) + 400 } (va_Pc [.ref (Γ.2.2.1 (25)), .int x1] (wPre Γ.1 vwCl (tysC Γ) (XC Γ) (alC Γ) Γ.2.2.2 σ sz)) (wQi Γ.1 vwCl (tysC Γ) (XC Γ) (alC Γ) r σ' sz) 0 0 (wA (alC Γ) sz)) ∧ (∀ (x1 : Int32) (σ : Sg) (r : Int32) (σ' : Sg), grpC d 6 x1 σ = some (r, σ') → ∀ (sz : Nat), Met l yX4_readOne (wz yX4_readOne cX4_readOne 2 (some .boolean)) { frames := d + 12, cells := 0, slots := 0, locals := 40 * (d) + 400 } (va_Pc [.ref (Γ.2.2.1 (25)), .int x1] (wPre Γ.1 vwCl (tysC Γ) (XC Γ) (alC Γ) Γ.2.2.2 σ sz)) (wQi Γ.1 vwCl (tysC Γ) (XC Γ) (alC Γ) r σ' sz) 0 0 (wA (alC Γ) sz)) ∧ (∀ (x1 : Int32) (σ : Sg) (r : Int32) (σ' : Sg), grpC d 7 x1 σ = some (r, σ') → ∀ (sz : Nat), Met l yX4_readBracket (wz yX4_readBracket cX4_readBracket 2 (some .boolean)) { frames := d + 12, cells := 0, slots := 0, locals := 40 * (d) + 400 } (va_Pc [.ref (Γ.2.2.1 (25)), .int x1] (wPre Γ.1 vwCl (tysC Γ) (XC Γ) (alC Γ) Γ.2.2.2 σ sz)) (wQi Γ.1 vwCl (tysC Γ) (XC Γ) (alC Γ) r σ' sz) 0 0 (wA (alC Γ) sz)) := by
  intro d
  induction d with
  | zero =>
    refine ⟨?_, ?_, ?_, ?_, ?_, ?_, ?_, ?_⟩ <;> (intros; exact absurd (by assumption) (by intro h; cases h))
  | succ d ih =>
    obtain ⟨h0, h1, h2, h3, h4, h5, h6, h7⟩ := ih
    refine ⟨?_, ?_, ?_, ?_, ?_, ?_, ?_, ?_⟩
    · intro x1 σ r σ' hf sz
      exact cb_X4_readAny l Γ hG (grpC d) d h0 h1 h2 h3 h4 h5 h6 h7 x1 σ r σ' hf sz
    · intro x1 σ r σ' hf sz
      exact cb_X4_readAnd l Γ hG (grpC d) d h0 h1 h2 h3 h4 h5 h6 h7 x1 σ r σ' hf sz
    · intro x1 σ r σ' hf sz
      exact cb_X4_readNot l Γ hG (grpC d) d h0 h1 h2 h3 h4 h5 h6 h7 x1 σ r σ' hf sz
    · intro x1 σ r σ' hf sz
      exact cb_X4_readComparison l Γ hG (grpC d) d h0 h1 h2 h3 h4 h5 h6 h7 x1 σ r σ' hf sz
    · intro x1 σ r σ' hf sz
      exact cb_X4_readSum l Γ hG (grpC d) d h0 h1 h2 h3 h4 h5 h6 h7 x1 σ r σ' hf sz
    · intro x1 σ r σ' hf sz
      exact cb_X4_readTerm l Γ hG (grpC d) d h0 h1 h2 h3 h4 h5 h6 h7 x1 σ r σ' hf sz
    · intro x1 σ r σ' hf sz
      exact cb_X4_readOne l Γ hG (grpC d) d h0 h1 h2 h3 h4 h5 h6 h7 x1 σ r σ' hf sz
    · intro x1 σ r σ' hf sz
      exact cb_X4_readBracket l Γ hG (grpC d) d h0 h1 h2 h3 h4 h5 h6 h7 x1 σ r σ' hf sz
def f_X4_readAny (x1 : Int32) (σ : Sg) : Option (Int32 × Sg) := grpC 64 0 x1 σ
theorem c_X4_readAny (l : Launch) (Γ : Geo) (hG : okC Γ) (x1 : Int32) (σ : Sg) (r : Int32) (σ' : Sg) (hf : f_X4_readAny x1 σ = some (r, σ')) (sz : Nat) : Met l yX4_readAny (wz yX4_readAny cX4_readAny 3 (some .boolean)) { frames := 76, cells := 0, slots := 0, locals := 2960 } (va_Pc [.ref (Γ.2.2.1 (25)), .int x1] (wPre Γ.1 vwCl (tysC Γ) (XC Γ) (alC Γ) Γ.2.2.2 σ sz)) (wQi Γ.1 vwCl (tysC Γ) (XC Γ) (alC Γ) r σ' sz) 0 0 (wA (alC Γ) sz) :=
  (c_grpC l Γ hG 64).1 x1 σ r σ' hf sz
