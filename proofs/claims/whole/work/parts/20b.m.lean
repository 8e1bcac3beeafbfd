def fb_X9_either_5 (rec : Nat → Sm → Option (Int32 × Sm)) : Nat → Int32 → Sm → Option (Int32 × Sm)
  | 0, _, _ => none
  | n + 1, y1, τ => (f_X9_isWord (111 : Int32) (114 : Int32) (0 : Int32) (0 : Int32) (0 : Int32) (0 : Int32) (0 : Int32) (0 : Int32) τ).bind fun (q3 : Int32 × Sm) => if q3.1 = 0 then some (y1, q3.2) else (f_X9_next q3.2).bind fun (q6 : Sm) => (rec 1 q6).bind fun (q8 : Int32 × Sm) => if y1 = 0 then if q8.1 = 0 then (fb_X9_either_5 rec n) ((0 : Int32)) q8.2 else (fb_X9_either_5 rec n) ((1 : Int32)) q8.2 else (fb_X9_either_5 rec n) ((1 : Int32)) q8.2
def fb_X9_either (rec : Nat → Sm → Option (Int32 × Sm)) (σ : Sm) : Option (Int32 × Sm) := (rec 1 σ).bind fun (q1 : Int32 × Sm) => fb_X9_either_5 rec 5000 (q1.1) q1.2
set_option maxHeartbeats 40000000 in
set_option maxRecDepth 100000 in
theorem cb_X9_either (l : Launch) (Γ : Geo) (hG : okM Γ) (rec : Nat → Sm → Option (Int32 × Sm)) (d : Nat) (hrec0 : ∀ (σ : Sm) (r : Int32) (σ' : Sm), rec 0 σ = some (r, σ') → ∀ (sz : Nat), Met l yX9_either (wz yX9_either cX9_either 3 (some .int)) { frames := d + 5, cells := 0, slots := 0, locals := 40 * (d) + 160 } (va_Pc [.ref (Γ.2.2.1 (0))] (wPre Γ.1 vwCl (tysC Γ) (XM Γ) (alM Γ) Γ.2.2.2 σ sz)) (wQi Γ.1 vwCl (tysC Γ) (XM Γ) (alM Γ) r σ' sz) 0 0 (wA (alM Γ) sz)) (hrec1 : ∀ (σ : Sm) (r : Int32) (σ' : Sm), rec 1 σ = some (r, σ') → ∀ (sz : Nat), Met l yX9_both (wz yX9_both cX9_both 3 (some .int)) { frames := d + 5, cells := 0, slots := 0, locals := 40 * (d) + 160 } (va_Pc [.ref (Γ.2.2.1 (0))] (wPre Γ.1 vwCl (tysC Γ) (XM Γ) (alM Γ) Γ.2.2.2 σ sz)) (wQi Γ.1 vwCl (tysC Γ) (XM Γ) (alM Γ) r σ' sz) 0 0 (wA (alM Γ) sz)) (hrec2 : ∀ (σ : Sm) (r : Int32) (σ' : Sm), rec 2 σ = some (r, σ') → ∀ (sz : Nat), Met l yX9_not (wz yX9_not cX9_not 4 (some .int)) { frames := d + 5, cells := 0, slots := 0, locals := 40 * (d) + 160 } (va_Pc [.ref (Γ.2.2.1 (0))] (wPre Γ.1 vwCl (tysC Γ) (XM Γ) (alM Γ) Γ.2.2.2 σ sz)) (wQi Γ.1 vwCl (tysC Γ) (XM Γ) (alM Γ) r σ' sz) 0 0 (wA (alM Γ) sz)) (hrec3 : ∀ (σ : Sm) (r : Int32) (σ' : Sm), rec 3 σ = some (r, σ') → ∀ (sz : Nat), Met l yX9_added (wz yX9_added cX9_added 4 (some .int)) { frames := d + 5, cells := 0, slots := 0, locals := 40 * (d) + 160 } (va_Pc [.ref (Γ.2.2.1 (0))] (wPre Γ.1 vwCl (tysC Γ) (XM Γ) (alM Γ) Γ.2.2.2 σ sz)) (wQi Γ.1 vwCl (tysC Γ) (XM Γ) (alM Γ) r σ' sz) 0 0 (wA (alM Γ) sz)) (hrec4 : ∀ (σ : Sm) (r : Int32) (σ' : Sm), rec 4 σ = some (r, σ') → ∀ (sz : Nat), Met l yX9_term (wz yX9_term cX9_term 2 (some .int)) { frames := d + 5, cells := 0, slots := 0, locals := 40 * (d) + 160 } (va_Pc [.ref (Γ.2.2.1 (0))] (wPre Γ.1 vwCl (tysC Γ) (XM Γ) (alM Γ) Γ.2.2.2 σ sz)) (wQi Γ.1 vwCl (tysC Γ) (XM Γ) (alM Γ) r σ' sz) 0 0 (wA (alM Γ) sz)) (hrec5 : ∀ (σ : Sm) (r : Int32) (σ' : Sm), rec 5 σ = some (r, σ') → ∀ (sz : Nat), Met l yX9_atom (wz yX9_atom cX9_atom 2 (some .int)) { frames := d + 5, cells := 0, slots := 0, locals := 40 * (d) + 160 } (va_Pc [.ref (Γ.2.2.1 (0))] (wPre Γ.1 vwCl (tysC Γ) (XM Γ) (alM Γ) Γ.2.2.2 σ sz)) (wQi Γ.1 vwCl (tysC Γ) (XM Γ) (alM Γ) r σ' sz) 0 0 (wA (alM Γ) sz)) (σ : Sm) (r : Int32) (σ' : Sm) (hf : fb_X9_either rec σ = some (r, σ')) (sz : Nat) : Met l yX9_either (wz yX9_either cX9_either 3 (some .int)) { frames := d + 1 + 5, cells := 0, slots := 0, locals := 40 * (d + 1) + 160 } (va_Pc [.ref (Γ.2.2.1 (0))] (wPre Γ.1 vwCl (tysC Γ) (XM Γ) (alM Γ) Γ.2.2.2 σ sz)) (wQi Γ.1 vwCl (tysC Γ) (XM Γ) (alM Γ) r σ' sz) 0 0 (wA (alM Γ) sz) := by
  refine w_enter (cc := cX9_either) (maxL := 3) (ret := (some .int)) (by decide) rfl (Nat.le_of_ble_eq_true rfl) ?_
  intro p e s m below meth c ls hx hb hr hlocks hml hown hts hsz hP hK hkc hN hl
  subst hsz
  generalize hav : ([.ref (Γ.2.2.1 (0))] : List Value) = av at hl hts ⊢
  have hl : lv_has ls 3 [(0, .ref (Γ.2.2.1 (0)))] := by rw [← hav] at hl; exact hl
  have j5 : ∀ (n5 : Nat), ∀ (y1 : Int32) (τ : Sm) (H : Heap) (locs : List Loc) (ls : Array Slot) (hf : fb_X9_either_5 rec n5 y1 τ = some (r, σ')) (hP : va_P Γ.1 vwCl (XM Γ τ) H) (hS : va_S (wA (alM Γ) s.heap.size) s.heap H locs) (hl : lv_has ls 3 [(0, .ref (Γ.2.2.1 (0))), (1, .int y1)]), W p l e { frames := d + 1 + 5, cells := 0, slots := 0, locals := 40 * (d + 1) + 160 } s m av.toArray below meth c H locs 0 0 (MQ below (wQi Γ.1 vwCl (tysC Γ) (XM Γ) (alM Γ) r σ' s.heap.size) av.toArray s 0 0 (wA (alM Γ) s.heap.size)) (F0 m 5 ls []) := by
    intro n5
    induction n5 with
    | zero =>
      intro y1 τ H locs ls hf
      exact absurd hf (by intro h; cases h)
    | succ n5 ih5 =>
      intro y1 τ H locs ls hf hP hS hl
      unfold fb_X9_either_5 at hf
      refine lv_aload_n hx hb dX9_either_5 rfl (lv_at hl 0 rfl) ?_
      refine lv_bipush (v := (111 : Int32)) hx hb dX9_either_6 (by decide) ?_
      refine lv_bipush (v := (114 : Int32)) hx hb dX9_either_8 (by decide) ?_
      refine lv_iconst (v := (0 : Int32)) hx hb dX9_either_10 (by decide) ?_
      refine lv_iconst (v := (0 : Int32)) hx hb dX9_either_11 (by decide) ?_
      refine lv_iconst (v := (0 : Int32)) hx hb dX9_either_12 (by decide) ?_
      refine lv_iconst (v := (0 : Int32)) hx hb dX9_either_13 (by decide) ?_
      refine lv_iconst (v := (0 : Int32)) hx hb dX9_either_14 (by decide) ?_
      refine lv_iconst (v := (0 : Int32)) hx hb dX9_either_15 (by decide) ?_
      obtain ⟨q3, h4, hf⟩ := w_ob hf
      refine w_ci (va_runV (As := [.int (111 : Int32), .int (114 : Int32), .int (0 : Int32), .int (0 : Int32), .int (0 : Int32), .int (0 : Int32), .int (0 : Int32), .int (0 : Int32)]) (rest := []) ⟨hx, hb, hml, hown, hts⟩ (c_X9_isWord l Γ hG (111 : Int32) (114 : Int32) (0 : Int32) (0 : Int32) (0 : Int32) (0 : Int32) (0 : Int32) (0 : Int32) τ q3.1 q3.2 h4 H.size) (cwV 8 hts (wzV K247 K244 K245 K246 K5) rfl rfl rfl (by decide +kernel) ⟨(by dsimp only; omega), (by dsimp only; omega)⟩) (w_preV hK hP hkc hN hS (gM_Model Γ τ) rfl) rfl rfl hl.1 rfl (lv_room (Nat.le_of_ble_eq_true rfl)) dX9_either_16 ⟨Nat.le_refl _, Nat.le_refl _⟩) hS (fun H locs hP hS => ?_)
      refine lv_if_eq (tgt := 48) hx hb dX9_either_19 (by decide) (fun c5 => ?_) (fun c5 => ?_)
      · replace hf := (if_pos c5).symm.trans hf
        refine lv_iload_n hx hb dX9_either_48 rfl (lv_at hl 1 rfl) ?_
        exact w_iret (X := XM Γ) hx hb hr hlocks hK hP hS rfl hf dX9_either_49
      · replace hf := (if_neg c5).symm.trans hf
        refine lv_aload_n hx hb dX9_either_22 rfl (lv_at hl 0 rfl) ?_
        obtain ⟨q6, h7, hf⟩ := w_ob hf
        refine w_cv (va_runV (As := []) (rest := []) ⟨hx, hb, hml, hown, hts⟩ (c_X9_next l Γ hG q3.2 q6 h7 H.size) (cwV 0 hts (wzV K233 K230 K231 K232 K5) rfl rfl rfl (by decide +kernel) ⟨(by dsimp only; omega), (by dsimp only; omega)⟩) (w_preV hK hP hkc hN hS (gM_Model Γ q3.2) rfl) rfl rfl hl.1 rfl (lv_room (Nat.le_of_ble_eq_true rfl)) dX9_either_23 ⟨Nat.le_refl _, Nat.le_refl _⟩) hS (fun H locs hP hS => ?_)
        refine lv_aload_n hx hb dX9_either_26 rfl (lv_at hl 0 rfl) ?_
        obtain ⟨q8, h9, hf⟩ := w_ob hf
        refine w_ci (va_runV (As := []) (rest := []) ⟨hx, hb, hml, hown, hts⟩ (hrec1 q6 q8.1 q8.2 h9 H.size) (cwV 0 hts (wzV K289 K265 K266 K267 K5) rfl rfl rfl (by decide +kernel) ⟨(by dsimp only; omega), (by dsimp only; omega)⟩) (w_preV hK hP hkc hN hS (gM_Model Γ q6) rfl) rfl rfl hl.1 rfl (lv_room (Nat.le_of_ble_eq_true rfl)) dX9_either_27 ⟨Nat.le_refl _, Nat.le_refl _⟩) hS (fun H locs hP hS => ?_)
        refine lv_istore_n (lv' := [(2, .int q8.1), (0, .ref (Γ.2.2.1 (0))), (1, .int y1)]) hx hb dX9_either_30 rfl hl (by decide) rfl (fun ls hl => ?_)
        refine lv_iload_n hx hb dX9_either_31 rfl (lv_at hl 2 rfl) ?_
        refine lv_if_ne (tgt := 39) hx hb dX9_either_32 (by decide) (fun c10 => ?_) (fun c10 => ?_)
        · replace hf := (if_neg c10).symm.trans hf
          refine lv_iconst (v := (1 : Int32)) hx hb dX9_either_39 (by decide) ?_
          refine lv_goto (tgt := 44) hx hb dX9_either_40 (by decide) ?_
          refine lv_istore_n (lv' := [(1, .int (1 : Int32)), (2, .int q8.1), (0, .ref (Γ.2.2.1 (0)))]) hx hb dX9_either_44 rfl hl (by decide) rfl (fun ls hl => ?_)
          refine lv_goto (tgt := 5) hx hb dX9_either_45 (by decide) ?_
          exact ih5 ((1 : Int32)) q8.2 H locs ls hf hP hS (lv_sub hl [2, 0] rfl)
        · replace hf := (if_pos c10).symm.trans hf
          refine lv_iload_n hx hb dX9_either_35 rfl (lv_at hl 0 rfl) ?_
          refine lv_if_eq (tgt := 43) hx hb dX9_either_36 (by decide) (fun c11 => ?_) (fun c11 => ?_)
          · replace hf := (if_pos c11).symm.trans hf
            refine lv_iconst (v := (0 : Int32)) hx hb dX9_either_43 (by decide) ?_
            refine lv_istore_n (lv' := [(1, .int (0 : Int32)), (2, .int q8.1), (0, .ref (Γ.2.2.1 (0)))]) hx hb dX9_either_44 rfl hl (by decide) rfl (fun ls hl => ?_)
            refine lv_goto (tgt := 5) hx hb dX9_either_45 (by decide) ?_
            exact ih5 ((0 : Int32)) q8.2 H locs ls hf hP hS (lv_sub hl [2, 0] rfl)
          · replace hf := (if_neg c11).symm.trans hf
            refine lv_iconst (v := (1 : Int32)) hx hb dX9_either_39 (by decide) ?_
            refine lv_goto (tgt := 44) hx hb dX9_either_40 (by decide) ?_
            refine lv_istore_n (lv' := [(1, .int (1 : Int32)), (2, .int q8.1), (0, .ref (Γ.2.2.1 (0)))]) hx hb dX9_either_44 rfl hl (by decide) rfl (fun ls hl => ?_)
            refine lv_goto (tgt := 5) hx hb dX9_either_45 (by decide) ?_
            exact ih5 ((1 : Int32)) q8.2 H locs ls hf hP hS (lv_sub hl [2, 0] rfl)
  suffices hw : ∀ (H : Heap) (locs : List Loc), va_P Γ.1 vwCl (XM Γ σ) H → va_S (wA (alM Γ) s.heap.size) s.heap H locs → W p l e { frames := d + 1 + 5, cells := 0, slots := 0, locals := 40 * (d + 1) + 160 } s m av.toArray below meth c H locs 0 0 (MQ below (wQi Γ.1 vwCl (tysC Γ) (XM Γ) (alM Γ) r σ' s.heap.size) av.toArray s 0 0 (wA (alM Γ) s.heap.size)) (F0 m 0 ls []) from hw _ [] hP va_S.rf
  clear hP
  intro H locs hP hS
  unfold fb_X9_either at hf
  refine lv_aload_n hx hb dX9_either_0 rfl (lv_at hl 0 rfl) ?_
  obtain ⟨q1, h2, hf⟩ := w_ob hf
  refine w_ci (va_runV (As := []) (rest := []) ⟨hx, hb, hml, hown, hts⟩ (hrec1 σ q1.1 q1.2 h2 H.size) (cwV 0 hts (wzV K289 K265 K266 K267 K5) rfl rfl rfl (by decide +kernel) ⟨(by dsimp only; omega), (by dsimp only; omega)⟩) (w_preV hK hP hkc hN hS (gM_Model Γ σ) rfl) rfl rfl hl.1 rfl (lv_room (Nat.le_of_ble_eq_true rfl)) dX9_either_1 ⟨Nat.le_refl _, Nat.le_refl _⟩) hS (fun H locs hP hS => ?_)
  refine lv_istore_n (lv' := [(1, .int q1.1), (0, .ref (Γ.2.2.1 (0)))]) hx hb dX9_either_4 rfl hl (by decide) rfl (fun ls hl => ?_)
  exact j5 5000 (q1.1) q1.2 H locs ls hf hP hS (lv_sub hl [1, 0] rfl)
def fb_X9_both_5 (rec : Nat → Sm → Option (Int32 × Sm)) : Nat → Int32 → Sm → Option (Int32 × Sm)
  | 0, _, _ => none
  | n + 1, y1, τ => (f_X9_isWord (97 : Int32) (110 : Int32) (100 : Int32) (0 : Int32) (0 : Int32) (0 : Int32) (0 : Int32) (0 : Int32) τ).bind fun (q3 : Int32 × Sm) => if q3.1 = 0 then some (y1, q3.2) else (f_X9_next q3.2).bind fun (q6 : Sm) => (rec 2 q6).bind fun (q8 : Int32 × Sm) => if y1 = 0 then (fb_X9_both_5 rec n) ((0 : Int32)) q8.2 else if q8.1 = 0 then (fb_X9_both_5 rec n) ((0 : Int32)) q8.2 else (fb_X9_both_5 rec n) ((1 : Int32)) q8.2
def fb_X9_both (rec : Nat → Sm → Option (Int32 × Sm)) (σ : Sm) : Option (Int32 × Sm) := (rec 2 σ).bind fun (q1 : Int32 × Sm) => fb_X9_both_5 rec 5000 (q1.1) q1.2
set_option maxHeartbeats 40000000 in
set_option maxRecDepth 100000 in
theorem cb_X9_both (l : Launch) (Γ : Geo) (hG : okM Γ) (rec : Nat → Sm → Option (Int32 × Sm)) (d : Nat) (hrec0 : ∀ (σ : Sm) (r : Int32) (σ' : Sm), rec 0 σ = some (r, σ') → ∀ (sz : Nat), Met l yX9_either (wz yX9_either cX9_either 3 (some .int)) { frames := d + 5, cells := 0, slots := 0, locals := 40 * (d) + 160 } (va_Pc [.ref (Γ.2.2.1 (0))] (wPre Γ.1 vwCl (tysC Γ) (XM Γ) (alM Γ) Γ.2.2.2 σ sz)) (wQi Γ.1 vwCl (tysC Γ) (XM Γ) (alM Γ) r σ' sz) 0 0 (wA (alM Γ) sz)) (hrec1 : ∀ (σ : Sm) (r : Int32) (σ' : Sm), rec 1 σ = some (r, σ') → ∀ (sz : Nat), Met l yX9_both (wz yX9_both cX9_both 3 (some .int)) { frames := d + 5, cells := 0, slots := 0, locals := 40 * (d) + 160 } (va_Pc [.ref (Γ.2.2.1 (0))] (wPre Γ.1 vwCl (tysC Γ) (XM Γ) (alM Γ) Γ.2.2.2 σ sz)) (wQi Γ.1 vwCl (tysC Γ) (XM Γ) (alM Γ) r σ' sz) 0 0 (wA (alM Γ) sz)) (hrec2 : ∀ (σ : Sm) (r : Int32) (σ' : Sm), rec 2 σ = some (r, σ') → ∀ (sz : Nat), Met l yX9_not (wz yX9_not cX9_not 4 (some .int)) { frames := d + 5, cells := 0, slots := 0, locals := 40 * (d) + 160 } (va_Pc [.ref (Γ.2.2.1 (0))] (wPre Γ.1 vwCl (tysC Γ) (XM Γ) (alM Γ) Γ.2.2.2 σ sz)) (wQi Γ.1 vwCl (tysC Γ) (XM Γ) (alM Γ) r σ' sz) 0 0 (wA (alM Γ) sz)) (hrec3 : ∀ (σ : Sm) (r : Int32) (σ' : Sm), rec 3 σ = some (r, σ') → ∀ (sz : Nat), Met l yX9_added (wz yX9_added cX9_added 4 (some .int)) { frames := d + 5, cells := 0, slots := 0, locals := 40 * (d) + 160 } (va_Pc [.ref (Γ.2.2.1 (0))] (wPre Γ.1 vwCl (tysC Γ) (XM Γ) (alM Γ) Γ.2.2.2 σ sz)) (wQi Γ.1 vwCl (tysC Γ) (XM Γ) (alM Γ) r σ' sz) 0 0 (wA (alM Γ) sz)) (hrec4 : ∀ (σ : Sm) (r : Int32) (σ' : Sm), rec 4 σ = some (r, σ') → ∀ (sz : Nat), Met l yX9_term (wz yX9_term cX9_term 2 (some .int)) { frames := d + 5, cells := 0, slots := 0, locals := 40 * (d) + 160 } (va_Pc [.ref (Γ.2.2.1 (0))] (wPre Γ.1 vwCl (tysC Γ) (XM Γ) (alM Γ) Γ.2.2.2 σ sz)) (wQi Γ.1 vwCl (tysC Γ) (XM Γ) (alM Γ) r σ' sz) 0 0 (wA (alM Γ) sz)) (hrec5 : ∀ (σ : Sm) (r : Int32) (σ' : Sm), rec 5 σ = some (r, σ') → ∀ (sz : Nat), Met l yX9_atom (wz yX9_atom cX9_atom 2 (some .int)) { frames := d + 5, cells := 0, slots := 0, locals := 40 * (d) + 160 } (va_Pc [.ref (Γ.2.2.1 (0))] (wPre Γ.1 vwCl (tysC Γ) (XM Γ) (alM Γ) Γ.2.2.2 σ sz)) (wQi Γ.1 vwCl (tysC Γ) (XM Γ) (alM Γ) r σ' sz) 0 0 (wA (alM Γ) sz)) (σ : Sm) (r : Int32) (σ' : Sm) (hf : fb_X9_both rec σ = some (r, σ')) (sz : Nat) : Met l yX9_both (wz yX9_both cX9_both 3 (some .int)) { frames := d + 1 + 5, cells := 0, slots := 0, locals := 40 * (d + 1) + 160 } (va_Pc [.ref (Γ.2.2.1 (0))] (wPre Γ.1 vwCl (tysC Γ) (XM Γ) (alM Γ) Γ.2.2.2 σ sz)) (wQi Γ.1 vwCl (tysC Γ) (XM Γ) (alM Γ) r σ' sz) 0 0 (wA (alM Γ) sz) := by
  refine w_enter (cc := cX9_both) (maxL := 3) (ret := (some .int)) (by decide) rfl (Nat.le_of_ble_eq_true rfl) ?_
  intro p e s m below meth c ls hx hb hr hlocks hml hown hts hsz hP hK hkc hN hl
  subst hsz
  generalize hav : ([.ref (Γ.2.2.1 (0))] : List Value) = av at hl hts ⊢
  have hl : lv_has ls 3 [(0, .ref (Γ.2.2.1 (0)))] := by rw [← hav] at hl; exact hl
  have j5 : ∀ (n5 : Nat), ∀ (y1 : Int32) (τ : Sm) (H : Heap) (locs : List Loc) (ls : Array Slot) (hf : fb_X9_both_5 rec n5 y1 τ = some (r, σ')) (hP : va_P Γ.1 vwCl (XM Γ τ) H) (hS : va_S (wA (alM Γ) s.heap.size) s.heap H locs) (hl : lv_has ls 3 [(0, .ref (Γ.2.2.1 (0))), (1, .int y1)]), W p l e { frames := d + 1 + 5, cells := 0, slots := 0, locals := 40 * (d + 1) + 160 } s m av.toArray below meth c H locs 0 0 (MQ below (wQi Γ.1 vwCl (tysC Γ) (XM Γ) (alM Γ) r σ' s.heap.size) av.toArray s 0 0 (wA (alM Γ) s.heap.size)) (F0 m 5 ls []) := by
    intro n5
    induction n5 with
    | zero =>
      intro y1 τ H locs ls hf
      exact absurd hf (by intro h; cases h)
    | succ n5 ih5 =>
      intro y1 τ H locs ls hf hP hS hl
      unfold fb_X9_both_5 at hf
      refine lv_aload_n hx hb dX9_both_5 rfl (lv_at hl 0 rfl) ?_
      refine lv_bipush (v := (97 : Int32)) hx hb dX9_both_6 (by decide) ?_
      refine lv_bipush (v := (110 : Int32)) hx hb dX9_both_8 (by decide) ?_
      refine lv_bipush (v := (100 : Int32)) hx hb dX9_both_10 (by decide) ?_
      refine lv_iconst (v := (0 : Int32)) hx hb dX9_both_12 (by decide) ?_
      refine lv_iconst (v := (0 : Int32)) hx hb dX9_both_13 (by decide) ?_
      refine lv_iconst (v := (0 : Int32)) hx hb dX9_both_14 (by decide) ?_
      refine lv_iconst (v := (0 : Int32)) hx hb dX9_both_15 (by decide) ?_
      refine lv_iconst (v := (0 : Int32)) hx hb dX9_both_16 (by decide) ?_
      obtain ⟨q3, h4, hf⟩ := w_ob hf
      refine w_ci (va_runV (As := [.int (97 : Int32), .int (110 : Int32), .int (100 : Int32), .int (0 : Int32), .int (0 : Int32), .int (0 : Int32), .int (0 : Int32), .int (0 : Int32)]) (rest := []) ⟨hx, hb, hml, hown, hts⟩ (c_X9_isWord l Γ hG (97 : Int32) (110 : Int32) (100 : Int32) (0 : Int32) (0 : Int32) (0 : Int32) (0 : Int32) (0 : Int32) τ q3.1 q3.2 h4 H.size) (cwV 8 hts (wzV K247 K244 K245 K246 K5) rfl rfl rfl (by decide +kernel) ⟨(by dsimp only; omega), (by dsimp only; omega)⟩) (w_preV hK hP hkc hN hS (gM_Model Γ τ) rfl) rfl rfl hl.1 rfl (lv_room (Nat.le_of_ble_eq_true rfl)) dX9_both_17 ⟨Nat.le_refl _, Nat.le_refl _⟩) hS (fun H locs hP hS => ?_)
      refine lv_if_eq (tgt := 49) hx hb dX9_both_20 (by decide) (fun c5 => ?_) (fun c5 => ?_)
      · replace hf := (if_pos c5).symm.trans hf
        refine lv_iload_n hx hb dX9_both_49 rfl (lv_at hl 1 rfl) ?_
        exact w_iret (X := XM Γ) hx hb hr hlocks hK hP hS rfl hf dX9_both_50
      · replace hf := (if_neg c5).symm.trans hf
        refine lv_aload_n hx hb dX9_both_23 rfl (lv_at hl 0 rfl) ?_
        obtain ⟨q6, h7, hf⟩ := w_ob hf
        refine w_cv (va_runV (As := []) (rest := []) ⟨hx, hb, hml, hown, hts⟩ (c_X9_next l Γ hG q3.2 q6 h7 H.size) (cwV 0 hts (wzV K233 K230 K231 K232 K5) rfl rfl rfl (by decide +kernel) ⟨(by dsimp only; omega), (by dsimp only; omega)⟩) (w_preV hK hP hkc hN hS (gM_Model Γ q3.2) rfl) rfl rfl hl.1 rfl (lv_room (Nat.le_of_ble_eq_true rfl)) dX9_both_24 ⟨Nat.le_refl _, Nat.le_refl _⟩) hS (fun H locs hP hS => ?_)
        refine lv_aload_n hx hb dX9_both_27 rfl (lv_at hl 0 rfl) ?_
        obtain ⟨q8, h9, hf⟩ := w_ob hf
        refine w_ci (va_runV (As := []) (rest := []) ⟨hx, hb, hml, hown, hts⟩ (hrec2 q6 q8.1 q8.2 h9 H.size) (cwV 0 hts (wzV K293 K290 K291 K292 K5) rfl rfl rfl (by decide +kernel) ⟨(by dsimp only; omega), (by dsimp only; omega)⟩) (w_preV hK hP hkc hN hS (gM_Model Γ q6) rfl) rfl rfl hl.1 rfl (lv_room (Nat.le_of_ble_eq_true rfl)) dX9_both_28 ⟨Nat.le_refl _, Nat.le_refl _⟩) hS (fun H locs hP hS => ?_)
        refine lv_istore_n (lv' := [(2, .int q8.1), (0, .ref (Γ.2.2.1 (0))), (1, .int y1)]) hx hb dX9_both_31 rfl hl (by decide) rfl (fun ls hl => ?_)
        refine lv_iload_n hx hb dX9_both_32 rfl (lv_at hl 2 rfl) ?_
        refine lv_if_eq (tgt := 44) hx hb dX9_both_33 (by decide) (fun c10 => ?_) (fun c10 => ?_)
        · replace hf := (if_pos c10).symm.trans hf
          refine lv_iconst (v := (0 : Int32)) hx hb dX9_both_44 (by decide) ?_
          refine lv_istore_n (lv' := [(1, .int (0 : Int32)), (2, .int q8.1), (0, .ref (Γ.2.2.1 (0)))]) hx hb dX9_both_45 rfl hl (by decide) rfl (fun ls hl => ?_)
          refine lv_goto (tgt := 5) hx hb dX9_both_46 (by decide) ?_
          exact ih5 ((0 : Int32)) q8.2 H locs ls hf hP hS (lv_sub hl [2, 0] rfl)
        · replace hf := (if_neg c10).symm.trans hf
          refine lv_iload_n hx hb dX9_both_36 rfl (lv_at hl 0 rfl) ?_
          refine lv_if_eq (tgt := 44) hx hb dX9_both_37 (by decide) (fun c11 => ?_) (fun c11 => ?_)
          · replace hf := (if_pos c11).symm.trans hf
            refine lv_iconst (v := (0 : Int32)) hx hb dX9_both_44 (by decide) ?_
            refine lv_istore_n (lv' := [(1, .int (0 : Int32)), (2, .int q8.1), (0, .ref (Γ.2.2.1 (0)))]) hx hb dX9_both_45 rfl hl (by decide) rfl (fun ls hl => ?_)
            refine lv_goto (tgt := 5) hx hb dX9_both_46 (by decide) ?_
            exact ih5 ((0 : Int32)) q8.2 H locs ls hf hP hS (lv_sub hl [2, 0] rfl)
          · replace hf := (if_neg c11).symm.trans hf
            refine lv_iconst (v := (1 : Int32)) hx hb dX9_both_40 (by decide) ?_
            refine lv_goto (tgt := 45) hx hb dX9_both_41 (by decide) ?_
            refine lv_istore_n (lv' := [(1, .int (1 : Int32)), (2, .int q8.1), (0, .ref (Γ.2.2.1 (0)))]) hx hb dX9_both_45 rfl hl (by decide) rfl (fun ls hl => ?_)
            refine lv_goto (tgt := 5) hx hb dX9_both_46 (by decide) ?_
            exact ih5 ((1 : Int32)) q8.2 H locs ls hf hP hS (lv_sub hl [2, 0] rfl)
  suffices hw : ∀ (H : Heap) (locs : List Loc), va_P Γ.1 vwCl (XM Γ σ) H → va_S (wA (alM Γ) s.heap.size) s.heap H locs → W p l e { frames := d + 1 + 5, cells := 0, slots := 0, locals := 40 * (d + 1) + 160 } s m av.toArray below meth c H locs 0 0 (MQ below (wQi Γ.1 vwCl (tysC Γ) (XM Γ) (alM Γ) r σ' s.heap.size) av.toArray s 0 0 (wA (alM Γ) s.heap.size)) (F0 m 0 ls []) from hw _ [] hP va_S.rf
  clear hP
  intro H locs hP hS
  unfold fb_X9_both at hf
  refine lv_aload_n hx hb dX9_both_0 rfl (lv_at hl 0 rfl) ?_
  obtain ⟨q1, h2, hf⟩ := w_ob hf
  refine w_ci (va_runV (As := []) (rest := []) ⟨hx, hb, hml, hown, hts⟩ (hrec2 σ q1.1 q1.2 h2 H.size) (cwV 0 hts (wzV K293 K290 K291 K292 K5) rfl rfl rfl (by decide +kernel) ⟨(by dsimp only; omega), (by dsimp only; omega)⟩) (w_preV hK hP hkc hN hS (gM_Model Γ σ) rfl) rfl rfl hl.1 rfl (lv_room (Nat.le_of_ble_eq_true rfl)) dX9_both_1 ⟨Nat.le_refl _, Nat.le_refl _⟩) hS (fun H locs hP hS => ?_)
  refine lv_istore_n (lv' := [(1, .int q1.1), (0, .ref (Γ.2.2.1 (0)))]) hx hb dX9_both_4 rfl hl (by decide) rfl (fun ls hl => ?_)
  exact j5 5000 (q1.1) q1.2 H locs ls hf hP hS (lv_sub hl [1, 0] rfl)
def fb_X9_not_93 (rec : Nat → Sm → Option (Int32 × Sm)) (y1 : Int32) (z0 : Int32) (τ : Sm) : Option (Int32 × Sm) := (f_X9_next τ).bind fun (q19 : Sm) => (rec 3 q19).bind fun (q21 : Int32 × Sm) => if z0 = 0 then if y1 = q21.1 then some ((1 : Int32), q21.2) else some ((0 : Int32), q21.2) else if q21.1 ≤ y1 then some ((0 : Int32), q21.2) else some ((1 : Int32), q21.2)
def fb_X9_not_77 (rec : Nat → Sm → Option (Int32 × Sm)) (y1 : Int32) (τ : Sm) : Option (Int32 × Sm) := if (lg_cmp (τ.2 (24) 0) (60 : Int64)) = 0 then fb_X9_not_93 rec (y1) ((1 : Int32)) τ else fb_X9_not_93 rec (y1) ((0 : Int32)) τ
def fb_X9_not (rec : Nat → Sm → Option (Int32 × Sm)) (σ : Sm) : Option (Int32 × Sm) := (f_X9_isWord (110 : Int32) (111 : Int32) (116 : Int32) (0 : Int32) (0 : Int32) (0 : Int32) (0 : Int32) (0 : Int32) σ).bind fun (q1 : Int32 × Sm) => if q1.1 = 0 then (rec 3 q1.2).bind fun (q4 : Int32 × Sm) => (f_X9_isSign (60 : Int32) q4.2).bind fun (q6 : Int32 × Sm) => if q6.1 = 0 then (f_X9_isSign (61 : Int32) q6.2).bind fun (q9 : Int32 × Sm) => if q9.1 = 0 then some (q4.1, q9.2) else fb_X9_not_77 rec (q4.1) q9.2 else fb_X9_not_77 rec (q4.1) q6.2 else (f_X9_opens q1.2).bind fun (q12 : Int32 × Sm) => if q12.1 = 0 then some ((0 : Int32), q12.2) else (rec 2 q12.2).bind fun (q15 : Int32 × Sm) => if q15.1 = 0 then some ((1 : Int32), (upm q15.2 (25) 0 ((q15.2.1 (25) 0) - (1 : Int32)))) else some ((0 : Int32), (upm q15.2 (25) 0 ((q15.2.1 (25) 0) - (1 : Int32))))
set_option maxHeartbeats 40000000 in
set_option maxRecDepth 100000 in
theorem cb_X9_not (l : Launch) (Γ : Geo) (hG : okM Γ) (rec : Nat → Sm → Option (Int32 × Sm)) (d : Nat) (hrec0 : ∀ (σ : Sm) (r : Int32) (σ' : Sm), rec 0 σ = some (r, σ') → ∀ (sz : Nat), Met l yX9_either (wz yX9_either cX9_either 3 (some .int)) { frames := d + 5, cells := 0, slots := 0, locals := 40 * (d) + 160 } (va_Pc [.ref (Γ.2.2.1 (0))] (wPre Γ.1 vwCl (tysC Γ) (XM Γ) (alM Γ) Γ.2.2.2 σ sz)) (wQi Γ.1 vwCl (tysC Γ) (XM Γ) (alM Γ) r σ' sz) 0 0 (wA (alM Γ) sz)) (hrec1 : ∀ (σ : Sm) (r : Int32) (σ' : Sm), rec 1 σ = some (r, σ') → ∀ (sz : Nat), Met l yX9_both (wz yX9_both cX9_both 3 (some .int)) { frames := d + 5, cells := 0, slots := 0, locals := 40 * (d) + 160 } (va_Pc [.ref (Γ.2.2.1 (0))] (wPre Γ.1 vwCl (tysC Γ) (XM Γ) (alM Γ) Γ.2.2.2 σ sz)) (wQi Γ.1 vwCl (tysC Γ) (XM Γ) (alM Γ) r σ' sz) 0 0 (wA (alM Γ) sz)) (hrec2 : ∀ (σ : Sm) (r : Int32) (σ' : Sm), rec 2 σ = some (r, σ') → ∀ (sz : Nat), Met l yX9_not (wz yX9_not cX9_not 4 (some .int)) { frames := d + 5, cells := 0, slots := 0, locals := 40 * (d) + 160 } (va_Pc [.ref (Γ.2.2.1 (0))] (wPre Γ.1 vwCl (tysC Γ) (XM Γ) (alM Γ) Γ.2.2.2 σ sz)) (wQi Γ.1 vwCl (tysC Γ) (XM Γ) (alM Γ) r σ' sz) 0 0 (wA (alM Γ) sz)) (hrec3 : ∀ (σ : Sm) (r : Int32) (σ' : Sm), rec 3 σ = some (r, σ') → ∀ (sz : Nat), Met l yX9_added (wz yX9_added cX9_added 4 (some .int)) { frames := d + 5, cells := 0, slots := 0, locals := 40 * (d) + 160 } (va_Pc [.ref (Γ.2.2.1 (0))] (wPre Γ.1 vwCl (tysC Γ) (XM Γ) (alM Γ) Γ.2.2.2 σ sz)) (wQi Γ.1 vwCl (tysC Γ) (XM Γ) (alM Γ) r σ' sz) 0 0 (wA (alM Γ) sz)) (hrec4 : ∀ (σ : Sm) (r : Int32) (σ' : Sm), rec 4 σ = some (r, σ') → ∀ (sz : Nat), Met l yX9_term (wz yX9_term cX9_term 2 (some .int)) { frames := d + 5, cells := 0, slots := 0, locals := 40 * (d) + 160 } (va_Pc [.ref (Γ.2.2.1 (0))] (wPre Γ.1 vwCl (tysC Γ) (XM Γ) (alM Γ) Γ.2.2.2 σ sz)) (wQi Γ.1 vwCl (tysC Γ) (XM Γ) (alM Γ) r σ' sz) 0 0 (wA (alM Γ) sz)) (hrec5 : ∀ (σ : Sm) (r : Int32) (σ' : Sm), rec 5 σ = some (r, σ') → ∀ (sz : Nat), Met l yX9_atom (wz yX9_atom cX9_atom 2 (some .int)) { frames := d + 5, cells := 0, slots := 0, locals := 40 * (d) + 160 } (va_Pc [.ref (Γ.2.2.1 (0))] (wPre Γ.1 vwCl (tysC Γ) (XM Γ) (alM Γ) Γ.2.2.2 σ sz)) (wQi Γ.1 vwCl (tysC Γ) (XM Γ) (alM Γ) r σ' sz) 0 0 (wA (alM Γ) sz)) (σ : Sm) (r : Int32) (σ' : Sm) (hf : fb_X9_not rec σ = some (r, σ')) (sz : Nat) : Met l yX9_not (wz yX9_not cX9_not 4 (some .int)) { frames := d + 1 + 5, cells := 0, slots := 0, locals := 40 * (d + 1) + 160 } (va_Pc [.ref (Γ.2.2.1 (0))] (wPre Γ.1 vwCl (tysC Γ) (XM Γ) (alM Γ) Γ.2.2.2 σ sz)) (wQi Γ.1 vwCl (tysC Γ) (XM Γ) (alM Γ) r σ' sz) 0 0 (wA (alM Γ) sz) := by
  refine w_enter (cc := cX9_not) (maxL := 4) (ret := (some .int)) (by decide) rfl (Nat.le_of_ble_eq_true rfl) ?_
  intro p e s m below meth c ls hx hb hr hlocks hml hown hts hsz hP hK hkc hN hl
  subst hsz
  generalize hav : ([.ref (Γ.2.2.1 (0))] : List Value) = av at hl hts ⊢
  have hl : lv_has ls 4 [(0, .ref (Γ.2.2.1 (0)))] := by rw [← hav] at hl; exact hl
  have j93 : ∀ (y1 : Int32) (z0 : Int32) (τ : Sm) (H : Heap) (locs : List Loc) (ls : Array Slot) (hf : fb_X9_not_93 rec y1 z0 τ = some (r, σ')) (hP : va_P Γ.1 vwCl (XM Γ τ) H) (hS : va_S (wA (alM Γ) s.heap.size) s.heap H locs) (hl : lv_has ls 4 [(0, .ref (Γ.2.2.1 (0))), (1, .int y1)]), W p l e { frames := d + 1 + 5, cells := 0, slots := 0, locals := 40 * (d + 1) + 160 } s m av.toArray below meth c H locs 0 0 (MQ below (wQi Γ.1 vwCl (tysC Γ) (XM Γ) (alM Γ) r σ' s.heap.size) av.toArray s 0 0 (wA (alM Γ) s.heap.size)) (F0 m 93 ls [.int z0]) := by
    intro y1 z0 τ H locs ls hf hP hS hl
    unfold fb_X9_not_93 at hf
    refine lv_istore_n (lv' := [(2, .int z0), (0, .ref (Γ.2.2.1 (0))), (1, .int y1)]) hx hb dX9_not_93 rfl hl (by decide) rfl (fun ls hl => ?_)
    refine lv_aload_n hx hb dX9_not_94 rfl (lv_at hl 1 rfl) ?_
    obtain ⟨q19, h20, hf⟩ := w_ob hf
    refine w_cv (va_runV (As := []) (rest := []) ⟨hx, hb, hml, hown, hts⟩ (c_X9_next l Γ hG τ q19 h20 H.size) (cwV 0 hts (wzV K233 K230 K231 K232 K5) rfl rfl rfl (by decide +kernel) ⟨(by dsimp only; omega), (by dsimp only; omega)⟩) (w_preV hK hP hkc hN hS (gM_Model Γ τ) rfl) rfl rfl hl.1 rfl (lv_room (Nat.le_of_ble_eq_true rfl)) dX9_not_95 ⟨Nat.le_refl _, Nat.le_refl _⟩) hS (fun H locs hP hS => ?_)
    refine lv_aload_n hx hb dX9_not_98 rfl (lv_at hl 1 rfl) ?_
    obtain ⟨q21, h22, hf⟩ := w_ob hf
    refine w_ci (va_runV (As := []) (rest := []) ⟨hx, hb, hml, hown, hts⟩ (hrec3 q19 q21.1 q21.2 h22 H.size) (cwV 0 hts (wzV K268 K295 K296 K297 K5) rfl rfl rfl (by decide +kernel) ⟨(by dsimp only; omega), (by dsimp only; omega)⟩) (w_preV hK hP hkc hN hS (gM_Model Γ q19) rfl) rfl rfl hl.1 rfl (lv_room (Nat.le_of_ble_eq_true rfl)) dX9_not_99 ⟨Nat.le_refl _, Nat.le_refl _⟩) hS (fun H locs hP hS => ?_)
    refine lv_istore_n (lv' := [(3, .int q21.1), (2, .int z0), (0, .ref (Γ.2.2.1 (0))), (1, .int y1)]) hx hb dX9_not_102 rfl hl (by decide) rfl (fun ls hl => ?_)
    refine lv_iload_n hx hb dX9_not_103 rfl (lv_at hl 1 rfl) ?_
    refine lv_if_eq (tgt := 115) hx hb dX9_not_104 (by decide) (fun c23 => ?_) (fun c23 => ?_)
    · replace hf := (if_pos c23).symm.trans hf
      refine lv_iload_n hx hb dX9_not_115 rfl (lv_at hl 3 rfl) ?_
      refine lv_iload_n hx hb dX9_not_116 rfl (lv_at hl 0 rfl) ?_
      refine lv_icmp_ne (tgt := 124) hx hb dX9_not_117 (by decide) (fun c24 => ?_) (fun c24 => ?_)
      · replace hf := (if_neg c24).symm.trans hf
        refine lv_iconst (v := (0 : Int32)) hx hb dX9_not_124 (by decide) ?_
        exact w_iret (X := XM Γ) hx hb hr hlocks hK hP hS rfl hf dX9_not_125
      · replace hf := (if_pos c24).symm.trans hf
        refine lv_iconst (v := (1 : Int32)) hx hb dX9_not_120 (by decide) ?_
        refine lv_goto (tgt := 125) hx hb dX9_not_121 (by decide) ?_
        exact w_iret (X := XM Γ) hx hb hr hlocks hK hP hS rfl hf dX9_not_125
    · replace hf := (if_neg c23).symm.trans hf
      refine lv_iload_n hx hb dX9_not_107 rfl (lv_at hl 3 rfl) ?_
      refine lv_iload_n hx hb dX9_not_108 rfl (lv_at hl 0 rfl) ?_
      refine lv_icmp_ge (tgt := 124) hx hb dX9_not_109 (by decide) (fun c25 => ?_) (fun c25 => ?_)
      · replace hf := (if_pos c25).symm.trans hf
        refine lv_iconst (v := (0 : Int32)) hx hb dX9_not_124 (by decide) ?_
        exact w_iret (X := XM Γ) hx hb hr hlocks hK hP hS rfl hf dX9_not_125
      · replace hf := (if_neg c25).symm.trans hf
        refine lv_goto (tgt := 120) hx hb dX9_not_112 (by decide) ?_
        refine lv_iconst (v := (1 : Int32)) hx hb dX9_not_120 (by decide) ?_
        refine lv_goto (tgt := 125) hx hb dX9_not_121 (by decide) ?_
        exact w_iret (X := XM Γ) hx hb hr hlocks hK hP hS rfl hf dX9_not_125
  have j77 : ∀ (y1 : Int32) (τ : Sm) (H : Heap) (locs : List Loc) (ls : Array Slot) (hf : fb_X9_not_77 rec y1 τ = some (r, σ')) (hP : va_P Γ.1 vwCl (XM Γ τ) H) (hS : va_S (wA (alM Γ) s.heap.size) s.heap H locs) (hl : lv_has ls 4 [(0, .ref (Γ.2.2.1 (0))), (1, .int y1)]), W p l e { frames := d + 1 + 5, cells := 0, slots := 0, locals := 40 * (d + 1) + 160 } s m av.toArray below meth c H locs 0 0 (MQ below (wQi Γ.1 vwCl (tysC Γ) (XM Γ) (alM Γ) r σ' s.heap.size) av.toArray s 0 0 (wA (alM Γ) s.heap.size)) (F0 m 77 ls []) := by
    intro y1 τ H locs ls hf hP hS hl
    unfold fb_X9_not_77 at hf
    refine lv_aload_n hx hb dX9_not_77 rfl (lv_at hl 0 rfl) ?_
    refine va_get (D := Γ.1) (ci := 8) (v := .long (τ.2 (24) 0)) (C := RX9) (T := TX9) (N := 44) hx hb hts iX9 hown hK hP (0) (gM_Model Γ τ) rfl 24 (by decide) (hts (.fieldLink RX9 163 "OtherHalfOfNightModel" "tokenWorth" "J") (wzm K239)) (fun _ h9 => h9) rfl dX9_not_78 ?_
    refine lv_ldc2 (v := (60 : Int64)) hx hb hown (hts (.constantLong RX9 236 (60)) (wzm K294)) dX9_not_81 ?_
    refine W.lcmp hx hb dX9_not_84 ?_
    refine lv_if_ne (tgt := 92) hx hb dX9_not_85 (by decide) (fun c18 => ?_) (fun c18 => ?_)
    · replace hf := (if_neg c18).symm.trans hf
      refine lv_iconst (v := (0 : Int32)) hx hb dX9_not_92 (by decide) ?_
      exact j93 (y1) ((0 : Int32)) τ H locs ls hf hP hS (lv_sub hl [0, 1] rfl)
    · replace hf := (if_pos c18).symm.trans hf
      refine lv_iconst (v := (1 : Int32)) hx hb dX9_not_88 (by decide) ?_
      refine lv_goto (tgt := 93) hx hb dX9_not_89 (by decide) ?_
      exact j93 (y1) ((1 : Int32)) τ H locs ls hf hP hS (lv_sub hl [0, 1] rfl)
  suffices hw : ∀ (H : Heap) (locs : List Loc), va_P Γ.1 vwCl (XM Γ σ) H → va_S (wA (alM Γ) s.heap.size) s.heap H locs → W p l e { frames := d + 1 + 5, cells := 0, slots := 0, locals := 40 * (d + 1) + 160 } s m av.toArray below meth c H locs 0 0 (MQ below (wQi Γ.1 vwCl (tysC Γ) (XM Γ) (alM Γ) r σ' s.heap.size) av.toArray s 0 0 (wA (alM Γ) s.heap.size)) (F0 m 0 ls []) from hw _ [] hP va_S.rf
  clear hP
  intro H locs hP hS
  unfold fb_X9_not at hf
  refine lv_aload_n hx hb dX9_not_0 rfl (lv_at hl 0 rfl) ?_
  refine lv_bipush (v := (110 : Int32)) hx hb dX9_not_1 (by decide) ?_
  refine lv_bipush (v := (111 : Int32)) hx hb dX9_not_3 (by decide) ?_
  refine lv_bipush (v := (116 : Int32)) hx hb dX9_not_5 (by decide) ?_
  refine lv_iconst (v := (0 : Int32)) hx hb dX9_not_7 (by decide) ?_
  refine lv_iconst (v := (0 : Int32)) hx hb dX9_not_8 (by decide) ?_
  refine lv_iconst (v := (0 : Int32)) hx hb dX9_not_9 (by decide) ?_
  refine lv_iconst (v := (0 : Int32)) hx hb dX9_not_10 (by decide) ?_
  refine lv_iconst (v := (0 : Int32)) hx hb dX9_not_11 (by decide) ?_
  obtain ⟨q1, h2, hf⟩ := w_ob hf
  refine w_ci (va_runV (As := [.int (110 : Int32), .int (111 : Int32), .int (116 : Int32), .int (0 : Int32), .int (0 : Int32), .int (0 : Int32), .int (0 : Int32), .int (0 : Int32)]) (rest := []) ⟨hx, hb, hml, hown, hts⟩ (c_X9_isWord l Γ hG (110 : Int32) (111 : Int32) (116 : Int32) (0 : Int32) (0 : Int32) (0 : Int32) (0 : Int32) (0 : Int32) σ q1.1 q1.2 h2 H.size) (cwV 8 hts (wzV K247 K244 K245 K246 K5) rfl rfl rfl (by decide +kernel) ⟨(by dsimp only; omega), (by dsimp only; omega)⟩) (w_preV hK hP hkc hN hS (gM_Model Γ σ) rfl) rfl rfl hl.1 rfl (lv_room (Nat.le_of_ble_eq_true rfl)) dX9_not_12 ⟨Nat.le_refl _, Nat.le_refl _⟩) hS (fun H locs hP hS => ?_)
  refine lv_if_eq (tgt := 52) hx hb dX9_not_15 (by decide) (fun c3 => ?_) (fun c3 => ?_)
  · replace hf := (if_pos c3).symm.trans hf
    refine lv_aload_n hx hb dX9_not_52 rfl (lv_at hl 0 rfl) ?_
    obtain ⟨q4, h5, hf⟩ := w_ob hf
    refine w_ci (va_runV (As := []) (rest := []) ⟨hx, hb, hml, hown, hts⟩ (hrec3 q1.2 q4.1 q4.2 h5 H.size) (cwV 0 hts (wzV K268 K295 K296 K297 K5) rfl rfl rfl (by decide +kernel) ⟨(by dsimp only; omega), (by dsimp only; omega)⟩) (w_preV hK hP hkc hN hS (gM_Model Γ q1.2) rfl) rfl rfl hl.1 rfl (lv_room (Nat.le_of_ble_eq_true rfl)) dX9_not_53 ⟨Nat.le_refl _, Nat.le_refl _⟩) hS (fun H locs hP hS => ?_)
    refine lv_istore_n (lv' := [(1, .int q4.1), (0, .ref (Γ.2.2.1 (0)))]) hx hb dX9_not_56 rfl hl (by decide) rfl (fun ls hl => ?_)
    refine lv_aload_n hx hb dX9_not_57 rfl (lv_at hl 1 rfl) ?_
    refine lv_bipush (v := (60 : Int32)) hx hb dX9_not_58 (by decide) ?_
    obtain ⟨q6, h7, hf⟩ := w_ob hf
    refine w_ci (va_runV (As := [.int (60 : Int32)]) (rest := []) ⟨hx, hb, hml, hown, hts⟩ (c_X9_isSign l Γ hG (60 : Int32) q4.2 q6.1 q6.2 h7 H.size) (cwV 1 hts (wzV K276 K273 K274 K275 K5) rfl rfl rfl (by decide +kernel) ⟨(by dsimp only; omega), (by dsimp only; omega)⟩) (w_preV hK hP hkc hN hS (gM_Model Γ q4.2) rfl) rfl rfl hl.1 rfl (lv_room (Nat.le_of_ble_eq_true rfl)) dX9_not_60 ⟨Nat.le_refl _, Nat.le_refl _⟩) hS (fun H locs hP hS => ?_)
    refine lv_if_ne (tgt := 77) hx hb dX9_not_63 (by decide) (fun c8 => ?_) (fun c8 => ?_)
    · replace hf := (if_neg c8).symm.trans hf
      exact j77 (q4.1) q6.2 H locs ls hf hP hS (lv_sub hl [1, 0] rfl)
    · replace hf := (if_pos c8).symm.trans hf
      refine lv_aload_n hx hb dX9_not_66 rfl (lv_at hl 1 rfl) ?_
      refine lv_bipush (v := (61 : Int32)) hx hb dX9_not_67 (by decide) ?_
      obtain ⟨q9, h10, hf⟩ := w_ob hf
      refine w_ci (va_runV (As := [.int (61 : Int32)]) (rest := []) ⟨hx, hb, hml, hown, hts⟩ (c_X9_isSign l Γ hG (61 : Int32) q6.2 q9.1 q9.2 h10 H.size) (cwV 1 hts (wzV K276 K273 K274 K275 K5) rfl rfl rfl (by decide +kernel) ⟨(by dsimp only; omega), (by dsimp only; omega)⟩) (w_preV hK hP hkc hN hS (gM_Model Γ q6.2) rfl) rfl rfl hl.1 rfl (lv_room (Nat.le_of_ble_eq_true rfl)) dX9_not_69 ⟨Nat.le_refl _, Nat.le_refl _⟩) hS (fun H locs hP hS => ?_)
      refine lv_if_ne (tgt := 77) hx hb dX9_not_72 (by decide) (fun c11 => ?_) (fun c11 => ?_)
      · replace hf := (if_neg c11).symm.trans hf
        exact j77 (q4.1) q9.2 H locs ls hf hP hS (lv_sub hl [1, 0] rfl)
      · replace hf := (if_pos c11).symm.trans hf
        refine lv_iload_n hx hb dX9_not_75 rfl (lv_at hl 0 rfl) ?_
        exact w_iret (X := XM Γ) hx hb hr hlocks hK hP hS rfl hf dX9_not_76
  · replace hf := (if_neg c3).symm.trans hf
    refine lv_aload_n hx hb dX9_not_18 rfl (lv_at hl 0 rfl) ?_
    obtain ⟨q12, h13, hf⟩ := w_ob hf
    refine w_ci (va_runV (As := []) (rest := []) ⟨hx, hb, hml, hown, hts⟩ (c_X9_opens l Γ hG q1.2 q12.1 q12.2 h13 H.size) (cwV 0 hts (wzV K281 K278 K279 K280 K5) rfl rfl rfl (by decide +kernel) ⟨(by dsimp only; omega), (by dsimp only; omega)⟩) (w_preV hK hP hkc hN hS (gM_Model Γ q1.2) rfl) rfl rfl hl.1 rfl (lv_room (Nat.le_of_ble_eq_true rfl)) dX9_not_19 ⟨Nat.le_refl _, Nat.le_refl _⟩) hS (fun H locs hP hS => ?_)
    refine lv_if_ne (tgt := 27) hx hb dX9_not_22 (by decide) (fun c14 => ?_) (fun c14 => ?_)
    · replace hf := (if_neg c14).symm.trans hf
      refine lv_aload_n hx hb dX9_not_27 rfl (lv_at hl 0 rfl) ?_
      obtain ⟨q15, h16, hf⟩ := w_ob hf
      refine w_ci (va_runV (As := []) (rest := []) ⟨hx, hb, hml, hown, hts⟩ (hrec2 q12.2 q15.1 q15.2 h16 H.size) (cwV 0 hts (wzV K293 K290 K291 K292 K5) rfl rfl rfl (by decide +kernel) ⟨(by dsimp only; omega), (by dsimp only; omega)⟩) (w_preV hK hP hkc hN hS (gM_Model Γ q12.2) rfl) rfl rfl hl.1 rfl (lv_room (Nat.le_of_ble_eq_true rfl)) dX9_not_28 ⟨Nat.le_refl _, Nat.le_refl _⟩) hS (fun H locs hP hS => ?_)
      refine lv_istore_n (lv' := [(1, .int q15.1), (0, .ref (Γ.2.2.1 (0)))]) hx hb dX9_not_31 rfl hl (by decide) rfl (fun ls hl => ?_)
      refine lv_aload_n hx hb dX9_not_32 rfl (lv_at hl 1 rfl) ?_
      refine lv_dup hx hb dX9_not_33 rfl ?_
      refine va_get (D := Γ.1) (ci := 8) (v := .int (q15.2.1 (25) 0)) (C := RX9) (T := TX9) (N := 44) hx hb hts iX9 hown hK hP (0) (gM_Model Γ q15.2) rfl 25 (by decide) (hts (.fieldLink RX9 177 "OtherHalfOfNightModel" "open" "I") (wzm K227)) (fun _ h9 => h9) rfl dX9_not_34 ?_
      refine lv_iconst (v := (1 : Int32)) hx hb dX9_not_37 (by decide) ?_
      refine lv_isub hx hb dX9_not_38 ?_
      refine w_put (X := XM Γ) (σ' := (upm q15.2 (25) 0 ((q15.2.1 (25) 0) - (1 : Int32)))) (ci := 8) (C := RX9) (T := TX9) (N := 44) (ty := .int) hx hb hts iX9 tyX9 tyX9_ok nmX9 hown hK hP (halM Γ) hG hS (0) (gM_Model Γ q15.2) rfl 25 (by decide) (hts (.fieldLink RX9 177 "OtherHalfOfNightModel" "open" "I") (wzm K227)) (fun _ h9 => h9) rfl (by decide +kernel) rfl rfl (Nat.le_of_ble_eq_true rfl) dX9_not_39 (sM_Model_open Γ q15.2 ((q15.2.1 (25) 0) - (1 : Int32))) (fun H locs hP hS => ?_)
      refine lv_iload_n hx hb dX9_not_42 rfl (lv_at hl 0 rfl) ?_
      refine lv_if_ne (tgt := 50) hx hb dX9_not_43 (by decide) (fun c17 => ?_) (fun c17 => ?_)
      · replace hf := (if_neg c17).symm.trans hf
        refine lv_iconst (v := (0 : Int32)) hx hb dX9_not_50 (by decide) ?_
        exact w_iret (X := XM Γ) hx hb hr hlocks hK hP hS rfl hf dX9_not_51
      · replace hf := (if_pos c17).symm.trans hf
        refine lv_iconst (v := (1 : Int32)) hx hb dX9_not_46 (by decide) ?_
        refine lv_goto (tgt := 51) hx hb dX9_not_47 (by decide) ?_
        exact w_iret (X := XM Γ) hx hb hr hlocks hK hP hS rfl hf dX9_not_51
    · replace hf := (if_pos c14).symm.trans hf
      refine lv_iconst (v := (0 : Int32)) hx hb dX9_not_25 (by decide) ?_
      exact w_iret (X := XM Γ) hx hb hr hlocks hK hP hS rfl hf dX9_not_26
def fb_X9_added_39 (rec : Nat → Sm → Option (Int32 × Sm)) (k5 : Int32 → Sm → Option (Int32 × Sm)) (y1 : Int32) (z0 : Int32) (τ : Sm) : Option (Int32 × Sm) := (f_X9_next τ).bind fun (q10 : Sm) => (rec 4 q10).bind fun (q12 : Int32 × Sm) => if z0 = 0 then k5 ((y1 - q12.1)) q12.2 else k5 ((y1 + q12.1)) q12.2
def fb_X9_added_23 (rec : Nat → Sm → Option (Int32 × Sm)) (k5 : Int32 → Sm → Option (Int32 × Sm)) (y1 : Int32) (τ : Sm) : Option (Int32 × Sm) := if (lg_cmp (τ.2 (24) 0) (43 : Int64)) = 0 then fb_X9_added_39 rec k5 (y1) ((1 : Int32)) τ else fb_X9_added_39 rec k5 (y1) ((0 : Int32)) τ
def fb_X9_added_5 (rec : Nat → Sm → Option (Int32 × Sm)) : Nat → Int32 → Sm → Option (Int32 × Sm)
  | 0, _, _ => none
  | n + 1, y1, τ => (f_X9_isSign (43 : Int32) τ).bind fun (q3 : Int32 × Sm) => if q3.1 = 0 then (f_X9_isSign (45 : Int32) q3.2).bind fun (q6 : Int32 × Sm) => if q6.1 = 0 then some (y1, q6.2) else fb_X9_added_23 rec (fb_X9_added_5 rec n) (y1) q6.2 else fb_X9_added_23 rec (fb_X9_added_5 rec n) (y1) q3.2
def fb_X9_added (rec : Nat → Sm → Option (Int32 × Sm)) (σ : Sm) : Option (Int32 × Sm) := (rec 4 σ).bind fun (q1 : Int32 × Sm) => fb_X9_added_5 rec 5000 (q1.1) q1.2
set_option maxHeartbeats 40000000 in
set_option maxRecDepth 100000 in
theorem cb_X9_added (l : Launch) (Γ : Geo) (hG : okM Γ) (rec : Nat → Sm → Option (Int32 × Sm)) (d : Nat) (hrec0 : ∀ (σ : Sm) (r : Int32) (σ' : Sm), rec 0 σ = some (r, σ') → ∀ (sz : Nat), Met l yX9_either (wz yX9_either cX9_either 3 (some .int)) { frames := d + 5, cells := 0, slots := 0, locals := 40 * (d) + 160 } (va_Pc [.ref (Γ.2.2.1 (0))] (wPre Γ.1 vwCl (tysC Γ) (XM Γ) (alM Γ) Γ.2.2.2 σ sz)) (wQi Γ.1 vwCl (tysC Γ) (XM Γ) (alM Γ) r σ' sz) 0 0 (wA (alM Γ) sz)) (hrec1 : ∀ (σ : Sm) (r : Int32) (σ' : Sm), rec 1 σ = some (r, σ') → ∀ (sz : Nat), Met l yX9_both (wz yX9_both cX9_both 3 (some .int)) { frames := d + 5, cells := 0, slots := 0, locals := 40 * (d) + 160 } (va_Pc [.ref (Γ.2.2.1 (0))] (wPre Γ.1 vwCl (tysC Γ) (XM Γ) (alM Γ) Γ.2.2.2 σ sz)) (wQi Γ.1 vwCl (tysC Γ) (XM Γ) (alM Γ) r σ' sz) 0 0 (wA (alM Γ) sz)) (hrec2 : ∀ (σ : Sm) (r : Int32) (σ' : Sm), rec 2 σ = some (r, σ') → ∀ (sz : Nat), Met l yX9_not (wz yX9_not cX9_not 4 (some .int)) { frames := d + 5, cells := 0, slots := 0, locals := 40 * (d) + 160 } (va_Pc [.ref (Γ.2.2.1 (0))] (wPre Γ.1 vwCl (tysC Γ) (XM Γ) (alM Γ) Γ.2.2.2 σ sz)) (wQi Γ.1 vwCl (tysC Γ) (XM Γ) (alM Γ) r σ' sz) 0 0 (wA (alM Γ) sz)) (hrec3 : ∀ (σ : Sm) (r : Int32) (σ' : Sm), rec 3 σ = some (r, σ') → ∀ (sz : Nat), Met l yX9_added (wz yX9_added cX9_added 4 (some .int)) { frames := d + 5, cells := 0, slots := 0, locals := 40 * (d) + 160 } (va_Pc [.ref (Γ.2.2.1 (0))] (wPre Γ.1 vwCl (tysC Γ) (XM Γ) (alM Γ) Γ.2.2.2 σ sz)) (wQi Γ.1 vwCl (tysC Γ) (XM Γ) (alM Γ) r σ' sz) 0 0 (wA (alM Γ) sz)) (hrec4 : ∀ (σ : Sm) (r : Int32) (σ' : Sm), rec 4 σ = some (r, σ') → ∀ (sz : Nat), Met l yX9_term (wz yX9_term cX9_term 2 (some .int)) { frames := d + 5, cells := 0, slots := 0, locals := 40 * (d) + 160 } (va_Pc [.ref (Γ.2.2.1 (0))] (wPre Γ.1 vwCl (tysC Γ) (XM Γ) (alM Γ) Γ.2.2.2 σ sz)) (wQi Γ.1 vwCl (tysC Γ) (XM Γ) (alM Γ) r σ' sz) 0 0 (wA (alM Γ) sz)) (hrec5 : ∀ (σ : Sm) (r : Int32) (σ' : Sm), rec 5 σ = some (r, σ') → ∀ (sz : Nat), Met l yX9_atom (wz yX9_atom cX9_atom 2 (some .int)) { frames := d + 5, cells := 0, slots := 0, locals := 40 * (d) + 160 } (va_Pc [.ref (Γ.2.2.1 (0))] (wPre Γ.1 vwCl (tysC Γ) (XM Γ) (alM Γ) Γ.2.2.2 σ sz)) (wQi Γ.1 vwCl (tysC Γ) (XM Γ) (alM Γ) r σ' sz) 0 0 (wA (alM Γ) sz)) (σ : Sm) (r : Int32) (σ' : Sm) (hf : fb_X9_added rec σ = some (r, σ')) (sz : Nat) : Met l yX9_added (wz yX9_added cX9_added 4 (some .int)) { frames := d + 1 + 5, cells := 0, slots := 0, locals := 40 * (d + 1) + 160 } (va_Pc [.ref (Γ.2.2.1 (0))] (wPre Γ.1 vwCl (tysC Γ) (XM Γ) (alM Γ) Γ.2.2.2 σ sz)) (wQi Γ.1 vwCl (tysC Γ) (XM Γ) (alM Γ) r σ' sz) 0 0 (wA (alM Γ) sz) := by
  refine w_enter (cc := cX9_added) (maxL := 4) (ret := (some .int)) (by decide) rfl (Nat.le_of_ble_eq_true rfl) ?_
  intro p e s m below meth c ls hx hb hr hlocks hml hown hts hsz hP hK hkc hN hl
  subst hsz
  generalize hav : ([.ref (Γ.2.2.1 (0))] : List Value) = av at hl hts ⊢
  have hl : lv_has ls 4 [(0, .ref (Γ.2.2.1 (0)))] := by rw [← hav] at hl; exact hl
  have j5 : ∀ (n5 : Nat), ∀ (y1 : Int32) (τ : Sm) (H : Heap) (locs : List Loc) (ls : Array Slot) (hf : fb_X9_added_5 rec n5 y1 τ = some (r, σ')) (hP : va_P Γ.1 vwCl (XM Γ τ) H) (hS : va_S (wA (alM Γ) s.heap.size) s.heap H locs) (hl : lv_has ls 4 [(0, .ref (Γ.2.2.1 (0))), (1, .int y1)]), W p l e { frames := d + 1 + 5, cells := 0, slots := 0, locals := 40 * (d + 1) + 160 } s m av.toArray below meth c H locs 0 0 (MQ below (wQi Γ.1 vwCl (tysC Γ) (XM Γ) (alM Γ) r σ' s.heap.size) av.toArray s 0 0 (wA (alM Γ) s.heap.size)) (F0 m 5 ls []) := by
    intro n5
    induction n5 with
    | zero =>
      intro y1 τ H locs ls hf
      exact absurd hf (by intro h; cases h)
    | succ n5 ih5 =>
      have j39 : ∀ (y1 : Int32) (z0 : Int32) (τ : Sm) (H : Heap) (locs : List Loc) (ls : Array Slot) (hf : fb_X9_added_39 rec (fb_X9_added_5 rec n5) y1 z0 τ = some (r, σ')) (hP : va_P Γ.1 vwCl (XM Γ τ) H) (hS : va_S (wA (alM Γ) s.heap.size) s.heap H locs) (hl : lv_has ls 4 [(0, .ref (Γ.2.2.1 (0))), (1, .int y1)]), W p l e { frames := d + 1 + 5, cells := 0, slots := 0, locals := 40 * (d + 1) + 160 } s m av.toArray below meth c H locs 0 0 (MQ below (wQi Γ.1 vwCl (tysC Γ) (XM Γ) (alM Γ) r σ' s.heap.size) av.toArray s 0 0 (wA (alM Γ) s.heap.size)) (F0 m 39 ls [.int z0]) := by
        intro y1 z0 τ H locs ls hf hP hS hl
        unfold fb_X9_added_39 at hf
        refine lv_istore_n (lv' := [(2, .int z0), (0, .ref (Γ.2.2.1 (0))), (1, .int y1)]) hx hb dX9_added_39 rfl hl (by decide) rfl (fun ls hl => ?_)
        refine lv_aload_n hx hb dX9_added_40 rfl (lv_at hl 1 rfl) ?_
        obtain ⟨q10, h11, hf⟩ := w_ob hf
        refine w_cv (va_runV (As := []) (rest := []) ⟨hx, hb, hml, hown, hts⟩ (c_X9_next l Γ hG τ q10 h11 H.size) (cwV 0 hts (wzV K233 K230 K231 K232 K5) rfl rfl rfl (by decide +kernel) ⟨(by dsimp only; omega), (by dsimp only; omega)⟩) (w_preV hK hP hkc hN hS (gM_Model Γ τ) rfl) rfl rfl hl.1 rfl (lv_room (Nat.le_of_ble_eq_true rfl)) dX9_added_41 ⟨Nat.le_refl _, Nat.le_refl _⟩) hS (fun H locs hP hS => ?_)
        refine lv_aload_n hx hb dX9_added_44 rfl (lv_at hl 1 rfl) ?_
        obtain ⟨q12, h13, hf⟩ := w_ob hf
        refine w_ci (va_runV (As := []) (rest := []) ⟨hx, hb, hml, hown, hts⟩ (hrec4 q10 q12.1 q12.2 h13 H.size) (cwV 0 hts (wzV K298 K270 K271 K272 K5) rfl rfl rfl (by decide +kernel) ⟨(by dsimp only; omega), (by dsimp only; omega)⟩) (w_preV hK hP hkc hN hS (gM_Model Γ q10) rfl) rfl rfl hl.1 rfl (lv_room (Nat.le_of_ble_eq_true rfl)) dX9_added_45 ⟨Nat.le_refl _, Nat.le_refl _⟩) hS (fun H locs hP hS => ?_)
        refine lv_istore_n (lv' := [(3, .int q12.1), (2, .int z0), (0, .ref (Γ.2.2.1 (0))), (1, .int y1)]) hx hb dX9_added_48 rfl hl (by decide) rfl (fun ls hl => ?_)
        refine lv_iload_n hx hb dX9_added_49 rfl (lv_at hl 1 rfl) ?_
        refine lv_if_eq (tgt := 59) hx hb dX9_added_50 (by decide) (fun c14 => ?_) (fun c14 => ?_)
        · replace hf := (if_pos c14).symm.trans hf
          refine lv_iload_n hx hb dX9_added_59 rfl (lv_at hl 3 rfl) ?_
          refine lv_iload_n hx hb dX9_added_60 rfl (lv_at hl 0 rfl) ?_
          refine lv_isub hx hb dX9_added_61 ?_
          refine lv_istore_n (lv' := [(1, .int (y1 - q12.1)), (3, .int q12.1), (2, .int z0), (0, .ref (Γ.2.2.1 (0)))]) hx hb dX9_added_62 rfl hl (by decide) rfl (fun ls hl => ?_)
          refine lv_goto (tgt := 5) hx hb dX9_added_63 (by decide) ?_
          exact ih5 ((y1 - q12.1)) q12.2 H locs ls hf hP hS (lv_sub hl [3, 0] rfl)
        · replace hf := (if_neg c14).symm.trans hf
          refine lv_iload_n hx hb dX9_added_53 rfl (lv_at hl 3 rfl) ?_
          refine lv_iload_n hx hb dX9_added_54 rfl (lv_at hl 0 rfl) ?_
          refine lv_iadd hx hb dX9_added_55 ?_
          refine lv_goto (tgt := 62) hx hb dX9_added_56 (by decide) ?_
          refine lv_istore_n (lv' := [(1, .int (y1 + q12.1)), (3, .int q12.1), (2, .int z0), (0, .ref (Γ.2.2.1 (0)))]) hx hb dX9_added_62 rfl hl (by decide) rfl (fun ls hl => ?_)
          refine lv_goto (tgt := 5) hx hb dX9_added_63 (by decide) ?_
          exact ih5 ((y1 + q12.1)) q12.2 H locs ls hf hP hS (lv_sub hl [3, 0] rfl)
      have j23 : ∀ (y1 : Int32) (τ : Sm) (H : Heap) (locs : List Loc) (ls : Array Slot) (hf : fb_X9_added_23 rec (fb_X9_added_5 rec n5) y1 τ = some (r, σ')) (hP : va_P Γ.1 vwCl (XM Γ τ) H) (hS : va_S (wA (alM Γ) s.heap.size) s.heap H locs) (hl : lv_has ls 4 [(0, .ref (Γ.2.2.1 (0))), (1, .int y1)]), W p l e { frames := d + 1 + 5, cells := 0, slots := 0, locals := 40 * (d + 1) + 160 } s m av.toArray below meth c H locs 0 0 (MQ below (wQi Γ.1 vwCl (tysC Γ) (XM Γ) (alM Γ) r σ' s.heap.size) av.toArray s 0 0 (wA (alM Γ) s.heap.size)) (F0 m 23 ls []) := by
        intro y1 τ H locs ls hf hP hS hl
        unfold fb_X9_added_23 at hf
        refine lv_aload_n hx hb dX9_added_23 rfl (lv_at hl 0 rfl) ?_
        refine va_get (D := Γ.1) (ci := 8) (v := .long (τ.2 (24) 0)) (C := RX9) (T := TX9) (N := 44) hx hb hts iX9 hown hK hP (0) (gM_Model Γ τ) rfl 24 (by decide) (hts (.fieldLink RX9 163 "OtherHalfOfNightModel" "tokenWorth" "J") (wzm K239)) (fun _ h9 => h9) rfl dX9_added_24 ?_
        refine lv_ldc2 (v := (43 : Int64)) hx hb hown (hts (.constantLong RX9 228 (43)) (wzm K269)) dX9_added_27 ?_
        refine W.lcmp hx hb dX9_added_30 ?_
        refine lv_if_ne (tgt := 38) hx hb dX9_added_31 (by decide) (fun c9 => ?_) (fun c9 => ?_)
        · replace hf := (if_neg c9).symm.trans hf
          refine lv_iconst (v := (0 : Int32)) hx hb dX9_added_38 (by decide) ?_
          exact j39 (y1) ((0 : Int32)) τ H locs ls hf hP hS (lv_sub hl [0, 1] rfl)
        · replace hf := (if_pos c9).symm.trans hf
          refine lv_iconst (v := (1 : Int32)) hx hb dX9_added_34 (by decide) ?_
          refine lv_goto (tgt := 39) hx hb dX9_added_35 (by decide) ?_
          exact j39 (y1) ((1 : Int32)) τ H locs ls hf hP hS (lv_sub hl [0, 1] rfl)
      intro y1 τ H locs ls hf hP hS hl
      unfold fb_X9_added_5 at hf
      refine lv_aload_n hx hb dX9_added_5 rfl (lv_at hl 0 rfl) ?_
      refine lv_bipush (v := (43 : Int32)) hx hb dX9_added_6 (by decide) ?_
      obtain ⟨q3, h4, hf⟩ := w_ob hf
      refine w_ci (va_runV (As := [.int (43 : Int32)]) (rest := []) ⟨hx, hb, hml, hown, hts⟩ (c_X9_isSign l Γ hG (43 : Int32) τ q3.1 q3.2 h4 H.size) (cwV 1 hts (wzV K276 K273 K274 K275 K5) rfl rfl rfl (by decide +kernel) ⟨(by dsimp only; omega), (by dsimp only; omega)⟩) (w_preV hK hP hkc hN hS (gM_Model Γ τ) rfl) rfl rfl hl.1 rfl (lv_room (Nat.le_of_ble_eq_true rfl)) dX9_added_8 ⟨Nat.le_refl _, Nat.le_refl _⟩) hS (fun H locs hP hS => ?_)
      refine lv_if_ne (tgt := 23) hx hb dX9_added_11 (by decide) (fun c5 => ?_) (fun c5 => ?_)
      · replace hf := (if_neg c5).symm.trans hf
        exact j23 (y1) q3.2 H locs ls hf hP hS (lv_sub hl [0, 1] rfl)
      · replace hf := (if_pos c5).symm.trans hf
        refine lv_aload_n hx hb dX9_added_14 rfl (lv_at hl 0 rfl) ?_
        refine lv_bipush (v := (45 : Int32)) hx hb dX9_added_15 (by decide) ?_
        obtain ⟨q6, h7, hf⟩ := w_ob hf
        refine w_ci (va_runV (As := [.int (45 : Int32)]) (rest := []) ⟨hx, hb, hml, hown, hts⟩ (c_X9_isSign l Γ hG (45 : Int32) q3.2 q6.1 q6.2 h7 H.size) (cwV 1 hts (wzV K276 K273 K274 K275 K5) rfl rfl rfl (by decide +kernel) ⟨(by dsimp only; omega), (by dsimp only; omega)⟩) (w_preV hK hP hkc hN hS (gM_Model Γ q3.2) rfl) rfl rfl hl.1 rfl (lv_room (Nat.le_of_ble_eq_true rfl)) dX9_added_17 ⟨Nat.le_refl _, Nat.le_refl _⟩) hS (fun H locs hP hS => ?_)
        refine lv_if_eq (tgt := 66) hx hb dX9_added_20 (by decide) (fun c8 => ?_) (fun c8 => ?_)
        · replace hf := (if_pos c8).symm.trans hf
          refine lv_iload_n hx hb dX9_added_66 rfl (lv_at hl 1 rfl) ?_
          exact w_iret (X := XM Γ) hx hb hr hlocks hK hP hS rfl hf dX9_added_67
        · replace hf := (if_neg c8).symm.trans hf
          exact j23 (y1) q6.2 H locs ls hf hP hS (lv_sub hl [0, 1] rfl)
  suffices hw : ∀ (H : Heap) (locs : List Loc), va_P Γ.1 vwCl (XM Γ σ) H → va_S (wA (alM Γ) s.heap.size) s.heap H locs → W p l e { frames := d + 1 + 5, cells := 0, slots := 0, locals := 40 * (d + 1) + 160 } s m av.toArray below meth c H locs 0 0 (MQ below (wQi Γ.1 vwCl (tysC Γ) (XM Γ) (alM Γ) r σ' s.heap.size) av.toArray s 0 0 (wA (alM Γ) s.heap.size)) (F0 m 0 ls []) from hw _ [] hP va_S.rf
  clear hP
  intro H locs hP hS
  unfold fb_X9_added at hf
  refine lv_aload_n hx hb dX9_added_0 rfl (lv_at hl 0 rfl) ?_
  obtain ⟨q1, h2, hf⟩ := w_ob hf
  refine w_ci (va_runV (As := []) (rest := []) ⟨hx, hb, hml, hown, hts⟩ (hrec4 σ q1.1 q1.2 h2 H.size) (cwV 0 hts (wzV K298 K270 K271 K272 K5) rfl rfl rfl (by decide +kernel) ⟨(by dsimp only; omega), (by dsimp only; omega)⟩) (w_preV hK hP hkc hN hS (gM_Model Γ σ) rfl) rfl rfl hl.1 rfl (lv_room (Nat.le_of_ble_eq_true rfl)) dX9_added_1 ⟨Nat.le_refl _, Nat.le_refl _⟩) hS (fun H locs hP hS => ?_)
  refine lv_istore_n (lv' := [(1, .int q1.1), (0, .ref (Γ.2.2.1 (0)))]) hx hb dX9_added_4 rfl hl (by decide) rfl (fun ls hl => ?_)
  exact j5 5000 (q1.1) q1.2 H locs ls hf hP hS (lv_sub hl [1, 0] rfl)
def fb_X9_term_5 (rec : Nat → Sm → Option (Int32 × Sm)) : Nat → Int32 → Sm → Option (Int32 × Sm)
  | 0, _, _ => none
  | n + 1, y1, τ => (f_X9_isSign (42 : Int32) τ).bind fun (q3 : Int32 × Sm) => if q3.1 = 0 then some (y1, q3.2) else (f_X9_next q3.2).bind fun (q6 : Sm) => (rec 5 q6).bind fun (q8 : Int32 × Sm) => (fb_X9_term_5 rec n) ((y1 * q8.1)) q8.2
def fb_X9_term (rec : Nat → Sm → Option (Int32 × Sm)) (σ : Sm) : Option (Int32 × Sm) := (rec 5 σ).bind fun (q1 : Int32 × Sm) => fb_X9_term_5 rec 5000 (q1.1) q1.2
set_option maxHeartbeats 40000000 in
set_option maxRecDepth 100000 in
theorem cb_X9_term (l : Launch) (Γ : Geo) (hG : okM Γ) (rec : Nat → Sm → Option (Int32 × Sm)) (d : Nat) (hrec0 : ∀ (σ : Sm) (r : Int32) (σ' : Sm), rec 0 σ = some (r, σ') → ∀ (sz : Nat), Met l yX9_either (wz yX9_either cX9_either 3 (some .int)) { frames := d + 5, cells := 0, slots := 0, locals := 40 * (d) + 160 } (va_Pc [.ref (Γ.2.2.1 (0))] (wPre Γ.1 vwCl (tysC Γ) (XM Γ) (alM Γ) Γ.2.2.2 σ sz)) (wQi Γ.1 vwCl (tysC Γ) (XM Γ) (alM Γ) r σ' sz) 0 0 (wA (alM Γ) sz)) (hrec1 : ∀ (σ : Sm) (r : Int32) (σ' : Sm), rec 1 σ = some (r, σ') → ∀ (sz : Nat), Met l yX9_both (wz yX9_both cX9_both 3 (some .int)) { frames := d + 5, cells := 0, slots := 0, locals := 40 * (d) + 160 } (va_Pc [.ref (Γ.2.2.1 (0))] (wPre Γ.1 vwCl (tysC Γ) (XM Γ) (alM Γ) Γ.2.2.2 σ sz)) (wQi Γ.1 vwCl (tysC Γ) (XM Γ) (alM Γ) r σ' sz) 0 0 (wA (alM Γ) sz)) (hrec2 : ∀ (σ : Sm) (r : Int32) (σ' : Sm), rec 2 σ = some (r, σ') → ∀ (sz : Nat), Met l yX9_not (wz yX9_not cX9_not 4 (some .int)) { frames := d + 5, cells := 0, slots := 0, locals := 40 * (d) + 160 } (va_Pc [.ref (Γ.2.2.1 (0))] (wPre Γ.1 vwCl (tysC Γ) (XM Γ) (alM Γ) Γ.2.2.2 σ sz)) (wQi Γ.1 vwCl (tysC Γ) (XM Γ) (alM Γ) r σ' sz) 0 0 (wA (alM Γ) sz)) (hrec3 : ∀ (σ : Sm) (r : Int32) (σ' : Sm), rec 3 σ = some (r, σ') → ∀ (sz : Nat), Met l yX9_added (wz yX9_added cX9_added 4 (some .int)) { frames := d + 5, cells := 0, slots := 0, locals := 40 * (d) + 160 } (va_Pc [.ref (Γ.2.2.1 (0))] (wPre Γ.1 vwCl (tysC Γ) (XM Γ) (alM Γ) Γ.2.2.2 σ sz)) (wQi Γ.1 vwCl (tysC Γ) (XM Γ) (alM Γ) r σ' sz) 0 0 (wA (alM Γ) sz)) (hrec4 : ∀ (σ : Sm) (r : Int32) (σ' : Sm), rec 4 σ = some (r, σ') → ∀ (sz : Nat), Met l yX9_term (wz yX9_term cX9_term 2 (some .int)) { frames := d + 5, cells := 0, slots := 0, locals := 40 * (d) + 160 } (va_Pc [.ref (Γ.2.2.1 (0))] (wPre Γ.1 vwCl (tysC Γ) (XM Γ) (alM Γ) Γ.2.2.2 σ sz)) (wQi Γ.1 vwCl (tysC Γ) (XM Γ) (alM Γ) r σ' sz) 0 0 (wA (alM Γ) sz)) (hrec5 : ∀ (σ : Sm) (r : Int32) (σ' : Sm), rec 5 σ = some (r, σ') → ∀ (sz : Nat), Met l yX9_atom (wz yX9_atom cX9_atom 2 (some .int)) { frames := d + 5, cells := 0, slots := 0, locals := 40 * (d) + 160 } (va_Pc [.ref (Γ.2.2.1 (0))] (wPre Γ.1 vwCl (tysC Γ) (XM Γ) (alM Γ) Γ.2.2.2 σ sz)) (wQi Γ.1 vwCl (tysC Γ) (XM Γ) (alM Γ) r σ' sz) 0 0 (wA (alM Γ) sz)) (σ : Sm) (r : Int32) (σ' : Sm) (hf : fb_X9_term rec σ = some (r, σ')) (sz : Nat) : Met l yX9_term (wz yX9_term cX9_term 2 (some .int)) { frames := d + 1 + 5, cells := 0, slots := 0, locals := 40 * (d + 1) + 160 } (va_Pc [.ref (Γ.2.2.1 (0))] (wPre Γ.1 vwCl (tysC Γ) (XM Γ) (alM Γ) Γ.2.2.2 σ sz)) (wQi Γ.1 vwCl (tysC Γ) (XM Γ) (alM Γ) r σ' sz) 0 0 (wA (alM Γ) sz) := by
  refine w_enter (cc := cX9_term) (maxL := 2) (ret := (some .int)) (by decide) rfl (Nat.le_of_ble_eq_true rfl) ?_
  intro p e s m below meth c ls hx hb hr hlocks hml hown hts hsz hP hK hkc hN hl
  subst hsz
  generalize hav : ([.ref (Γ.2.2.1 (0))] : List Value) = av at hl hts ⊢
  have hl : lv_has ls 2 [(0, .ref (Γ.2.2.1 (0)))] := by rw [← hav] at hl; exact hl
  have j5 : ∀ (n5 : Nat), ∀ (y1 : Int32) (τ : Sm) (H : Heap) (locs : List Loc) (ls : Array Slot) (hf : fb_X9_term_5 rec n5 y1 τ = some (r, σ')) (hP : va_P Γ.1 vwCl (XM Γ τ) H) (hS : va_S (wA (alM Γ) s.heap.size) s.heap H locs) (hl : lv_has ls 2 [(0, .ref (Γ.2.2.1 (0))), (1, .int y1)]), W p l e { frames := d + 1 + 5, cells := 0, slots := 0, locals := 40 * (d + 1) + 160 } s m av.toArray below meth c H locs 0 0 (MQ below (wQi Γ.1 vwCl (tysC Γ) (XM Γ) (alM Γ) r σ' s.heap.size) av.toArray s 0 0 (wA (alM Γ) s.heap.size)) (F0 m 5 ls []) := by
    intro n5
    induction n5 with
    | zero =>
      intro y1 τ H locs ls hf
      exact absurd hf (by intro h; cases h)
    | succ n5 ih5 =>
      intro y1 τ H locs ls hf hP hS hl
      unfold fb_X9_term_5 at hf
      refine lv_aload_n hx hb dX9_term_5 rfl (lv_at hl 0 rfl) ?_
      refine lv_bipush (v := (42 : Int32)) hx hb dX9_term_6 (by decide) ?_
      obtain ⟨q3, h4, hf⟩ := w_ob hf
      refine w_ci (va_runV (As := [.int (42 : Int32)]) (rest := []) ⟨hx, hb, hml, hown, hts⟩ (c_X9_isSign l Γ hG (42 : Int32) τ q3.1 q3.2 h4 H.size) (cwV 1 hts (wzV K276 K273 K274 K275 K5) rfl rfl rfl (by decide +kernel) ⟨(by dsimp only; omega), (by dsimp only; omega)⟩) (w_preV hK hP hkc hN hS (gM_Model Γ τ) rfl) rfl rfl hl.1 rfl (lv_room (Nat.le_of_ble_eq_true rfl)) dX9_term_8 ⟨Nat.le_refl _, Nat.le_refl _⟩) hS (fun H locs hP hS => ?_)
      refine lv_if_eq (tgt := 28) hx hb dX9_term_11 (by decide) (fun c5 => ?_) (fun c5 => ?_)
      · replace hf := (if_pos c5).symm.trans hf
        refine lv_iload_n hx hb dX9_term_28 rfl (lv_at hl 1 rfl) ?_
        exact w_iret (X := XM Γ) hx hb hr hlocks hK hP hS rfl hf dX9_term_29
      · replace hf := (if_neg c5).symm.trans hf
        refine lv_aload_n hx hb dX9_term_14 rfl (lv_at hl 0 rfl) ?_
        obtain ⟨q6, h7, hf⟩ := w_ob hf
        refine w_cv (va_runV (As := []) (rest := []) ⟨hx, hb, hml, hown, hts⟩ (c_X9_next l Γ hG q3.2 q6 h7 H.size) (cwV 0 hts (wzV K233 K230 K231 K232 K5) rfl rfl rfl (by decide +kernel) ⟨(by dsimp only; omega), (by dsimp only; omega)⟩) (w_preV hK hP hkc hN hS (gM_Model Γ q3.2) rfl) rfl rfl hl.1 rfl (lv_room (Nat.le_of_ble_eq_true rfl)) dX9_term_15 ⟨Nat.le_refl _, Nat.le_refl _⟩) hS (fun H locs hP hS => ?_)
        refine lv_iload_n hx hb dX9_term_18 rfl (lv_at hl 1 rfl) ?_
        refine lv_aload_n hx hb dX9_term_19 rfl (lv_at hl 0 rfl) ?_
        obtain ⟨q8, h9, hf⟩ := w_ob hf
        refine w_ci (va_runV (As := []) (rest := [.int y1]) ⟨hx, hb, hml, hown, hts⟩ (hrec5 q6 q8.1 q8.2 h9 H.size) (cwV 0 hts (wzV K277 K282 K283 K284 K5) rfl rfl rfl (by decide +kernel) ⟨(by dsimp only; omega), (by dsimp only; omega)⟩) (w_preV hK hP hkc hN hS (gM_Model Γ q6) rfl) rfl rfl hl.1 rfl (lv_room (Nat.le_of_ble_eq_true rfl)) dX9_term_20 ⟨Nat.le_refl _, Nat.le_refl _⟩) hS (fun H locs hP hS => ?_)
        refine lv_imul hx hb dX9_term_23 ?_
        refine lv_istore_n (lv' := [(1, .int (y1 * q8.1)), (0, .ref (Γ.2.2.1 (0)))]) hx hb dX9_term_24 rfl hl (by decide) rfl (fun ls hl => ?_)
        refine lv_goto (tgt := 5) hx hb dX9_term_25 (by decide) ?_
        exact ih5 ((y1 * q8.1)) q8.2 H locs ls hf hP hS (lv_sub hl [1, 0] rfl)
  suffices hw : ∀ (H : Heap) (locs : List Loc), va_P Γ.1 vwCl (XM Γ σ) H → va_S (wA (alM Γ) s.heap.size) s.heap H locs → W p l e { frames := d + 1 + 5, cells := 0, slots := 0, locals := 40 * (d + 1) + 160 } s m av.toArray below meth c H locs 0 0 (MQ below (wQi Γ.1 vwCl (tysC Γ) (XM Γ) (alM Γ) r σ' s.heap.size) av.toArray s 0 0 (wA (alM Γ) s.heap.size)) (F0 m 0 ls []) from hw _ [] hP va_S.rf
  clear hP
  intro H locs hP hS
  unfold fb_X9_term at hf
  refine lv_aload_n hx hb dX9_term_0 rfl (lv_at hl 0 rfl) ?_
  obtain ⟨q1, h2, hf⟩ := w_ob hf
  refine w_ci (va_runV (As := []) (rest := []) ⟨hx, hb, hml, hown, hts⟩ (hrec5 σ q1.1 q1.2 h2 H.size) (cwV 0 hts (wzV K277 K282 K283 K284 K5) rfl rfl rfl (by decide +kernel) ⟨(by dsimp only; omega), (by dsimp only; omega)⟩) (w_preV hK hP hkc hN hS (gM_Model Γ σ) rfl) rfl rfl hl.1 rfl (lv_room (Nat.le_of_ble_eq_true rfl)) dX9_term_1 ⟨Nat.le_refl _, Nat.le_refl _⟩) hS (fun H locs hP hS => ?_)
  refine lv_istore_n (lv' := [(1, .int q1.1), (0, .ref (Γ.2.2.1 (0)))]) hx hb dX9_term_4 rfl hl (by decide) rfl (fun ls hl => ?_)
  exact j5 5000 (q1.1) q1.2 H locs ls hf hP hS (lv_sub hl [1, 0] rfl)
def fb_X9_atom_123 (rec : Nat → Sm → Option (Int32 × Sm)) (y1 : Int32) (τ : Sm) : Option (Int32 × Sm) := if (τ.1 (26) 0) = 0 then if (τ.1 (22) 0) = (1 : Int32) then (f_X9_name τ).bind fun (q32 : Int32 × Sm) => if (q32.2.1 (26) 0) = 0 then (f_X9_next q32.2).bind fun (q35 : Sm) => some (q32.1, q35) else some (q32.1, q32.2) else (f_X9_fail τ).bind fun (q30 : Sm) => some (y1, q30) else (f_X9_fail τ).bind fun (q27 : Sm) => some (y1, q27)
def fb_X9_atom_71 (rec : Nat → Sm → Option (Int32 × Sm)) (y1 : Int32) (τ : Sm) : Option (Int32 × Sm) := if ((upm τ (25) 0 ((τ.1 (25) 0) - (1 : Int32))).1 (26) 0) = 0 then (f_X9_next (upm τ (25) 0 ((τ.1 (25) 0) - (1 : Int32)))).bind fun (q38 : Sm) => some (y1, q38) else some (y1, (upm τ (25) 0 ((τ.1 (25) 0) - (1 : Int32))))
def fb_X9_atom (rec : Nat → Sm → Option (Int32 × Sm)) (σ : Sm) : Option (Int32 × Sm) := (f_X9_isSign (45 : Int32) σ).bind fun (q1 : Int32 × Sm) => if q1.1 = 0 then (f_X9_isSign (40 : Int32) q1.2).bind fun (q4 : Int32 × Sm) => if q4.1 = 0 then if (q4.2.1 (26) 0) = 0 then if (q4.2.1 (22) 0) = (2 : Int32) then (f_X9_next q4.2).bind fun (q9 : Sm) => some ((((q4.2.2 (24) 0)).toInt32), q9) else fb_X9_atom_123 rec ((0 : Int32)) q4.2 else fb_X9_atom_123 rec ((0 : Int32)) q4.2 else (f_X9_opens q4.2).bind fun (q11 : Int32 × Sm) => if q11.1 = 0 then some ((0 : Int32), q11.2) else (rec 0 q11.2).bind fun (q14 : Int32 × Sm) => (f_X9_isSign (41 : Int32) q14.2).bind fun (q16 : Int32 × Sm) => if q16.1 = 0 then (f_X9_fail q16.2).bind fun (q19 : Sm) => fb_X9_atom_71 rec (q14.1) q19 else fb_X9_atom_71 rec (q14.1) q16.2 else (f_X9_opens q1.2).bind fun (q21 : Int32 × Sm) => if q21.1 = 0 then some ((0 : Int32), q21.2) else (rec 5 q21.2).bind fun (q24 : Int32 × Sm) => some ((-q24.1), (upm q24.2 (25) 0 ((q24.2.1 (25) 0) - (1 : Int32))))
set_option maxHeartbeats 40000000 in
set_option maxRecDepth 100000 in
theorem cb_X9_atom (l : Launch) (Γ : Geo) (hG : okM Γ) (rec : Nat → Sm → Option (Int32 × Sm)) (d : Nat) (hrec0 : ∀ (σ : Sm) (r : Int32) (σ' : Sm), rec 0 σ = some (r, σ') → ∀ (sz : Nat), Met l yX9_either (wz yX9_either cX9_either 3 (some .int)) { frames := d + 5, cells := 0, slots := 0, locals := 40 * (d) + 160 } (va_Pc [.ref (Γ.2.2.1 (0))] (wPre Γ.1 vwCl (tysC Γ) (XM Γ) (alM Γ) Γ.2.2.2 σ sz)) (wQi Γ.1 vwCl (tysC Γ) (XM Γ) (alM Γ) r σ' sz) 0 0 (wA (alM Γ) sz)) (hrec1 : ∀ (σ : Sm) (r : Int32) (σ' : Sm), rec 1 σ = some (r, σ') → ∀ (sz : Nat), Met l yX9_both (wz yX9_both cX9_both 3 (some .int)) { frames := d + 5, cells := 0, slots := 0, locals := 40 * (d) + 160 } (va_Pc [.ref (Γ.2.2.1 (0))] (wPre Γ.1 vwCl (tysC Γ) (XM Γ) (alM Γ) Γ.2.2.2 σ sz)) (wQi Γ.1 vwCl (tysC Γ) (XM Γ) (alM Γ) r σ' sz) 0 0 (wA (alM Γ) sz)) (hrec2 : ∀ (σ : Sm) (r : Int32) (σ' : Sm), rec 2 σ = some (r, σ') → ∀ (sz : Nat), Met l yX9_not (wz yX9_not cX9_not 4 (some .int)) { frames := d + 5, cells := 0, slots := 0, locals := 40 * (d) + 160 } (va_Pc [.ref (Γ.2.2.1 (0))] (wPre Γ.1 vwCl (tysC Γ) (XM Γ) (alM Γ) Γ.2.2.2 σ sz)) (wQi Γ.1 vwCl (tysC Γ) (XM Γ) (alM Γ) r σ' sz) 0 0 (wA (alM Γ) sz)) (hrec3 : ∀ (σ : Sm) (r : Int32) (σ' : Sm), rec 3 σ = some (r, σ') → ∀ (sz : Nat), Met l yX9_added (wz yX9_added cX9_added 4 (some .int)) { frames := d + 5, cells := 0, slots := 0, locals := 40 * (d) + 160 } (va_Pc [.ref (Γ.2.2.1 (0))] (wPre Γ.1 vwCl (tysC Γ) (XM Γ) (alM Γ) Γ.2.2.2 σ sz)) (wQi Γ.1 vwCl (tysC Γ) (XM Γ) (alM Γ) r σ' sz) 0 0 (wA (alM Γ) sz)) (hrec4 : ∀ (σ : Sm) (r : Int32) (σ' : Sm), rec 4 σ = some (r, σ') → ∀ (sz : Nat), Met l yX9_term (wz yX9_term cX9_term 2 (some .int)) { frames := d + 5, cells := 0, slots := 0, locals := 40 * (d) + 160 } (va_Pc [.ref (Γ.2.2.1 (0))] (wPre Γ.1 vwCl (tysC Γ) (XM Γ) (alM Γ) Γ.2.2.2 σ sz)) (wQi Γ.1 vwCl (tysC Γ) (XM Γ) (alM Γ) r σ' sz) 0 0 (wA (alM Γ) sz)) (hrec5 : ∀ (σ : Sm) (r : Int32) (σ' : Sm), rec 5 σ = some (r, σ') → ∀ (sz : Nat), Met l yX9_atom (wz yX9_atom cX9_atom 2 (some .int)) { frames := d + 5, cells := 0, slots := 0, locals := 40 * (d) + 160 } (va_Pc [.ref (Γ.2.2.1 (0))] (wPre Γ.1 vwCl (tysC Γ) (XM Γ) (alM Γ) Γ.2.2.2 σ sz)) (wQi Γ.1 vwCl (tysC Γ) (XM Γ) (alM Γ) r σ' sz) 0 0 (wA (alM Γ) sz)) (σ : Sm) (r : Int32) (σ' : Sm) (hf : fb_X9_atom rec σ = some (r, σ')) (sz : Nat) : Met l yX9_atom (wz yX9_atom cX9_atom 2 (some .int)) { frames := d + 1 + 5, cells := 0, slots := 0, locals := 40 * (d + 1) + 160 } (va_Pc [.ref (Γ.2.2.1 (0))] (wPre Γ.1 vwCl (tysC Γ) (XM Γ) (alM Γ) Γ.2.2.2 σ sz)) (wQi Γ.1 vwCl (tysC Γ) (XM Γ) (alM Γ) r σ' sz) 0 0 (wA (alM Γ) sz) := by
  refine w_enter (cc := cX9_atom) (maxL := 2) (ret := (some .int)) (by decide) rfl (Nat.le_of_ble_eq_true rfl) ?_
  intro p e s m below meth c ls hx hb hr hlocks hml hown hts hsz hP hK hkc hN hl
  subst hsz
  generalize hav : ([.ref (Γ.2.2.1 (0))] : List Value) = av at hl hts ⊢
  have hl : lv_has ls 2 [(0, .ref (Γ.2.2.1 (0)))] := by rw [← hav] at hl; exact hl
  have j123 : ∀ (y1 : Int32) (τ : Sm) (H : Heap) (locs : List Loc) (ls : Array Slot) (hf : fb_X9_atom_123 rec y1 τ = some (r, σ')) (hP : va_P Γ.1 vwCl (XM Γ τ) H) (hS : va_S (wA (alM Γ) s.heap.size) s.heap H locs) (hl : lv_has ls 2 [(0, .ref (Γ.2.2.1 (0))), (1, .int y1)]), W p l e { frames := d + 1 + 5, cells := 0, slots := 0, locals := 40 * (d + 1) + 160 } s m av.toArray below meth c H locs 0 0 (MQ below (wQi Γ.1 vwCl (tysC Γ) (XM Γ) (alM Γ) r σ' s.heap.size) av.toArray s 0 0 (wA (alM Γ) s.heap.size)) (F0 m 123 ls []) := by
    intro y1 τ H locs ls hf hP hS hl
    unfold fb_X9_atom_123 at hf
    refine lv_aload_n hx hb dX9_atom_123 rfl (lv_at hl 0 rfl) ?_
    refine va_get (D := Γ.1) (ci := 8) (v := .int (τ.1 (26) 0)) (C := RX9) (T := TX9) (N := 44) hx hb hts iX9 hown hK hP (0) (gM_Model Γ τ) rfl 26 (by decide) (hts (.fieldLink RX9 167 "OtherHalfOfNightModel" "bad" "Z") (wzm K228)) (fun _ h9 => h9) rfl dX9_atom_124 ?_
    refine lv_if_ne (tgt := 157) hx hb dX9_atom_127 (by decide) (fun c26 => ?_) (fun c26 => ?_)
    · replace hf := (if_neg c26).symm.trans hf
      refine lv_aload_n hx hb dX9_atom_157 rfl (lv_at hl 0 rfl) ?_
      obtain ⟨q27, h28, hf⟩ := w_ob hf
      refine w_cv (va_runV (As := []) (rest := []) ⟨hx, hb, hml, hown, hts⟩ (c_X9_fail l Γ hG τ q27 h28 H.size) (cwV 0 hts (wzV K259 K256 K257 K258 K5) rfl rfl rfl (by decide +kernel) ⟨(by dsimp only; omega), (by dsimp only; omega)⟩) (w_preV hK hP hkc hN hS (gM_Model Γ τ) rfl) rfl rfl hl.1 rfl (lv_room (Nat.le_of_ble_eq_true rfl)) dX9_atom_158 ⟨Nat.le_refl _, Nat.le_refl _⟩) hS (fun H locs hP hS => ?_)
      refine lv_iload_n hx hb dX9_atom_161 rfl (lv_at hl 1 rfl) ?_
      exact w_iret (X := XM Γ) hx hb hr hlocks hK hP hS rfl hf dX9_atom_162
    · replace hf := (if_pos c26).symm.trans hf
      refine lv_aload_n hx hb dX9_atom_130 rfl (lv_at hl 0 rfl) ?_
      refine va_get (D := Γ.1) (ci := 8) (v := .int (τ.1 (22) 0)) (C := RX9) (T := TX9) (N := 44) hx hb hts iX9 hown hK hP (0) (gM_Model Γ τ) rfl 22 (by decide) (hts (.fieldLink RX9 152 "OtherHalfOfNightModel" "token" "I") (wzm K229)) (fun _ h9 => h9) rfl dX9_atom_131 ?_
      refine lv_iconst (v := (1 : Int32)) hx hb dX9_atom_134 (by decide) ?_
      refine lv_icmp_ne (tgt := 157) hx hb dX9_atom_135 (by decide) (fun c29 => ?_) (fun c29 => ?_)
      · replace hf := (if_neg c29).symm.trans hf
        refine lv_aload_n hx hb dX9_atom_157 rfl (lv_at hl 0 rfl) ?_
        obtain ⟨q30, h31, hf⟩ := w_ob hf
        refine w_cv (va_runV (As := []) (rest := []) ⟨hx, hb, hml, hown, hts⟩ (c_X9_fail l Γ hG τ q30 h31 H.size) (cwV 0 hts (wzV K259 K256 K257 K258 K5) rfl rfl rfl (by decide +kernel) ⟨(by dsimp only; omega), (by dsimp only; omega)⟩) (w_preV hK hP hkc hN hS (gM_Model Γ τ) rfl) rfl rfl hl.1 rfl (lv_room (Nat.le_of_ble_eq_true rfl)) dX9_atom_158 ⟨Nat.le_refl _, Nat.le_refl _⟩) hS (fun H locs hP hS => ?_)
        refine lv_iload_n hx hb dX9_atom_161 rfl (lv_at hl 1 rfl) ?_
        exact w_iret (X := XM Γ) hx hb hr hlocks hK hP hS rfl hf dX9_atom_162
      · replace hf := (if_pos c29).symm.trans hf
        refine lv_aload_n hx hb dX9_atom_138 rfl (lv_at hl 0 rfl) ?_
        obtain ⟨q32, h33, hf⟩ := w_ob hf
        refine w_ci (va_runV (As := []) (rest := []) ⟨hx, hb, hml, hown, hts⟩ (c_X9_name l Γ hG τ q32.1 q32.2 h33 H.size) (cwV 0 hts (wzV K288 K285 K286 K287 K5) rfl rfl rfl (by decide +kernel) ⟨(by dsimp only; omega), (by dsimp only; omega)⟩) (w_preV hK hP hkc hN hS (gM_Model Γ τ) rfl) rfl rfl hl.1 rfl (lv_room (Nat.le_of_ble_eq_true rfl)) dX9_atom_139 ⟨Nat.le_refl _, Nat.le_refl _⟩) hS (fun H locs hP hS => ?_)
        refine lv_istore_n (lv' := [(1, .int q32.1), (0, .ref (Γ.2.2.1 (0)))]) hx hb dX9_atom_142 rfl hl (by decide) rfl (fun ls hl => ?_)
        refine lv_aload_n hx hb dX9_atom_143 rfl (lv_at hl 1 rfl) ?_
        refine va_get (D := Γ.1) (ci := 8) (v := .int (q32.2.1 (26) 0)) (C := RX9) (T := TX9) (N := 44) hx hb hts iX9 hown hK hP (0) (gM_Model Γ q32.2) rfl 26 (by decide) (hts (.fieldLink RX9 167 "OtherHalfOfNightModel" "bad" "Z") (wzm K228)) (fun _ h9 => h9) rfl dX9_atom_144 ?_
        refine lv_if_ne (tgt := 161) hx hb dX9_atom_147 (by decide) (fun c34 => ?_) (fun c34 => ?_)
        · replace hf := (if_neg c34).symm.trans hf
          refine lv_iload_n hx hb dX9_atom_161 rfl (lv_at hl 0 rfl) ?_
          exact w_iret (X := XM Γ) hx hb hr hlocks hK hP hS rfl hf dX9_atom_162
        · replace hf := (if_pos c34).symm.trans hf
          refine lv_aload_n hx hb dX9_atom_150 rfl (lv_at hl 1 rfl) ?_
          obtain ⟨q35, h36, hf⟩ := w_ob hf
          refine w_cv (va_runV (As := []) (rest := []) ⟨hx, hb, hml, hown, hts⟩ (c_X9_next l Γ hG q32.2 q35 h36 H.size) (cwV 0 hts (wzV K233 K230 K231 K232 K5) rfl rfl rfl (by decide +kernel) ⟨(by dsimp only; omega), (by dsimp only; omega)⟩) (w_preV hK hP hkc hN hS (gM_Model Γ q32.2) rfl) rfl rfl hl.1 rfl (lv_room (Nat.le_of_ble_eq_true rfl)) dX9_atom_151 ⟨Nat.le_refl _, Nat.le_refl _⟩) hS (fun H locs hP hS => ?_)
          refine lv_goto (tgt := 161) hx hb dX9_atom_154 (by decide) ?_
          refine lv_iload_n hx hb dX9_atom_161 rfl (lv_at hl 0 rfl) ?_
          exact w_iret (X := XM Γ) hx hb hr hlocks hK hP hS rfl hf dX9_atom_162
  have j71 : ∀ (y1 : Int32) (τ : Sm) (H : Heap) (locs : List Loc) (ls : Array Slot) (hf : fb_X9_atom_71 rec y1 τ = some (r, σ')) (hP : va_P Γ.1 vwCl (XM Γ τ) H) (hS : va_S (wA (alM Γ) s.heap.size) s.heap H locs) (hl : lv_has ls 2 [(0, .ref (Γ.2.2.1 (0))), (1, .int y1)]), W p l e { frames := d + 1 + 5, cells := 0, slots := 0, locals := 40 * (d + 1) + 160 } s m av.toArray below meth c H locs 0 0 (MQ below (wQi Γ.1 vwCl (tysC Γ) (XM Γ) (alM Γ) r σ' s.heap.size) av.toArray s 0 0 (wA (alM Γ) s.heap.size)) (F0 m 71 ls []) := by
    intro y1 τ H locs ls hf hP hS hl
    unfold fb_X9_atom_71 at hf
    refine lv_aload_n hx hb dX9_atom_71 rfl (lv_at hl 0 rfl) ?_
    refine lv_dup hx hb dX9_atom_72 rfl ?_
    refine va_get (D := Γ.1) (ci := 8) (v := .int (τ.1 (25) 0)) (C := RX9) (T := TX9) (N := 44) hx hb hts iX9 hown hK hP (0) (gM_Model Γ τ) rfl 25 (by decide) (hts (.fieldLink RX9 177 "OtherHalfOfNightModel" "open" "I") (wzm K227)) (fun _ h9 => h9) rfl dX9_atom_73 ?_
    refine lv_iconst (v := (1 : Int32)) hx hb dX9_atom_76 (by decide) ?_
    refine lv_isub hx hb dX9_atom_77 ?_
    refine w_put (X := XM Γ) (σ' := (upm τ (25) 0 ((τ.1 (25) 0) - (1 : Int32)))) (ci := 8) (C := RX9) (T := TX9) (N := 44) (ty := .int) hx hb hts iX9 tyX9 tyX9_ok nmX9 hown hK hP (halM Γ) hG hS (0) (gM_Model Γ τ) rfl 25 (by decide) (hts (.fieldLink RX9 177 "OtherHalfOfNightModel" "open" "I") (wzm K227)) (fun _ h9 => h9) rfl (by decide +kernel) rfl rfl (Nat.le_of_ble_eq_true rfl) dX9_atom_78 (sM_Model_open Γ τ ((τ.1 (25) 0) - (1 : Int32))) (fun H locs hP hS => ?_)
    refine lv_aload_n hx hb dX9_atom_81 rfl (lv_at hl 0 rfl) ?_
    refine va_get (D := Γ.1) (ci := 8) (v := .int ((upm τ (25) 0 ((τ.1 (25) 0) - (1 : Int32))).1 (26) 0)) (C := RX9) (T := TX9) (N := 44) hx hb hts iX9 hown hK hP (0) (gM_Model Γ (upm τ (25) 0 ((τ.1 (25) 0) - (1 : Int32)))) rfl 26 (by decide) (hts (.fieldLink RX9 167 "OtherHalfOfNightModel" "bad" "Z") (wzm K228)) (fun _ h9 => h9) rfl dX9_atom_82 ?_
    refine lv_if_ne (tgt := 161) hx hb dX9_atom_85 (by decide) (fun c37 => ?_) (fun c37 => ?_)
    · replace hf := (if_neg c37).symm.trans hf
      refine lv_iload_n hx hb dX9_atom_161 rfl (lv_at hl 1 rfl) ?_
      exact w_iret (X := XM Γ) hx hb hr hlocks hK hP hS rfl hf dX9_atom_162
    · replace hf := (if_pos c37).symm.trans hf
      refine lv_aload_n hx hb dX9_atom_88 rfl (lv_at hl 0 rfl) ?_
      obtain ⟨q38, h39, hf⟩ := w_ob hf
      refine w_cv (va_runV (As := []) (rest := []) ⟨hx, hb, hml, hown, hts⟩ (c_X9_next l Γ hG (upm τ (25) 0 ((τ.1 (25) 0) - (1 : Int32))) q38 h39 H.size) (cwV 0 hts (wzV K233 K230 K231 K232 K5) rfl rfl rfl (by decide +kernel) ⟨(by dsimp only; omega), (by dsimp only; omega)⟩) (w_preV hK hP hkc hN hS (gM_Model Γ (upm τ (25) 0 ((τ.1 (25) 0) - (1 : Int32)))) rfl) rfl rfl hl.1 rfl (lv_room (Nat.le_of_ble_eq_true rfl)) dX9_atom_89 ⟨Nat.le_refl _, Nat.le_refl _⟩) hS (fun H locs hP hS => ?_)
      refine lv_goto (tgt := 161) hx hb dX9_atom_92 (by decide) ?_
      refine lv_iload_n hx hb dX9_atom_161 rfl (lv_at hl 1 rfl) ?_
      exact w_iret (X := XM Γ) hx hb hr hlocks hK hP hS rfl hf dX9_atom_162
  suffices hw : ∀ (H : Heap) (locs : List Loc), va_P Γ.1 vwCl (XM Γ σ) H → va_S (wA (alM Γ) s.heap.size) s.heap H locs → W p l e { frames := d + 1 + 5, cells := 0, slots := 0, locals := 40 * (d + 1) + 160 } s m av.toArray below meth c H locs 0 0 (MQ below (wQi Γ.1 vwCl (tysC Γ) (XM Γ) (alM Γ) r σ' s.heap.size) av.toArray s 0 0 (wA (alM Γ) s.heap.size)) (F0 m 0 ls []) from hw _ [] hP va_S.rf
  clear hP
  intro H locs hP hS
  unfold fb_X9_atom at hf
  refine lv_iconst (v := (0 : Int32)) hx hb dX9_atom_0 (by decide) ?_
  refine lv_istore_n (lv' := [(1, .int (0 : Int32)), (0, .ref (Γ.2.2.1 (0)))]) hx hb dX9_atom_1 rfl hl (by decide) rfl (fun ls hl => ?_)
  refine lv_aload_n hx hb dX9_atom_2 rfl (lv_at hl 1 rfl) ?_
  refine lv_bipush (v := (45 : Int32)) hx hb dX9_atom_3 (by decide) ?_
  obtain ⟨q1, h2, hf⟩ := w_ob hf
  refine w_ci (va_runV (As := [.int (45 : Int32)]) (rest := []) ⟨hx, hb, hml, hown, hts⟩ (c_X9_isSign l Γ hG (45 : Int32) σ q1.1 q1.2 h2 H.size) (cwV 1 hts (wzV K276 K273 K274 K275 K5) rfl rfl rfl (by decide +kernel) ⟨(by dsimp only; omega), (by dsimp only; omega)⟩) (w_preV hK hP hkc hN hS (gM_Model Γ σ) rfl) rfl rfl hl.1 rfl (lv_room (Nat.le_of_ble_eq_true rfl)) dX9_atom_5 ⟨Nat.le_refl _, Nat.le_refl _⟩) hS (fun H locs hP hS => ?_)
  refine lv_if_eq (tgt := 37) hx hb dX9_atom_8 (by decide) (fun c3 => ?_) (fun c3 => ?_)
  · replace hf := (if_pos c3).symm.trans hf
    refine lv_aload_n hx hb dX9_atom_37 rfl (lv_at hl 1 rfl) ?_
    refine lv_bipush (v := (40 : Int32)) hx hb dX9_atom_38 (by decide) ?_
    obtain ⟨q4, h5, hf⟩ := w_ob hf
    refine w_ci (va_runV (As := [.int (40 : Int32)]) (rest := []) ⟨hx, hb, hml, hown, hts⟩ (c_X9_isSign l Γ hG (40 : Int32) q1.2 q4.1 q4.2 h5 H.size) (cwV 1 hts (wzV K276 K273 K274 K275 K5) rfl rfl rfl (by decide +kernel) ⟨(by dsimp only; omega), (by dsimp only; omega)⟩) (w_preV hK hP hkc hN hS (gM_Model Γ q1.2) rfl) rfl rfl hl.1 rfl (lv_room (Nat.le_of_ble_eq_true rfl)) dX9_atom_40 ⟨Nat.le_refl _, Nat.le_refl _⟩) hS (fun H locs hP hS => ?_)
    refine lv_if_eq (tgt := 95) hx hb dX9_atom_43 (by decide) (fun c6 => ?_) (fun c6 => ?_)
    · replace hf := (if_pos c6).symm.trans hf
      refine lv_aload_n hx hb dX9_atom_95 rfl (lv_at hl 1 rfl) ?_
      refine va_get (D := Γ.1) (ci := 8) (v := .int (q4.2.1 (26) 0)) (C := RX9) (T := TX9) (N := 44) hx hb hts iX9 hown hK hP (0) (gM_Model Γ q4.2) rfl 26 (by decide) (hts (.fieldLink RX9 167 "OtherHalfOfNightModel" "bad" "Z") (wzm K228)) (fun _ h9 => h9) rfl dX9_atom_96 ?_
      refine lv_if_ne (tgt := 123) hx hb dX9_atom_99 (by decide) (fun c7 => ?_) (fun c7 => ?_)
      · replace hf := (if_neg c7).symm.trans hf
        exact j123 ((0 : Int32)) q4.2 H locs ls hf hP hS (lv_sub hl [1, 0] rfl)
      · replace hf := (if_pos c7).symm.trans hf
        refine lv_aload_n hx hb dX9_atom_102 rfl (lv_at hl 1 rfl) ?_
        refine va_get (D := Γ.1) (ci := 8) (v := .int (q4.2.1 (22) 0)) (C := RX9) (T := TX9) (N := 44) hx hb hts iX9 hown hK hP (0) (gM_Model Γ q4.2) rfl 22 (by decide) (hts (.fieldLink RX9 152 "OtherHalfOfNightModel" "token" "I") (wzm K229)) (fun _ h9 => h9) rfl dX9_atom_103 ?_
        refine lv_iconst (v := (2 : Int32)) hx hb dX9_atom_106 (by decide) ?_
        refine lv_icmp_ne (tgt := 123) hx hb dX9_atom_107 (by decide) (fun c8 => ?_) (fun c8 => ?_)
        · replace hf := (if_neg c8).symm.trans hf
          exact j123 ((0 : Int32)) q4.2 H locs ls hf hP hS (lv_sub hl [1, 0] rfl)
        · replace hf := (if_pos c8).symm.trans hf
          refine lv_aload_n hx hb dX9_atom_110 rfl (lv_at hl 1 rfl) ?_
          refine va_get (D := Γ.1) (ci := 8) (v := .long (q4.2.2 (24) 0)) (C := RX9) (T := TX9) (N := 44) hx hb hts iX9 hown hK hP (0) (gM_Model Γ q4.2) rfl 24 (by decide) (hts (.fieldLink RX9 163 "OtherHalfOfNightModel" "tokenWorth" "J") (wzm K239)) (fun _ h9 => h9) rfl dX9_atom_111 ?_
          refine lv_l2i (v := (((q4.2.2 (24) 0)).toInt32)) hx hb dX9_atom_114 rfl ?_
          refine lv_istore_n (lv' := [(1, .int (((q4.2.2 (24) 0)).toInt32)), (0, .ref (Γ.2.2.1 (0)))]) hx hb dX9_atom_115 rfl hl (by decide) rfl (fun ls hl => ?_)
          refine lv_aload_n hx hb dX9_atom_116 rfl (lv_at hl 1 rfl) ?_
          obtain ⟨q9, h10, hf⟩ := w_ob hf
          refine w_cv (va_runV (As := []) (rest := []) ⟨hx, hb, hml, hown, hts⟩ (c_X9_next l Γ hG q4.2 q9 h10 H.size) (cwV 0 hts (wzV K233 K230 K231 K232 K5) rfl rfl rfl (by decide +kernel) ⟨(by dsimp only; omega), (by dsimp only; omega)⟩) (w_preV hK hP hkc hN hS (gM_Model Γ q4.2) rfl) rfl rfl hl.1 rfl (lv_room (Nat.le_of_ble_eq_true rfl)) dX9_atom_117 ⟨Nat.le_refl _, Nat.le_refl _⟩) hS (fun H locs hP hS => ?_)
          refine lv_goto (tgt := 161) hx hb dX9_atom_120 (by decide) ?_
          refine lv_iload_n hx hb dX9_atom_161 rfl (lv_at hl 0 rfl) ?_
          exact w_iret (X := XM Γ) hx hb hr hlocks hK hP hS rfl hf dX9_atom_162
    · replace hf := (if_neg c6).symm.trans hf
      refine lv_aload_n hx hb dX9_atom_46 rfl (lv_at hl 1 rfl) ?_
      obtain ⟨q11, h12, hf⟩ := w_ob hf
      refine w_ci (va_runV (As := []) (rest := []) ⟨hx, hb, hml, hown, hts⟩ (c_X9_opens l Γ hG q4.2 q11.1 q11.2 h12 H.size) (cwV 0 hts (wzV K281 K278 K279 K280 K5) rfl rfl rfl (by decide +kernel) ⟨(by dsimp only; omega), (by dsimp only; omega)⟩) (w_preV hK hP hkc hN hS (gM_Model Γ q4.2) rfl) rfl rfl hl.1 rfl (lv_room (Nat.le_of_ble_eq_true rfl)) dX9_atom_47 ⟨Nat.le_refl _, Nat.le_refl _⟩) hS (fun H locs hP hS => ?_)
      refine lv_if_eq (tgt := 161) hx hb dX9_atom_50 (by decide) (fun c13 => ?_) (fun c13 => ?_)
      · replace hf := (if_pos c13).symm.trans hf
        refine lv_iload_n hx hb dX9_atom_161 rfl (lv_at hl 0 rfl) ?_
        exact w_iret (X := XM Γ) hx hb hr hlocks hK hP hS rfl hf dX9_atom_162
      · replace hf := (if_neg c13).symm.trans hf
        refine lv_aload_n hx hb dX9_atom_53 rfl (lv_at hl 1 rfl) ?_
        obtain ⟨q14, h15, hf⟩ := w_ob hf
        refine w_ci (va_runV (As := []) (rest := []) ⟨hx, hb, hml, hown, hts⟩ (hrec0 q11.2 q14.1 q14.2 h15 H.size) (cwV 0 hts (wzV K264 K261 K262 K263 K5) rfl rfl rfl (by decide +kernel) ⟨(by dsimp only; omega), (by dsimp only; omega)⟩) (w_preV hK hP hkc hN hS (gM_Model Γ q11.2) rfl) rfl rfl hl.1 rfl (lv_room (Nat.le_of_ble_eq_true rfl)) dX9_atom_54 ⟨Nat.le_refl _, Nat.le_refl _⟩) hS (fun H locs hP hS => ?_)
        refine lv_istore_n (lv' := [(1, .int q14.1), (0, .ref (Γ.2.2.1 (0)))]) hx hb dX9_atom_57 rfl hl (by decide) rfl (fun ls hl => ?_)
        refine lv_aload_n hx hb dX9_atom_58 rfl (lv_at hl 1 rfl) ?_
        refine lv_bipush (v := (41 : Int32)) hx hb dX9_atom_59 (by decide) ?_
        obtain ⟨q16, h17, hf⟩ := w_ob hf
        refine w_ci (va_runV (As := [.int (41 : Int32)]) (rest := []) ⟨hx, hb, hml, hown, hts⟩ (c_X9_isSign l Γ hG (41 : Int32) q14.2 q16.1 q16.2 h17 H.size) (cwV 1 hts (wzV K276 K273 K274 K275 K5) rfl rfl rfl (by decide +kernel) ⟨(by dsimp only; omega), (by dsimp only; omega)⟩) (w_preV hK hP hkc hN hS (gM_Model Γ q14.2) rfl) rfl rfl hl.1 rfl (lv_room (Nat.le_of_ble_eq_true rfl)) dX9_atom_61 ⟨Nat.le_refl _, Nat.le_refl _⟩) hS (fun H locs hP hS => ?_)
        refine lv_if_ne (tgt := 71) hx hb dX9_atom_64 (by decide) (fun c18 => ?_) (fun c18 => ?_)
        · replace hf := (if_neg c18).symm.trans hf
          exact j71 (q14.1) q16.2 H locs ls hf hP hS (lv_sub hl [1, 0] rfl)
        · replace hf := (if_pos c18).symm.trans hf
          refine lv_aload_n hx hb dX9_atom_67 rfl (lv_at hl 1 rfl) ?_
          obtain ⟨q19, h20, hf⟩ := w_ob hf
          refine w_cv (va_runV (As := []) (rest := []) ⟨hx, hb, hml, hown, hts⟩ (c_X9_fail l Γ hG q16.2 q19 h20 H.size) (cwV 0 hts (wzV K259 K256 K257 K258 K5) rfl rfl rfl (by decide +kernel) ⟨(by dsimp only; omega), (by dsimp only; omega)⟩) (w_preV hK hP hkc hN hS (gM_Model Γ q16.2) rfl) rfl rfl hl.1 rfl (lv_room (Nat.le_of_ble_eq_true rfl)) dX9_atom_68 ⟨Nat.le_refl _, Nat.le_refl _⟩) hS (fun H locs hP hS => ?_)
          exact j71 (q14.1) q19 H locs ls hf hP hS (lv_sub hl [1, 0] rfl)
  · replace hf := (if_neg c3).symm.trans hf
    refine lv_aload_n hx hb dX9_atom_11 rfl (lv_at hl 1 rfl) ?_
    obtain ⟨q21, h22, hf⟩ := w_ob hf
    refine w_ci (va_runV (As := []) (rest := []) ⟨hx, hb, hml, hown, hts⟩ (c_X9_opens l Γ hG q1.2 q21.1 q21.2 h22 H.size) (cwV 0 hts (wzV K281 K278 K279 K280 K5) rfl rfl rfl (by decide +kernel) ⟨(by dsimp only; omega), (by dsimp only; omega)⟩) (w_preV hK hP hkc hN hS (gM_Model Γ q1.2) rfl) rfl rfl hl.1 rfl (lv_room (Nat.le_of_ble_eq_true rfl)) dX9_atom_12 ⟨Nat.le_refl _, Nat.le_refl _⟩) hS (fun H locs hP hS => ?_)
    refine lv_if_eq (tgt := 161) hx hb dX9_atom_15 (by decide) (fun c23 => ?_) (fun c23 => ?_)
    · replace hf := (if_pos c23).symm.trans hf
      refine lv_iload_n hx hb dX9_atom_161 rfl (lv_at hl 0 rfl) ?_
      exact w_iret (X := XM Γ) hx hb hr hlocks hK hP hS rfl hf dX9_atom_162
    · replace hf := (if_neg c23).symm.trans hf
      refine lv_aload_n hx hb dX9_atom_18 rfl (lv_at hl 1 rfl) ?_
      obtain ⟨q24, h25, hf⟩ := w_ob hf
      refine w_ci (va_runV (As := []) (rest := []) ⟨hx, hb, hml, hown, hts⟩ (hrec5 q21.2 q24.1 q24.2 h25 H.size) (cwV 0 hts (wzV K277 K282 K283 K284 K5) rfl rfl rfl (by decide +kernel) ⟨(by dsimp only; omega), (by dsimp only; omega)⟩) (w_preV hK hP hkc hN hS (gM_Model Γ q21.2) rfl) rfl rfl hl.1 rfl (lv_room (Nat.le_of_ble_eq_true rfl)) dX9_atom_19 ⟨Nat.le_refl _, Nat.le_refl _⟩) hS (fun H locs hP hS => ?_)
      refine lv_ineg hx hb dX9_atom_22 ?_
      refine lv_istore_n (lv' := [(1, .int (-q24.1)), (0, .ref (Γ.2.2.1 (0)))]) hx hb dX9_atom_23 rfl hl (by decide) rfl (fun ls hl => ?_)
      refine lv_aload_n hx hb dX9_atom_24 rfl (lv_at hl 1 rfl) ?_
      refine lv_dup hx hb dX9_atom_25 rfl ?_
      refine va_get (D := Γ.1) (ci := 8) (v := .int (q24.2.1 (25) 0)) (C := RX9) (T := TX9) (N := 44) hx hb hts iX9 hown hK hP (0) (gM_Model Γ q24.2) rfl 25 (by decide) (hts (.fieldLink RX9 177 "OtherHalfOfNightModel" "open" "I") (wzm K227)) (fun _ h9 => h9) rfl dX9_atom_26 ?_
      refine lv_iconst (v := (1 : Int32)) hx hb dX9_atom_29 (by decide) ?_
      refine lv_isub hx hb dX9_atom_30 ?_
      refine w_put (X := XM Γ) (σ' := (upm q24.2 (25) 0 ((q24.2.1 (25) 0) - (1 : Int32)))) (ci := 8) (C := RX9) (T := TX9) (N := 44) (ty := .int) hx hb hts iX9 tyX9 tyX9_ok nmX9 hown hK hP (halM Γ) hG hS (0) (gM_Model Γ q24.2) rfl 25 (by decide) (hts (.fieldLink RX9 177 "OtherHalfOfNightModel" "open" "I") (wzm K227)) (fun _ h9 => h9) rfl (by decide +kernel) rfl rfl (Nat.le_of_ble_eq_true rfl) dX9_atom_31 (sM_Model_open Γ q24.2 ((q24.2.1 (25) 0) - (1 : Int32))) (fun H locs hP hS => ?_)
      refine lv_goto (tgt := 161) hx hb dX9_atom_34 (by decide) ?_
      refine lv_iload_n hx hb dX9_atom_161 rfl (lv_at hl 0 rfl) ?_
      exact w_iret (X := XM Γ) hx hb hr hlocks hK hP hS rfl hf dX9_atom_162
def grpM : Nat → Nat → Sm → Option (Int32 × Sm)
  | 0 => fun _ _ => none
  | d + 1 => fun t  σ => if t = 0 then fb_X9_either (grpM d)  σ else if t = 1 then fb_X9_both (grpM d)  σ else if t = 2 then fb_X9_not (grpM d)  σ else if t = 3 then fb_X9_added (grpM d)  σ else if t = 4 then fb_X9_term (grpM d)  σ else fb_X9_atom (grpM d)  σ
theorem c_grpM (l : Launch) (Γ : Geo) (hG : okM Γ) : ∀ (d : Nat), (∀ (σ : Sm) (r : Int32) (σ' : Sm), grpM d 0 σ = some (r, σ') → ∀ (sz : Nat), Met l yX9_either (wz yX9_either cX9_either 3 (some .int)) { frames := d + 5, cells := 0, slots := 0, locals := 40 * (d) + 160 } (va_Pc [.ref (Γ.2.2.1 (0))] (wPre Γ.1 vwCl (tysC Γ) (XM Γ) (alM Γ) Γ.2.2.2 σ sz)) (wQi Γ.1 vwCl (tysC Γ) (XM Γ) (alM Γ) r σ' sz) 0 0 (wA (alM Γ) sz)) ∧ (∀ (σ : Sm) (r : Int32) (σ' : Sm), grpM d 1 σ = some (r, σ') → ∀ (sz : Nat), Met l yX9_both (wz yX9_both cX9_both 3 (some .int)) { frames := d + 5, cells := 0, slots := 0, locals := 40 * (d) + 160 } (va_Pc [.ref (Γ.2.2.1 (0))] (wPre Γ.1 vwCl (tysC Γ) (XM Γ) (alM Γ) Γ.2.2.2 σ sz)) (wQi Γ.1 vwCl (tysC Γ) (XM Γ) (alM Γ) r σ' sz) 0 0 (wA (alM Γ) sz)) ∧ (∀ (σ : Sm) (r : Int32) (σ' : Sm), grpM d 2 σ = some (r, σ') → ∀ (sz : Nat), Met l yX9_not (wz yX9_not cX9_not 4 (some .int)) { frames := d + 5, cells := 0, slots := 0, locals := 40 * (d) + 160 } (va_Pc [.ref (Γ.2.2.1 (0))] (wPre Γ.1 vwCl (tysC Γ) (XM Γ) (alM Γ) Γ.2.2.2 σ sz)) (wQi Γ.1 vwCl (tysC Γ) (XM Γ) (alM Γ) r σ' sz) 0 0 (wA (alM Γ) sz)) ∧ (∀ (σ : Sm) (r : Int32) (σ' : Sm), grpM d 3 σ = some (r, σ') → ∀ (sz : Nat), Met l yX9_added (wz yX9_added cX9_added 4 (some .int)) { frames := d + 5, cells := 0, slots := 0, locals := 40 * (d) + 160 } (va_Pc [.ref (Γ.2.2.1 (0))] (wPre Γ.1 vwCl (tysC Γ) (XM Γ) (alM Γ) Γ.2.2.2 σ sz)) (wQi Γ.1 vwCl (tysC Γ) (XM Γ) (alM Γ) r σ' sz) 0 0 (wA (alM Γ) sz)) ∧ (∀ (σ : Sm) (r : Int32) (σ' : Sm), grpM d 4 σ = some (r, σ') → ∀ (sz : Nat), Met l yX9_term (wz yX9_term cX9_term 2 (some .int)) { frames := d + 5, cells := 0, slots := 0, locals := 40 * (d) + 160 } (va_Pc [.ref (Γ.2.2.1 (0))] (wPre Γ.1 vwCl (tysC Γ) (XM Γ) (alM Γ) Γ.2.2.2 σ sz)) (wQi Γ.1 vwCl (tysC Γ) (XM Γ) (alM Γ) r σ' sz) 0 0 (wA (alM Γ) sz)) ∧ (∀ (σ : Sm) (r : Int32) (σ' : Sm), grpM d 5 σ = some (r, σ') → ∀ (sz : Nat), Met l yX9_atom (wz yX9_atom cX9_atom 2 (some .int)) { frames := d + 5, cells := 0, slots := 0, locals := 40 * (d) + 160 } (va_Pc [.ref (Γ.2.2.1 (0))] (wPre Γ.1 vwCl (tysC Γ) (XM Γ) (alM Γ) Γ.2.2.2 σ sz)) (wQi Γ.1 vwCl (tysC Γ) (XM Γ) (alM Γ) r σ' sz) 0 0 (wA (alM Γ) sz)) := by
  intro d
  induction d with
  | zero =>
    refine ⟨?_, ?_, ?_, ?_, ?_, ?_⟩ <;> (intros; exact absurd (by assumption) (by intro h; cases h))
  | succ d ih =>
    obtain ⟨h0, h1, h2, h3, h4, h5⟩ := ih
    refine ⟨?_, ?_, ?_, ?_, ?_, ?_⟩
    · intro  σ r σ' hf sz
      exact cb_X9_either l Γ hG (grpM d) d h0 h1 h2 h3 h4 h5  σ r σ' hf sz
    · intro  σ r σ' hf sz
      exact cb_X9_both l Γ hG (grpM d) d h0 h1 h2 h3 h4 h5  σ r σ' hf sz
    · intro  σ r σ' hf sz
      exact cb_X9_not l Γ hG (grpM d) d h0 h1 h2 h3 h4 h5  σ r σ' hf sz
    · intro  σ r σ' hf sz
      exact cb_X9_added l Γ hG (grpM d) d h0 h1 h2 h3 h4 h5  σ r σ' hf sz
    · intro  σ r σ' hf sz
      exact cb_X9_term l Γ hG (grpM d) d h0 h1 h2 h3 h4 h5  σ r σ' hf sz
    · intro  σ r σ' hf sz
      exact cb_X9_atom l Γ hG (grpM d) d h0 h1 h2 h3 h4 h5  σ r σ' hf sz
def f_X9_either (σ : Sm) : Option (Int32 × Sm) := grpM 64 0 σ
theorem c_X9_either (l : Launch) (Γ : Geo) (hG : okM Γ) (σ : Sm) (r : Int32) (σ' : Sm) (hf : f_X9_either σ = some (r, σ')) (sz : Nat) : Met l yX9_either (wz yX9_either cX9_either 3 (some .int)) { frames := 69, cells := 0, slots := 0, locals := 2720 } (va_Pc [.ref (Γ.2.2.1 (0))] (wPre Γ.1 vwCl (tysC Γ) (XM Γ) (alM Γ) Γ.2.2.2 σ sz)) (wQi Γ.1 vwCl (tysC Γ) (XM Γ) (alM Γ) r σ' sz) 0 0 (wA (alM Γ) sz) :=
  (c_grpM l Γ hG 64).1  σ r σ' hf sz
