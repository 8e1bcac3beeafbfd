def f_X7_spelling (x0 : Int32) (σ : Sg) : Option (Nat × Sg) := if x0 = 256 then some (0, σ) else if x0 = 257 then some (1, σ) else if x0 = 258 then some (2, σ) else if x0 = 259 then some (3, σ) else if x0 = 260 then some (4, σ) else if x0 = 261 then some (5, σ) else if x0 = 262 then some (6, σ) else if x0 = 263 then some (7, σ) else if x0 = 264 then some (8, σ) else if x0 = 265 then some (9, σ) else if x0 = 266 then some (10, σ) else if x0 = 267 then some (11, σ) else some (12, σ)
set_option maxHeartbeats 40000000 in
set_option maxRecDepth 100000 in
theorem c_X7_spelling (l : Launch) (Γ : Geo) (hG : okC Γ) (x0 : Int32) (σ : Sg) (r : Nat) (σ' : Sg) (hf : f_X7_spelling x0 σ = some (r, σ')) (sz : Nat) : Met l yX7_spelling (wz yX7_spelling cX7_spelling 1 (some (.object "java/lang/String"))) { frames := 0, cells := 0, slots := 0, locals := 0 } (va_Pc [.int x0] (wPre Γ.1 vwCl (tysC Γ) (XC Γ) (alC Γ) Γ.2.2.2 σ sz)) (wQr Γ.1 vwCl (tysC Γ) (XC Γ) (alC Γ) (Γ.2.2.2.1 (r)) σ' sz) 0 0 (wA (alC Γ) sz) := by
  refine w_enter (cc := cX7_spelling) (maxL := 1) (ret := (some (.object "java/lang/String"))) (by decide) rfl (Nat.le_of_ble_eq_true rfl) ?_
  intro p e s m below meth c ls hx hb hr hlocks hml hown hts hsz hP hK hkc hN hl
  subst hsz
  generalize hav : ([.int x0] : List Value) = av at hl hts ⊢
  have hl : lv_has ls 1 [(0, .int x0)] := by rw [← hav] at hl; exact hl
  suffices hw : ∀ (H : Heap) (locs : List Loc), va_P Γ.1 vwCl (XC Γ σ) H → va_S (wA (alC Γ) s.heap.size) s.heap H locs → W p l e { frames := 0, cells := 0, slots := 0, locals := 0 } s m av.toArray below meth c H locs 0 0 (MQ below (wQr Γ.1 vwCl (tysC Γ) (XC Γ) (alC Γ) (Γ.2.2.2.1 (r)) σ' s.heap.size) av.toArray s 0 0 (wA (alC Γ) s.heap.size)) (F0 m 0 ls []) from hw _ [] hP va_S.rf
  clear hP
  intro H locs hP hS
  unfold f_X7_spelling at hf
  refine lv_iload_n hx hb dX7_spelling_0 rfl (lv_at hl 0 rfl) ?_
  by_cases c1 : x0 = 256
  · replace hf := (if_pos c1).symm.trans hf
    refine lv_tableIn (off := 63) (tgt := 64) hx hb dX7_spelling_1 (by rw [c1]; decide) (by rw [c1]; decide) (by rw [c1]; rfl) (by decide) ?_
    refine va_ldcS (tx := "yields") hx hb hown (hkc.2.1 0 (RX7, 7, "yields") rfl) dX7_spelling_64 ?_
    exact w_aret (X := XC Γ) hx hb hr hlocks hK hP hS (congrArg (fun k => Γ.2.2.2.1 (k)) (congrArg Prod.fst (Option.some.inj hf))) (congrArg Prod.snd (Option.some.inj hf)) dX7_spelling_66
  · replace hf := (if_neg c1).symm.trans hf
    by_cases c2 : x0 = 257
    · replace hf := (if_pos c2).symm.trans hf
      refine lv_tableIn (off := 66) (tgt := 67) hx hb dX7_spelling_1 (by rw [c2]; decide) (by rw [c2]; decide) (by rw [c2]; rfl) (by decide) ?_
      refine va_ldcS (tx := "suits") hx hb hown (hkc.2.1 1 (RX7, 9, "suits") rfl) dX7_spelling_67 ?_
      exact w_aret (X := XC Γ) hx hb hr hlocks hK hP hS (congrArg (fun k => Γ.2.2.2.1 (k)) (congrArg Prod.fst (Option.some.inj hf))) (congrArg Prod.snd (Option.some.inj hf)) dX7_spelling_69
    · replace hf := (if_neg c2).symm.trans hf
      by_cases c3 : x0 = 258
      · replace hf := (if_pos c3).symm.trans hf
        refine lv_tableIn (off := 69) (tgt := 70) hx hb dX7_spelling_1 (by rw [c3]; decide) (by rw [c3]; decide) (by rw [c3]; rfl) (by decide) ?_
        refine va_ldcS (tx := "eases") hx hb hown (hkc.2.1 2 (RX7, 11, "eases") rfl) dX7_spelling_70 ?_
        exact w_aret (X := XC Γ) hx hb hr hlocks hK hP hS (congrArg (fun k => Γ.2.2.2.1 (k)) (congrArg Prod.fst (Option.some.inj hf))) (congrArg Prod.snd (Option.some.inj hf)) dX7_spelling_72
      · replace hf := (if_neg c3).symm.trans hf
        by_cases c4 : x0 = 259
        · replace hf := (if_pos c4).symm.trans hf
          refine lv_tableIn (off := 72) (tgt := 73) hx hb dX7_spelling_1 (by rw [c4]; decide) (by rw [c4]; decide) (by rw [c4]; rfl) (by decide) ?_
          refine va_ldcS (tx := "or") hx hb hown (hkc.2.1 3 (RX7, 13, "or") rfl) dX7_spelling_73 ?_
          exact w_aret (X := XC Γ) hx hb hr hlocks hK hP hS (congrArg (fun k => Γ.2.2.2.1 (k)) (congrArg Prod.fst (Option.some.inj hf))) (congrArg Prod.snd (Option.some.inj hf)) dX7_spelling_75
        · replace hf := (if_neg c4).symm.trans hf
          by_cases c5 : x0 = 260
          · replace hf := (if_pos c5).symm.trans hf
            refine lv_tableIn (off := 75) (tgt := 76) hx hb dX7_spelling_1 (by rw [c5]; decide) (by rw [c5]; decide) (by rw [c5]; rfl) (by decide) ?_
            refine va_ldcS (tx := "and") hx hb hown (hkc.2.1 4 (RX7, 15, "and") rfl) dX7_spelling_76 ?_
            exact w_aret (X := XC Γ) hx hb hr hlocks hK hP hS (congrArg (fun k => Γ.2.2.2.1 (k)) (congrArg Prod.fst (Option.some.inj hf))) (congrArg Prod.snd (Option.some.inj hf)) dX7_spelling_78
          · replace hf := (if_neg c5).symm.trans hf
            by_cases c6 : x0 = 261
            · replace hf := (if_pos c6).symm.trans hf
              refine lv_tableIn (off := 78) (tgt := 79) hx hb dX7_spelling_1 (by rw [c6]; decide) (by rw [c6]; decide) (by rw [c6]; rfl) (by decide) ?_
              refine va_ldcS (tx := "not") hx hb hown (hkc.2.1 5 (RX7, 17, "not") rfl) dX7_spelling_79 ?_
              exact w_aret (X := XC Γ) hx hb hr hlocks hK hP hS (congrArg (fun k => Γ.2.2.2.1 (k)) (congrArg Prod.fst (Option.some.inj hf))) (congrArg Prod.snd (Option.some.inj hf)) dX7_spelling_81
            · replace hf := (if_neg c6).symm.trans hf
              by_cases c7 : x0 = 262
              · replace hf := (if_pos c7).symm.trans hf
                refine lv_tableIn (off := 81) (tgt := 82) hx hb dX7_spelling_1 (by rw [c7]; decide) (by rw [c7]; decide) (by rw [c7]; rfl) (by decide) ?_
                refine va_ldcS (tx := "trouble") hx hb hown (hkc.2.1 6 (RX7, 19, "trouble") rfl) dX7_spelling_82 ?_
                exact w_aret (X := XC Γ) hx hb hr hlocks hK hP hS (congrArg (fun k => Γ.2.2.2.1 (k)) (congrArg Prod.fst (Option.some.inj hf))) (congrArg Prod.snd (Option.some.inj hf)) dX7_spelling_84
              · replace hf := (if_neg c7).symm.trans hf
                by_cases c8 : x0 = 263
                · replace hf := (if_pos c8).symm.trans hf
                  refine lv_tableIn (off := 84) (tgt := 85) hx hb dX7_spelling_1 (by rw [c8]; decide) (by rw [c8]; decide) (by rw [c8]; rfl) (by decide) ?_
                  refine va_ldcS (tx := "number") hx hb hown (hkc.2.1 7 (RX7, 21, "number") rfl) dX7_spelling_85 ?_
                  exact w_aret (X := XC Γ) hx hb hr hlocks hK hP hS (congrArg (fun k => Γ.2.2.2.1 (k)) (congrArg Prod.fst (Option.some.inj hf))) (congrArg Prod.snd (Option.some.inj hf)) dX7_spelling_87
                · replace hf := (if_neg c8).symm.trans hf
                  by_cases c9 : x0 = 264
                  · replace hf := (if_pos c9).symm.trans hf
                    refine lv_tableIn (off := 87) (tgt := 88) hx hb dX7_spelling_1 (by rw [c9]; decide) (by rw [c9]; decide) (by rw [c9]; rfl) (by decide) ?_
                    refine va_ldcS (tx := "night") hx hb hown (hkc.2.1 8 (RX7, 23, "night") rfl) dX7_spelling_88 ?_
                    exact w_aret (X := XC Γ) hx hb hr hlocks hK hP hS (congrArg (fun k => Γ.2.2.2.1 (k)) (congrArg Prod.fst (Option.some.inj hf))) (congrArg Prod.snd (Option.some.inj hf)) dX7_spelling_90
                  · replace hf := (if_neg c9).symm.trans hf
                    by_cases c10 : x0 = 265
                    · replace hf := (if_pos c10).symm.trans hf
                      refine lv_tableIn (off := 90) (tgt := 91) hx hb dX7_spelling_1 (by rw [c10]; decide) (by rw [c10]; decide) (by rw [c10]; rfl) (by decide) ?_
                      refine va_ldcS (tx := "news") hx hb hown (hkc.2.1 9 (RX7, 25, "news") rfl) dX7_spelling_91 ?_
                      exact w_aret (X := XC Γ) hx hb hr hlocks hK hP hS (congrArg (fun k => Γ.2.2.2.1 (k)) (congrArg Prod.fst (Option.some.inj hf))) (congrArg Prod.snd (Option.some.inj hf)) dX7_spelling_93
                    · replace hf := (if_neg c10).symm.trans hf
                      by_cases c11 : x0 = 266
                      · replace hf := (if_pos c11).symm.trans hf
                        refine lv_tableIn (off := 93) (tgt := 94) hx hb dX7_spelling_1 (by rw [c11]; decide) (by rw [c11]; decide) (by rw [c11]; rfl) (by decide) ?_
                        refine va_ldcS (tx := "taste") hx hb hown (hkc.2.1 10 (RX7, 27, "taste") rfl) dX7_spelling_94 ?_
                        exact w_aret (X := XC Γ) hx hb hr hlocks hK hP hS (congrArg (fun k => Γ.2.2.2.1 (k)) (congrArg Prod.fst (Option.some.inj hf))) (congrArg Prod.snd (Option.some.inj hf)) dX7_spelling_96
                      · replace hf := (if_neg c11).symm.trans hf
                        by_cases c12 : x0 = 267
                        · replace hf := (if_pos c12).symm.trans hf
                          refine lv_tableIn (off := 96) (tgt := 97) hx hb dX7_spelling_1 (by rw [c12]; decide) (by rw [c12]; decide) (by rw [c12]; rfl) (by decide) ?_
                          refine va_ldcS (tx := "hour") hx hb hown (hkc.2.1 11 (RX7, 29, "hour") rfl) dX7_spelling_97 ?_
                          exact w_aret (X := XC Γ) hx hb hr hlocks hK hP hS (congrArg (fun k => Γ.2.2.2.1 (k)) (congrArg Prod.fst (Option.some.inj hf))) (congrArg Prod.snd (Option.some.inj hf)) dX7_spelling_99
                        · replace hf := (if_neg c12).symm.trans hf
                          have nc1 : ¬ (x0).toInt = 256 := fun q => c1 (Int32.toInt_inj.mp q)
                          have nc2 : ¬ (x0).toInt = 257 := fun q => c2 (Int32.toInt_inj.mp q)
                          have nc3 : ¬ (x0).toInt = 258 := fun q => c3 (Int32.toInt_inj.mp q)
                          have nc4 : ¬ (x0).toInt = 259 := fun q => c4 (Int32.toInt_inj.mp q)
                          have nc5 : ¬ (x0).toInt = 260 := fun q => c5 (Int32.toInt_inj.mp q)
                          have nc6 : ¬ (x0).toInt = 261 := fun q => c6 (Int32.toInt_inj.mp q)
                          have nc7 : ¬ (x0).toInt = 262 := fun q => c7 (Int32.toInt_inj.mp q)
                          have nc8 : ¬ (x0).toInt = 263 := fun q => c8 (Int32.toInt_inj.mp q)
                          have nc9 : ¬ (x0).toInt = 264 := fun q => c9 (Int32.toInt_inj.mp q)
                          have nc10 : ¬ (x0).toInt = 265 := fun q => c10 (Int32.toInt_inj.mp q)
                          have nc11 : ¬ (x0).toInt = 266 := fun q => c11 (Int32.toInt_inj.mp q)
                          have nc12 : ¬ (x0).toInt = 267 := fun q => c12 (Int32.toInt_inj.mp q)
                          refine lv_tableOut (tgt := 100) hx hb dX7_spelling_1 (by omega) (by decide) ?_
                          refine va_ldcS (tx := "") hx hb hown (hkc.2.1 12 (RX7, 31, "") rfl) dX7_spelling_100 ?_
                          exact w_aret (X := XC Γ) hx hb hr hlocks hK hP hS (congrArg (fun k => Γ.2.2.2.1 (k)) (congrArg Prod.fst (Option.some.inj hf))) (congrArg Prod.snd (Option.some.inj hf)) dX7_spelling_102
def f_X4_isLetter (x0 : Int32) (σ : Sg) : Option (Int32 × Sg) := if x0 < (97 : Int32) then some ((0 : Int32), σ) else if (122 : Int32) < x0 then some ((0 : Int32), σ) else some ((1 : Int32), σ)
set_option maxHeartbeats 40000000 in
set_option maxRecDepth 100000 in
theorem c_X4_isLetter (l : Launch) (Γ : Geo) (hG : okC Γ) (x0 : Int32) (σ : Sg) (r : Int32) (σ' : Sg) (hf : f_X4_isLetter x0 σ = some (r, σ')) (sz : Nat) : Met l yX4_isLetter (wz yX4_isLetter cX4_isLetter 1 (some .boolean)) { frames := 0, cells := 0, slots := 0, locals := 0 } (va_Pc [.int x0] (wPre Γ.1 vwCl (tysC Γ) (XC Γ) (alC Γ) Γ.2.2.2 σ sz)) (wQi Γ.1 vwCl (tysC Γ) (XC Γ) (alC Γ) r σ' sz) 0 0 (wA (alC Γ) sz) := by
  refine w_enter (cc := cX4_isLetter) (maxL := 1) (ret := (some .boolean)) (by decide) rfl (Nat.le_of_ble_eq_true rfl) ?_
  intro p e s m below meth c ls hx hb hr hlocks hml hown hts hsz hP hK hkc hN hl
  subst hsz
  generalize hav : ([.int x0] : List Value) = av at hl hts ⊢
  have hl : lv_has ls 1 [(0, .int x0)] := by rw [← hav] at hl; exact hl
  suffices hw : ∀ (H : Heap) (locs : List Loc), va_P Γ.1 vwCl (XC Γ σ) H → va_S (wA (alC Γ) s.heap.size) s.heap H locs → W p l e { frames := 0, cells := 0, slots := 0, locals := 0 } s m av.toArray below meth c H locs 0 0 (MQ below (wQi Γ.1 vwCl (tysC Γ) (XC Γ) (alC Γ) r σ' s.heap.size) av.toArray s 0 0 (wA (alC Γ) s.heap.size)) (F0 m 0 ls []) from hw _ [] hP va_S.rf
  clear hP
  intro H locs hP hS
  unfold f_X4_isLetter at hf
  refine lv_iload_n hx hb dX4_isLetter_0 rfl (lv_at hl 0 rfl) ?_
  refine lv_bipush (v := (97 : Int32)) hx hb dX4_isLetter_1 (by decide) ?_
  refine lv_icmp_lt (tgt := 16) hx hb dX4_isLetter_3 (by decide) (fun c1 => ?_) (fun c1 => ?_)
  · replace hf := (if_pos c1).symm.trans hf
    refine lv_iconst (v := (0 : Int32)) hx hb dX4_isLetter_16 (by decide) ?_
    exact w_iret (X := XC Γ) hx hb hr hlocks hK hP hS (by decide) hf dX4_isLetter_17
  · replace hf := (if_neg c1).symm.trans hf
    refine lv_iload_n hx hb dX4_isLetter_6 rfl (lv_at hl 0 rfl) ?_
    refine lv_bipush (v := (122 : Int32)) hx hb dX4_isLetter_7 (by decide) ?_
    refine lv_icmp_gt (tgt := 16) hx hb dX4_isLetter_9 (by decide) (fun c2 => ?_) (fun c2 => ?_)
    · replace hf := (if_pos c2).symm.trans hf
      refine lv_iconst (v := (0 : Int32)) hx hb dX4_isLetter_16 (by decide) ?_
      exact w_iret (X := XC Γ) hx hb hr hlocks hK hP hS (by decide) hf dX4_isLetter_17
    · replace hf := (if_neg c2).symm.trans hf
      refine lv_iconst (v := (1 : Int32)) hx hb dX4_isLetter_12 (by decide) ?_
      refine lv_goto (tgt := 17) hx hb dX4_isLetter_13 (by decide) ?_
      exact w_iret (X := XC Γ) hx hb hr hlocks hK hP hS (by decide) hf dX4_isLetter_17
def f_X4_isDigit (x0 : Int32) (σ : Sg) : Option (Int32 × Sg) := if x0 < (48 : Int32) then some ((0 : Int32), σ) else if (57 : Int32) < x0 then some ((0 : Int32), σ) else some ((1 : Int32), σ)
set_option maxHeartbeats 40000000 in
set_option maxRecDepth 100000 in
theorem c_X4_isDigit (l : Launch) (Γ : Geo) (hG : okC Γ) (x0 : Int32) (σ : Sg) (r : Int32) (σ' : Sg) (hf : f_X4_isDigit x0 σ = some (r, σ')) (sz : Nat) : Met l yX4_isDigit (wz yX4_isDigit cX4_isDigit 1 (some .boolean)) { frames := 0, cells := 0, slots := 0, locals := 0 } (va_Pc [.int x0] (wPre Γ.1 vwCl (tysC Γ) (XC Γ) (alC Γ) Γ.2.2.2 σ sz)) (wQi Γ.1 vwCl (tysC Γ) (XC Γ) (alC Γ) r σ' sz) 0 0 (wA (alC Γ) sz) := by
  refine w_enter (cc := cX4_isDigit) (maxL := 1) (ret := (some .boolean)) (by decide) rfl (Nat.le_of_ble_eq_true rfl) ?_
  intro p e s m below meth c ls hx hb hr hlocks hml hown hts hsz hP hK hkc hN hl
  subst hsz
  generalize hav : ([.int x0] : List Value) = av at hl hts ⊢
  have hl : lv_has ls 1 [(0, .int x0)] := by rw [← hav] at hl; exact hl
  suffices hw : ∀ (H : Heap) (locs : List Loc), va_P Γ.1 vwCl (XC Γ σ) H → va_S (wA (alC Γ) s.heap.size) s.heap H locs → W p l e { frames := 0, cells := 0, slots := 0, locals := 0 } s m av.toArray below meth c H locs 0 0 (MQ below (wQi Γ.1 vwCl (tysC Γ) (XC Γ) (alC Γ) r σ' s.heap.size) av.toArray s 0 0 (wA (alC Γ) s.heap.size)) (F0 m 0 ls []) from hw _ [] hP va_S.rf
  clear hP
  intro H locs hP hS
  unfold f_X4_isDigit at hf
  refine lv_iload_n hx hb dX4_isDigit_0 rfl (lv_at hl 0 rfl) ?_
  refine lv_bipush (v := (48 : Int32)) hx hb dX4_isDigit_1 (by decide) ?_
  refine lv_icmp_lt (tgt := 16) hx hb dX4_isDigit_3 (by decide) (fun c1 => ?_) (fun c1 => ?_)
  · replace hf := (if_pos c1).symm.trans hf
    refine lv_iconst (v := (0 : Int32)) hx hb dX4_isDigit_16 (by decide) ?_
    exact w_iret (X := XC Γ) hx hb hr hlocks hK hP hS (by decide) hf dX4_isDigit_17
  · replace hf := (if_neg c1).symm.trans hf
    refine lv_iload_n hx hb dX4_isDigit_6 rfl (lv_at hl 0 rfl) ?_
    refine lv_bipush (v := (57 : Int32)) hx hb dX4_isDigit_7 (by decide) ?_
    refine lv_icmp_gt (tgt := 16) hx hb dX4_isDigit_9 (by decide) (fun c2 => ?_) (fun c2 => ?_)
    · replace hf := (if_pos c2).symm.trans hf
      refine lv_iconst (v := (0 : Int32)) hx hb dX4_isDigit_16 (by decide) ?_
      exact w_iret (X := XC Γ) hx hb hr hlocks hK hP hS (by decide) hf dX4_isDigit_17
    · replace hf := (if_neg c2).symm.trans hf
      refine lv_iconst (v := (1 : Int32)) hx hb dX4_isDigit_12 (by decide) ?_
      refine lv_goto (tgt := 17) hx hb dX4_isDigit_13 (by decide) ?_
      exact w_iret (X := XC Γ) hx hb hr hlocks hK hP hS (by decide) hf dX4_isDigit_17
def f_X4_isSpelled_20 (i1 : Nat) : Nat → Int32 → Sg → Option (Int32 × Sg)
  | 0, _, _ => none
  | n + 1, y2, τ => if i1 < 14 then (f_J0_length_8abf5 (i1) τ).bind fun (q6 : Int32 × Sg) => if q6.1 ≤ y2 then some ((1 : Int32), q6.2) else (f_J0_charAt_5068e (i1) y2 q6.2).bind fun (q9 : Int32 × Sg) => if okI ((q9.2 (37) 0) + y2) 160 then if q9.1 = (q9.2 (34) (((q9.2 (37) 0) + y2)).toNatClampNeg) then (f_X4_isSpelled_20 i1 n) ((y2 + (1 : Int32))) q9.2 else some ((0 : Int32), q9.2) else none else none
def f_X4_isSpelled (i1 : Nat) (σ : Sg) : Option (Int32 × Sg) := if i1 < 14 then (f_J0_length_8abf5 (i1) σ).bind fun (q2 : Int32 × Sg) => if q2.1 = ((q2.2 (36) 0) - (q2.2 (37) 0)) then f_X4_isSpelled_20 i1 5000 ((0 : Int32)) q2.2 else some ((0 : Int32), q2.2) else none
set_option maxHeartbeats 40000000 in
set_option maxRecDepth 100000 in
theorem c_X4_isSpelled (l : Launch) (Γ : Geo) (hG : okC Γ) (i1 : Nat) (σ : Sg) (r : Int32) (σ' : Sg) (hf : f_X4_isSpelled i1 σ = some (r, σ')) (sz : Nat) : Met l yX4_isSpelled (wz yX4_isSpelled cX4_isSpelled 3 (some .boolean)) { frames := 4, cells := 0, slots := 0, locals := 85 } (va_Pc [.ref (Γ.2.2.1 (25)), .ref (Γ.2.2.2.1 (i1))] (wPre Γ.1 vwCl (tysC Γ) (XC Γ) (alC Γ) Γ.2.2.2 σ sz)) (wQi Γ.1 vwCl (tysC Γ) (XC Γ) (alC Γ) r σ' sz) 0 0 (wA (alC Γ) sz) := by
  refine w_enter (cc := cX4_isSpelled) (maxL := 3) (ret := (some .boolean)) (by decide) rfl (Nat.le_of_ble_eq_true rfl) ?_
  intro p e s m below meth c ls hx hb hr hlocks hml hown hts hsz hP hK hkc hN hl
  subst hsz
  generalize hav : ([.ref (Γ.2.2.1 (25)), .ref (Γ.2.2.2.1 (i1))] : List Value) = av at hl hts ⊢
  have hl : lv_has ls 3 [(0, .ref (Γ.2.2.1 (25))), (1, .ref (Γ.2.2.2.1 (i1)))] := by rw [← hav] at hl; exact hl
  have j20 : ∀ (n20 : Nat), ∀ (y2 : Int32) (τ : Sg) (H : Heap) (locs : List Loc) (ls : Array Slot) (hf : f_X4_isSpelled_20 i1 n20 y2 τ = some (r, σ')) (hP : va_P Γ.1 vwCl (XC Γ τ) H) (hS : va_S (wA (alC Γ) s.heap.size) s.heap H locs) (hl : lv_has ls 3 [(0, .ref (Γ.2.2.1 (25))), (1, .ref (Γ.2.2.2.1 (i1))), (2, .int y2)]), W p l e { frames := 4, cells := 0, slots := 0, locals := 85 } s m av.toArray below meth c H locs 0 0 (MQ below (wQi Γ.1 vwCl (tysC Γ) (XC Γ) (alC Γ) r σ' s.heap.size) av.toArray s 0 0 (wA (alC Γ) s.heap.size)) (F0 m 20 ls []) := by
    intro n20
    induction n20 with
    | zero =>
      intro y2 τ H locs ls hf
      exact absurd hf (by intro h; cases h)
    | succ n20 ih20 =>
      intro y2 τ H locs ls hf hP hS hl
      unfold f_X4_isSpelled_20 at hf
      obtain ⟨g5, hf⟩ := w_oi hf
      refine lv_iload_n hx hb dX4_isSpelled_20 rfl (lv_at hl 2 rfl) ?_
      refine lv_aload_n hx hb dX4_isSpelled_21 rfl (lv_at hl 1 rfl) ?_
      obtain ⟨q6, h7, hf⟩ := w_ob hf
      refine w_ci (va_runV (As := []) (rest := [.int y2]) ⟨hx, hb, hml, hown, hts⟩ (c_J0_length_8abf5 l Γ hG (i1) τ q6.1 q6.2 h7 H.size) (cwV 0 hts (wzV K474 K470 K471 K472 K473) rfl rfl rfl (by decide +kernel) ⟨(Nat.le_of_ble_eq_true rfl), (Nat.le_of_ble_eq_true rfl)⟩) (w_preS hK hP hkc hN hS g5) rfl rfl hl.1 rfl (lv_room (Nat.le_of_ble_eq_true rfl)) dX4_isSpelled_22 ⟨Nat.le_refl _, Nat.le_refl _⟩) hS (fun H locs hP hS => ?_)
      refine lv_icmp_ge (tgt := 55) hx hb dX4_isSpelled_25 (by decide) (fun c8 => ?_) (fun c8 => ?_)
      · replace hf := (if_pos c8).symm.trans hf
        refine lv_iconst (v := (1 : Int32)) hx hb dX4_isSpelled_55 (by decide) ?_
        exact w_iret (X := XC Γ) hx hb hr hlocks hK hP hS (by decide) hf dX4_isSpelled_56
      · replace hf := (if_neg c8).symm.trans hf
        refine lv_aload_n hx hb dX4_isSpelled_28 rfl (lv_at hl 1 rfl) ?_
        refine lv_iload_n hx hb dX4_isSpelled_29 rfl (lv_at hl 2 rfl) ?_
        obtain ⟨q9, h10, hf⟩ := w_ob hf
        refine w_ci (va_runV (As := [.int y2]) (rest := []) ⟨hx, hb, hml, hown, hts⟩ (c_J0_charAt_5068e l Γ hG (i1) y2 q6.2 q9.1 q9.2 h10 H.size) (cwV 1 hts (wzV K485 K482 K483 K484 K473) rfl rfl rfl (by decide +kernel) ⟨(Nat.le_of_ble_eq_true rfl), (Nat.le_of_ble_eq_true rfl)⟩) (w_preS hK hP hkc hN hS g5) rfl rfl hl.1 rfl (lv_room (Nat.le_of_ble_eq_true rfl)) dX4_isSpelled_30 ⟨Nat.le_refl _, Nat.le_refl _⟩) hS (fun H locs hP hS => ?_)
        refine lv_aload_n hx hb dX4_isSpelled_33 rfl (lv_at hl 0 rfl) ?_
        refine va_get (D := Γ.1) (ci := 4) (v := .ref (Γ.2.2.1 (26))) (C := RX4) (T := TX4) (N := 7) hx hb hts iX4 hown hK hP (25) (gC_Reader Γ q9.2) rfl 0 (by decide) (hts (.fieldLink RX4 9 "OtherHalfOfNight$Reader" "tape" "[I") (wzm K53)) (fun _ h9 => h9) rfl dX4_isSpelled_34 ?_
        refine lv_aload_n hx hb dX4_isSpelled_37 rfl (lv_at hl 0 rfl) ?_
        refine va_get (D := Γ.1) (ci := 4) (v := .int (q9.2 (37) 0)) (C := RX4) (T := TX4) (N := 7) hx hb hts iX4 hown hK hP (25) (gC_Reader Γ q9.2) rfl 4 (by decide) (hts (.fieldLink RX4 44 "OtherHalfOfNight$Reader" "start" "I") (wzm K450)) (fun _ h9 => h9) rfl dX4_isSpelled_38 ?_
        refine lv_iload_n hx hb dX4_isSpelled_41 rfl (lv_at hl 2 rfl) ?_
        refine lv_iadd hx hb dX4_isSpelled_42 ?_
        obtain ⟨g11, hf⟩ := w_oi hf
        refine va_iald (D := Γ.1) (tys := (tysC Γ)) hx hb hK hP (26) 0 (gC_Reader_tape Γ q9.2) rfl g11 dX4_isSpelled_43 ?_
        refine lv_icmp_eq (tgt := 49) hx hb dX4_isSpelled_44 (by decide) (fun c12 => ?_) (fun c12 => ?_)
        · replace hf := (if_pos c12).symm.trans hf
          refine lv_iinc (v := (y2 + (1 : Int32))) (lv' := [(2, .int (y2 + (1 : Int32))), (0, .ref (Γ.2.2.1 (25))), (1, .ref (Γ.2.2.2.1 (i1)))]) hx hb dX4_isSpelled_49 hl (k := 2) rfl rfl (by decide) rfl (fun ls hl => ?_)
          refine lv_goto (tgt := 20) hx hb dX4_isSpelled_52 (by decide) ?_
          exact ih20 ((y2 + (1 : Int32))) q9.2 H locs ls hf hP hS (lv_sub hl [1, 2, 0] rfl)
        · replace hf := (if_neg c12).symm.trans hf
          refine lv_iconst (v := (0 : Int32)) hx hb dX4_isSpelled_47 (by decide) ?_
          exact w_iret (X := XC Γ) hx hb hr hlocks hK hP hS (by decide) hf dX4_isSpelled_48
  suffices hw : ∀ (H : Heap) (locs : List Loc), va_P Γ.1 vwCl (XC Γ σ) H → va_S (wA (alC Γ) s.heap.size) s.heap H locs → W p l e { frames := 4, cells := 0, slots := 0, locals := 85 } s m av.toArray below meth c H locs 0 0 (MQ below (wQi Γ.1 vwCl (tysC Γ) (XC Γ) (alC Γ) r σ' s.heap.size) av.toArray s 0 0 (wA (alC Γ) s.heap.size)) (F0 m 0 ls []) from hw _ [] hP va_S.rf
  clear hP
  intro H locs hP hS
  unfold f_X4_isSpelled at hf
  obtain ⟨g1, hf⟩ := w_oi hf
  refine lv_aload_n hx hb dX4_isSpelled_0 rfl (lv_at hl 1 rfl) ?_
  obtain ⟨q2, h3, hf⟩ := w_ob hf
  refine w_ci (va_runV (As := []) (rest := []) ⟨hx, hb, hml, hown, hts⟩ (c_J0_length_8abf5 l Γ hG (i1) σ q2.1 q2.2 h3 H.size) (cwV 0 hts (wzV K474 K470 K471 K472 K473) rfl rfl rfl (by decide +kernel) ⟨(Nat.le_of_ble_eq_true rfl), (Nat.le_of_ble_eq_true rfl)⟩) (w_preS hK hP hkc hN hS g1) rfl rfl hl.1 rfl (lv_room (Nat.le_of_ble_eq_true rfl)) dX4_isSpelled_1 ⟨Nat.le_refl _, Nat.le_refl _⟩) hS (fun H locs hP hS => ?_)
  refine lv_aload_n hx hb dX4_isSpelled_4 rfl (lv_at hl 0 rfl) ?_
  refine va_get (D := Γ.1) (ci := 4) (v := .int (q2.2 (36) 0)) (C := RX4) (T := TX4) (N := 7) hx hb hts iX4 hown hK hP (25) (gC_Reader Γ q2.2) rfl 3 (by decide) (hts (.fieldLink RX4 29 "OtherHalfOfNight$Reader" "at" "I") (wzm K448)) (fun _ h9 => h9) rfl dX4_isSpelled_5 ?_
  refine lv_aload_n hx hb dX4_isSpelled_8 rfl (lv_at hl 0 rfl) ?_
  refine va_get (D := Γ.1) (ci := 4) (v := .int (q2.2 (37) 0)) (C := RX4) (T := TX4) (N := 7) hx hb hts iX4 hown hK hP (25) (gC_Reader Γ q2.2) rfl 4 (by decide) (hts (.fieldLink RX4 44 "OtherHalfOfNight$Reader" "start" "I") (wzm K450)) (fun _ h9 => h9) rfl dX4_isSpelled_9 ?_
  refine lv_isub hx hb dX4_isSpelled_12 ?_
  refine lv_icmp_eq (tgt := 18) hx hb dX4_isSpelled_13 (by decide) (fun c4 => ?_) (fun c4 => ?_)
  · replace hf := (if_pos c4).symm.trans hf
    refine lv_iconst (v := (0 : Int32)) hx hb dX4_isSpelled_18 (by decide) ?_
    refine lv_istore_n (lv' := [(2, .int (0 : Int32)), (0, .ref (Γ.2.2.1 (25))), (1, .ref (Γ.2.2.2.1 (i1)))]) hx hb dX4_isSpelled_19 rfl hl (by decide) rfl (fun ls hl => ?_)
    exact j20 5000 ((0 : Int32)) q2.2 H locs ls hf hP hS (lv_sub hl [1, 2, 0] rfl)
  · replace hf := (if_neg c4).symm.trans hf
    refine lv_iconst (v := (0 : Int32)) hx hb dX4_isSpelled_16 (by decide) ?_
    exact w_iret (X := XC Γ) hx hb hr hlocks hK hP hS (by decide) hf dX4_isSpelled_17
def f_X4_stepWord_50 : Nat → Int32 → Sg → Option Sg
  | 0, _, _ => none
  | n + 1, y1, τ => if (267 : Int32) < y1 then some τ else (f_X7_spelling y1 τ).bind fun (q7 : Nat × Sg) => if q7.1 < 14 then (f_X4_isSpelled (q7.1) q7.2).bind fun (q10 : Int32 × Sg) => if q10.1 = 0 then (f_X4_stepWord_50 n) ((y1 + (1 : Int32))) q10.2 else (f_X4_stepWord_50 n) ((y1 + (1 : Int32))) (up q10.2 (38) 0 y1) else none
def f_X4_stepWord_0 : Nat → Sg → Option Sg
  | 0, _ => none
  | n + 1, τ => if (τ (35) 0) ≤ (τ (36) 0) then f_X4_stepWord_50 5000 ((256 : Int32)) (up τ (38) 0 (270 : Int32)) else if okI (τ (36) 0) 160 then (f_X4_isLetter (τ (34) ((τ (36) 0)).toNatClampNeg) τ).bind fun (q3 : Int32 × Sg) => if q3.1 = 0 then f_X4_stepWord_50 5000 ((256 : Int32)) (up q3.2 (38) 0 (270 : Int32)) else (f_X4_stepWord_0 n) (up q3.2 (36) 0 ((q3.2 (36) 0) + (1 : Int32))) else none
def f_X4_stepWord (σ : Sg) : Option Sg := f_X4_stepWord_0 5000 σ
set_option maxHeartbeats 40000000 in
set_option maxRecDepth 100000 in
theorem c_X4_stepWord (l : Launch) (Γ : Geo) (hG : okC Γ) (σ : Sg) (σ' : Sg) (hf : f_X4_stepWord σ = some σ') (sz : Nat) : Met l yX4_stepWord (wz yX4_stepWord cX4_stepWord 2 none) { frames := 5, cells := 0, slots := 0, locals := 107 } (va_Pc [.ref (Γ.2.2.1 (25))] (wPre Γ.1 vwCl (tysC Γ) (XC Γ) (alC Γ) Γ.2.2.2 σ sz)) (wQv Γ.1 vwCl (tysC Γ) (XC Γ) (alC Γ) σ' sz) 0 0 (wA (alC Γ) sz) := by
  refine w_enter (cc := cX4_stepWord) (maxL := 2) (ret := none) (by decide) rfl (Nat.le_of_ble_eq_true rfl) ?_
  intro p e s m below meth c ls hx hb hr hlocks hml hown hts hsz hP hK hkc hN hl
  subst hsz
  generalize hav : ([.ref (Γ.2.2.1 (25))] : List Value) = av at hl hts ⊢
  have hl : lv_has ls 2 [(0, .ref (Γ.2.2.1 (25)))] := by rw [← hav] at hl; exact hl
  have j50 : ∀ (n50 : Nat), ∀ (y1 : Int32) (τ : Sg) (H : Heap) (locs : List Loc) (ls : Array Slot) (hf : f_X4_stepWord_50 n50 y1 τ = some σ') (hP : va_P Γ.1 vwCl (XC Γ τ) H) (hS : va_S (wA (alC Γ) s.heap.size) s.heap H locs) (hl : lv_has ls 2 [(0, .ref (Γ.2.2.1 (25))), (1, .int y1)]), W p l e { frames := 5, cells := 0, slots := 0, locals := 107 } s m av.toArray below meth c H locs 0 0 (MQ below (wQv Γ.1 vwCl (tysC Γ) (XC Γ) (alC Γ) σ' s.heap.size) av.toArray s 0 0 (wA (alC Γ) s.heap.size)) (F0 m 50 ls []) := by
    intro n50
    induction n50 with
    | zero =>
      intro y1 τ H locs ls hf
      exact absurd hf (by intro h; cases h)
    | succ n50 ih50 =>
      intro y1 τ H locs ls hf hP hS hl
      unfold f_X4_stepWord_50 at hf
      refine lv_iload_n hx hb dX4_stepWord_50 rfl (lv_at hl 1 rfl) ?_
      refine lv_sipush (v := (267 : Int32)) hx hb dX4_stepWord_51 (by decide) ?_
      refine lv_icmp_gt (tgt := 79) hx hb dX4_stepWord_54 (by decide) (fun c6 => ?_) (fun c6 => ?_)
      · replace hf := (if_pos c6).symm.trans hf
        exact w_vret (X := XC Γ) hx hb hr hlocks hK hP hS hf dX4_stepWord_79
      · replace hf := (if_neg c6).symm.trans hf
        refine lv_aload_n hx hb dX4_stepWord_57 rfl (lv_at hl 0 rfl) ?_
        refine lv_iload_n hx hb dX4_stepWord_58 rfl (lv_at hl 1 rfl) ?_
        obtain ⟨q7, h8, hf⟩ := w_ob hf
        refine w_cr (va_runS (As := [.int y1]) (rest := [.ref (Γ.2.2.1 (25))]) ⟨hx, hb, hml, hown, hts⟩ (c_X7_spelling l Γ hG y1 τ q7.1 q7.2 h8 H.size) (va_cwS 1 hts (wzS2 K465 K463 K464 K355) rfl rfl rfl (by decide +kernel) ⟨(Nat.le_of_ble_eq_true rfl), (Nat.le_of_ble_eq_true rfl)⟩) (w_pre hK hP hkc hN hS) rfl rfl hl.1 rfl (lv_room (Nat.le_of_ble_eq_true rfl)) dX4_stepWord_59 ⟨Nat.le_refl _, Nat.le_refl _⟩) hS (fun H locs hP hS => ?_)
        obtain ⟨g9, hf⟩ := w_oi hf
        obtain ⟨q10, h11, hf⟩ := w_ob hf
        refine w_ci (va_runV (As := [.ref (Γ.2.2.2.1 (q7.1))]) (rest := []) ⟨hx, hb, hml, hown, hts⟩ (c_X4_isSpelled l Γ hG (q7.1) q7.2 q10.1 q10.2 h11 H.size) (cwV 1 hts (wzV K469 K466 K467 K468 K20) rfl rfl rfl (by decide +kernel) ⟨(Nat.le_of_ble_eq_true rfl), (Nat.le_of_ble_eq_true rfl)⟩) (w_preV hK hP hkc hN hS (gC_Reader Γ q7.2) rfl) rfl rfl hl.1 rfl (lv_room (Nat.le_of_ble_eq_true rfl)) dX4_stepWord_62 ⟨Nat.le_refl _, Nat.le_refl _⟩) hS (fun H locs hP hS => ?_)
        refine lv_if_eq (tgt := 73) hx hb dX4_stepWord_65 (by decide) (fun c12 => ?_) (fun c12 => ?_)
        · replace hf := (if_pos c12).symm.trans hf
          refine lv_iinc (v := (y1 + (1 : Int32))) (lv' := [(1, .int (y1 + (1 : Int32))), (0, .ref (Γ.2.2.1 (25)))]) hx hb dX4_stepWord_73 hl (k := 1) rfl rfl (by decide) rfl (fun ls hl => ?_)
          refine lv_goto (tgt := 50) hx hb dX4_stepWord_76 (by decide) ?_
          exact ih50 ((y1 + (1 : Int32))) q10.2 H locs ls hf hP hS (lv_sub hl [1, 0] rfl)
        · replace hf := (if_neg c12).symm.trans hf
          refine lv_aload_n hx hb dX4_stepWord_68 rfl (lv_at hl 0 rfl) ?_
          refine lv_iload_n hx hb dX4_stepWord_69 rfl (lv_at hl 1 rfl) ?_
          refine w_put (X := XC Γ) (σ' := (up q10.2 (38) 0 y1)) (ci := 4) (C := RX4) (T := TX4) (N := 7) (ty := .int) hx hb hts iX4 tyX4 tyX4_ok nmX4 hown hK hP (halC Γ) hG hS (25) (gC_Reader Γ q10.2) rfl 5 (by decide) (hts (.fieldLink RX4 41 "OtherHalfOfNight$Reader" "token" "I") (wzm K449)) (fun _ h9 => h9) rfl (by decide +kernel) rfl rfl (Nat.le_of_ble_eq_true rfl) dX4_stepWord_70 (sC_Reader_token Γ q10.2 y1) (fun H locs hP hS => ?_)
          refine lv_iinc (v := (y1 + (1 : Int32))) (lv' := [(1, .int (y1 + (1 : Int32))), (0, .ref (Γ.2.2.1 (25)))]) hx hb dX4_stepWord_73 hl (k := 1) rfl rfl (by decide) rfl (fun ls hl => ?_)
          refine lv_goto (tgt := 50) hx hb dX4_stepWord_76 (by decide) ?_
          exact ih50 ((y1 + (1 : Int32))) (up q10.2 (38) 0 y1) H locs ls hf hP hS (lv_sub hl [1, 0] rfl)
  have j0 : ∀ (n0 : Nat), ∀ (τ : Sg) (H : Heap) (locs : List Loc) (ls : Array Slot) (hf : f_X4_stepWord_0 n0 τ = some σ') (hP : va_P Γ.1 vwCl (XC Γ τ) H) (hS : va_S (wA (alC Γ) s.heap.size) s.heap H locs) (hl : lv_has ls 2 [(0, .ref (Γ.2.2.1 (25)))]), W p l e { frames := 5, cells := 0, slots := 0, locals := 107 } s m av.toArray below meth c H locs 0 0 (MQ below (wQv Γ.1 vwCl (tysC Γ) (XC Γ) (alC Γ) σ' s.heap.size) av.toArray s 0 0 (wA (alC Γ) s.heap.size)) (F0 m 0 ls []) := by
    intro n0
    induction n0 with
    | zero =>
      intro τ H locs ls hf
      exact absurd hf (by intro h; cases h)
    | succ n0 ih0 =>
      intro τ H locs ls hf hP hS hl
      unfold f_X4_stepWord_0 at hf
      refine lv_aload_n hx hb dX4_stepWord_0 rfl (lv_at hl 0 rfl) ?_
      refine va_get (D := Γ.1) (ci := 4) (v := .int (τ (36) 0)) (C := RX4) (T := TX4) (N := 7) hx hb hts iX4 hown hK hP (25) (gC_Reader Γ τ) rfl 3 (by decide) (hts (.fieldLink RX4 29 "OtherHalfOfNight$Reader" "at" "I") (wzm K448)) (fun _ h9 => h9) rfl dX4_stepWord_1 ?_
      refine lv_aload_n hx hb dX4_stepWord_4 rfl (lv_at hl 0 rfl) ?_
      refine va_get (D := Γ.1) (ci := 4) (v := .int (τ (35) 0)) (C := RX4) (T := TX4) (N := 7) hx hb hts iX4 hown hK hP (25) (gC_Reader Γ τ) rfl 1 (by decide) (hts (.fieldLink RX4 22 "OtherHalfOfNight$Reader" "size" "I") (wzm K425)) (fun _ h9 => h9) rfl dX4_stepWord_5 ?_
      refine lv_icmp_ge (tgt := 39) hx hb dX4_stepWord_8 (by decide) (fun c1 => ?_) (fun c1 => ?_)
      · replace hf := (if_pos c1).symm.trans hf
        refine lv_aload_n hx hb dX4_stepWord_39 rfl (lv_at hl 0 rfl) ?_
        refine lv_sipush (v := (270 : Int32)) hx hb dX4_stepWord_40 (by decide) ?_
        refine w_put (X := XC Γ) (σ' := (up τ (38) 0 (270 : Int32))) (ci := 4) (C := RX4) (T := TX4) (N := 7) (ty := .int) hx hb hts iX4 tyX4 tyX4_ok nmX4 hown hK hP (halC Γ) hG hS (25) (gC_Reader Γ τ) rfl 5 (by decide) (hts (.fieldLink RX4 41 "OtherHalfOfNight$Reader" "token" "I") (wzm K449)) (fun _ h9 => h9) rfl (by decide +kernel) rfl rfl (Nat.le_of_ble_eq_true rfl) dX4_stepWord_43 (sC_Reader_token Γ τ (270 : Int32)) (fun H locs hP hS => ?_)
        refine lv_sipush (v := (256 : Int32)) hx hb dX4_stepWord_46 (by decide) ?_
        refine lv_istore_n (lv' := [(1, .int (256 : Int32)), (0, .ref (Γ.2.2.1 (25)))]) hx hb dX4_stepWord_49 rfl hl (by decide) rfl (fun ls hl => ?_)
        exact j50 5000 ((256 : Int32)) (up τ (38) 0 (270 : Int32)) H locs ls hf hP hS (lv_sub hl [1, 0] rfl)
      · replace hf := (if_neg c1).symm.trans hf
        refine lv_aload_n hx hb dX4_stepWord_11 rfl (lv_at hl 0 rfl) ?_
        refine va_get (D := Γ.1) (ci := 4) (v := .ref (Γ.2.2.1 (26))) (C := RX4) (T := TX4) (N := 7) hx hb hts iX4 hown hK hP (25) (gC_Reader Γ τ) rfl 0 (by decide) (hts (.fieldLink RX4 9 "OtherHalfOfNight$Reader" "tape" "[I") (wzm K53)) (fun _ h9 => h9) rfl dX4_stepWord_12 ?_
        refine lv_aload_n hx hb dX4_stepWord_15 rfl (lv_at hl 0 rfl) ?_
        refine va_get (D := Γ.1) (ci := 4) (v := .int (τ (36) 0)) (C := RX4) (T := TX4) (N := 7) hx hb hts iX4 hown hK hP (25) (gC_Reader Γ τ) rfl 3 (by decide) (hts (.fieldLink RX4 29 "OtherHalfOfNight$Reader" "at" "I") (wzm K448)) (fun _ h9 => h9) rfl dX4_stepWord_16 ?_
        obtain ⟨g2, hf⟩ := w_oi hf
        refine va_iald (D := Γ.1) (tys := (tysC Γ)) hx hb hK hP (26) 0 (gC_Reader_tape Γ τ) rfl g2 dX4_stepWord_19 ?_
        obtain ⟨q3, h4, hf⟩ := w_ob hf
        refine w_ci (va_runS (As := [.int (τ (34) ((τ (36) 0)).toNatClampNeg)]) (rest := []) ⟨hx, hb, hml, hown, hts⟩ (c_X4_isLetter l Γ hG (τ (34) ((τ (36) 0)).toNatClampNeg) τ q3.1 q3.2 h4 H.size) (cwS 1 hts (wzS K458 K456 K457 K20) rfl rfl rfl (by decide +kernel) ⟨(Nat.le_of_ble_eq_true rfl), (Nat.le_of_ble_eq_true rfl)⟩) (w_pre hK hP hkc hN hS) rfl rfl hl.1 rfl (lv_room (Nat.le_of_ble_eq_true rfl)) dX4_stepWord_20 ⟨Nat.le_refl _, Nat.le_refl _⟩) hS (fun H locs hP hS => ?_)
        refine lv_if_eq (tgt := 39) hx hb dX4_stepWord_23 (by decide) (fun c5 => ?_) (fun c5 => ?_)
        · replace hf := (if_pos c5).symm.trans hf
          refine lv_aload_n hx hb dX4_stepWord_39 rfl (lv_at hl 0 rfl) ?_
          refine lv_sipush (v := (270 : Int32)) hx hb dX4_stepWord_40 (by decide) ?_
          refine w_put (X := XC Γ) (σ' := (up q3.2 (38) 0 (270 : Int32))) (ci := 4) (C := RX4) (T := TX4) (N := 7) (ty := .int) hx hb hts iX4 tyX4 tyX4_ok nmX4 hown hK hP (halC Γ) hG hS (25) (gC_Reader Γ q3.2) rfl 5 (by decide) (hts (.fieldLink RX4 41 "OtherHalfOfNight$Reader" "token" "I") (wzm K449)) (fun _ h9 => h9) rfl (by decide +kernel) rfl rfl (Nat.le_of_ble_eq_true rfl) dX4_stepWord_43 (sC_Reader_token Γ q3.2 (270 : Int32)) (fun H locs hP hS => ?_)
          refine lv_sipush (v := (256 : Int32)) hx hb dX4_stepWord_46 (by decide) ?_
          refine lv_istore_n (lv' := [(1, .int (256 : Int32)), (0, .ref (Γ.2.2.1 (25)))]) hx hb dX4_stepWord_49 rfl hl (by decide) rfl (fun ls hl => ?_)
          exact j50 5000 ((256 : Int32)) (up q3.2 (38) 0 (270 : Int32)) H locs ls hf hP hS (lv_sub hl [1, 0] rfl)
        · replace hf := (if_neg c5).symm.trans hf
          refine lv_aload_n hx hb dX4_stepWord_26 rfl (lv_at hl 0 rfl) ?_
          refine lv_dup hx hb dX4_stepWord_27 rfl ?_
          refine va_get (D := Γ.1) (ci := 4) (v := .int (q3.2 (36) 0)) (C := RX4) (T := TX4) (N := 7) hx hb hts iX4 hown hK hP (25) (gC_Reader Γ q3.2) rfl 3 (by decide) (hts (.fieldLink RX4 29 "OtherHalfOfNight$Reader" "at" "I") (wzm K448)) (fun _ h9 => h9) rfl dX4_stepWord_28 ?_
          refine lv_iconst (v := (1 : Int32)) hx hb dX4_stepWord_31 (by decide) ?_
          refine lv_iadd hx hb dX4_stepWord_32 ?_
          refine w_put (X := XC Γ) (σ' := (up q3.2 (36) 0 ((q3.2 (36) 0) + (1 : Int32)))) (ci := 4) (C := RX4) (T := TX4) (N := 7) (ty := .int) hx hb hts iX4 tyX4 tyX4_ok nmX4 hown hK hP (halC Γ) hG hS (25) (gC_Reader Γ q3.2) rfl 3 (by decide) (hts (.fieldLink RX4 29 "OtherHalfOfNight$Reader" "at" "I") (wzm K448)) (fun _ h9 => h9) rfl (by decide +kernel) rfl rfl (Nat.le_of_ble_eq_true rfl) dX4_stepWord_33 (sC_Reader_at Γ q3.2 ((q3.2 (36) 0) + (1 : Int32))) (fun H locs hP hS => ?_)
          refine lv_goto (tgt := 0) hx hb dX4_stepWord_36 (by decide) ?_
          exact ih0 (up q3.2 (36) 0 ((q3.2 (36) 0) + (1 : Int32))) H locs ls hf hP hS (lv_sub hl [0] rfl)
  suffices hw : ∀ (H : Heap) (locs : List Loc), va_P Γ.1 vwCl (XC Γ σ) H → va_S (wA (alC Γ) s.heap.size) s.heap H locs → W p l e { frames := 5, cells := 0, slots := 0, locals := 107 } s m av.toArray below meth c H locs 0 0 (MQ below (wQv Γ.1 vwCl (tysC Γ) (XC Γ) (alC Γ) σ' s.heap.size) av.toArray s 0 0 (wA (alC Γ) s.heap.size)) (F0 m 0 ls []) from hw _ [] hP va_S.rf
  clear hP
  intro H locs hP hS
  unfold f_X4_stepWord at hf
  exact j0 5000 σ H locs ls hf hP hS (lv_sub hl [0] rfl)
def f_X4_stepNumber_68 (τ : Sg) : Option Sg := if (4 : Int32) < ((τ (36) 0) - (τ (37) 0)) then some (up τ (38) 0 (270 : Int32)) else some (up τ (38) 0 (268 : Int32))
def f_X4_stepNumber_5 : Nat → Sg → Option Sg
  | 0, _ => none
  | n + 1, τ => if (τ (35) 0) ≤ (τ (36) 0) then f_X4_stepNumber_68 τ else if okI (τ (36) 0) 160 then (f_X4_isDigit (τ (34) ((τ (36) 0)).toNatClampNeg) τ).bind fun (q3 : Int32 × Sg) => if q3.1 = 0 then f_X4_stepNumber_68 q3.2 else if okI (q3.2 (36) 0) 160 then (some (up (up q3.2 (39) 0 ((((q3.2 (39) 0) * (10 : Int32)) + (q3.2 (34) ((q3.2 (36) 0)).toNatClampNeg)) - (48 : Int32))) (36) 0 (((up q3.2 (39) 0 ((((q3.2 (39) 0) * (10 : Int32)) + (q3.2 (34) ((q3.2 (36) 0)).toNatClampNeg)) - (48 : Int32))) (36) 0) + (1 : Int32)))).bind fun (τ7 : Sg) => (f_X4_stepNumber_5 n) τ7 else none else none
def f_X4_stepNumber (σ : Sg) : Option Sg := f_X4_stepNumber_5 5000 (up σ (39) 0 (0 : Int32))
set_option maxHeartbeats 40000000 in
set_option maxRecDepth 100000 in
theorem c_X4_stepNumber (l : Launch) (Γ : Geo) (hG : okC Γ) (σ : Sg) (σ' : Sg) (hf : f_X4_stepNumber σ = some σ') (sz : Nat) : Met l yX4_stepNumber (wz yX4_stepNumber cX4_stepNumber 1 none) { frames := 1, cells := 0, slots := 0, locals := 20 } (va_Pc [.ref (Γ.2.2.1 (25))] (wPre Γ.1 vwCl (tysC Γ) (XC Γ) (alC Γ) Γ.2.2.2 σ sz)) (wQv Γ.1 vwCl (tysC Γ) (XC Γ) (alC Γ) σ' sz) 0 0 (wA (alC Γ) sz) := by
  refine w_enter (cc := cX4_stepNumber) (maxL := 1) (ret := none) (by decide) rfl (Nat.le_of_ble_eq_true rfl) ?_
  intro p e s m below meth c ls hx hb hr hlocks hml hown hts hsz hP hK hkc hN hl
  subst hsz
  generalize hav : ([.ref (Γ.2.2.1 (25))] : List Value) = av at hl hts ⊢
  have hl : lv_has ls 1 [(0, .ref (Γ.2.2.1 (25)))] := by rw [← hav] at hl; exact hl
  have j68 : ∀ (τ : Sg) (H : Heap) (locs : List Loc) (ls : Array Slot) (hf : f_X4_stepNumber_68 τ = some σ') (hP : va_P Γ.1 vwCl (XC Γ τ) H) (hS : va_S (wA (alC Γ) s.heap.size) s.heap H locs) (hl : lv_has ls 1 [(0, .ref (Γ.2.2.1 (25)))]), W p l e { frames := 1, cells := 0, slots := 0, locals := 20 } s m av.toArray below meth c H locs 0 0 (MQ below (wQv Γ.1 vwCl (tysC Γ) (XC Γ) (alC Γ) σ' s.heap.size) av.toArray s 0 0 (wA (alC Γ) s.heap.size)) (F0 m 68 ls []) := by
    intro τ H locs ls hf hP hS hl
    unfold f_X4_stepNumber_68 at hf
    refine lv_aload_n hx hb dX4_stepNumber_68 rfl (lv_at hl 0 rfl) ?_
    refine lv_aload_n hx hb dX4_stepNumber_69 rfl (lv_at hl 0 rfl) ?_
    refine va_get (D := Γ.1) (ci := 4) (v := .int (τ (36) 0)) (C := RX4) (T := TX4) (N := 7) hx hb hts iX4 hown hK hP (25) (gC_Reader Γ τ) rfl 3 (by decide) (hts (.fieldLink RX4 29 "OtherHalfOfNight$Reader" "at" "I") (wzm K448)) (fun _ h9 => h9) rfl dX4_stepNumber_70 ?_
    refine lv_aload_n hx hb dX4_stepNumber_73 rfl (lv_at hl 0 rfl) ?_
    refine va_get (D := Γ.1) (ci := 4) (v := .int (τ (37) 0)) (C := RX4) (T := TX4) (N := 7) hx hb hts iX4 hown hK hP (25) (gC_Reader Γ τ) rfl 4 (by decide) (hts (.fieldLink RX4 44 "OtherHalfOfNight$Reader" "start" "I") (wzm K450)) (fun _ h9 => h9) rfl dX4_stepNumber_74 ?_
    refine lv_isub hx hb dX4_stepNumber_77 ?_
    refine lv_iconst (v := (4 : Int32)) hx hb dX4_stepNumber_78 (by decide) ?_
    refine lv_icmp_gt (tgt := 88) hx hb dX4_stepNumber_79 (by decide) (fun c9 => ?_) (fun c9 => ?_)
    · replace hf := (if_pos c9).symm.trans hf
      refine lv_sipush (v := (270 : Int32)) hx hb dX4_stepNumber_88 (by decide) ?_
      refine w_put (X := XC Γ) (σ' := (up τ (38) 0 (270 : Int32))) (ci := 4) (C := RX4) (T := TX4) (N := 7) (ty := .int) hx hb hts iX4 tyX4 tyX4_ok nmX4 hown hK hP (halC Γ) hG hS (25) (gC_Reader Γ τ) rfl 5 (by decide) (hts (.fieldLink RX4 41 "OtherHalfOfNight$Reader" "token" "I") (wzm K449)) (fun _ h9 => h9) rfl (by decide +kernel) rfl rfl (Nat.le_of_ble_eq_true rfl) dX4_stepNumber_91 (sC_Reader_token Γ τ (270 : Int32)) (fun H locs hP hS => ?_)
      exact w_vret (X := XC Γ) hx hb hr hlocks hK hP hS hf dX4_stepNumber_94
    · replace hf := (if_neg c9).symm.trans hf
      refine lv_sipush (v := (268 : Int32)) hx hb dX4_stepNumber_82 (by decide) ?_
      refine lv_goto (tgt := 91) hx hb dX4_stepNumber_85 (by decide) ?_
      refine w_put (X := XC Γ) (σ' := (up τ (38) 0 (268 : Int32))) (ci := 4) (C := RX4) (T := TX4) (N := 7) (ty := .int) hx hb hts iX4 tyX4 tyX4_ok nmX4 hown hK hP (halC Γ) hG hS (25) (gC_Reader Γ τ) rfl 5 (by decide) (hts (.fieldLink RX4 41 "OtherHalfOfNight$Reader" "token" "I") (wzm K449)) (fun _ h9 => h9) rfl (by decide +kernel) rfl rfl (Nat.le_of_ble_eq_true rfl) dX4_stepNumber_91 (sC_Reader_token Γ τ (268 : Int32)) (fun H locs hP hS => ?_)
      exact w_vret (X := XC Γ) hx hb hr hlocks hK hP hS hf dX4_stepNumber_94
  have j5 : ∀ (n5 : Nat), ∀ (τ : Sg) (H : Heap) (locs : List Loc) (ls : Array Slot) (hf : f_X4_stepNumber_5 n5 τ = some σ') (hP : va_P Γ.1 vwCl (XC Γ τ) H) (hS : va_S (wA (alC Γ) s.heap.size) s.heap H locs) (hl : lv_has ls 1 [(0, .ref (Γ.2.2.1 (25)))]), W p l e { frames := 1, cells := 0, slots := 0, locals := 20 } s m av.toArray below meth c H locs 0 0 (MQ below (wQv Γ.1 vwCl (tysC Γ) (XC Γ) (alC Γ) σ' s.heap.size) av.toArray s 0 0 (wA (alC Γ) s.heap.size)) (F0 m 5 ls []) := by
    intro n5
    induction n5 with
    | zero =>
      intro τ H locs ls hf
      exact absurd hf (by intro h; cases h)
    | succ n5 ih5 =>
      intro τ H locs ls hf hP hS hl
      unfold f_X4_stepNumber_5 at hf
      refine lv_aload_n hx hb dX4_stepNumber_5 rfl (lv_at hl 0 rfl) ?_
      refine va_get (D := Γ.1) (ci := 4) (v := .int (τ (36) 0)) (C := RX4) (T := TX4) (N := 7) hx hb hts iX4 hown hK hP (25) (gC_Reader Γ τ) rfl 3 (by decide) (hts (.fieldLink RX4 29 "OtherHalfOfNight$Reader" "at" "I") (wzm K448)) (fun _ h9 => h9) rfl dX4_stepNumber_6 ?_
      refine lv_aload_n hx hb dX4_stepNumber_9 rfl (lv_at hl 0 rfl) ?_
      refine va_get (D := Γ.1) (ci := 4) (v := .int (τ (35) 0)) (C := RX4) (T := TX4) (N := 7) hx hb hts iX4 hown hK hP (25) (gC_Reader Γ τ) rfl 1 (by decide) (hts (.fieldLink RX4 22 "OtherHalfOfNight$Reader" "size" "I") (wzm K425)) (fun _ h9 => h9) rfl dX4_stepNumber_10 ?_
      refine lv_icmp_ge (tgt := 68) hx hb dX4_stepNumber_13 (by decide) (fun c1 => ?_) (fun c1 => ?_)
      · replace hf := (if_pos c1).symm.trans hf
        exact j68 τ H locs ls hf hP hS (lv_sub hl [0] rfl)
      · replace hf := (if_neg c1).symm.trans hf
        refine lv_aload_n hx hb dX4_stepNumber_16 rfl (lv_at hl 0 rfl) ?_
        refine va_get (D := Γ.1) (ci := 4) (v := .ref (Γ.2.2.1 (26))) (C := RX4) (T := TX4) (N := 7) hx hb hts iX4 hown hK hP (25) (gC_Reader Γ τ) rfl 0 (by decide) (hts (.fieldLink RX4 9 "OtherHalfOfNight$Reader" "tape" "[I") (wzm K53)) (fun _ h9 => h9) rfl dX4_stepNumber_17 ?_
        refine lv_aload_n hx hb dX4_stepNumber_20 rfl (lv_at hl 0 rfl) ?_
        refine va_get (D := Γ.1) (ci := 4) (v := .int (τ (36) 0)) (C := RX4) (T := TX4) (N := 7) hx hb hts iX4 hown hK hP (25) (gC_Reader Γ τ) rfl 3 (by decide) (hts (.fieldLink RX4 29 "OtherHalfOfNight$Reader" "at" "I") (wzm K448)) (fun _ h9 => h9) rfl dX4_stepNumber_21 ?_
        obtain ⟨g2, hf⟩ := w_oi hf
        refine va_iald (D := Γ.1) (tys := (tysC Γ)) hx hb hK hP (26) 0 (gC_Reader_tape Γ τ) rfl g2 dX4_stepNumber_24 ?_
        obtain ⟨q3, h4, hf⟩ := w_ob hf
        refine w_ci (va_runS (As := [.int (τ (34) ((τ (36) 0)).toNatClampNeg)]) (rest := []) ⟨hx, hb, hml, hown, hts⟩ (c_X4_isDigit l Γ hG (τ (34) ((τ (36) 0)).toNatClampNeg) τ q3.1 q3.2 h4 H.size) (cwS 1 hts (wzS K521 K519 K520 K20) rfl rfl rfl (by decide +kernel) ⟨(Nat.le_of_ble_eq_true rfl), (Nat.le_of_ble_eq_true rfl)⟩) (w_pre hK hP hkc hN hS) rfl rfl hl.1 rfl (lv_room (Nat.le_of_ble_eq_true rfl)) dX4_stepNumber_25 ⟨Nat.le_refl _, Nat.le_refl _⟩) hS (fun H locs hP hS => ?_)
        refine lv_if_eq (tgt := 68) hx hb dX4_stepNumber_28 (by decide) (fun c5 => ?_) (fun c5 => ?_)
        · replace hf := (if_pos c5).symm.trans hf
          exact j68 q3.2 H locs ls hf hP hS (lv_sub hl [0] rfl)
        · replace hf := (if_neg c5).symm.trans hf
          refine lv_aload_n hx hb dX4_stepNumber_31 rfl (lv_at hl 0 rfl) ?_
          refine lv_aload_n hx hb dX4_stepNumber_32 rfl (lv_at hl 0 rfl) ?_
          refine va_get (D := Γ.1) (ci := 4) (v := .int (q3.2 (39) 0)) (C := RX4) (T := TX4) (N := 7) hx hb hts iX4 hown hK hP (25) (gC_Reader Γ q3.2) rfl 6 (by decide) (hts (.fieldLink RX4 79 "OtherHalfOfNight$Reader" "literal" "I") (wzm K526)) (fun _ h9 => h9) rfl dX4_stepNumber_33 ?_
          refine lv_bipush (v := (10 : Int32)) hx hb dX4_stepNumber_36 (by decide) ?_
          refine lv_imul hx hb dX4_stepNumber_38 ?_
          refine lv_aload_n hx hb dX4_stepNumber_39 rfl (lv_at hl 0 rfl) ?_
          refine va_get (D := Γ.1) (ci := 4) (v := .ref (Γ.2.2.1 (26))) (C := RX4) (T := TX4) (N := 7) hx hb hts iX4 hown hK hP (25) (gC_Reader Γ q3.2) rfl 0 (by decide) (hts (.fieldLink RX4 9 "OtherHalfOfNight$Reader" "tape" "[I") (wzm K53)) (fun _ h9 => h9) rfl dX4_stepNumber_40 ?_
          refine lv_aload_n hx hb dX4_stepNumber_43 rfl (lv_at hl 0 rfl) ?_
          refine va_get (D := Γ.1) (ci := 4) (v := .int (q3.2 (36) 0)) (C := RX4) (T := TX4) (N := 7) hx hb hts iX4 hown hK hP (25) (gC_Reader Γ q3.2) rfl 3 (by decide) (hts (.fieldLink RX4 29 "OtherHalfOfNight$Reader" "at" "I") (wzm K448)) (fun _ h9 => h9) rfl dX4_stepNumber_44 ?_
          obtain ⟨g6, hf⟩ := w_oi hf
          refine va_iald (D := Γ.1) (tys := (tysC Γ)) hx hb hK hP (26) 0 (gC_Reader_tape Γ q3.2) rfl g6 dX4_stepNumber_47 ?_
          refine lv_iadd hx hb dX4_stepNumber_48 ?_
          refine lv_bipush (v := (48 : Int32)) hx hb dX4_stepNumber_49 (by decide) ?_
          refine lv_isub hx hb dX4_stepNumber_51 ?_
          refine w_put (X := XC Γ) (σ' := (up q3.2 (39) 0 ((((q3.2 (39) 0) * (10 : Int32)) + (q3.2 (34) ((q3.2 (36) 0)).toNatClampNeg)) - (48 : Int32)))) (ci := 4) (C := RX4) (T := TX4) (N := 7) (ty := .int) hx hb hts iX4 tyX4 tyX4_ok nmX4 hown hK hP (halC Γ) hG hS (25) (gC_Reader Γ q3.2) rfl 6 (by decide) (hts (.fieldLink RX4 79 "OtherHalfOfNight$Reader" "literal" "I") (wzm K526)) (fun _ h9 => h9) rfl (by decide +kernel) rfl rfl (Nat.le_of_ble_eq_true rfl) dX4_stepNumber_52 (sC_Reader_literal Γ q3.2 ((((q3.2 (39) 0) * (10 : Int32)) + (q3.2 (34) ((q3.2 (36) 0)).toNatClampNeg)) - (48 : Int32))) (fun H locs hP hS => ?_)
          refine lv_aload_n hx hb dX4_stepNumber_55 rfl (lv_at hl 0 rfl) ?_
          refine lv_dup hx hb dX4_stepNumber_56 rfl ?_
          refine va_get (D := Γ.1) (ci := 4) (v := .int ((up q3.2 (39) 0 ((((q3.2 (39) 0) * (10 : Int32)) + (q3.2 (34) ((q3.2 (36) 0)).toNatClampNeg)) - (48 : Int32))) (36) 0)) (C := RX4) (T := TX4) (N := 7) hx hb hts iX4 hown hK hP (25) (gC_Reader Γ (up q3.2 (39) 0 ((((q3.2 (39) 0) * (10 : Int32)) + (q3.2 (34) ((q3.2 (36) 0)).toNatClampNeg)) - (48 : Int32)))) rfl 3 (by decide) (hts (.fieldLink RX4 29 "OtherHalfOfNight$Reader" "at" "I") (wzm K448)) (fun _ h9 => h9) rfl dX4_stepNumber_57 ?_
          refine lv_iconst (v := (1 : Int32)) hx hb dX4_stepNumber_60 (by decide) ?_
          refine lv_iadd hx hb dX4_stepNumber_61 ?_
          refine w_put (X := XC Γ) (σ' := (up (up q3.2 (39) 0 ((((q3.2 (39) 0) * (10 : Int32)) + (q3.2 (34) ((q3.2 (36) 0)).toNatClampNeg)) - (48 : Int32))) (36) 0 (((up q3.2 (39) 0 ((((q3.2 (39) 0) * (10 : Int32)) + (q3.2 (34) ((q3.2 (36) 0)).toNatClampNeg)) - (48 : Int32))) (36) 0) + (1 : Int32)))) (ci := 4) (C := RX4) (T := TX4) (N := 7) (ty := .int) hx hb hts iX4 tyX4 tyX4_ok nmX4 hown hK hP (halC Γ) hG hS (25) (gC_Reader Γ (up q3.2 (39) 0 ((((q3.2 (39) 0) * (10 : Int32)) + (q3.2 (34) ((q3.2 (36) 0)).toNatClampNeg)) - (48 : Int32)))) rfl 3 (by decide) (hts (.fieldLink RX4 29 "OtherHalfOfNight$Reader" "at" "I") (wzm K448)) (fun _ h9 => h9) rfl (by decide +kernel) rfl rfl (Nat.le_of_ble_eq_true rfl) dX4_stepNumber_62 (sC_Reader_at Γ (up q3.2 (39) 0 ((((q3.2 (39) 0) * (10 : Int32)) + (q3.2 (34) ((q3.2 (36) 0)).toNatClampNeg)) - (48 : Int32))) (((up q3.2 (39) 0 ((((q3.2 (39) 0) * (10 : Int32)) + (q3.2 (34) ((q3.2 (36) 0)).toNatClampNeg)) - (48 : Int32))) (36) 0) + (1 : Int32))) (fun H locs hP hS => ?_)
          obtain ⟨τ7, e8, hf⟩ := w_ob hf
          replace e8 := Option.some.inj e8
          rw [e8] at hP
          refine lv_goto (tgt := 5) hx hb dX4_stepNumber_65 (by decide) ?_
          exact ih5 τ7 H locs ls hf hP hS (lv_sub hl [0] rfl)
  suffices hw : ∀ (H : Heap) (locs : List Loc), va_P Γ.1 vwCl (XC Γ σ) H → va_S (wA (alC Γ) s.heap.size) s.heap H locs → W p l e { frames := 1, cells := 0, slots := 0, locals := 20 } s m av.toArray below meth c H locs 0 0 (MQ below (wQv Γ.1 vwCl (tysC Γ) (XC Γ) (alC Γ) σ' s.heap.size) av.toArray s 0 0 (wA (alC Γ) s.heap.size)) (F0 m 0 ls []) from hw _ [] hP va_S.rf
  clear hP
  intro H locs hP hS
  unfold f_X4_stepNumber at hf
  refine lv_aload_n hx hb dX4_stepNumber_0 rfl (lv_at hl 0 rfl) ?_
  refine lv_iconst (v := (0 : Int32)) hx hb dX4_stepNumber_1 (by decide) ?_
  refine w_put (X := XC Γ) (σ' := (up σ (39) 0 (0 : Int32))) (ci := 4) (C := RX4) (T := TX4) (N := 7) (ty := .int) hx hb hts iX4 tyX4 tyX4_ok nmX4 hown hK hP (halC Γ) hG hS (25) (gC_Reader Γ σ) rfl 6 (by decide) (hts (.fieldLink RX4 79 "OtherHalfOfNight$Reader" "literal" "I") (wzm K526)) (fun _ h9 => h9) rfl (by decide +kernel) rfl rfl (Nat.le_of_ble_eq_true rfl) dX4_stepNumber_2 (sC_Reader_literal Γ σ (0 : Int32)) (fun H locs hP hS => ?_)
  exact j5 5000 (up σ (39) 0 (0 : Int32)) H locs ls hf hP hS (lv_sub hl [0] rfl)
def f_X4_step_159 (z1 : Int32) (τ : Sg) : Option Sg := some (up (up τ (38) 0 z1) (36) 0 (((up τ (38) 0 z1) (36) 0) + (1 : Int32)))
def f_X4_step_52 (τ : Sg) : Option Sg := if ((up τ (37) 0 (τ (36) 0)) (36) 0) < ((up τ (37) 0 (τ (36) 0)) (35) 0) then if okI ((up τ (37) 0 (τ (36) 0)) (36) 0) 160 then (f_X4_isLetter ((up τ (37) 0 (τ (36) 0)) (34) (((up τ (37) 0 (τ (36) 0)) (36) 0)).toNatClampNeg) (up τ (37) 0 (τ (36) 0))).bind fun (q8 : Int32 × Sg) => if q8.1 = 0 then if okI (q8.2 (36) 0) 160 then (f_X4_isDigit (q8.2 (34) ((q8.2 (36) 0)).toNatClampNeg) q8.2).bind fun (q12 : Int32 × Sg) => if q12.1 = 0 then if okI (q12.2 (36) 0) 160 then (f_J0_indexOf_0f7a4 (13) ((((q12.2 (34) ((q12.2 (36) 0)).toNatClampNeg)).toUInt32 % 65536).toInt32) q12.2).bind fun (q16 : Int32 × Sg) => if q16.1 < 0 then f_X4_step_159 ((270 : Int32)) q16.2 else if okI (q16.2 (36) 0) 160 then f_X4_step_159 ((q16.2 (34) ((q16.2 (36) 0)).toNatClampNeg)) q16.2 else none else none else (f_X4_stepNumber q12.2).bind fun (q20 : Sg) => some q20 else none else (f_X4_stepWord q8.2).bind fun (q22 : Sg) => some q22 else none else some (up (up τ (37) 0 (τ (36) 0)) (38) 0 (269 : Int32))
def f_X4_step_39 (k0 : Sg → Option Sg) (τ : Sg) : Option Sg := k0 (up τ (36) 0 ((τ (36) 0) + (1 : Int32)))
def f_X4_step_0 : Nat → Sg → Option Sg
  | 0, _ => none
  | n + 1, τ => if (τ (35) 0) ≤ (τ (36) 0) then f_X4_step_52 τ else if okI (τ (36) 0) 160 then if (τ (34) ((τ (36) 0)).toNatClampNeg) = (32 : Int32) then f_X4_step_39 (f_X4_step_0 n) τ else if okI (τ (36) 0) 160 then if (τ (34) ((τ (36) 0)).toNatClampNeg) = (10 : Int32) then f_X4_step_39 (f_X4_step_0 n) τ else f_X4_step_52 τ else none else none
def f_X4_step (σ : Sg) : Option Sg := f_X4_step_0 5000 σ
set_option maxHeartbeats 40000000 in
set_option maxRecDepth 100000 in
theorem c_X4_step (l : Launch) (Γ : Geo) (hG : okC Γ) (σ : Sg) (σ' : Sg) (hf : f_X4_step σ = some σ') (sz : Nat) : Met l yX4_step (wz yX4_step cX4_step 1 none) { frames := 6, cells := 0, slots := 0, locals := 128 } (va_Pc [.ref (Γ.2.2.1 (25))] (wPre Γ.1 vwCl (tysC Γ) (XC Γ) (alC Γ) Γ.2.2.2 σ sz)) (wQv Γ.1 vwCl (tysC Γ) (XC Γ) (alC Γ) σ' sz) 0 0 (wA (alC Γ) sz) := by
  refine w_enter (cc := cX4_step) (maxL := 1) (ret := none) (by decide) rfl (Nat.le_of_ble_eq_true rfl) ?_
  intro p e s m below meth c ls hx hb hr hlocks hml hown hts hsz hP hK hkc hN hl
  subst hsz
  generalize hav : ([.ref (Γ.2.2.1 (25))] : List Value) = av at hl hts ⊢
  have hl : lv_has ls 1 [(0, .ref (Γ.2.2.1 (25)))] := by rw [← hav] at hl; exact hl
  have j159 : ∀ (z1 : Int32) (τ : Sg) (H : Heap) (locs : List Loc) (ls : Array Slot) (hf : f_X4_step_159 z1 τ = some σ') (hP : va_P Γ.1 vwCl (XC Γ τ) H) (hS : va_S (wA (alC Γ) s.heap.size) s.heap H locs) (hl : lv_has ls 1 [(0, .ref (Γ.2.2.1 (25)))]), W p l e { frames := 6, cells := 0, slots := 0, locals := 128 } s m av.toArray below meth c H locs 0 0 (MQ below (wQv Γ.1 vwCl (tysC Γ) (XC Γ) (alC Γ) σ' s.heap.size) av.toArray s 0 0 (wA (alC Γ) s.heap.size)) (F0 m 159 ls [.int z1, .ref (Γ.2.2.1 (25))]) := by
    intro z1 τ H locs ls hf hP hS hl
    unfold f_X4_step_159 at hf
    refine w_put (X := XC Γ) (σ' := (up τ (38) 0 z1)) (ci := 4) (C := RX4) (T := TX4) (N := 7) (ty := .int) hx hb hts iX4 tyX4 tyX4_ok nmX4 hown hK hP (halC Γ) hG hS (25) (gC_Reader Γ τ) rfl 5 (by decide) (hts (.fieldLink RX4 41 "OtherHalfOfNight$Reader" "token" "I") (wzm K449)) (fun _ h9 => h9) rfl (by decide +kernel) rfl rfl (Nat.le_of_ble_eq_true rfl) dX4_step_159 (sC_Reader_token Γ τ z1) (fun H locs hP hS => ?_)
    refine lv_aload_n hx hb dX4_step_162 rfl (lv_at hl 0 rfl) ?_
    refine lv_dup hx hb dX4_step_163 rfl ?_
    refine va_get (D := Γ.1) (ci := 4) (v := .int ((up τ (38) 0 z1) (36) 0)) (C := RX4) (T := TX4) (N := 7) hx hb hts iX4 hown hK hP (25) (gC_Reader Γ (up τ (38) 0 z1)) rfl 3 (by decide) (hts (.fieldLink RX4 29 "OtherHalfOfNight$Reader" "at" "I") (wzm K448)) (fun _ h9 => h9) rfl dX4_step_164 ?_
    refine lv_iconst (v := (1 : Int32)) hx hb dX4_step_167 (by decide) ?_
    refine lv_iadd hx hb dX4_step_168 ?_
    refine w_put (X := XC Γ) (σ' := (up (up τ (38) 0 z1) (36) 0 (((up τ (38) 0 z1) (36) 0) + (1 : Int32)))) (ci := 4) (C := RX4) (T := TX4) (N := 7) (ty := .int) hx hb hts iX4 tyX4 tyX4_ok nmX4 hown hK hP (halC Γ) hG hS (25) (gC_Reader Γ (up τ (38) 0 z1)) rfl 3 (by decide) (hts (.fieldLink RX4 29 "OtherHalfOfNight$Reader" "at" "I") (wzm K448)) (fun _ h9 => h9) rfl (by decide +kernel) rfl rfl (Nat.le_of_ble_eq_true rfl) dX4_step_169 (sC_Reader_at Γ (up τ (38) 0 z1) (((up τ (38) 0 z1) (36) 0) + (1 : Int32))) (fun H locs hP hS => ?_)
    exact w_vret (X := XC Γ) hx hb hr hlocks hK hP hS hf dX4_step_172
  have j52 : ∀ (τ : Sg) (H : Heap) (locs : List Loc) (ls : Array Slot) (hf : f_X4_step_52 τ = some σ') (hP : va_P Γ.1 vwCl (XC Γ τ) H) (hS : va_S (wA (alC Γ) s.heap.size) s.heap H locs) (hl : lv_has ls 1 [(0, .ref (Γ.2.2.1 (25)))]), W p l e { frames := 6, cells := 0, slots := 0, locals := 128 } s m av.toArray below meth c H locs 0 0 (MQ below (wQv Γ.1 vwCl (tysC Γ) (XC Γ) (alC Γ) σ' s.heap.size) av.toArray s 0 0 (wA (alC Γ) s.heap.size)) (F0 m 52 ls []) := by
    intro τ H locs ls hf hP hS hl
    unfold f_X4_step_52 at hf
    refine lv_aload_n hx hb dX4_step_52 rfl (lv_at hl 0 rfl) ?_
    refine lv_aload_n hx hb dX4_step_53 rfl (lv_at hl 0 rfl) ?_
    refine va_get (D := Γ.1) (ci := 4) (v := .int (τ (36) 0)) (C := RX4) (T := TX4) (N := 7) hx hb hts iX4 hown hK hP (25) (gC_Reader Γ τ) rfl 3 (by decide) (hts (.fieldLink RX4 29 "OtherHalfOfNight$Reader" "at" "I") (wzm K448)) (fun _ h9 => h9) rfl dX4_step_54 ?_
    refine w_put (X := XC Γ) (σ' := (up τ (37) 0 (τ (36) 0))) (ci := 4) (C := RX4) (T := TX4) (N := 7) (ty := .int) hx hb hts iX4 tyX4 tyX4_ok nmX4 hown hK hP (halC Γ) hG hS (25) (gC_Reader Γ τ) rfl 4 (by decide) (hts (.fieldLink RX4 44 "OtherHalfOfNight$Reader" "start" "I") (wzm K450)) (fun _ h9 => h9) rfl (by decide +kernel) rfl rfl (Nat.le_of_ble_eq_true rfl) dX4_step_57 (sC_Reader_start Γ τ (τ (36) 0)) (fun H locs hP hS => ?_)
    refine lv_aload_n hx hb dX4_step_60 rfl (lv_at hl 0 rfl) ?_
    refine va_get (D := Γ.1) (ci := 4) (v := .int ((up τ (37) 0 (τ (36) 0)) (36) 0)) (C := RX4) (T := TX4) (N := 7) hx hb hts iX4 hown hK hP (25) (gC_Reader Γ (up τ (37) 0 (τ (36) 0))) rfl 3 (by decide) (hts (.fieldLink RX4 29 "OtherHalfOfNight$Reader" "at" "I") (wzm K448)) (fun _ h9 => h9) rfl dX4_step_61 ?_
    refine lv_aload_n hx hb dX4_step_64 rfl (lv_at hl 0 rfl) ?_
    refine va_get (D := Γ.1) (ci := 4) (v := .int ((up τ (37) 0 (τ (36) 0)) (35) 0)) (C := RX4) (T := TX4) (N := 7) hx hb hts iX4 hown hK hP (25) (gC_Reader Γ (up τ (37) 0 (τ (36) 0))) rfl 1 (by decide) (hts (.fieldLink RX4 22 "OtherHalfOfNight$Reader" "size" "I") (wzm K425)) (fun _ h9 => h9) rfl dX4_step_65 ?_
    refine lv_icmp_lt (tgt := 81) hx hb dX4_step_68 (by decide) (fun c6 => ?_) (fun c6 => ?_)
    · replace hf := (if_pos c6).symm.trans hf
      refine lv_aload_n hx hb dX4_step_81 rfl (lv_at hl 0 rfl) ?_
      refine va_get (D := Γ.1) (ci := 4) (v := .ref (Γ.2.2.1 (26))) (C := RX4) (T := TX4) (N := 7) hx hb hts iX4 hown hK hP (25) (gC_Reader Γ (up τ (37) 0 (τ (36) 0))) rfl 0 (by decide) (hts (.fieldLink RX4 9 "OtherHalfOfNight$Reader" "tape" "[I") (wzm K53)) (fun _ h9 => h9) rfl dX4_step_82 ?_
      refine lv_aload_n hx hb dX4_step_85 rfl (lv_at hl 0 rfl) ?_
      refine va_get (D := Γ.1) (ci := 4) (v := .int ((up τ (37) 0 (τ (36) 0)) (36) 0)) (C := RX4) (T := TX4) (N := 7) hx hb hts iX4 hown hK hP (25) (gC_Reader Γ (up τ (37) 0 (τ (36) 0))) rfl 3 (by decide) (hts (.fieldLink RX4 29 "OtherHalfOfNight$Reader" "at" "I") (wzm K448)) (fun _ h9 => h9) rfl dX4_step_86 ?_
      obtain ⟨g7, hf⟩ := w_oi hf
      refine va_iald (D := Γ.1) (tys := (tysC Γ)) hx hb hK hP (26) 0 (gC_Reader_tape Γ (up τ (37) 0 (τ (36) 0))) rfl g7 dX4_step_89 ?_
      obtain ⟨q8, h9, hf⟩ := w_ob hf
      refine w_ci (va_runS (As := [.int ((up τ (37) 0 (τ (36) 0)) (34) (((up τ (37) 0 (τ (36) 0)) (36) 0)).toNatClampNeg)]) (rest := []) ⟨hx, hb, hml, hown, hts⟩ (c_X4_isLetter l Γ hG ((up τ (37) 0 (τ (36) 0)) (34) (((up τ (37) 0 (τ (36) 0)) (36) 0)).toNatClampNeg) (up τ (37) 0 (τ (36) 0)) q8.1 q8.2 h9 H.size) (cwS 1 hts (wzS K458 K456 K457 K20) rfl rfl rfl (by decide +kernel) ⟨(Nat.le_of_ble_eq_true rfl), (Nat.le_of_ble_eq_true rfl)⟩) (w_pre hK hP hkc hN hS) rfl rfl hl.1 rfl (lv_room (Nat.le_of_ble_eq_true rfl)) dX4_step_90 ⟨Nat.le_refl _, Nat.le_refl _⟩) hS (fun H locs hP hS => ?_)
      refine lv_if_eq (tgt := 103) hx hb dX4_step_93 (by decide) (fun c10 => ?_) (fun c10 => ?_)
      · replace hf := (if_pos c10).symm.trans hf
        refine lv_aload_n hx hb dX4_step_103 rfl (lv_at hl 0 rfl) ?_
        refine va_get (D := Γ.1) (ci := 4) (v := .ref (Γ.2.2.1 (26))) (C := RX4) (T := TX4) (N := 7) hx hb hts iX4 hown hK hP (25) (gC_Reader Γ q8.2) rfl 0 (by decide) (hts (.fieldLink RX4 9 "OtherHalfOfNight$Reader" "tape" "[I") (wzm K53)) (fun _ h9 => h9) rfl dX4_step_104 ?_
        refine lv_aload_n hx hb dX4_step_107 rfl (lv_at hl 0 rfl) ?_
        refine va_get (D := Γ.1) (ci := 4) (v := .int (q8.2 (36) 0)) (C := RX4) (T := TX4) (N := 7) hx hb hts iX4 hown hK hP (25) (gC_Reader Γ q8.2) rfl 3 (by decide) (hts (.fieldLink RX4 29 "OtherHalfOfNight$Reader" "at" "I") (wzm K448)) (fun _ h9 => h9) rfl dX4_step_108 ?_
        obtain ⟨g11, hf⟩ := w_oi hf
        refine va_iald (D := Γ.1) (tys := (tysC Γ)) hx hb hK hP (26) 0 (gC_Reader_tape Γ q8.2) rfl g11 dX4_step_111 ?_
        obtain ⟨q12, h13, hf⟩ := w_ob hf
        refine w_ci (va_runS (As := [.int (q8.2 (34) ((q8.2 (36) 0)).toNatClampNeg)]) (rest := []) ⟨hx, hb, hml, hown, hts⟩ (c_X4_isDigit l Γ hG (q8.2 (34) ((q8.2 (36) 0)).toNatClampNeg) q8.2 q12.1 q12.2 h13 H.size) (cwS 1 hts (wzS K521 K519 K520 K20) rfl rfl rfl (by decide +kernel) ⟨(Nat.le_of_ble_eq_true rfl), (Nat.le_of_ble_eq_true rfl)⟩) (w_pre hK hP hkc hN hS) rfl rfl hl.1 rfl (lv_room (Nat.le_of_ble_eq_true rfl)) dX4_step_112 ⟨Nat.le_refl _, Nat.le_refl _⟩) hS (fun H locs hP hS => ?_)
        refine lv_if_eq (tgt := 125) hx hb dX4_step_115 (by decide) (fun c14 => ?_) (fun c14 => ?_)
        · replace hf := (if_pos c14).symm.trans hf
          refine lv_aload_n hx hb dX4_step_125 rfl (lv_at hl 0 rfl) ?_
          refine va_ldcS (tx := "();+-*<=") hx hb hown (hkc.2.1 13 (RX4, 97, "();+-*<=") rfl) dX4_step_126 ?_
          refine lv_aload_n hx hb dX4_step_128 rfl (lv_at hl 0 rfl) ?_
          refine va_get (D := Γ.1) (ci := 4) (v := .ref (Γ.2.2.1 (26))) (C := RX4) (T := TX4) (N := 7) hx hb hts iX4 hown hK hP (25) (gC_Reader Γ q12.2) rfl 0 (by decide) (hts (.fieldLink RX4 9 "OtherHalfOfNight$Reader" "tape" "[I") (wzm K53)) (fun _ h9 => h9) rfl dX4_step_129 ?_
          refine lv_aload_n hx hb dX4_step_132 rfl (lv_at hl 0 rfl) ?_
          refine va_get (D := Γ.1) (ci := 4) (v := .int (q12.2 (36) 0)) (C := RX4) (T := TX4) (N := 7) hx hb hts iX4 hown hK hP (25) (gC_Reader Γ q12.2) rfl 3 (by decide) (hts (.fieldLink RX4 29 "OtherHalfOfNight$Reader" "at" "I") (wzm K448)) (fun _ h9 => h9) rfl dX4_step_133 ?_
          obtain ⟨g15, hf⟩ := w_oi hf
          refine va_iald (D := Γ.1) (tys := (tysC Γ)) hx hb hK hP (26) 0 (gC_Reader_tape Γ q12.2) rfl g15 dX4_step_136 ?_
          refine lv_i2c (v := ((((q12.2 (34) ((q12.2 (36) 0)).toNatClampNeg)).toUInt32 % 65536).toInt32)) hx hb dX4_step_137 rfl ?_
          obtain ⟨q16, h17, hf⟩ := w_ob hf
          refine w_ci (va_runV (As := [.int ((((q12.2 (34) ((q12.2 (36) 0)).toNatClampNeg)).toUInt32 % 65536).toInt32)]) (rest := [.ref (Γ.2.2.1 (25))]) ⟨hx, hb, hml, hown, hts⟩ (c_J0_indexOf_0f7a4 l Γ hG (13) ((((q12.2 (34) ((q12.2 (36) 0)).toNatClampNeg)).toUInt32 % 65536).toInt32) q12.2 q16.1 q16.2 h17 H.size) (cwV 1 hts (wzV K530 K527 K528 K529 K473) rfl rfl rfl (by decide +kernel) ⟨(Nat.le_of_ble_eq_true rfl), (Nat.le_of_ble_eq_true rfl)⟩) (w_preS hK hP hkc hN hS (by decide)) rfl rfl hl.1 rfl (lv_room (Nat.le_of_ble_eq_true rfl)) dX4_step_138 ⟨Nat.le_refl _, Nat.le_refl _⟩) hS (fun H locs hP hS => ?_)
          refine lv_if_lt (tgt := 156) hx hb dX4_step_141 (by decide) (fun c18 => ?_) (fun c18 => ?_)
          · replace hf := (if_pos c18).symm.trans hf
            refine lv_sipush (v := (270 : Int32)) hx hb dX4_step_156 (by decide) ?_
            exact j159 ((270 : Int32)) q16.2 H locs ls hf hP hS (lv_sub hl [0] rfl)
          · replace hf := (if_neg c18).symm.trans hf
            refine lv_aload_n hx hb dX4_step_144 rfl (lv_at hl 0 rfl) ?_
            refine va_get (D := Γ.1) (ci := 4) (v := .ref (Γ.2.2.1 (26))) (C := RX4) (T := TX4) (N := 7) hx hb hts iX4 hown hK hP (25) (gC_Reader Γ q16.2) rfl 0 (by decide) (hts (.fieldLink RX4 9 "OtherHalfOfNight$Reader" "tape" "[I") (wzm K53)) (fun _ h9 => h9) rfl dX4_step_145 ?_
            refine lv_aload_n hx hb dX4_step_148 rfl (lv_at hl 0 rfl) ?_
            refine va_get (D := Γ.1) (ci := 4) (v := .int (q16.2 (36) 0)) (C := RX4) (T := TX4) (N := 7) hx hb hts iX4 hown hK hP (25) (gC_Reader Γ q16.2) rfl 3 (by decide) (hts (.fieldLink RX4 29 "OtherHalfOfNight$Reader" "at" "I") (wzm K448)) (fun _ h9 => h9) rfl dX4_step_149 ?_
            obtain ⟨g19, hf⟩ := w_oi hf
            refine va_iald (D := Γ.1) (tys := (tysC Γ)) hx hb hK hP (26) 0 (gC_Reader_tape Γ q16.2) rfl g19 dX4_step_152 ?_
            refine lv_goto (tgt := 159) hx hb dX4_step_153 (by decide) ?_
            exact j159 ((q16.2 (34) ((q16.2 (36) 0)).toNatClampNeg)) q16.2 H locs ls hf hP hS (lv_sub hl [0] rfl)
        · replace hf := (if_neg c14).symm.trans hf
          refine lv_aload_n hx hb dX4_step_118 rfl (lv_at hl 0 rfl) ?_
          obtain ⟨q20, h21, hf⟩ := w_ob hf
          refine w_cv (va_runV (As := []) (rest := []) ⟨hx, hb, hml, hown, hts⟩ (c_X4_stepNumber l Γ hG q12.2 q20 h21 H.size) (cwV 0 hts (wzV K525 K522 K523 K524 K20) rfl rfl rfl (by decide +kernel) ⟨(Nat.le_of_ble_eq_true rfl), (Nat.le_of_ble_eq_true rfl)⟩) (w_preV hK hP hkc hN hS (gC_Reader Γ q12.2) rfl) rfl rfl hl.1 rfl (lv_room (Nat.le_of_ble_eq_true rfl)) dX4_step_119 ⟨Nat.le_refl _, Nat.le_refl _⟩) hS (fun H locs hP hS => ?_)
          refine lv_goto (tgt := 172) hx hb dX4_step_122 (by decide) ?_
          exact w_vret (X := XC Γ) hx hb hr hlocks hK hP hS hf dX4_step_172
      · replace hf := (if_neg c10).symm.trans hf
        refine lv_aload_n hx hb dX4_step_96 rfl (lv_at hl 0 rfl) ?_
        obtain ⟨q22, h23, hf⟩ := w_ob hf
        refine w_cv (va_runV (As := []) (rest := []) ⟨hx, hb, hml, hown, hts⟩ (c_X4_stepWord l Γ hG q8.2 q22 h23 H.size) (cwV 0 hts (wzV K462 K459 K460 K461 K20) rfl rfl rfl (by decide +kernel) ⟨(Nat.le_of_ble_eq_true rfl), (Nat.le_of_ble_eq_true rfl)⟩) (w_preV hK hP hkc hN hS (gC_Reader Γ q8.2) rfl) rfl rfl hl.1 rfl (lv_room (Nat.le_of_ble_eq_true rfl)) dX4_step_97 ⟨Nat.le_refl _, Nat.le_refl _⟩) hS (fun H locs hP hS => ?_)
        refine lv_goto (tgt := 172) hx hb dX4_step_100 (by decide) ?_
        exact w_vret (X := XC Γ) hx hb hr hlocks hK hP hS hf dX4_step_172
    · replace hf := (if_neg c6).symm.trans hf
      refine lv_aload_n hx hb dX4_step_71 rfl (lv_at hl 0 rfl) ?_
      refine lv_sipush (v := (269 : Int32)) hx hb dX4_step_72 (by decide) ?_
      refine w_put (X := XC Γ) (σ' := (up (up τ (37) 0 (τ (36) 0)) (38) 0 (269 : Int32))) (ci := 4) (C := RX4) (T := TX4) (N := 7) (ty := .int) hx hb hts iX4 tyX4 tyX4_ok nmX4 hown hK hP (halC Γ) hG hS (25) (gC_Reader Γ (up τ (37) 0 (τ (36) 0))) rfl 5 (by decide) (hts (.fieldLink RX4 41 "OtherHalfOfNight$Reader" "token" "I") (wzm K449)) (fun _ h9 => h9) rfl (by decide +kernel) rfl rfl (Nat.le_of_ble_eq_true rfl) dX4_step_75 (sC_Reader_token Γ (up τ (37) 0 (τ (36) 0)) (269 : Int32)) (fun H locs hP hS => ?_)
      refine lv_goto (tgt := 172) hx hb dX4_step_78 (by decide) ?_
      exact w_vret (X := XC Γ) hx hb hr hlocks hK hP hS hf dX4_step_172
  have j0 : ∀ (n0 : Nat), ∀ (τ : Sg) (H : Heap) (locs : List Loc) (ls : Array Slot) (hf : f_X4_step_0 n0 τ = some σ') (hP : va_P Γ.1 vwCl (XC Γ τ) H) (hS : va_S (wA (alC Γ) s.heap.size) s.heap H locs) (hl : lv_has ls 1 [(0, .ref (Γ.2.2.1 (25)))]), W p l e { frames := 6, cells := 0, slots := 0, locals := 128 } s m av.toArray below meth c H locs 0 0 (MQ below (wQv Γ.1 vwCl (tysC Γ) (XC Γ) (alC Γ) σ' s.heap.size) av.toArray s 0 0 (wA (alC Γ) s.heap.size)) (F0 m 0 ls []) := by
    intro n0
    induction n0 with
    | zero =>
      intro τ H locs ls hf
      exact absurd hf (by intro h; cases h)
    | succ n0 ih0 =>
      have j39 : ∀ (τ : Sg) (H : Heap) (locs : List Loc) (ls : Array Slot) (hf : f_X4_step_39 (f_X4_step_0 n0) τ = some σ') (hP : va_P Γ.1 vwCl (XC Γ τ) H) (hS : va_S (wA (alC Γ) s.heap.size) s.heap H locs) (hl : lv_has ls 1 [(0, .ref (Γ.2.2.1 (25)))]), W p l e { frames := 6, cells := 0, slots := 0, locals := 128 } s m av.toArray below meth c H locs 0 0 (MQ below (wQv Γ.1 vwCl (tysC Γ) (XC Γ) (alC Γ) σ' s.heap.size) av.toArray s 0 0 (wA (alC Γ) s.heap.size)) (F0 m 39 ls []) := by
        intro τ H locs ls hf hP hS hl
        unfold f_X4_step_39 at hf
        refine lv_aload_n hx hb dX4_step_39 rfl (lv_at hl 0 rfl) ?_
        refine lv_dup hx hb dX4_step_40 rfl ?_
        refine va_get (D := Γ.1) (ci := 4) (v := .int (τ (36) 0)) (C := RX4) (T := TX4) (N := 7) hx hb hts iX4 hown hK hP (25) (gC_Reader Γ τ) rfl 3 (by decide) (hts (.fieldLink RX4 29 "OtherHalfOfNight$Reader" "at" "I") (wzm K448)) (fun _ h9 => h9) rfl dX4_step_41 ?_
        refine lv_iconst (v := (1 : Int32)) hx hb dX4_step_44 (by decide) ?_
        refine lv_iadd hx hb dX4_step_45 ?_
        refine w_put (X := XC Γ) (σ' := (up τ (36) 0 ((τ (36) 0) + (1 : Int32)))) (ci := 4) (C := RX4) (T := TX4) (N := 7) (ty := .int) hx hb hts iX4 tyX4 tyX4_ok nmX4 hown hK hP (halC Γ) hG hS (25) (gC_Reader Γ τ) rfl 3 (by decide) (hts (.fieldLink RX4 29 "OtherHalfOfNight$Reader" "at" "I") (wzm K448)) (fun _ h9 => h9) rfl (by decide +kernel) rfl rfl (Nat.le_of_ble_eq_true rfl) dX4_step_46 (sC_Reader_at Γ τ ((τ (36) 0) + (1 : Int32))) (fun H locs hP hS => ?_)
        refine lv_goto (tgt := 0) hx hb dX4_step_49 (by decide) ?_
        exact ih0 (up τ (36) 0 ((τ (36) 0) + (1 : Int32))) H locs ls hf hP hS (lv_sub hl [0] rfl)
      intro τ H locs ls hf hP hS hl
      unfold f_X4_step_0 at hf
      refine lv_aload_n hx hb dX4_step_0 rfl (lv_at hl 0 rfl) ?_
      refine va_get (D := Γ.1) (ci := 4) (v := .int (τ (36) 0)) (C := RX4) (T := TX4) (N := 7) hx hb hts iX4 hown hK hP (25) (gC_Reader Γ τ) rfl 3 (by decide) (hts (.fieldLink RX4 29 "OtherHalfOfNight$Reader" "at" "I") (wzm K448)) (fun _ h9 => h9) rfl dX4_step_1 ?_
      refine lv_aload_n hx hb dX4_step_4 rfl (lv_at hl 0 rfl) ?_
      refine va_get (D := Γ.1) (ci := 4) (v := .int (τ (35) 0)) (C := RX4) (T := TX4) (N := 7) hx hb hts iX4 hown hK hP (25) (gC_Reader Γ τ) rfl 1 (by decide) (hts (.fieldLink RX4 22 "OtherHalfOfNight$Reader" "size" "I") (wzm K425)) (fun _ h9 => h9) rfl dX4_step_5 ?_
      refine lv_icmp_ge (tgt := 52) hx hb dX4_step_8 (by decide) (fun c1 => ?_) (fun c1 => ?_)
      · replace hf := (if_pos c1).symm.trans hf
        exact j52 τ H locs ls hf hP hS (lv_sub hl [0] rfl)
      · replace hf := (if_neg c1).symm.trans hf
        refine lv_aload_n hx hb dX4_step_11 rfl (lv_at hl 0 rfl) ?_
        refine va_get (D := Γ.1) (ci := 4) (v := .ref (Γ.2.2.1 (26))) (C := RX4) (T := TX4) (N := 7) hx hb hts iX4 hown hK hP (25) (gC_Reader Γ τ) rfl 0 (by decide) (hts (.fieldLink RX4 9 "OtherHalfOfNight$Reader" "tape" "[I") (wzm K53)) (fun _ h9 => h9) rfl dX4_step_12 ?_
        refine lv_aload_n hx hb dX4_step_15 rfl (lv_at hl 0 rfl) ?_
        refine va_get (D := Γ.1) (ci := 4) (v := .int (τ (36) 0)) (C := RX4) (T := TX4) (N := 7) hx hb hts iX4 hown hK hP (25) (gC_Reader Γ τ) rfl 3 (by decide) (hts (.fieldLink RX4 29 "OtherHalfOfNight$Reader" "at" "I") (wzm K448)) (fun _ h9 => h9) rfl dX4_step_16 ?_
        obtain ⟨g2, hf⟩ := w_oi hf
        refine va_iald (D := Γ.1) (tys := (tysC Γ)) hx hb hK hP (26) 0 (gC_Reader_tape Γ τ) rfl g2 dX4_step_19 ?_
        refine lv_bipush (v := (32 : Int32)) hx hb dX4_step_20 (by decide) ?_
        refine lv_icmp_eq (tgt := 39) hx hb dX4_step_22 (by decide) (fun c3 => ?_) (fun c3 => ?_)
        · replace hf := (if_pos c3).symm.trans hf
          exact j39 τ H locs ls hf hP hS (lv_sub hl [0] rfl)
        · replace hf := (if_neg c3).symm.trans hf
          refine lv_aload_n hx hb dX4_step_25 rfl (lv_at hl 0 rfl) ?_
          refine va_get (D := Γ.1) (ci := 4) (v := .ref (Γ.2.2.1 (26))) (C := RX4) (T := TX4) (N := 7) hx hb hts iX4 hown hK hP (25) (gC_Reader Γ τ) rfl 0 (by decide) (hts (.fieldLink RX4 9 "OtherHalfOfNight$Reader" "tape" "[I") (wzm K53)) (fun _ h9 => h9) rfl dX4_step_26 ?_
          refine lv_aload_n hx hb dX4_step_29 rfl (lv_at hl 0 rfl) ?_
          refine va_get (D := Γ.1) (ci := 4) (v := .int (τ (36) 0)) (C := RX4) (T := TX4) (N := 7) hx hb hts iX4 hown hK hP (25) (gC_Reader Γ τ) rfl 3 (by decide) (hts (.fieldLink RX4 29 "OtherHalfOfNight$Reader" "at" "I") (wzm K448)) (fun _ h9 => h9) rfl dX4_step_30 ?_
          obtain ⟨g4, hf⟩ := w_oi hf
          refine va_iald (D := Γ.1) (tys := (tysC Γ)) hx hb hK hP (26) 0 (gC_Reader_tape Γ τ) rfl g4 dX4_step_33 ?_
          refine lv_bipush (v := (10 : Int32)) hx hb dX4_step_34 (by decide) ?_
          refine lv_icmp_ne (tgt := 52) hx hb dX4_step_36 (by decide) (fun c5 => ?_) (fun c5 => ?_)
          · replace hf := (if_neg c5).symm.trans hf
            exact j52 τ H locs ls hf hP hS (lv_sub hl [0] rfl)
          · replace hf := (if_pos c5).symm.trans hf
            exact j39 τ H locs ls hf hP hS (lv_sub hl [0] rfl)
  suffices hw : ∀ (H : Heap) (locs : List Loc), va_P Γ.1 vwCl (XC Γ σ) H → va_S (wA (alC Γ) s.heap.size) s.heap H locs → W p l e { frames := 6, cells := 0, slots := 0, locals := 128 } s m av.toArray below meth c H locs 0 0 (MQ below (wQv Γ.1 vwCl (tysC Γ) (XC Γ) (alC Γ) σ' s.heap.size) av.toArray s 0 0 (wA (alC Γ) s.heap.size)) (F0 m 0 ls []) from hw _ [] hP va_S.rf
  clear hP
  intro H locs hP hS
  unfold f_X4_step at hf
  exact j0 5000 σ H locs ls hf hP hS (lv_sub hl [0] rfl)
