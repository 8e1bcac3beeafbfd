/-! The law's cases -/
set_option maxHeartbeats 4000000 in
set_option maxRecDepth 100000 in
theorem lc_set {p : Program} {l : Launch} {e : Jvm.Env} {s : State} {m : MethodId} {below : List Frame} {meth : Method} {c : Code} {b L : Nat} {xs : Nat → Int32} {D : va_G} {tt : Nat → ClassId} {aC aM : Nat → Nat} {ad : (Nat → Nat) × (Nat → Nat)} (C0 : lw_At p s m meth c b L xs) (F : LF D tt aC aM ad s) (hL : L ≤ 3072) {i : Nat} (hi : i + 6 ≤ L) {ls : Array Slot} (hl : lv_has ls 4 [(0, .ref b), (1, .ref (aC 0)), (2, .ref (aM 0)), (3, .int (nI i))]) {σ : Sg} {μ : Sm} {H : Heap} {locs : List Loc} (hI : LI D tt aC aM ad s σ μ H locs) {Q : State → Prop}
    (kk : ∀ (σ : Sg) (μ : Sm) (H : Heap) (locs : List Loc), LI D tt aC aM ad s σ μ H locs → W p l e room_1 s m #[Value.ref b] below meth c H locs 89 5288 Q (F0 m 1012 ls [])) : W p l e room_1 s m #[Value.ref b] below meth c H locs 89 5288 Q (F0 m 152 ls []) := by
  obtain ⟨hx, hb, hr, hml, hown, hts0, hX, hbl, hlocks, hgv⟩ := C0
  have hts : ∀ w ∈ wsL_law, w.before #[Value.ref b] s = true := fun w h => hts0 w (wsL_law_in w h)
  obtain ⟨hK, hstr, hN, hGC, hGM, hAC, hAM, hdis⟩ := F
  obtain ⟨hP, hM, hS, hInv⟩ := hI
  have hbA : ¬ wA [] s.heap.size b := wA_nil hbl
  refine lv_aload_n hx hb dL_law_152 rfl (lv_at hl 1 rfl) ?_
  refine lv_aload_n hx hb dL_law_153 rfl (lv_at hl 0 rfl) ?_
  refine lv_iload_n hx hb dL_law_154 rfl (lv_at hl 3 rfl) ?_
  refine lv_iconst (v := (1 : Int32)) hx hb dL_law_155 (by decide) ?_
  refine lv_iadd hx hb dL_law_156 ?_
  refine va_sld hx hb hX hbl hbA hS (show vp_in ((nI i) + (1 : Int32)) L from l_in (k := 1) (by omega) hL) dL_law_157 ?_
  refine lv_aload_n hx hb dL_law_158 rfl (lv_at hl 0 rfl) ?_
  refine lv_iload_n hx hb dL_law_159 rfl (lv_at hl 3 rfl) ?_
  refine lv_iconst (v := (2 : Int32)) hx hb dL_law_160 (by decide) ?_
  refine lv_iadd hx hb dL_law_161 ?_
  refine va_sld hx hb hX hbl hbA hS (show vp_in ((nI i) + (2 : Int32)) L from l_in (k := 2) (by omega) hL) dL_law_162 ?_
  refine lv_aload_n hx hb dL_law_163 rfl (lv_at hl 0 rfl) ?_
  refine lv_iload_n hx hb dL_law_164 rfl (lv_at hl 3 rfl) ?_
  refine lv_iconst (v := (3 : Int32)) hx hb dL_law_165 (by decide) ?_
  refine lv_iadd hx hb dL_law_166 ?_
  refine va_sld hx hb hX hbl hbA hS (show vp_in ((nI i) + (3 : Int32)) L from l_in (k := 3) (by omega) hL) dL_law_167 ?_
  obtain ⟨v, σ2, μ2, g1, g2, hInv2⟩ := pub_set hInv (xs ((nI i) + (1 : Int32)).toNatClampNeg) (xs ((nI i) + (2 : Int32)).toNatClampNeg) (xs ((nI i) + (3 : Int32)).toNatClampNeg)
  refine l_ci (va_runV (As := [.int (xs ((nI i) + (1 : Int32)).toNatClampNeg), .int (xs ((nI i) + (2 : Int32)).toNatClampNeg), .int (xs ((nI i) + (3 : Int32)).toNatClampNeg)]) (rest := []) ⟨hx, hb, hml, hown, hts⟩ (c_X8_set l (D, tt, aC, ad) hGC (xs ((nI i) + (1 : Int32)).toNatClampNeg) (xs ((nI i) + (2 : Int32)).toNatClampNeg) (xs ((nI i) + (3 : Int32)).toNatClampNeg) σ v σ2 g1 H.size) (cwV 3 hts (wlV K136 K133 K134 K135 K2) rfl rfl rfl (by decide +kernel) ⟨(Nat.le_of_ble_eq_true rfl), (Nat.le_of_ble_eq_true rfl)⟩) (l_preV hK hP hstr hN hS hAC (gC_Main (D, tt, aC, ad) σ) rfl) rfl rfl hl.1 rfl (lv_room (Nat.le_of_ble_eq_true rfl)) dL_law_168 ⟨(Nat.le_of_ble_eq_true rfl), (Nat.le_of_ble_eq_true rfl)⟩) hS hAC hM (fun k x hx h => hdis _ h (al_of (halM (D, tt, aM, ad) _) hx)) (fun H locs hP hM hS => ?_)
  refine lv_aload_n hx hb dL_law_171 rfl (lv_at hl 2 rfl) ?_
  refine lv_aload_n hx hb dL_law_172 rfl (lv_at hl 0 rfl) ?_
  refine lv_iload_n hx hb dL_law_173 rfl (lv_at hl 3 rfl) ?_
  refine lv_iconst (v := (1 : Int32)) hx hb dL_law_174 (by decide) ?_
  refine lv_iadd hx hb dL_law_175 ?_
  refine va_sld hx hb hX hbl hbA hS (show vp_in ((nI i) + (1 : Int32)) L from l_in (k := 1) (by omega) hL) dL_law_176 ?_
  refine lv_aload_n hx hb dL_law_177 rfl (lv_at hl 0 rfl) ?_
  refine lv_iload_n hx hb dL_law_178 rfl (lv_at hl 3 rfl) ?_
  refine lv_iconst (v := (2 : Int32)) hx hb dL_law_179 (by decide) ?_
  refine lv_iadd hx hb dL_law_180 ?_
  refine va_sld hx hb hX hbl hbA hS (show vp_in ((nI i) + (2 : Int32)) L from l_in (k := 2) (by omega) hL) dL_law_181 ?_
  refine lv_aload_n hx hb dL_law_182 rfl (lv_at hl 0 rfl) ?_
  refine lv_iload_n hx hb dL_law_183 rfl (lv_at hl 3 rfl) ?_
  refine lv_iconst (v := (3 : Int32)) hx hb dL_law_184 (by decide) ?_
  refine lv_iadd hx hb dL_law_185 ?_
  refine va_sld hx hb hX hbl hbA hS (show vp_in ((nI i) + (3 : Int32)) L from l_in (k := 3) (by omega) hL) dL_law_186 ?_
  refine l_ci (va_runV (As := [.int (xs ((nI i) + (1 : Int32)).toNatClampNeg), .int (xs ((nI i) + (2 : Int32)).toNatClampNeg), .int (xs ((nI i) + (3 : Int32)).toNatClampNeg)]) (rest := [.int v]) ⟨hx, hb, hml, hown, hts⟩ (c_X9_set l (D, tt, aM, ad) hGM (xs ((nI i) + (1 : Int32)).toNatClampNeg) (xs ((nI i) + (2 : Int32)).toNatClampNeg) (xs ((nI i) + (3 : Int32)).toNatClampNeg) μ v μ2 g2 H.size) (cwV 3 hts (wlV K166 K163 K164 K165 K5) rfl rfl rfl (by decide +kernel) ⟨(Nat.le_of_ble_eq_true rfl), (Nat.le_of_ble_eq_true rfl)⟩) (l_preV hK hM hstr hN hS hAM (gM_Model (D, tt, aM, ad) μ) rfl) rfl rfl hl.1 rfl (lv_room (Nat.le_of_ble_eq_true rfl)) dL_law_187 ⟨(Nat.le_of_ble_eq_true rfl), (Nat.le_of_ble_eq_true rfl)⟩) hS hAM hP (fun k x hx => hdis _ (al_of (halC (D, tt, aC, ad) _) hx)) (fun H locs hM hP hS => ?_)
  exact lv_icmp_eq (tgt := 1012) hx hb dL_law_190 (by decide) (fun _ => kk _ _ _ _ ⟨hP, hM, hS, hInv2⟩) (fun c1 => absurd rfl c1)
set_option maxHeartbeats 4000000 in
set_option maxRecDepth 100000 in
theorem lc_wakes {p : Program} {l : Launch} {e : Jvm.Env} {s : State} {m : MethodId} {below : List Frame} {meth : Method} {c : Code} {b L : Nat} {xs : Nat → Int32} {D : va_G} {tt : Nat → ClassId} {aC aM : Nat → Nat} {ad : (Nat → Nat) × (Nat → Nat)} (C0 : lw_At p s m meth c b L xs) (F : LF D tt aC aM ad s) (hL : L ≤ 3072) {i : Nat} (hi : i + 6 ≤ L) {ls : Array Slot} (hl : lv_has ls 4 [(0, .ref b), (1, .ref (aC 0)), (2, .ref (aM 0)), (3, .int (nI i))]) {σ : Sg} {μ : Sm} {H : Heap} {locs : List Loc} (hI : LI D tt aC aM ad s σ μ H locs) {Q : State → Prop}
    (kk : ∀ (σ : Sg) (μ : Sm) (H : Heap) (locs : List Loc), LI D tt aC aM ad s σ μ H locs → W p l e room_1 s m #[Value.ref b] below meth c H locs 89 5288 Q (F0 m 1012 ls [])) : W p l e room_1 s m #[Value.ref b] below meth c H locs 89 5288 Q (F0 m 195 ls []) := by
  obtain ⟨hx, hb, hr, hml, hown, hts0, hX, hbl, hlocks, hgv⟩ := C0
  have hts : ∀ w ∈ wsL_law, w.before #[Value.ref b] s = true := fun w h => hts0 w (wsL_law_in w h)
  obtain ⟨hK, hstr, hN, hGC, hGM, hAC, hAM, hdis⟩ := F
  obtain ⟨hP, hM, hS, hInv⟩ := hI
  have hbA : ¬ wA [] s.heap.size b := wA_nil hbl
  refine lv_aload_n hx hb dL_law_195 rfl (lv_at hl 1 rfl) ?_
  refine lv_aload_n hx hb dL_law_196 rfl (lv_at hl 0 rfl) ?_
  refine lv_iload_n hx hb dL_law_197 rfl (lv_at hl 3 rfl) ?_
  refine lv_iconst (v := (1 : Int32)) hx hb dL_law_198 (by decide) ?_
  refine lv_iadd hx hb dL_law_199 ?_
  refine va_sld hx hb hX hbl hbA hS (show vp_in ((nI i) + (1 : Int32)) L from l_in (k := 1) (by omega) hL) dL_law_200 ?_
  refine lv_aload_n hx hb dL_law_201 rfl (lv_at hl 0 rfl) ?_
  refine lv_iload_n hx hb dL_law_202 rfl (lv_at hl 3 rfl) ?_
  refine lv_iconst (v := (2 : Int32)) hx hb dL_law_203 (by decide) ?_
  refine lv_iadd hx hb dL_law_204 ?_
  refine va_sld hx hb hX hbl hbA hS (show vp_in ((nI i) + (2 : Int32)) L from l_in (k := 2) (by omega) hL) dL_law_205 ?_
  refine lv_aload_n hx hb dL_law_206 rfl (lv_at hl 0 rfl) ?_
  refine lv_iload_n hx hb dL_law_207 rfl (lv_at hl 3 rfl) ?_
  refine lv_iconst (v := (3 : Int32)) hx hb dL_law_208 (by decide) ?_
  refine lv_iadd hx hb dL_law_209 ?_
  refine va_sld hx hb hX hbl hbA hS (show vp_in ((nI i) + (3 : Int32)) L from l_in (k := 3) (by omega) hL) dL_law_210 ?_
  obtain ⟨v, σ2, μ2, g1, g2, hInv2⟩ := pub_wakes hInv (xs ((nI i) + (1 : Int32)).toNatClampNeg) (xs ((nI i) + (2 : Int32)).toNatClampNeg) (xs ((nI i) + (3 : Int32)).toNatClampNeg)
  refine l_ci (va_runV (As := [.int (xs ((nI i) + (1 : Int32)).toNatClampNeg), .int (xs ((nI i) + (2 : Int32)).toNatClampNeg), .int (xs ((nI i) + (3 : Int32)).toNatClampNeg)]) (rest := []) ⟨hx, hb, hml, hown, hts⟩ (c_X8_wakes l (D, tt, aC, ad) hGC (xs ((nI i) + (1 : Int32)).toNatClampNeg) (xs ((nI i) + (2 : Int32)).toNatClampNeg) (xs ((nI i) + (3 : Int32)).toNatClampNeg) σ v σ2 g1 H.size) (cwV 3 hts (wlV K317 K314 K315 K316 K2) rfl rfl rfl (by decide +kernel) ⟨(Nat.le_of_ble_eq_true rfl), (Nat.le_of_ble_eq_true rfl)⟩) (l_preV hK hP hstr hN hS hAC (gC_Main (D, tt, aC, ad) σ) rfl) rfl rfl hl.1 rfl (lv_room (Nat.le_of_ble_eq_true rfl)) dL_law_211 ⟨(Nat.le_of_ble_eq_true rfl), (Nat.le_of_ble_eq_true rfl)⟩) hS hAC hM (fun k x hx h => hdis _ h (al_of (halM (D, tt, aM, ad) _) hx)) (fun H locs hP hM hS => ?_)
  refine lv_aload_n hx hb dL_law_214 rfl (lv_at hl 2 rfl) ?_
  refine lv_aload_n hx hb dL_law_215 rfl (lv_at hl 0 rfl) ?_
  refine lv_iload_n hx hb dL_law_216 rfl (lv_at hl 3 rfl) ?_
  refine lv_iconst (v := (1 : Int32)) hx hb dL_law_217 (by decide) ?_
  refine lv_iadd hx hb dL_law_218 ?_
  refine va_sld hx hb hX hbl hbA hS (show vp_in ((nI i) + (1 : Int32)) L from l_in (k := 1) (by omega) hL) dL_law_219 ?_
  refine lv_aload_n hx hb dL_law_220 rfl (lv_at hl 0 rfl) ?_
  refine lv_iload_n hx hb dL_law_221 rfl (lv_at hl 3 rfl) ?_
  refine lv_iconst (v := (2 : Int32)) hx hb dL_law_222 (by decide) ?_
  refine lv_iadd hx hb dL_law_223 ?_
  refine va_sld hx hb hX hbl hbA hS (show vp_in ((nI i) + (2 : Int32)) L from l_in (k := 2) (by omega) hL) dL_law_224 ?_
  refine lv_aload_n hx hb dL_law_225 rfl (lv_at hl 0 rfl) ?_
  refine lv_iload_n hx hb dL_law_226 rfl (lv_at hl 3 rfl) ?_
  refine lv_iconst (v := (3 : Int32)) hx hb dL_law_227 (by decide) ?_
  refine lv_iadd hx hb dL_law_228 ?_
  refine va_sld hx hb hX hbl hbA hS (show vp_in ((nI i) + (3 : Int32)) L from l_in (k := 3) (by omega) hL) dL_law_229 ?_
  refine l_ci (va_runV (As := [.int (xs ((nI i) + (1 : Int32)).toNatClampNeg), .int (xs ((nI i) + (2 : Int32)).toNatClampNeg), .int (xs ((nI i) + (3 : Int32)).toNatClampNeg)]) (rest := [.int v]) ⟨hx, hb, hml, hown, hts⟩ (c_X9_wakes l (D, tt, aM, ad) hGM (xs ((nI i) + (1 : Int32)).toNatClampNeg) (xs ((nI i) + (2 : Int32)).toNatClampNeg) (xs ((nI i) + (3 : Int32)).toNatClampNeg) μ v μ2 g2 H.size) (cwV 3 hts (wlV K325 K322 K323 K324 K5) rfl rfl rfl (by decide +kernel) ⟨(Nat.le_of_ble_eq_true rfl), (Nat.le_of_ble_eq_true rfl)⟩) (l_preV hK hM hstr hN hS hAM (gM_Model (D, tt, aM, ad) μ) rfl) rfl rfl hl.1 rfl (lv_room (Nat.le_of_ble_eq_true rfl)) dL_law_230 ⟨(Nat.le_of_ble_eq_true rfl), (Nat.le_of_ble_eq_true rfl)⟩) hS hAM hP (fun k x hx => hdis _ (al_of (halC (D, tt, aC, ad) _) hx)) (fun H locs hM hP hS => ?_)
  exact lv_icmp_eq (tgt := 1012) hx hb dL_law_233 (by decide) (fun _ => kk _ _ _ _ ⟨hP, hM, hS, hInv2⟩) (fun c1 => absurd rfl c1)
set_option maxHeartbeats 4000000 in
set_option maxRecDepth 100000 in
theorem lc_told {p : Program} {l : Launch} {e : Jvm.Env} {s : State} {m : MethodId} {below : List Frame} {meth : Method} {c : Code} {b L : Nat} {xs : Nat → Int32} {D : va_G} {tt : Nat → ClassId} {aC aM : Nat → Nat} {ad : (Nat → Nat) × (Nat → Nat)} (C0 : lw_At p s m meth c b L xs) (F : LF D tt aC aM ad s) (hL : L ≤ 3072) {i : Nat} (hi : i + 6 ≤ L) {ls : Array Slot} (hl : lv_has ls 4 [(0, .ref b), (1, .ref (aC 0)), (2, .ref (aM 0)), (3, .int (nI i))]) {σ : Sg} {μ : Sm} {H : Heap} {locs : List Loc} (hI : LI D tt aC aM ad s σ μ H locs) {Q : State → Prop}
    (kk : ∀ (σ : Sg) (μ : Sm) (H : Heap) (locs : List Loc), LI D tt aC aM ad s σ μ H locs → W p l e room_1 s m #[Value.ref b] below meth c H locs 89 5288 Q (F0 m 1012 ls [])) : W p l e room_1 s m #[Value.ref b] below meth c H locs 89 5288 Q (F0 m 238 ls []) := by
  obtain ⟨hx, hb, hr, hml, hown, hts0, hX, hbl, hlocks, hgv⟩ := C0
  have hts : ∀ w ∈ wsL_law, w.before #[Value.ref b] s = true := fun w h => hts0 w (wsL_law_in w h)
  obtain ⟨hK, hstr, hN, hGC, hGM, hAC, hAM, hdis⟩ := F
  obtain ⟨hP, hM, hS, hInv⟩ := hI
  have hbA : ¬ wA [] s.heap.size b := wA_nil hbl
  refine lv_aload_n hx hb dL_law_238 rfl (lv_at hl 1 rfl) ?_
  refine lv_aload_n hx hb dL_law_239 rfl (lv_at hl 0 rfl) ?_
  refine lv_iload_n hx hb dL_law_240 rfl (lv_at hl 3 rfl) ?_
  refine lv_iconst (v := (1 : Int32)) hx hb dL_law_241 (by decide) ?_
  refine lv_iadd hx hb dL_law_242 ?_
  refine va_sld hx hb hX hbl hbA hS (show vp_in ((nI i) + (1 : Int32)) L from l_in (k := 1) (by omega) hL) dL_law_243 ?_
  refine lv_aload_n hx hb dL_law_244 rfl (lv_at hl 0 rfl) ?_
  refine lv_iload_n hx hb dL_law_245 rfl (lv_at hl 3 rfl) ?_
  refine lv_iconst (v := (2 : Int32)) hx hb dL_law_246 (by decide) ?_
  refine lv_iadd hx hb dL_law_247 ?_
  refine va_sld hx hb hX hbl hbA hS (show vp_in ((nI i) + (2 : Int32)) L from l_in (k := 2) (by omega) hL) dL_law_248 ?_
  obtain ⟨v, σ2, μ2, g1, g2, hInv2⟩ := pub_told hInv (xs ((nI i) + (1 : Int32)).toNatClampNeg) (xs ((nI i) + (2 : Int32)).toNatClampNeg)
  refine l_ci (va_runV (As := [.int (xs ((nI i) + (1 : Int32)).toNatClampNeg), .int (xs ((nI i) + (2 : Int32)).toNatClampNeg)]) (rest := []) ⟨hx, hb, hml, hown, hts⟩ (c_X8_told l (D, tt, aC, ad) hGC (xs ((nI i) + (1 : Int32)).toNatClampNeg) (xs ((nI i) + (2 : Int32)).toNatClampNeg) σ v σ2 g1 H.size) (cwV 2 hts (wlV K331 K328 K329 K330 K2) rfl rfl rfl (by decide +kernel) ⟨(Nat.le_of_ble_eq_true rfl), (Nat.le_of_ble_eq_true rfl)⟩) (l_preV hK hP hstr hN hS hAC (gC_Main (D, tt, aC, ad) σ) rfl) rfl rfl hl.1 rfl (lv_room (Nat.le_of_ble_eq_true rfl)) dL_law_249 ⟨(Nat.le_of_ble_eq_true rfl), (Nat.le_of_ble_eq_true rfl)⟩) hS hAC hM (fun k x hx h => hdis _ h (al_of (halM (D, tt, aM, ad) _) hx)) (fun H locs hP hM hS => ?_)
  refine lv_aload_n hx hb dL_law_252 rfl (lv_at hl 2 rfl) ?_
  refine lv_aload_n hx hb dL_law_253 rfl (lv_at hl 0 rfl) ?_
  refine lv_iload_n hx hb dL_law_254 rfl (lv_at hl 3 rfl) ?_
  refine lv_iconst (v := (1 : Int32)) hx hb dL_law_255 (by decide) ?_
  refine lv_iadd hx hb dL_law_256 ?_
  refine va_sld hx hb hX hbl hbA hS (show vp_in ((nI i) + (1 : Int32)) L from l_in (k := 1) (by omega) hL) dL_law_257 ?_
  refine lv_aload_n hx hb dL_law_258 rfl (lv_at hl 0 rfl) ?_
  refine lv_iload_n hx hb dL_law_259 rfl (lv_at hl 3 rfl) ?_
  refine lv_iconst (v := (2 : Int32)) hx hb dL_law_260 (by decide) ?_
  refine lv_iadd hx hb dL_law_261 ?_
  refine va_sld hx hb hX hbl hbA hS (show vp_in ((nI i) + (2 : Int32)) L from l_in (k := 2) (by omega) hL) dL_law_262 ?_
  refine l_ci (va_runV (As := [.int (xs ((nI i) + (1 : Int32)).toNatClampNeg), .int (xs ((nI i) + (2 : Int32)).toNatClampNeg)]) (rest := [.int v]) ⟨hx, hb, hml, hown, hts⟩ (c_X9_told l (D, tt, aM, ad) hGM (xs ((nI i) + (1 : Int32)).toNatClampNeg) (xs ((nI i) + (2 : Int32)).toNatClampNeg) μ v μ2 g2 H.size) (cwV 2 hts (wlV K190 K399 K188 K189 K5) rfl rfl rfl (by decide +kernel) ⟨(Nat.le_of_ble_eq_true rfl), (Nat.le_of_ble_eq_true rfl)⟩) (l_preV hK hM hstr hN hS hAM (gM_Model (D, tt, aM, ad) μ) rfl) rfl rfl hl.1 rfl (lv_room (Nat.le_of_ble_eq_true rfl)) dL_law_263 ⟨(Nat.le_of_ble_eq_true rfl), (Nat.le_of_ble_eq_true rfl)⟩) hS hAM hP (fun k x hx => hdis _ (al_of (halC (D, tt, aC, ad) _) hx)) (fun H locs hM hP hS => ?_)
  exact lv_icmp_eq (tgt := 1012) hx hb dL_law_266 (by decide) (fun _ => kk _ _ _ _ ⟨hP, hM, hS, hInv2⟩) (fun c1 => absurd rfl c1)
set_option maxHeartbeats 4000000 in
set_option maxRecDepth 100000 in
theorem lc_eased {p : Program} {l : Launch} {e : Jvm.Env} {s : State} {m : MethodId} {below : List Frame} {meth : Method} {c : Code} {b L : Nat} {xs : Nat → Int32} {D : va_G} {tt : Nat → ClassId} {aC aM : Nat → Nat} {ad : (Nat → Nat) × (Nat → Nat)} (C0 : lw_At p s m meth c b L xs) (F : LF D tt aC aM ad s) (hL : L ≤ 3072) {i : Nat} (hi : i + 6 ≤ L) {ls : Array Slot} (hl : lv_has ls 4 [(0, .ref b), (1, .ref (aC 0)), (2, .ref (aM 0)), (3, .int (nI i))]) {σ : Sg} {μ : Sm} {H : Heap} {locs : List Loc} (hI : LI D tt aC aM ad s σ μ H locs) {Q : State → Prop}
    (kk : ∀ (σ : Sg) (μ : Sm) (H : Heap) (locs : List Loc), LI D tt aC aM ad s σ μ H locs → W p l e room_1 s m #[Value.ref b] below meth c H locs 89 5288 Q (F0 m 1012 ls [])) : W p l e room_1 s m #[Value.ref b] below meth c H locs 89 5288 Q (F0 m 271 ls []) := by
  obtain ⟨hx, hb, hr, hml, hown, hts0, hX, hbl, hlocks, hgv⟩ := C0
  have hts : ∀ w ∈ wsL_law, w.before #[Value.ref b] s = true := fun w h => hts0 w (wsL_law_in w h)
  obtain ⟨hK, hstr, hN, hGC, hGM, hAC, hAM, hdis⟩ := F
  obtain ⟨hP, hM, hS, hInv⟩ := hI
  have hbA : ¬ wA [] s.heap.size b := wA_nil hbl
  refine lv_aload_n hx hb dL_law_271 rfl (lv_at hl 1 rfl) ?_
  refine lv_aload_n hx hb dL_law_272 rfl (lv_at hl 0 rfl) ?_
  refine lv_iload_n hx hb dL_law_273 rfl (lv_at hl 3 rfl) ?_
  refine lv_iconst (v := (1 : Int32)) hx hb dL_law_274 (by decide) ?_
  refine lv_iadd hx hb dL_law_275 ?_
  refine va_sld hx hb hX hbl hbA hS (show vp_in ((nI i) + (1 : Int32)) L from l_in (k := 1) (by omega) hL) dL_law_276 ?_
  obtain ⟨v, σ2, μ2, g1, g2, hInv2⟩ := pub_eased hInv (xs ((nI i) + (1 : Int32)).toNatClampNeg)
  refine l_ci (va_runV (As := [.int (xs ((nI i) + (1 : Int32)).toNatClampNeg)]) (rest := []) ⟨hx, hb, hml, hown, hts⟩ (c_X8_eased l (D, tt, aC, ad) hGC (xs ((nI i) + (1 : Int32)).toNatClampNeg) σ v σ2 g1 H.size) (cwV 1 hts (wlV K403 K400 K401 K402 K2) rfl rfl rfl (by decide +kernel) ⟨(Nat.le_of_ble_eq_true rfl), (Nat.le_of_ble_eq_true rfl)⟩) (l_preV hK hP hstr hN hS hAC (gC_Main (D, tt, aC, ad) σ) rfl) rfl rfl hl.1 rfl (lv_room (Nat.le_of_ble_eq_true rfl)) dL_law_277 ⟨(Nat.le_of_ble_eq_true rfl), (Nat.le_of_ble_eq_true rfl)⟩) hS hAC hM (fun k x hx h => hdis _ h (al_of (halM (D, tt, aM, ad) _) hx)) (fun H locs hP hM hS => ?_)
  refine lv_aload_n hx hb dL_law_280 rfl (lv_at hl 2 rfl) ?_
  refine lv_aload_n hx hb dL_law_281 rfl (lv_at hl 0 rfl) ?_
  refine lv_iload_n hx hb dL_law_282 rfl (lv_at hl 3 rfl) ?_
  refine lv_iconst (v := (1 : Int32)) hx hb dL_law_283 (by decide) ?_
  refine lv_iadd hx hb dL_law_284 ?_
  refine va_sld hx hb hX hbl hbA hS (show vp_in ((nI i) + (1 : Int32)) L from l_in (k := 1) (by omega) hL) dL_law_285 ?_
  refine l_ci (va_runV (As := [.int (xs ((nI i) + (1 : Int32)).toNatClampNeg)]) (rest := [.int v]) ⟨hx, hb, hml, hown, hts⟩ (c_X9_eased l (D, tt, aM, ad) hGM (xs ((nI i) + (1 : Int32)).toNatClampNeg) μ v μ2 g2 H.size) (cwV 1 hts (wlV K411 K408 K409 K410 K5) rfl rfl rfl (by decide +kernel) ⟨(Nat.le_of_ble_eq_true rfl), (Nat.le_of_ble_eq_true rfl)⟩) (l_preV hK hM hstr hN hS hAM (gM_Model (D, tt, aM, ad) μ) rfl) rfl rfl hl.1 rfl (lv_room (Nat.le_of_ble_eq_true rfl)) dL_law_286 ⟨(Nat.le_of_ble_eq_true rfl), (Nat.le_of_ble_eq_true rfl)⟩) hS hAM hP (fun k x hx => hdis _ (al_of (halC (D, tt, aC, ad) _) hx)) (fun H locs hM hP hS => ?_)
  exact lv_icmp_eq (tgt := 1012) hx hb dL_law_289 (by decide) (fun _ => kk _ _ _ _ ⟨hP, hM, hS, hInv2⟩) (fun c1 => absurd rfl c1)
set_option maxHeartbeats 4000000 in
set_option maxRecDepth 100000 in
theorem lc_feed {p : Program} {l : Launch} {e : Jvm.Env} {s : State} {m : MethodId} {below : List Frame} {meth : Method} {c : Code} {b L : Nat} {xs : Nat → Int32} {D : va_G} {tt : Nat → ClassId} {aC aM : Nat → Nat} {ad : (Nat → Nat) × (Nat → Nat)} (C0 : lw_At p s m meth c b L xs) (F : LF D tt aC aM ad s) (hL : L ≤ 3072) {i : Nat} (hi : i + 6 ≤ L) {ls : Array Slot} (hl : lv_has ls 4 [(0, .ref b), (1, .ref (aC 0)), (2, .ref (aM 0)), (3, .int (nI i))]) {σ : Sg} {μ : Sm} {H : Heap} {locs : List Loc} (hI : LI D tt aC aM ad s σ μ H locs) {Q : State → Prop}
    (kk : ∀ (σ : Sg) (μ : Sm) (H : Heap) (locs : List Loc), LI D tt aC aM ad s σ μ H locs → W p l e room_1 s m #[Value.ref b] below meth c H locs 89 5288 Q (F0 m 1012 ls [])) : W p l e room_1 s m #[Value.ref b] below meth c H locs 89 5288 Q (F0 m 294 ls []) := by
  obtain ⟨hx, hb, hr, hml, hown, hts0, hX, hbl, hlocks, hgv⟩ := C0
  have hts : ∀ w ∈ wsL_law, w.before #[Value.ref b] s = true := fun w h => hts0 w (wsL_law_in w h)
  obtain ⟨hK, hstr, hN, hGC, hGM, hAC, hAM, hdis⟩ := F
  obtain ⟨hP, hM, hS, hInv⟩ := hI
  have hbA : ¬ wA [] s.heap.size b := wA_nil hbl
  refine lv_aload_n hx hb dL_law_294 rfl (lv_at hl 1 rfl) ?_
  refine lv_aload_n hx hb dL_law_295 rfl (lv_at hl 0 rfl) ?_
  refine lv_iload_n hx hb dL_law_296 rfl (lv_at hl 3 rfl) ?_
  refine lv_iconst (v := (1 : Int32)) hx hb dL_law_297 (by decide) ?_
  refine lv_iadd hx hb dL_law_298 ?_
  refine va_sld hx hb hX hbl hbA hS (show vp_in ((nI i) + (1 : Int32)) L from l_in (k := 1) (by omega) hL) dL_law_299 ?_
  obtain ⟨v, σ2, μ2, g1, g2, hInv2⟩ := pub_feed hInv (xs ((nI i) + (1 : Int32)).toNatClampNeg)
  refine l_ci (va_runV (As := [.int (xs ((nI i) + (1 : Int32)).toNatClampNeg)]) (rest := []) ⟨hx, hb, hml, hown, hts⟩ (c_X8_feed l (D, tt, aC, ad) hGC (xs ((nI i) + (1 : Int32)).toNatClampNeg) σ v σ2 g1 H.size) (cwV 1 hts (wlV K419 K416 K417 K418 K2) rfl rfl rfl (by decide +kernel) ⟨(Nat.le_of_ble_eq_true rfl), (Nat.le_of_ble_eq_true rfl)⟩) (l_preV hK hP hstr hN hS hAC (gC_Main (D, tt, aC, ad) σ) rfl) rfl rfl hl.1 rfl (lv_room (Nat.le_of_ble_eq_true rfl)) dL_law_300 ⟨(Nat.le_of_ble_eq_true rfl), (Nat.le_of_ble_eq_true rfl)⟩) hS hAC hM (fun k x hx h => hdis _ h (al_of (halM (D, tt, aM, ad) _) hx)) (fun H locs hP hM hS => ?_)
  refine lv_aload_n hx hb dL_law_303 rfl (lv_at hl 2 rfl) ?_
  refine lv_aload_n hx hb dL_law_304 rfl (lv_at hl 0 rfl) ?_
  refine lv_iload_n hx hb dL_law_305 rfl (lv_at hl 3 rfl) ?_
  refine lv_iconst (v := (1 : Int32)) hx hb dL_law_306 (by decide) ?_
  refine lv_iadd hx hb dL_law_307 ?_
  refine va_sld hx hb hX hbl hbA hS (show vp_in ((nI i) + (1 : Int32)) L from l_in (k := 1) (by omega) hL) dL_law_308 ?_
  refine l_ci (va_runV (As := [.int (xs ((nI i) + (1 : Int32)).toNatClampNeg)]) (rest := [.int v]) ⟨hx, hb, hml, hown, hts⟩ (c_X9_feed l (D, tt, aM, ad) hGM (xs ((nI i) + (1 : Int32)).toNatClampNeg) μ v μ2 g2 H.size) (cwV 1 hts (wlV K429 K426 K427 K428 K5) rfl rfl rfl (by decide +kernel) ⟨(Nat.le_of_ble_eq_true rfl), (Nat.le_of_ble_eq_true rfl)⟩) (l_preV hK hM hstr hN hS hAM (gM_Model (D, tt, aM, ad) μ) rfl) rfl rfl hl.1 rfl (lv_room (Nat.le_of_ble_eq_true rfl)) dL_law_309 ⟨(Nat.le_of_ble_eq_true rfl), (Nat.le_of_ble_eq_true rfl)⟩) hS hAM hP (fun k x hx => hdis _ (al_of (halC (D, tt, aC, ad) _) hx)) (fun H locs hM hP hS => ?_)
  exact lv_icmp_eq (tgt := 1012) hx hb dL_law_312 (by decide) (fun _ => kk _ _ _ _ ⟨hP, hM, hS, hInv2⟩) (fun c1 => absurd rfl c1)
set_option maxHeartbeats 4000000 in
set_option maxRecDepth 100000 in
theorem lc_text {p : Program} {l : Launch} {e : Jvm.Env} {s : State} {m : MethodId} {below : List Frame} {meth : Method} {c : Code} {b L : Nat} {xs : Nat → Int32} {D : va_G} {tt : Nat → ClassId} {aC aM : Nat → Nat} {ad : (Nat → Nat) × (Nat → Nat)} (C0 : lw_At p s m meth c b L xs) (F : LF D tt aC aM ad s) (hL : L ≤ 3072) {i : Nat} (hi : i + 6 ≤ L) {ls : Array Slot} (hl : lv_has ls 4 [(0, .ref b), (1, .ref (aC 0)), (2, .ref (aM 0)), (3, .int (nI i))]) {σ : Sg} {μ : Sm} {H : Heap} {locs : List Loc} (hI : LI D tt aC aM ad s σ μ H locs) {Q : State → Prop}
    (kk : ∀ (σ : Sg) (μ : Sm) (H : Heap) (locs : List Loc), LI D tt aC aM ad s σ μ H locs → W p l e room_1 s m #[Value.ref b] below meth c H locs 89 5288 Q (F0 m 1012 ls [])) : W p l e room_1 s m #[Value.ref b] below meth c H locs 89 5288 Q (F0 m 317 ls []) := by
  obtain ⟨hx, hb, hr, hml, hown, hts0, hX, hbl, hlocks, hgv⟩ := C0
  have hts : ∀ w ∈ wsL_law, w.before #[Value.ref b] s = true := fun w h => hts0 w (wsL_law_in w h)
  obtain ⟨hK, hstr, hN, hGC, hGM, hAC, hAM, hdis⟩ := F
  obtain ⟨hP, hM, hS, hInv⟩ := hI
  have hbA : ¬ wA [] s.heap.size b := wA_nil hbl
  refine lv_aload_n hx hb dL_law_317 rfl (lv_at hl 1 rfl) ?_
  obtain ⟨v, σ2, μ2, g1, g2, hInv2⟩ := pub_text hInv
  refine l_ci (va_runV (As := []) (rest := []) ⟨hx, hb, hml, hown, hts⟩ (c_X8_text l (D, tt, aC, ad) hGC σ v σ2 g1 H.size) (cwV 0 hts (wlV K435 K432 K433 K434 K2) rfl rfl rfl (by decide +kernel) ⟨(Nat.le_of_ble_eq_true rfl), (Nat.le_of_ble_eq_true rfl)⟩) (l_preV hK hP hstr hN hS hAC (gC_Main (D, tt, aC, ad) σ) rfl) rfl rfl hl.1 rfl (lv_room (Nat.le_of_ble_eq_true rfl)) dL_law_318 ⟨(Nat.le_of_ble_eq_true rfl), (Nat.le_of_ble_eq_true rfl)⟩) hS hAC hM (fun k x hx h => hdis _ h (al_of (halM (D, tt, aM, ad) _) hx)) (fun H locs hP hM hS => ?_)
  refine lv_aload_n hx hb dL_law_321 rfl (lv_at hl 2 rfl) ?_
  refine l_ci (va_runV (As := []) (rest := [.int v]) ⟨hx, hb, hml, hown, hts⟩ (c_X9_text l (D, tt, aM, ad) hGM μ v μ2 g2 H.size) (cwV 0 hts (wlV K629 K626 K627 K628 K5) rfl rfl rfl (by decide +kernel) ⟨(Nat.le_of_ble_eq_true rfl), (Nat.le_of_ble_eq_true rfl)⟩) (l_preV hK hM hstr hN hS hAM (gM_Model (D, tt, aM, ad) μ) rfl) rfl rfl hl.1 rfl (lv_room (Nat.le_of_ble_eq_true rfl)) dL_law_322 ⟨(Nat.le_of_ble_eq_true rfl), (Nat.le_of_ble_eq_true rfl)⟩) hS hAM hP (fun k x hx => hdis _ (al_of (halC (D, tt, aC, ad) _) hx)) (fun H locs hM hP hS => ?_)
  exact lv_icmp_eq (tgt := 1012) hx hb dL_law_325 (by decide) (fun _ => kk _ _ _ _ ⟨hP, hM, hS, hInv2⟩) (fun c1 => absurd rfl c1)
set_option maxHeartbeats 4000000 in
set_option maxRecDepth 100000 in
theorem lc_force {p : Program} {l : Launch} {e : Jvm.Env} {s : State} {m : MethodId} {below : List Frame} {meth : Method} {c : Code} {b L : Nat} {xs : Nat → Int32} {D : va_G} {tt : Nat → ClassId} {aC aM : Nat → Nat} {ad : (Nat → Nat) × (Nat → Nat)} (C0 : lw_At p s m meth c b L xs) (F : LF D tt aC aM ad s) (hL : L ≤ 3072) {i : Nat} (hi : i + 6 ≤ L) {ls : Array Slot} (hl : lv_has ls 4 [(0, .ref b), (1, .ref (aC 0)), (2, .ref (aM 0)), (3, .int (nI i))]) {σ : Sg} {μ : Sm} {H : Heap} {locs : List Loc} (hI : LI D tt aC aM ad s σ μ H locs) {Q : State → Prop}
    (kk : ∀ (σ : Sg) (μ : Sm) (H : Heap) (locs : List Loc), LI D tt aC aM ad s σ μ H locs → W p l e room_1 s m #[Value.ref b] below meth c H locs 89 5288 Q (F0 m 1012 ls [])) : W p l e room_1 s m #[Value.ref b] below meth c H locs 89 5288 Q (F0 m 330 ls []) := by
  obtain ⟨hx, hb, hr, hml, hown, hts0, hX, hbl, hlocks, hgv⟩ := C0
  have hts : ∀ w ∈ wsL_law, w.before #[Value.ref b] s = true := fun w h => hts0 w (wsL_law_in w h)
  obtain ⟨hK, hstr, hN, hGC, hGM, hAC, hAM, hdis⟩ := F
  obtain ⟨hP, hM, hS, hInv⟩ := hI
  have hbA : ¬ wA [] s.heap.size b := wA_nil hbl
  refine lv_aload_n hx hb dL_law_330 rfl (lv_at hl 1 rfl) ?_
  refine lv_aload_n hx hb dL_law_331 rfl (lv_at hl 0 rfl) ?_
  refine lv_iload_n hx hb dL_law_332 rfl (lv_at hl 3 rfl) ?_
  refine lv_iconst (v := (1 : Int32)) hx hb dL_law_333 (by decide) ?_
  refine lv_iadd hx hb dL_law_334 ?_
  refine va_sld hx hb hX hbl hbA hS (show vp_in ((nI i) + (1 : Int32)) L from l_in (k := 1) (by omega) hL) dL_law_335 ?_
  obtain ⟨v, σ2, μ2, g1, g2, hInv2⟩ := pub_force hInv (xs ((nI i) + (1 : Int32)).toNatClampNeg)
  refine l_ci (va_runV (As := [.int (xs ((nI i) + (1 : Int32)).toNatClampNeg)]) (rest := []) ⟨hx, hb, hml, hown, hts⟩ (c_X8_force l (D, tt, aC, ad) hGC (xs ((nI i) + (1 : Int32)).toNatClampNeg) σ v σ2 g1 H.size) (cwV 1 hts (wlV K633 K630 K631 K632 K2) rfl rfl rfl (by decide +kernel) ⟨(Nat.le_of_ble_eq_true rfl), (Nat.le_of_ble_eq_true rfl)⟩) (l_preV hK hP hstr hN hS hAC (gC_Main (D, tt, aC, ad) σ) rfl) rfl rfl hl.1 rfl (lv_room (Nat.le_of_ble_eq_true rfl)) dL_law_336 ⟨(Nat.le_of_ble_eq_true rfl), (Nat.le_of_ble_eq_true rfl)⟩) hS hAC hM (fun k x hx h => hdis _ h (al_of (halM (D, tt, aM, ad) _) hx)) (fun H locs hP hM hS => ?_)
  refine lv_aload_n hx hb dL_law_339 rfl (lv_at hl 2 rfl) ?_
  refine lv_aload_n hx hb dL_law_340 rfl (lv_at hl 0 rfl) ?_
  refine lv_iload_n hx hb dL_law_341 rfl (lv_at hl 3 rfl) ?_
  refine lv_iconst (v := (1 : Int32)) hx hb dL_law_342 (by decide) ?_
  refine lv_iadd hx hb dL_law_343 ?_
  refine va_sld hx hb hX hbl hbA hS (show vp_in ((nI i) + (1 : Int32)) L from l_in (k := 1) (by omega) hL) dL_law_344 ?_
  refine l_ci (va_runV (As := [.int (xs ((nI i) + (1 : Int32)).toNatClampNeg)]) (rest := [.int v]) ⟨hx, hb, hml, hown, hts⟩ (c_X9_force l (D, tt, aM, ad) hGM (xs ((nI i) + (1 : Int32)).toNatClampNeg) μ v μ2 g2 H.size) (cwV 1 hts (wlV K639 K636 K637 K638 K5) rfl rfl rfl (by decide +kernel) ⟨(Nat.le_of_ble_eq_true rfl), (Nat.le_of_ble_eq_true rfl)⟩) (l_preV hK hM hstr hN hS hAM (gM_Model (D, tt, aM, ad) μ) rfl) rfl rfl hl.1 rfl (lv_room (Nat.le_of_ble_eq_true rfl)) dL_law_345 ⟨(Nat.le_of_ble_eq_true rfl), (Nat.le_of_ble_eq_true rfl)⟩) hS hAM hP (fun k x hx => hdis _ (al_of (halC (D, tt, aC, ad) _) hx)) (fun H locs hM hP hS => ?_)
  exact lv_icmp_eq (tgt := 1012) hx hb dL_law_348 (by decide) (fun _ => kk _ _ _ _ ⟨hP, hM, hS, hInv2⟩) (fun c1 => absurd rfl c1)
set_option maxHeartbeats 4000000 in
set_option maxRecDepth 100000 in
theorem lc_night {p : Program} {l : Launch} {e : Jvm.Env} {s : State} {m : MethodId} {below : List Frame} {meth : Method} {c : Code} {b L : Nat} {xs : Nat → Int32} {D : va_G} {tt : Nat → ClassId} {aC aM : Nat → Nat} {ad : (Nat → Nat) × (Nat → Nat)} (C0 : lw_At p s m meth c b L xs) (F : LF D tt aC aM ad s) (hL : L ≤ 3072) {i : Nat} (hi : i + 6 ≤ L) {ls : Array Slot} (hl : lv_has ls 4 [(0, .ref b), (1, .ref (aC 0)), (2, .ref (aM 0)), (3, .int (nI i))]) {σ : Sg} {μ : Sm} {H : Heap} {locs : List Loc} (hI : LI D tt aC aM ad s σ μ H locs) {Q : State → Prop}
    (kk : ∀ (σ : Sg) (μ : Sm) (H : Heap) (locs : List Loc), LI D tt aC aM ad s σ μ H locs → W p l e room_1 s m #[Value.ref b] below meth c H locs 89 5288 Q (F0 m 1012 ls [])) : W p l e room_1 s m #[Value.ref b] below meth c H locs 89 5288 Q (F0 m 353 ls []) := by
  obtain ⟨hx, hb, hr, hml, hown, hts0, hX, hbl, hlocks, hgv⟩ := C0
  have hts : ∀ w ∈ wsL_law, w.before #[Value.ref b] s = true := fun w h => hts0 w (wsL_law_in w h)
  obtain ⟨hK, hstr, hN, hGC, hGM, hAC, hAM, hdis⟩ := F
  obtain ⟨hP, hM, hS, hInv⟩ := hI
  have hbA : ¬ wA [] s.heap.size b := wA_nil hbl
  refine lv_aload_n hx hb dL_law_353 rfl (lv_at hl 1 rfl) ?_
  obtain ⟨v, σ2, μ2, g1, g2, hInv2⟩ := pub_night hInv
  refine l_ci (va_runV (As := []) (rest := []) ⟨hx, hb, hml, hown, hts⟩ (c_X8_night l (D, tt, aC, ad) hGC σ v σ2 g1 H.size) (cwV 0 hts (wlV K643 K640 K641 K642 K2) rfl rfl rfl (by decide +kernel) ⟨(Nat.le_of_ble_eq_true rfl), (Nat.le_of_ble_eq_true rfl)⟩) (l_preV hK hP hstr hN hS hAC (gC_Main (D, tt, aC, ad) σ) rfl) rfl rfl hl.1 rfl (lv_room (Nat.le_of_ble_eq_true rfl)) dL_law_354 ⟨(Nat.le_of_ble_eq_true rfl), (Nat.le_of_ble_eq_true rfl)⟩) hS hAC hM (fun k x hx h => hdis _ h (al_of (halM (D, tt, aM, ad) _) hx)) (fun H locs hP hM hS => ?_)
  refine lv_aload_n hx hb dL_law_357 rfl (lv_at hl 2 rfl) ?_
  refine l_ci (va_runV (As := []) (rest := [.int v]) ⟨hx, hb, hml, hown, hts⟩ (c_X9_night l (D, tt, aM, ad) hGM μ v μ2 g2 H.size) (cwV 0 hts (wlV K672 K669 K670 K671 K5) rfl rfl rfl (by decide +kernel) ⟨(Nat.le_of_ble_eq_true rfl), (Nat.le_of_ble_eq_true rfl)⟩) (l_preV hK hM hstr hN hS hAM (gM_Model (D, tt, aM, ad) μ) rfl) rfl rfl hl.1 rfl (lv_room (Nat.le_of_ble_eq_true rfl)) dL_law_358 ⟨(Nat.le_of_ble_eq_true rfl), (Nat.le_of_ble_eq_true rfl)⟩) hS hAM hP (fun k x hx => hdis _ (al_of (halC (D, tt, aC, ad) _) hx)) (fun H locs hM hP hS => ?_)
  exact lv_icmp_eq (tgt := 1012) hx hb dL_law_361 (by decide) (fun _ => kk _ _ _ _ ⟨hP, hM, hS, hInv2⟩) (fun c1 => absurd rfl c1)
set_option maxHeartbeats 4000000 in
set_option maxRecDepth 100000 in
theorem lc_news {p : Program} {l : Launch} {e : Jvm.Env} {s : State} {m : MethodId} {below : List Frame} {meth : Method} {c : Code} {b L : Nat} {xs : Nat → Int32} {D : va_G} {tt : Nat → ClassId} {aC aM : Nat → Nat} {ad : (Nat → Nat) × (Nat → Nat)} (C0 : lw_At p s m meth c b L xs) (F : LF D tt aC aM ad s) (hL : L ≤ 3072) {i : Nat} (hi : i + 6 ≤ L) {ls : Array Slot} (hl : lv_has ls 4 [(0, .ref b), (1, .ref (aC 0)), (2, .ref (aM 0)), (3, .int (nI i))]) {σ : Sg} {μ : Sm} {H : Heap} {locs : List Loc} (hI : LI D tt aC aM ad s σ μ H locs) {Q : State → Prop}
    (kk : ∀ (σ : Sg) (μ : Sm) (H : Heap) (locs : List Loc), LI D tt aC aM ad s σ μ H locs → W p l e room_1 s m #[Value.ref b] below meth c H locs 89 5288 Q (F0 m 1012 ls [])) : W p l e room_1 s m #[Value.ref b] below meth c H locs 89 5288 Q (F0 m 366 ls []) := by
  obtain ⟨hx, hb, hr, hml, hown, hts0, hX, hbl, hlocks, hgv⟩ := C0
  have hts : ∀ w ∈ wsL_law, w.before #[Value.ref b] s = true := fun w h => hts0 w (wsL_law_in w h)
  obtain ⟨hK, hstr, hN, hGC, hGM, hAC, hAM, hdis⟩ := F
  obtain ⟨hP, hM, hS, hInv⟩ := hI
  have hbA : ¬ wA [] s.heap.size b := wA_nil hbl
  refine lv_aload_n hx hb dL_law_366 rfl (lv_at hl 1 rfl) ?_
  refine lv_aload_n hx hb dL_law_367 rfl (lv_at hl 0 rfl) ?_
  refine lv_iload_n hx hb dL_law_368 rfl (lv_at hl 3 rfl) ?_
  refine lv_iconst (v := (1 : Int32)) hx hb dL_law_369 (by decide) ?_
  refine lv_iadd hx hb dL_law_370 ?_
  refine va_sld hx hb hX hbl hbA hS (show vp_in ((nI i) + (1 : Int32)) L from l_in (k := 1) (by omega) hL) dL_law_371 ?_
  obtain ⟨v, σ2, μ2, g1, g2, hInv2⟩ := pub_news hInv (xs ((nI i) + (1 : Int32)).toNatClampNeg)
  refine l_ci (va_runV (As := [.int (xs ((nI i) + (1 : Int32)).toNatClampNeg)]) (rest := []) ⟨hx, hb, hml, hown, hts⟩ (c_X8_news l (D, tt, aC, ad) hGC (xs ((nI i) + (1 : Int32)).toNatClampNeg) σ v σ2 g1 H.size) (cwV 1 hts (wlV K680 K677 K678 K679 K2) rfl rfl rfl (by decide +kernel) ⟨(Nat.le_of_ble_eq_true rfl), (Nat.le_of_ble_eq_true rfl)⟩) (l_preV hK hP hstr hN hS hAC (gC_Main (D, tt, aC, ad) σ) rfl) rfl rfl hl.1 rfl (lv_room (Nat.le_of_ble_eq_true rfl)) dL_law_372 ⟨(Nat.le_of_ble_eq_true rfl), (Nat.le_of_ble_eq_true rfl)⟩) hS hAC hM (fun k x hx h => hdis _ h (al_of (halM (D, tt, aM, ad) _) hx)) (fun H locs hP hM hS => ?_)
  refine lv_aload_n hx hb dL_law_375 rfl (lv_at hl 2 rfl) ?_
  refine lv_aload_n hx hb dL_law_376 rfl (lv_at hl 0 rfl) ?_
  refine lv_iload_n hx hb dL_law_377 rfl (lv_at hl 3 rfl) ?_
  refine lv_iconst (v := (1 : Int32)) hx hb dL_law_378 (by decide) ?_
  refine lv_iadd hx hb dL_law_379 ?_
  refine va_sld hx hb hX hbl hbA hS (show vp_in ((nI i) + (1 : Int32)) L from l_in (k := 1) (by omega) hL) dL_law_380 ?_
  refine l_ci (va_runV (As := [.int (xs ((nI i) + (1 : Int32)).toNatClampNeg)]) (rest := [.int v]) ⟨hx, hb, hml, hown, hts⟩ (c_X9_news l (D, tt, aM, ad) hGM (xs ((nI i) + (1 : Int32)).toNatClampNeg) μ v μ2 g2 H.size) (cwV 1 hts (wlV K689 K686 K687 K688 K5) rfl rfl rfl (by decide +kernel) ⟨(Nat.le_of_ble_eq_true rfl), (Nat.le_of_ble_eq_true rfl)⟩) (l_preV hK hM hstr hN hS hAM (gM_Model (D, tt, aM, ad) μ) rfl) rfl rfl hl.1 rfl (lv_room (Nat.le_of_ble_eq_true rfl)) dL_law_381 ⟨(Nat.le_of_ble_eq_true rfl), (Nat.le_of_ble_eq_true rfl)⟩) hS hAM hP (fun k x hx => hdis _ (al_of (halC (D, tt, aC, ad) _) hx)) (fun H locs hM hP hS => ?_)
  exact lv_icmp_eq (tgt := 1012) hx hb dL_law_384 (by decide) (fun _ => kk _ _ _ _ ⟨hP, hM, hS, hInv2⟩) (fun c1 => absurd rfl c1)
set_option maxHeartbeats 4000000 in
set_option maxRecDepth 100000 in
theorem lc_run {p : Program} {l : Launch} {e : Jvm.Env} {s : State} {m : MethodId} {below : List Frame} {meth : Method} {c : Code} {b L : Nat} {xs : Nat → Int32} {D : va_G} {tt : Nat → ClassId} {aC aM : Nat → Nat} {ad : (Nat → Nat) × (Nat → Nat)} (C0 : lw_At p s m meth c b L xs) (F : LF D tt aC aM ad s) (hL : L ≤ 3072) {i : Nat} (hi : i + 6 ≤ L) {ls : Array Slot} (hl : lv_has ls 4 [(0, .ref b), (1, .ref (aC 0)), (2, .ref (aM 0)), (3, .int (nI i))]) {σ : Sg} {μ : Sm} {H : Heap} {locs : List Loc} (hI : LI D tt aC aM ad s σ μ H locs) {Q : State → Prop}
    (kk : ∀ (σ : Sg) (μ : Sm) (H : Heap) (locs : List Loc), LI D tt aC aM ad s σ μ H locs → W p l e room_1 s m #[Value.ref b] below meth c H locs 89 5288 Q (F0 m 1012 ls [])) : W p l e room_1 s m #[Value.ref b] below meth c H locs 89 5288 Q (F0 m 389 ls []) := by
  obtain ⟨hx, hb, hr, hml, hown, hts0, hX, hbl, hlocks, hgv⟩ := C0
  have hts : ∀ w ∈ wsL_law, w.before #[Value.ref b] s = true := fun w h => hts0 w (wsL_law_in w h)
  obtain ⟨hK, hstr, hN, hGC, hGM, hAC, hAM, hdis⟩ := F
  obtain ⟨hP, hM, hS, hInv⟩ := hI
  have hbA : ¬ wA [] s.heap.size b := wA_nil hbl
  refine lv_aload_n hx hb dL_law_389 rfl (lv_at hl 1 rfl) ?_
  refine lv_aload_n hx hb dL_law_390 rfl (lv_at hl 0 rfl) ?_
  refine lv_iload_n hx hb dL_law_391 rfl (lv_at hl 3 rfl) ?_
  refine lv_iconst (v := (1 : Int32)) hx hb dL_law_392 (by decide) ?_
  refine lv_iadd hx hb dL_law_393 ?_
  refine va_sld hx hb hX hbl hbA hS (show vp_in ((nI i) + (1 : Int32)) L from l_in (k := 1) (by omega) hL) dL_law_394 ?_
  refine lv_aload_n hx hb dL_law_395 rfl (lv_at hl 0 rfl) ?_
  refine lv_iload_n hx hb dL_law_396 rfl (lv_at hl 3 rfl) ?_
  refine lv_iconst (v := (2 : Int32)) hx hb dL_law_397 (by decide) ?_
  refine lv_iadd hx hb dL_law_398 ?_
  refine va_sld hx hb hX hbl hbA hS (show vp_in ((nI i) + (2 : Int32)) L from l_in (k := 2) (by omega) hL) dL_law_399 ?_
  refine lv_aload_n hx hb dL_law_400 rfl (lv_at hl 0 rfl) ?_
  refine lv_iload_n hx hb dL_law_401 rfl (lv_at hl 3 rfl) ?_
  refine lv_iconst (v := (3 : Int32)) hx hb dL_law_402 (by decide) ?_
  refine lv_iadd hx hb dL_law_403 ?_
  refine va_sld hx hb hX hbl hbA hS (show vp_in ((nI i) + (3 : Int32)) L from l_in (k := 3) (by omega) hL) dL_law_404 ?_
  refine lv_aload_n hx hb dL_law_405 rfl (lv_at hl 0 rfl) ?_
  refine lv_iload_n hx hb dL_law_406 rfl (lv_at hl 3 rfl) ?_
  refine lv_iconst (v := (4 : Int32)) hx hb dL_law_407 (by decide) ?_
  refine lv_iadd hx hb dL_law_408 ?_
  refine va_sld hx hb hX hbl hbA hS (show vp_in ((nI i) + (4 : Int32)) L from l_in (k := 4) (by omega) hL) dL_law_409 ?_
  obtain ⟨v, σ2, μ2, g1, g2, hInv2⟩ := pub_run hInv (xs ((nI i) + (1 : Int32)).toNatClampNeg) (xs ((nI i) + (2 : Int32)).toNatClampNeg) (xs ((nI i) + (3 : Int32)).toNatClampNeg) (xs ((nI i) + (4 : Int32)).toNatClampNeg)
  refine l_ci (va_runV (As := [.int (xs ((nI i) + (1 : Int32)).toNatClampNeg), .int (xs ((nI i) + (2 : Int32)).toNatClampNeg), .int (xs ((nI i) + (3 : Int32)).toNatClampNeg), .int (xs ((nI i) + (4 : Int32)).toNatClampNeg)]) (rest := []) ⟨hx, hb, hml, hown, hts⟩ (c_X8_run l (D, tt, aC, ad) hGC (xs ((nI i) + (1 : Int32)).toNatClampNeg) (xs ((nI i) + (2 : Int32)).toNatClampNeg) (xs ((nI i) + (3 : Int32)).toNatClampNeg) (xs ((nI i) + (4 : Int32)).toNatClampNeg) σ v σ2 g1 H.size) (cwV 4 hts (wlV K697 K694 K695 K696 K2) rfl rfl rfl (by decide +kernel) ⟨(Nat.le_of_ble_eq_true rfl), (Nat.le_of_ble_eq_true rfl)⟩) (l_preV hK hP hstr hN hS hAC (gC_Main (D, tt, aC, ad) σ) rfl) rfl rfl hl.1 rfl (lv_room (Nat.le_of_ble_eq_true rfl)) dL_law_410 ⟨(Nat.le_of_ble_eq_true rfl), (Nat.le_of_ble_eq_true rfl)⟩) hS hAC hM (fun k x hx h => hdis _ h (al_of (halM (D, tt, aM, ad) _) hx)) (fun H locs hP hM hS => ?_)
  refine lv_aload_n hx hb dL_law_413 rfl (lv_at hl 2 rfl) ?_
  refine lv_aload_n hx hb dL_law_414 rfl (lv_at hl 0 rfl) ?_
  refine lv_iload_n hx hb dL_law_415 rfl (lv_at hl 3 rfl) ?_
  refine lv_iconst (v := (1 : Int32)) hx hb dL_law_416 (by decide) ?_
  refine lv_iadd hx hb dL_law_417 ?_
  refine va_sld hx hb hX hbl hbA hS (show vp_in ((nI i) + (1 : Int32)) L from l_in (k := 1) (by omega) hL) dL_law_418 ?_
  refine lv_aload_n hx hb dL_law_419 rfl (lv_at hl 0 rfl) ?_
  refine lv_iload_n hx hb dL_law_420 rfl (lv_at hl 3 rfl) ?_
  refine lv_iconst (v := (2 : Int32)) hx hb dL_law_421 (by decide) ?_
  refine lv_iadd hx hb dL_law_422 ?_
  refine va_sld hx hb hX hbl hbA hS (show vp_in ((nI i) + (2 : Int32)) L from l_in (k := 2) (by omega) hL) dL_law_423 ?_
  refine lv_aload_n hx hb dL_law_424 rfl (lv_at hl 0 rfl) ?_
  refine lv_iload_n hx hb dL_law_425 rfl (lv_at hl 3 rfl) ?_
  refine lv_iconst (v := (3 : Int32)) hx hb dL_law_426 (by decide) ?_
  refine lv_iadd hx hb dL_law_427 ?_
  refine va_sld hx hb hX hbl hbA hS (show vp_in ((nI i) + (3 : Int32)) L from l_in (k := 3) (by omega) hL) dL_law_428 ?_
  refine lv_aload_n hx hb dL_law_429 rfl (lv_at hl 0 rfl) ?_
  refine lv_iload_n hx hb dL_law_430 rfl (lv_at hl 3 rfl) ?_
  refine lv_iconst (v := (4 : Int32)) hx hb dL_law_431 (by decide) ?_
  refine lv_iadd hx hb dL_law_432 ?_
  refine va_sld hx hb hX hbl hbA hS (show vp_in ((nI i) + (4 : Int32)) L from l_in (k := 4) (by omega) hL) dL_law_433 ?_
  refine l_ci (va_runV (As := [.int (xs ((nI i) + (1 : Int32)).toNatClampNeg), .int (xs ((nI i) + (2 : Int32)).toNatClampNeg), .int (xs ((nI i) + (3 : Int32)).toNatClampNeg), .int (xs ((nI i) + (4 : Int32)).toNatClampNeg)]) (rest := [.int v]) ⟨hx, hb, hml, hown, hts⟩ (c_X9_run l (D, tt, aM, ad) hGM (xs ((nI i) + (1 : Int32)).toNatClampNeg) (xs ((nI i) + (2 : Int32)).toNatClampNeg) (xs ((nI i) + (3 : Int32)).toNatClampNeg) (xs ((nI i) + (4 : Int32)).toNatClampNeg) μ v μ2 g2 H.size) (cwV 4 hts (wlV K711 K708 K709 K710 K5) rfl rfl rfl (by decide +kernel) ⟨(Nat.le_of_ble_eq_true rfl), (Nat.le_of_ble_eq_true rfl)⟩) (l_preV hK hM hstr hN hS hAM (gM_Model (D, tt, aM, ad) μ) rfl) rfl rfl hl.1 rfl (lv_room (Nat.le_of_ble_eq_true rfl)) dL_law_434 ⟨(Nat.le_of_ble_eq_true rfl), (Nat.le_of_ble_eq_true rfl)⟩) hS hAM hP (fun k x hx => hdis _ (al_of (halC (D, tt, aC, ad) _) hx)) (fun H locs hM hP hS => ?_)
  exact lv_icmp_eq (tgt := 1012) hx hb dL_law_437 (by decide) (fun _ => kk _ _ _ _ ⟨hP, hM, hS, hInv2⟩) (fun c1 => absurd rfl c1)
set_option maxHeartbeats 4000000 in
set_option maxRecDepth 100000 in
theorem lc_sleeps {p : Program} {l : Launch} {e : Jvm.Env} {s : State} {m : MethodId} {below : List Frame} {meth : Method} {c : Code} {b L : Nat} {xs : Nat → Int32} {D : va_G} {tt : Nat → ClassId} {aC aM : Nat → Nat} {ad : (Nat → Nat) × (Nat → Nat)} (C0 : lw_At p s m meth c b L xs) (F : LF D tt aC aM ad s) (hL : L ≤ 3072) {i : Nat} (hi : i + 6 ≤ L) {ls : Array Slot} (hl : lv_has ls 4 [(0, .ref b), (1, .ref (aC 0)), (2, .ref (aM 0)), (3, .int (nI i))]) {σ : Sg} {μ : Sm} {H : Heap} {locs : List Loc} (hI : LI D tt aC aM ad s σ μ H locs) {Q : State → Prop}
    (kk : ∀ (σ : Sg) (μ : Sm) (H : Heap) (locs : List Loc), LI D tt aC aM ad s σ μ H locs → W p l e room_1 s m #[Value.ref b] below meth c H locs 89 5288 Q (F0 m 1012 ls [])) : W p l e room_1 s m #[Value.ref b] below meth c H locs 89 5288 Q (F0 m 442 ls []) := by
  obtain ⟨hx, hb, hr, hml, hown, hts0, hX, hbl, hlocks, hgv⟩ := C0
  have hts : ∀ w ∈ wsL_law, w.before #[Value.ref b] s = true := fun w h => hts0 w (wsL_law_in w h)
  obtain ⟨hK, hstr, hN, hGC, hGM, hAC, hAM, hdis⟩ := F
  obtain ⟨hP, hM, hS, hInv⟩ := hI
  have hbA : ¬ wA [] s.heap.size b := wA_nil hbl
  refine lv_aload_n hx hb dL_law_442 rfl (lv_at hl 1 rfl) ?_
  refine lv_aload_n hx hb dL_law_443 rfl (lv_at hl 0 rfl) ?_
  refine lv_iload_n hx hb dL_law_444 rfl (lv_at hl 3 rfl) ?_
  refine lv_iconst (v := (1 : Int32)) hx hb dL_law_445 (by decide) ?_
  refine lv_iadd hx hb dL_law_446 ?_
  refine va_sld hx hb hX hbl hbA hS (show vp_in ((nI i) + (1 : Int32)) L from l_in (k := 1) (by omega) hL) dL_law_447 ?_
  obtain ⟨v, σ2, μ2, g1, g2, hInv2⟩ := pub_sleeps hInv (xs ((nI i) + (1 : Int32)).toNatClampNeg)
  refine l_ci (va_runV (As := [.int (xs ((nI i) + (1 : Int32)).toNatClampNeg)]) (rest := []) ⟨hx, hb, hml, hown, hts⟩ (c_X8_sleeps l (D, tt, aC, ad) hGC (xs ((nI i) + (1 : Int32)).toNatClampNeg) σ v σ2 g1 H.size) (cwV 1 hts (wlV K725 K722 K723 K724 K2) rfl rfl rfl (by decide +kernel) ⟨(Nat.le_of_ble_eq_true rfl), (Nat.le_of_ble_eq_true rfl)⟩) (l_preV hK hP hstr hN hS hAC (gC_Main (D, tt, aC, ad) σ) rfl) rfl rfl hl.1 rfl (lv_room (Nat.le_of_ble_eq_true rfl)) dL_law_448 ⟨(Nat.le_of_ble_eq_true rfl), (Nat.le_of_ble_eq_true rfl)⟩) hS hAC hM (fun k x hx h => hdis _ h (al_of (halM (D, tt, aM, ad) _) hx)) (fun H locs hP hM hS => ?_)
  refine lv_aload_n hx hb dL_law_451 rfl (lv_at hl 2 rfl) ?_
  refine lv_aload_n hx hb dL_law_452 rfl (lv_at hl 0 rfl) ?_
  refine lv_iload_n hx hb dL_law_453 rfl (lv_at hl 3 rfl) ?_
  refine lv_iconst (v := (1 : Int32)) hx hb dL_law_454 (by decide) ?_
  refine lv_iadd hx hb dL_law_455 ?_
  refine va_sld hx hb hX hbl hbA hS (show vp_in ((nI i) + (1 : Int32)) L from l_in (k := 1) (by omega) hL) dL_law_456 ?_
  refine l_ci (va_runV (As := [.int (xs ((nI i) + (1 : Int32)).toNatClampNeg)]) (rest := [.int v]) ⟨hx, hb, hml, hown, hts⟩ (c_X9_sleeps l (D, tt, aM, ad) hGM (xs ((nI i) + (1 : Int32)).toNatClampNeg) μ v μ2 g2 H.size) (cwV 1 hts (wlV K730 K727 K728 K729 K5) rfl rfl rfl (by decide +kernel) ⟨(Nat.le_of_ble_eq_true rfl), (Nat.le_of_ble_eq_true rfl)⟩) (l_preV hK hM hstr hN hS hAM (gM_Model (D, tt, aM, ad) μ) rfl) rfl rfl hl.1 rfl (lv_room (Nat.le_of_ble_eq_true rfl)) dL_law_457 ⟨(Nat.le_of_ble_eq_true rfl), (Nat.le_of_ble_eq_true rfl)⟩) hS hAM hP (fun k x hx => hdis _ (al_of (halC (D, tt, aC, ad) _) hx)) (fun H locs hM hP hS => ?_)
  exact lv_icmp_eq (tgt := 1012) hx hb dL_law_460 (by decide) (fun _ => kk _ _ _ _ ⟨hP, hM, hS, hInv2⟩) (fun c1 => absurd rfl c1)
set_option maxHeartbeats 4000000 in
set_option maxRecDepth 100000 in
theorem lc_pour {p : Program} {l : Launch} {e : Jvm.Env} {s : State} {m : MethodId} {below : List Frame} {meth : Method} {c : Code} {b L : Nat} {xs : Nat → Int32} {D : va_G} {tt : Nat → ClassId} {aC aM : Nat → Nat} {ad : (Nat → Nat) × (Nat → Nat)} (C0 : lw_At p s m meth c b L xs) (F : LF D tt aC aM ad s) (hL : L ≤ 3072) {i : Nat} (hi : i + 6 ≤ L) {ls : Array Slot} (hl : lv_has ls 4 [(0, .ref b), (1, .ref (aC 0)), (2, .ref (aM 0)), (3, .int (nI i))]) {σ : Sg} {μ : Sm} {H : Heap} {locs : List Loc} (hI : LI D tt aC aM ad s σ μ H locs) {Q : State → Prop}
    (kk : ∀ (σ : Sg) (μ : Sm) (H : Heap) (locs : List Loc), LI D tt aC aM ad s σ μ H locs → W p l e room_1 s m #[Value.ref b] below meth c H locs 89 5288 Q (F0 m 1012 ls [])) : W p l e room_1 s m #[Value.ref b] below meth c H locs 89 5288 Q (F0 m 465 ls []) := by
  obtain ⟨hx, hb, hr, hml, hown, hts0, hX, hbl, hlocks, hgv⟩ := C0
  have hts : ∀ w ∈ wsL_law, w.before #[Value.ref b] s = true := fun w h => hts0 w (wsL_law_in w h)
  obtain ⟨hK, hstr, hN, hGC, hGM, hAC, hAM, hdis⟩ := F
  obtain ⟨hP, hM, hS, hInv⟩ := hI
  have hbA : ¬ wA [] s.heap.size b := wA_nil hbl
  refine lv_aload_n hx hb dL_law_465 rfl (lv_at hl 1 rfl) ?_
  refine lv_aload_n hx hb dL_law_466 rfl (lv_at hl 0 rfl) ?_
  refine lv_iload_n hx hb dL_law_467 rfl (lv_at hl 3 rfl) ?_
  refine lv_iconst (v := (1 : Int32)) hx hb dL_law_468 (by decide) ?_
  refine lv_iadd hx hb dL_law_469 ?_
  refine va_sld hx hb hX hbl hbA hS (show vp_in ((nI i) + (1 : Int32)) L from l_in (k := 1) (by omega) hL) dL_law_470 ?_
  obtain ⟨v, σ2, μ2, g1, g2, hInv2⟩ := pub_pour hInv (xs ((nI i) + (1 : Int32)).toNatClampNeg)
  refine l_ci (va_runV (As := [.int (xs ((nI i) + (1 : Int32)).toNatClampNeg)]) (rest := []) ⟨hx, hb, hml, hown, hts⟩ (c_X8_pour l (D, tt, aC, ad) hGC (xs ((nI i) + (1 : Int32)).toNatClampNeg) σ v σ2 g1 H.size) (cwV 1 hts (wlV K734 K731 K732 K733 K2) rfl rfl rfl (by decide +kernel) ⟨(Nat.le_of_ble_eq_true rfl), (Nat.le_of_ble_eq_true rfl)⟩) (l_preV hK hP hstr hN hS hAC (gC_Main (D, tt, aC, ad) σ) rfl) rfl rfl hl.1 rfl (lv_room (Nat.le_of_ble_eq_true rfl)) dL_law_471 ⟨(Nat.le_of_ble_eq_true rfl), (Nat.le_of_ble_eq_true rfl)⟩) hS hAC hM (fun k x hx h => hdis _ h (al_of (halM (D, tt, aM, ad) _) hx)) (fun H locs hP hM hS => ?_)
  refine lv_aload_n hx hb dL_law_474 rfl (lv_at hl 2 rfl) ?_
  refine lv_aload_n hx hb dL_law_475 rfl (lv_at hl 0 rfl) ?_
  refine lv_iload_n hx hb dL_law_476 rfl (lv_at hl 3 rfl) ?_
  refine lv_iconst (v := (1 : Int32)) hx hb dL_law_477 (by decide) ?_
  refine lv_iadd hx hb dL_law_478 ?_
  refine va_sld hx hb hX hbl hbA hS (show vp_in ((nI i) + (1 : Int32)) L from l_in (k := 1) (by omega) hL) dL_law_479 ?_
  refine l_ci (va_runV (As := [.int (xs ((nI i) + (1 : Int32)).toNatClampNeg)]) (rest := [.int v]) ⟨hx, hb, hml, hown, hts⟩ (c_X9_pour l (D, tt, aM, ad) hGM (xs ((nI i) + (1 : Int32)).toNatClampNeg) μ v μ2 g2 H.size) (cwV 1 hts (wlV K771 K768 K769 K770 K5) rfl rfl rfl (by decide +kernel) ⟨(Nat.le_of_ble_eq_true rfl), (Nat.le_of_ble_eq_true rfl)⟩) (l_preV hK hM hstr hN hS hAM (gM_Model (D, tt, aM, ad) μ) rfl) rfl rfl hl.1 rfl (lv_room (Nat.le_of_ble_eq_true rfl)) dL_law_480 ⟨(Nat.le_of_ble_eq_true rfl), (Nat.le_of_ble_eq_true rfl)⟩) hS hAM hP (fun k x hx => hdis _ (al_of (halC (D, tt, aC, ad) _) hx)) (fun H locs hM hP hS => ?_)
  exact lv_icmp_eq (tgt := 1012) hx hb dL_law_483 (by decide) (fun _ => kk _ _ _ _ ⟨hP, hM, hS, hInv2⟩) (fun c1 => absurd rfl c1)
set_option maxHeartbeats 4000000 in
set_option maxRecDepth 100000 in
theorem lc_best {p : Program} {l : Launch} {e : Jvm.Env} {s : State} {m : MethodId} {below : List Frame} {meth : Method} {c : Code} {b L : Nat} {xs : Nat → Int32} {D : va_G} {tt : Nat → ClassId} {aC aM : Nat → Nat} {ad : (Nat → Nat) × (Nat → Nat)} (C0 : lw_At p s m meth c b L xs) (F : LF D tt aC aM ad s) (hL : L ≤ 3072) {i : Nat} (hi : i + 6 ≤ L) {ls : Array Slot} (hl : lv_has ls 4 [(0, .ref b), (1, .ref (aC 0)), (2, .ref (aM 0)), (3, .int (nI i))]) {σ : Sg} {μ : Sm} {H : Heap} {locs : List Loc} (hI : LI D tt aC aM ad s σ μ H locs) {Q : State → Prop}
    (kk : ∀ (σ : Sg) (μ : Sm) (H : Heap) (locs : List Loc), LI D tt aC aM ad s σ μ H locs → W p l e room_1 s m #[Value.ref b] below meth c H locs 89 5288 Q (F0 m 1012 ls [])) : W p l e room_1 s m #[Value.ref b] below meth c H locs 89 5288 Q (F0 m 488 ls []) := by
  obtain ⟨hx, hb, hr, hml, hown, hts0, hX, hbl, hlocks, hgv⟩ := C0
  have hts : ∀ w ∈ wsL_law, w.before #[Value.ref b] s = true := fun w h => hts0 w (wsL_law_in w h)
  obtain ⟨hK, hstr, hN, hGC, hGM, hAC, hAM, hdis⟩ := F
  obtain ⟨hP, hM, hS, hInv⟩ := hI
  have hbA : ¬ wA [] s.heap.size b := wA_nil hbl
  refine lv_aload_n hx hb dL_law_488 rfl (lv_at hl 1 rfl) ?_
  refine lv_aload_n hx hb dL_law_489 rfl (lv_at hl 0 rfl) ?_
  refine lv_iload_n hx hb dL_law_490 rfl (lv_at hl 3 rfl) ?_
  refine lv_iconst (v := (1 : Int32)) hx hb dL_law_491 (by decide) ?_
  refine lv_iadd hx hb dL_law_492 ?_
  refine va_sld hx hb hX hbl hbA hS (show vp_in ((nI i) + (1 : Int32)) L from l_in (k := 1) (by omega) hL) dL_law_493 ?_
  obtain ⟨v, σ2, μ2, g1, g2, hInv2⟩ := pub_best hInv (xs ((nI i) + (1 : Int32)).toNatClampNeg)
  refine l_ci (va_runV (As := [.int (xs ((nI i) + (1 : Int32)).toNatClampNeg)]) (rest := []) ⟨hx, hb, hml, hown, hts⟩ (c_X8_best l (D, tt, aC, ad) hGC (xs ((nI i) + (1 : Int32)).toNatClampNeg) σ v σ2 g1 H.size) (cwV 1 hts (wlV K797 K794 K795 K796 K2) rfl rfl rfl (by decide +kernel) ⟨(Nat.le_of_ble_eq_true rfl), (Nat.le_of_ble_eq_true rfl)⟩) (l_preV hK hP hstr hN hS hAC (gC_Main (D, tt, aC, ad) σ) rfl) rfl rfl hl.1 rfl (lv_room (Nat.le_of_ble_eq_true rfl)) dL_law_494 ⟨(Nat.le_of_ble_eq_true rfl), (Nat.le_of_ble_eq_true rfl)⟩) hS hAC hM (fun k x hx h => hdis _ h (al_of (halM (D, tt, aM, ad) _) hx)) (fun H locs hP hM hS => ?_)
  refine lv_aload_n hx hb dL_law_497 rfl (lv_at hl 2 rfl) ?_
  refine lv_aload_n hx hb dL_law_498 rfl (lv_at hl 0 rfl) ?_
  refine lv_iload_n hx hb dL_law_499 rfl (lv_at hl 3 rfl) ?_
  refine lv_iconst (v := (1 : Int32)) hx hb dL_law_500 (by decide) ?_
  refine lv_iadd hx hb dL_law_501 ?_
  refine va_sld hx hb hX hbl hbA hS (show vp_in ((nI i) + (1 : Int32)) L from l_in (k := 1) (by omega) hL) dL_law_502 ?_
  refine l_ci (va_runV (As := [.int (xs ((nI i) + (1 : Int32)).toNatClampNeg)]) (rest := [.int v]) ⟨hx, hb, hml, hown, hts⟩ (c_X9_best l (D, tt, aM, ad) hGM (xs ((nI i) + (1 : Int32)).toNatClampNeg) μ v μ2 g2 H.size) (cwV 1 hts (wlV K828 K825 K826 K827 K5) rfl rfl rfl (by decide +kernel) ⟨(Nat.le_of_ble_eq_true rfl), (Nat.le_of_ble_eq_true rfl)⟩) (l_preV hK hM hstr hN hS hAM (gM_Model (D, tt, aM, ad) μ) rfl) rfl rfl hl.1 rfl (lv_room (Nat.le_of_ble_eq_true rfl)) dL_law_503 ⟨(Nat.le_of_ble_eq_true rfl), (Nat.le_of_ble_eq_true rfl)⟩) hS hAM hP (fun k x hx => hdis _ (al_of (halC (D, tt, aC, ad) _) hx)) (fun H locs hM hP hS => ?_)
  exact lv_icmp_eq (tgt := 1012) hx hb dL_law_506 (by decide) (fun _ => kk _ _ _ _ ⟨hP, hM, hS, hInv2⟩) (fun c1 => absurd rfl c1)
set_option maxHeartbeats 4000000 in
set_option maxRecDepth 100000 in
theorem lc_blend {p : Program} {l : Launch} {e : Jvm.Env} {s : State} {m : MethodId} {below : List Frame} {meth : Method} {c : Code} {b L : Nat} {xs : Nat → Int32} {D : va_G} {tt : Nat → ClassId} {aC aM : Nat → Nat} {ad : (Nat → Nat) × (Nat → Nat)} (C0 : lw_At p s m meth c b L xs) (F : LF D tt aC aM ad s) (hL : L ≤ 3072) {i : Nat} (hi : i + 6 ≤ L) {ls : Array Slot} (hl : lv_has ls 4 [(0, .ref b), (1, .ref (aC 0)), (2, .ref (aM 0)), (3, .int (nI i))]) {σ : Sg} {μ : Sm} {H : Heap} {locs : List Loc} (hI : LI D tt aC aM ad s σ μ H locs) {Q : State → Prop}
    (kk : ∀ (σ : Sg) (μ : Sm) (H : Heap) (locs : List Loc), LI D tt aC aM ad s σ μ H locs → W p l e room_1 s m #[Value.ref b] below meth c H locs 89 5288 Q (F0 m 1012 ls [])) : W p l e room_1 s m #[Value.ref b] below meth c H locs 89 5288 Q (F0 m 511 ls []) := by
  obtain ⟨hx, hb, hr, hml, hown, hts0, hX, hbl, hlocks, hgv⟩ := C0
  have hts : ∀ w ∈ wsL_law, w.before #[Value.ref b] s = true := fun w h => hts0 w (wsL_law_in w h)
  obtain ⟨hK, hstr, hN, hGC, hGM, hAC, hAM, hdis⟩ := F
  obtain ⟨hP, hM, hS, hInv⟩ := hI
  have hbA : ¬ wA [] s.heap.size b := wA_nil hbl
  refine lv_aload_n hx hb dL_law_511 rfl (lv_at hl 1 rfl) ?_
  refine lv_aload_n hx hb dL_law_512 rfl (lv_at hl 0 rfl) ?_
  refine lv_iload_n hx hb dL_law_513 rfl (lv_at hl 3 rfl) ?_
  refine lv_iconst (v := (1 : Int32)) hx hb dL_law_514 (by decide) ?_
  refine lv_iadd hx hb dL_law_515 ?_
  refine va_sld hx hb hX hbl hbA hS (show vp_in ((nI i) + (1 : Int32)) L from l_in (k := 1) (by omega) hL) dL_law_516 ?_
  refine lv_aload_n hx hb dL_law_517 rfl (lv_at hl 0 rfl) ?_
  refine lv_iload_n hx hb dL_law_518 rfl (lv_at hl 3 rfl) ?_
  refine lv_iconst (v := (2 : Int32)) hx hb dL_law_519 (by decide) ?_
  refine lv_iadd hx hb dL_law_520 ?_
  refine va_sld hx hb hX hbl hbA hS (show vp_in ((nI i) + (2 : Int32)) L from l_in (k := 2) (by omega) hL) dL_law_521 ?_
  refine lv_aload_n hx hb dL_law_522 rfl (lv_at hl 0 rfl) ?_
  refine lv_iload_n hx hb dL_law_523 rfl (lv_at hl 3 rfl) ?_
  refine lv_iconst (v := (3 : Int32)) hx hb dL_law_524 (by decide) ?_
  refine lv_iadd hx hb dL_law_525 ?_
  refine va_sld hx hb hX hbl hbA hS (show vp_in ((nI i) + (3 : Int32)) L from l_in (k := 3) (by omega) hL) dL_law_526 ?_
  obtain ⟨v, σ2, μ2, g1, g2, hInv2⟩ := pub_blend hInv (xs ((nI i) + (1 : Int32)).toNatClampNeg) (xs ((nI i) + (2 : Int32)).toNatClampNeg) (xs ((nI i) + (3 : Int32)).toNatClampNeg)
  refine l_cl (va_runV (As := [.int (xs ((nI i) + (1 : Int32)).toNatClampNeg), .int (xs ((nI i) + (2 : Int32)).toNatClampNeg), .int (xs ((nI i) + (3 : Int32)).toNatClampNeg)]) (rest := []) ⟨hx, hb, hml, hown, hts⟩ (c_X8_blend l (D, tt, aC, ad) hGC (xs ((nI i) + (1 : Int32)).toNatClampNeg) (xs ((nI i) + (2 : Int32)).toNatClampNeg) (xs ((nI i) + (3 : Int32)).toNatClampNeg) σ v σ2 g1 H.size) (cwV 3 hts (wlV K832 K829 K830 K831 K2) rfl rfl rfl (by decide +kernel) ⟨(Nat.le_of_ble_eq_true rfl), (Nat.le_of_ble_eq_true rfl)⟩) (l_preV hK hP hstr hN hS hAC (gC_Main (D, tt, aC, ad) σ) rfl) rfl rfl hl.1 rfl (lv_room (Nat.le_of_ble_eq_true rfl)) dL_law_527 ⟨(Nat.le_of_ble_eq_true rfl), (Nat.le_of_ble_eq_true rfl)⟩) hS hAC hM (fun k x hx h => hdis _ h (al_of (halM (D, tt, aM, ad) _) hx)) (fun H locs hP hM hS => ?_)
  refine lv_aload_n hx hb dL_law_530 rfl (lv_at hl 2 rfl) ?_
  refine lv_aload_n hx hb dL_law_531 rfl (lv_at hl 0 rfl) ?_
  refine lv_iload_n hx hb dL_law_532 rfl (lv_at hl 3 rfl) ?_
  refine lv_iconst (v := (1 : Int32)) hx hb dL_law_533 (by decide) ?_
  refine lv_iadd hx hb dL_law_534 ?_
  refine va_sld hx hb hX hbl hbA hS (show vp_in ((nI i) + (1 : Int32)) L from l_in (k := 1) (by omega) hL) dL_law_535 ?_
  refine lv_aload_n hx hb dL_law_536 rfl (lv_at hl 0 rfl) ?_
  refine lv_iload_n hx hb dL_law_537 rfl (lv_at hl 3 rfl) ?_
  refine lv_iconst (v := (2 : Int32)) hx hb dL_law_538 (by decide) ?_
  refine lv_iadd hx hb dL_law_539 ?_
  refine va_sld hx hb hX hbl hbA hS (show vp_in ((nI i) + (2 : Int32)) L from l_in (k := 2) (by omega) hL) dL_law_540 ?_
  refine lv_aload_n hx hb dL_law_541 rfl (lv_at hl 0 rfl) ?_
  refine lv_iload_n hx hb dL_law_542 rfl (lv_at hl 3 rfl) ?_
  refine lv_iconst (v := (3 : Int32)) hx hb dL_law_543 (by decide) ?_
  refine lv_iadd hx hb dL_law_544 ?_
  refine va_sld hx hb hX hbl hbA hS (show vp_in ((nI i) + (3 : Int32)) L from l_in (k := 3) (by omega) hL) dL_law_545 ?_
  refine l_cl (va_runV (As := [.int (xs ((nI i) + (1 : Int32)).toNatClampNeg), .int (xs ((nI i) + (2 : Int32)).toNatClampNeg), .int (xs ((nI i) + (3 : Int32)).toNatClampNeg)]) (rest := [.long v]) ⟨hx, hb, hml, hown, hts⟩ (c_X9_blend l (D, tt, aM, ad) hGM (xs ((nI i) + (1 : Int32)).toNatClampNeg) (xs ((nI i) + (2 : Int32)).toNatClampNeg) (xs ((nI i) + (3 : Int32)).toNatClampNeg) μ v μ2 g2 H.size) (cwV 3 hts (wlV K841 K838 K839 K840 K5) rfl rfl rfl (by decide +kernel) ⟨(Nat.le_of_ble_eq_true rfl), (Nat.le_of_ble_eq_true rfl)⟩) (l_preV hK hM hstr hN hS hAM (gM_Model (D, tt, aM, ad) μ) rfl) rfl rfl hl.1 rfl (lv_room (Nat.le_of_ble_eq_true rfl)) dL_law_546 ⟨(Nat.le_of_ble_eq_true rfl), (Nat.le_of_ble_eq_true rfl)⟩) hS hAM hP (fun k x hx => hdis _ (al_of (halC (D, tt, aC, ad) _) hx)) (fun H locs hM hP hS => ?_)
  refine W.lcmp hx hb dL_law_549 ?_
  exact lv_if_eq (tgt := 1012) hx hb dL_law_550 (by decide) (fun _ => kk _ _ _ _ ⟨hP, hM, hS, hInv2⟩) (fun c1 => absurd (lg_zero.mpr rfl) c1)
set_option maxHeartbeats 4000000 in
set_option maxRecDepth 100000 in
theorem lc_tells {p : Program} {l : Launch} {e : Jvm.Env} {s : State} {m : MethodId} {below : List Frame} {meth : Method} {c : Code} {b L : Nat} {xs : Nat → Int32} {D : va_G} {tt : Nat → ClassId} {aC aM : Nat → Nat} {ad : (Nat → Nat) × (Nat → Nat)} (C0 : lw_At p s m meth c b L xs) (F : LF D tt aC aM ad s) (hL : L ≤ 3072) {i : Nat} (hi : i + 6 ≤ L) {ls : Array Slot} (hl : lv_has ls 4 [(0, .ref b), (1, .ref (aC 0)), (2, .ref (aM 0)), (3, .int (nI i))]) {σ : Sg} {μ : Sm} {H : Heap} {locs : List Loc} (hI : LI D tt aC aM ad s σ μ H locs) {Q : State → Prop}
    (kk : ∀ (σ : Sg) (μ : Sm) (H : Heap) (locs : List Loc), LI D tt aC aM ad s σ μ H locs → W p l e room_1 s m #[Value.ref b] below meth c H locs 89 5288 Q (F0 m 1012 ls [])) : W p l e room_1 s m #[Value.ref b] below meth c H locs 89 5288 Q (F0 m 555 ls []) := by
  obtain ⟨hx, hb, hr, hml, hown, hts0, hX, hbl, hlocks, hgv⟩ := C0
  have hts : ∀ w ∈ wsL_law, w.before #[Value.ref b] s = true := fun w h => hts0 w (wsL_law_in w h)
  obtain ⟨hK, hstr, hN, hGC, hGM, hAC, hAM, hdis⟩ := F
  obtain ⟨hP, hM, hS, hInv⟩ := hI
  have hbA : ¬ wA [] s.heap.size b := wA_nil hbl
  refine lv_aload_n hx hb dL_law_555 rfl (lv_at hl 1 rfl) ?_
  refine lv_aload_n hx hb dL_law_556 rfl (lv_at hl 0 rfl) ?_
  refine lv_iload_n hx hb dL_law_557 rfl (lv_at hl 3 rfl) ?_
  refine lv_iconst (v := (1 : Int32)) hx hb dL_law_558 (by decide) ?_
  refine lv_iadd hx hb dL_law_559 ?_
  refine va_sld hx hb hX hbl hbA hS (show vp_in ((nI i) + (1 : Int32)) L from l_in (k := 1) (by omega) hL) dL_law_560 ?_
  refine lv_aload_n hx hb dL_law_561 rfl (lv_at hl 0 rfl) ?_
  refine lv_iload_n hx hb dL_law_562 rfl (lv_at hl 3 rfl) ?_
  refine lv_iconst (v := (2 : Int32)) hx hb dL_law_563 (by decide) ?_
  refine lv_iadd hx hb dL_law_564 ?_
  refine va_sld hx hb hX hbl hbA hS (show vp_in ((nI i) + (2 : Int32)) L from l_in (k := 2) (by omega) hL) dL_law_565 ?_
  refine lv_aload_n hx hb dL_law_566 rfl (lv_at hl 0 rfl) ?_
  refine lv_iload_n hx hb dL_law_567 rfl (lv_at hl 3 rfl) ?_
  refine lv_iconst (v := (3 : Int32)) hx hb dL_law_568 (by decide) ?_
  refine lv_iadd hx hb dL_law_569 ?_
  refine va_sld hx hb hX hbl hbA hS (show vp_in ((nI i) + (3 : Int32)) L from l_in (k := 3) (by omega) hL) dL_law_570 ?_
  obtain ⟨v, σ2, μ2, g1, g2, hInv2⟩ := pub_tells hInv (xs ((nI i) + (1 : Int32)).toNatClampNeg) (xs ((nI i) + (2 : Int32)).toNatClampNeg) (xs ((nI i) + (3 : Int32)).toNatClampNeg)
  refine l_ci (va_runV (As := [.int (xs ((nI i) + (1 : Int32)).toNatClampNeg), .int (xs ((nI i) + (2 : Int32)).toNatClampNeg), .int (xs ((nI i) + (3 : Int32)).toNatClampNeg)]) (rest := []) ⟨hx, hb, hml, hown, hts⟩ (c_X8_tells l (D, tt, aC, ad) hGC (xs ((nI i) + (1 : Int32)).toNatClampNeg) (xs ((nI i) + (2 : Int32)).toNatClampNeg) (xs ((nI i) + (3 : Int32)).toNatClampNeg) σ v σ2 g1 H.size) (cwV 3 hts (wlV K849 K846 K847 K848 K2) rfl rfl rfl (by decide +kernel) ⟨(Nat.le_of_ble_eq_true rfl), (Nat.le_of_ble_eq_true rfl)⟩) (l_preV hK hP hstr hN hS hAC (gC_Main (D, tt, aC, ad) σ) rfl) rfl rfl hl.1 rfl (lv_room (Nat.le_of_ble_eq_true rfl)) dL_law_571 ⟨(Nat.le_of_ble_eq_true rfl), (Nat.le_of_ble_eq_true rfl)⟩) hS hAC hM (fun k x hx h => hdis _ h (al_of (halM (D, tt, aM, ad) _) hx)) (fun H locs hP hM hS => ?_)
  refine lv_aload_n hx hb dL_law_574 rfl (lv_at hl 2 rfl) ?_
  refine lv_aload_n hx hb dL_law_575 rfl (lv_at hl 0 rfl) ?_
  refine lv_iload_n hx hb dL_law_576 rfl (lv_at hl 3 rfl) ?_
  refine lv_iconst (v := (1 : Int32)) hx hb dL_law_577 (by decide) ?_
  refine lv_iadd hx hb dL_law_578 ?_
  refine va_sld hx hb hX hbl hbA hS (show vp_in ((nI i) + (1 : Int32)) L from l_in (k := 1) (by omega) hL) dL_law_579 ?_
  refine lv_aload_n hx hb dL_law_580 rfl (lv_at hl 0 rfl) ?_
  refine lv_iload_n hx hb dL_law_581 rfl (lv_at hl 3 rfl) ?_
  refine lv_iconst (v := (2 : Int32)) hx hb dL_law_582 (by decide) ?_
  refine lv_iadd hx hb dL_law_583 ?_
  refine va_sld hx hb hX hbl hbA hS (show vp_in ((nI i) + (2 : Int32)) L from l_in (k := 2) (by omega) hL) dL_law_584 ?_
  refine lv_aload_n hx hb dL_law_585 rfl (lv_at hl 0 rfl) ?_
  refine lv_iload_n hx hb dL_law_586 rfl (lv_at hl 3 rfl) ?_
  refine lv_iconst (v := (3 : Int32)) hx hb dL_law_587 (by decide) ?_
  refine lv_iadd hx hb dL_law_588 ?_
  refine va_sld hx hb hX hbl hbA hS (show vp_in ((nI i) + (3 : Int32)) L from l_in (k := 3) (by omega) hL) dL_law_589 ?_
  refine l_ci (va_runV (As := [.int (xs ((nI i) + (1 : Int32)).toNatClampNeg), .int (xs ((nI i) + (2 : Int32)).toNatClampNeg), .int (xs ((nI i) + (3 : Int32)).toNatClampNeg)]) (rest := [.int v]) ⟨hx, hb, hml, hown, hts⟩ (c_X9_tells l (D, tt, aM, ad) hGM (xs ((nI i) + (1 : Int32)).toNatClampNeg) (xs ((nI i) + (2 : Int32)).toNatClampNeg) (xs ((nI i) + (3 : Int32)).toNatClampNeg) μ v μ2 g2 H.size) (cwV 3 hts (wlV K891 K888 K889 K890 K5) rfl rfl rfl (by decide +kernel) ⟨(Nat.le_of_ble_eq_true rfl), (Nat.le_of_ble_eq_true rfl)⟩) (l_preV hK hM hstr hN hS hAM (gM_Model (D, tt, aM, ad) μ) rfl) rfl rfl hl.1 rfl (lv_room (Nat.le_of_ble_eq_true rfl)) dL_law_590 ⟨(Nat.le_of_ble_eq_true rfl), (Nat.le_of_ble_eq_true rfl)⟩) hS hAM hP (fun k x hx => hdis _ (al_of (halC (D, tt, aC, ad) _) hx)) (fun H locs hM hP hS => ?_)
  exact lv_icmp_eq (tgt := 1012) hx hb dL_law_593 (by decide) (fun _ => kk _ _ _ _ ⟨hP, hM, hS, hInv2⟩) (fun c1 => absurd rfl c1)
set_option maxHeartbeats 4000000 in
set_option maxRecDepth 100000 in
theorem lc_film {p : Program} {l : Launch} {e : Jvm.Env} {s : State} {m : MethodId} {below : List Frame} {meth : Method} {c : Code} {b L : Nat} {xs : Nat → Int32} {D : va_G} {tt : Nat → ClassId} {aC aM : Nat → Nat} {ad : (Nat → Nat) × (Nat → Nat)} (C0 : lw_At p s m meth c b L xs) (F : LF D tt aC aM ad s) (hL : L ≤ 3072) {i : Nat} (hi : i + 6 ≤ L) {ls : Array Slot} (hl : lv_has ls 4 [(0, .ref b), (1, .ref (aC 0)), (2, .ref (aM 0)), (3, .int (nI i))]) {σ : Sg} {μ : Sm} {H : Heap} {locs : List Loc} (hI : LI D tt aC aM ad s σ μ H locs) {Q : State → Prop}
    (kk : ∀ (σ : Sg) (μ : Sm) (H : Heap) (locs : List Loc), LI D tt aC aM ad s σ μ H locs → W p l e room_1 s m #[Value.ref b] below meth c H locs 89 5288 Q (F0 m 1012 ls [])) : W p l e room_1 s m #[Value.ref b] below meth c H locs 89 5288 Q (F0 m 598 ls []) := by
  obtain ⟨hx, hb, hr, hml, hown, hts0, hX, hbl, hlocks, hgv⟩ := C0
  have hts : ∀ w ∈ wsL_law, w.before #[Value.ref b] s = true := fun w h => hts0 w (wsL_law_in w h)
  obtain ⟨hK, hstr, hN, hGC, hGM, hAC, hAM, hdis⟩ := F
  obtain ⟨hP, hM, hS, hInv⟩ := hI
  have hbA : ¬ wA [] s.heap.size b := wA_nil hbl
  refine lv_aload_n hx hb dL_law_598 rfl (lv_at hl 1 rfl) ?_
  refine lv_aload_n hx hb dL_law_599 rfl (lv_at hl 0 rfl) ?_
  refine lv_iload_n hx hb dL_law_600 rfl (lv_at hl 3 rfl) ?_
  refine lv_iconst (v := (1 : Int32)) hx hb dL_law_601 (by decide) ?_
  refine lv_iadd hx hb dL_law_602 ?_
  refine va_sld hx hb hX hbl hbA hS (show vp_in ((nI i) + (1 : Int32)) L from l_in (k := 1) (by omega) hL) dL_law_603 ?_
  refine lv_aload_n hx hb dL_law_604 rfl (lv_at hl 0 rfl) ?_
  refine lv_iload_n hx hb dL_law_605 rfl (lv_at hl 3 rfl) ?_
  refine lv_iconst (v := (2 : Int32)) hx hb dL_law_606 (by decide) ?_
  refine lv_iadd hx hb dL_law_607 ?_
  refine va_sld hx hb hX hbl hbA hS (show vp_in ((nI i) + (2 : Int32)) L from l_in (k := 2) (by omega) hL) dL_law_608 ?_
  refine lv_aload_n hx hb dL_law_609 rfl (lv_at hl 0 rfl) ?_
  refine lv_iload_n hx hb dL_law_610 rfl (lv_at hl 3 rfl) ?_
  refine lv_iconst (v := (3 : Int32)) hx hb dL_law_611 (by decide) ?_
  refine lv_iadd hx hb dL_law_612 ?_
  refine va_sld hx hb hX hbl hbA hS (show vp_in ((nI i) + (3 : Int32)) L from l_in (k := 3) (by omega) hL) dL_law_613 ?_
  obtain ⟨v, σ2, μ2, g1, g2, hInv2⟩ := pub_film hInv (xs ((nI i) + (1 : Int32)).toNatClampNeg) (xs ((nI i) + (2 : Int32)).toNatClampNeg) (xs ((nI i) + (3 : Int32)).toNatClampNeg)
  refine l_ci (va_runV (As := [.int (xs ((nI i) + (1 : Int32)).toNatClampNeg), .int (xs ((nI i) + (2 : Int32)).toNatClampNeg), .int (xs ((nI i) + (3 : Int32)).toNatClampNeg)]) (rest := []) ⟨hx, hb, hml, hown, hts⟩ (c_X8_film l (D, tt, aC, ad) hGC (xs ((nI i) + (1 : Int32)).toNatClampNeg) (xs ((nI i) + (2 : Int32)).toNatClampNeg) (xs ((nI i) + (3 : Int32)).toNatClampNeg) σ v σ2 g1 H.size) (cwV 3 hts (wlV K907 K904 K905 K906 K2) rfl rfl rfl (by decide +kernel) ⟨(Nat.le_of_ble_eq_true rfl), (Nat.le_of_ble_eq_true rfl)⟩) (l_preV hK hP hstr hN hS hAC (gC_Main (D, tt, aC, ad) σ) rfl) rfl rfl hl.1 rfl (lv_room (Nat.le_of_ble_eq_true rfl)) dL_law_614 ⟨(Nat.le_of_ble_eq_true rfl), (Nat.le_of_ble_eq_true rfl)⟩) hS hAC hM (fun k x hx h => hdis _ h (al_of (halM (D, tt, aM, ad) _) hx)) (fun H locs hP hM hS => ?_)
  refine lv_aload_n hx hb dL_law_617 rfl (lv_at hl 2 rfl) ?_
  refine lv_aload_n hx hb dL_law_618 rfl (lv_at hl 0 rfl) ?_
  refine lv_iload_n hx hb dL_law_619 rfl (lv_at hl 3 rfl) ?_
  refine lv_iconst (v := (1 : Int32)) hx hb dL_law_620 (by decide) ?_
  refine lv_iadd hx hb dL_law_621 ?_
  refine va_sld hx hb hX hbl hbA hS (show vp_in ((nI i) + (1 : Int32)) L from l_in (k := 1) (by omega) hL) dL_law_622 ?_
  refine lv_aload_n hx hb dL_law_623 rfl (lv_at hl 0 rfl) ?_
  refine lv_iload_n hx hb dL_law_624 rfl (lv_at hl 3 rfl) ?_
  refine lv_iconst (v := (2 : Int32)) hx hb dL_law_625 (by decide) ?_
  refine lv_iadd hx hb dL_law_626 ?_
  refine va_sld hx hb hX hbl hbA hS (show vp_in ((nI i) + (2 : Int32)) L from l_in (k := 2) (by omega) hL) dL_law_627 ?_
  refine lv_aload_n hx hb dL_law_628 rfl (lv_at hl 0 rfl) ?_
  refine lv_iload_n hx hb dL_law_629 rfl (lv_at hl 3 rfl) ?_
  refine lv_iconst (v := (3 : Int32)) hx hb dL_law_630 (by decide) ?_
  refine lv_iadd hx hb dL_law_631 ?_
  refine va_sld hx hb hX hbl hbA hS (show vp_in ((nI i) + (3 : Int32)) L from l_in (k := 3) (by omega) hL) dL_law_632 ?_
  refine l_ci (va_runV (As := [.int (xs ((nI i) + (1 : Int32)).toNatClampNeg), .int (xs ((nI i) + (2 : Int32)).toNatClampNeg), .int (xs ((nI i) + (3 : Int32)).toNatClampNeg)]) (rest := [.int v]) ⟨hx, hb, hml, hown, hts⟩ (c_X9_film l (D, tt, aM, ad) hGM (xs ((nI i) + (1 : Int32)).toNatClampNeg) (xs ((nI i) + (2 : Int32)).toNatClampNeg) (xs ((nI i) + (3 : Int32)).toNatClampNeg) μ v μ2 g2 H.size) (cwV 3 hts (wlV K926 K923 K924 K925 K5) rfl rfl rfl (by decide +kernel) ⟨(Nat.le_of_ble_eq_true rfl), (Nat.le_of_ble_eq_true rfl)⟩) (l_preV hK hM hstr hN hS hAM (gM_Model (D, tt, aM, ad) μ) rfl) rfl rfl hl.1 rfl (lv_room (Nat.le_of_ble_eq_true rfl)) dL_law_633 ⟨(Nat.le_of_ble_eq_true rfl), (Nat.le_of_ble_eq_true rfl)⟩) hS hAM hP (fun k x hx => hdis _ (al_of (halC (D, tt, aC, ad) _) hx)) (fun H locs hM hP hS => ?_)
  exact lv_icmp_eq (tgt := 1012) hx hb dL_law_636 (by decide) (fun _ => kk _ _ _ _ ⟨hP, hM, hS, hInv2⟩) (fun c1 => absurd rfl c1)
set_option maxHeartbeats 4000000 in
set_option maxRecDepth 100000 in
theorem lc_drawn {p : Program} {l : Launch} {e : Jvm.Env} {s : State} {m : MethodId} {below : List Frame} {meth : Method} {c : Code} {b L : Nat} {xs : Nat → Int32} {D : va_G} {tt : Nat → ClassId} {aC aM : Nat → Nat} {ad : (Nat → Nat) × (Nat → Nat)} (C0 : lw_At p s m meth c b L xs) (F : LF D tt aC aM ad s) (hL : L ≤ 3072) {i : Nat} (hi : i + 6 ≤ L) {ls : Array Slot} (hl : lv_has ls 4 [(0, .ref b), (1, .ref (aC 0)), (2, .ref (aM 0)), (3, .int (nI i))]) {σ : Sg} {μ : Sm} {H : Heap} {locs : List Loc} (hI : LI D tt aC aM ad s σ μ H locs) {Q : State → Prop}
    (kk : ∀ (σ : Sg) (μ : Sm) (H : Heap) (locs : List Loc), LI D tt aC aM ad s σ μ H locs → W p l e room_1 s m #[Value.ref b] below meth c H locs 89 5288 Q (F0 m 1012 ls [])) : W p l e room_1 s m #[Value.ref b] below meth c H locs 89 5288 Q (F0 m 641 ls []) := by
  obtain ⟨hx, hb, hr, hml, hown, hts0, hX, hbl, hlocks, hgv⟩ := C0
  have hts : ∀ w ∈ wsL_law, w.before #[Value.ref b] s = true := fun w h => hts0 w (wsL_law_in w h)
  obtain ⟨hK, hstr, hN, hGC, hGM, hAC, hAM, hdis⟩ := F
  obtain ⟨hP, hM, hS, hInv⟩ := hI
  have hbA : ¬ wA [] s.heap.size b := wA_nil hbl
  refine lv_aload_n hx hb dL_law_641 rfl (lv_at hl 1 rfl) ?_
  refine lv_aload_n hx hb dL_law_642 rfl (lv_at hl 0 rfl) ?_
  refine lv_iload_n hx hb dL_law_643 rfl (lv_at hl 3 rfl) ?_
  refine lv_iconst (v := (1 : Int32)) hx hb dL_law_644 (by decide) ?_
  refine lv_iadd hx hb dL_law_645 ?_
  refine va_sld hx hb hX hbl hbA hS (show vp_in ((nI i) + (1 : Int32)) L from l_in (k := 1) (by omega) hL) dL_law_646 ?_
  refine lv_aload_n hx hb dL_law_647 rfl (lv_at hl 0 rfl) ?_
  refine lv_iload_n hx hb dL_law_648 rfl (lv_at hl 3 rfl) ?_
  refine lv_iconst (v := (2 : Int32)) hx hb dL_law_649 (by decide) ?_
  refine lv_iadd hx hb dL_law_650 ?_
  refine va_sld hx hb hX hbl hbA hS (show vp_in ((nI i) + (2 : Int32)) L from l_in (k := 2) (by omega) hL) dL_law_651 ?_
  obtain ⟨v, σ2, μ2, g1, g2, hInv2⟩ := pub_drawn hInv (xs ((nI i) + (1 : Int32)).toNatClampNeg) (xs ((nI i) + (2 : Int32)).toNatClampNeg)
  refine l_ci (va_runV (As := [.int (xs ((nI i) + (1 : Int32)).toNatClampNeg), .int (xs ((nI i) + (2 : Int32)).toNatClampNeg)]) (rest := []) ⟨hx, hb, hml, hown, hts⟩ (c_X8_drawn l (D, tt, aC, ad) hGC (xs ((nI i) + (1 : Int32)).toNatClampNeg) (xs ((nI i) + (2 : Int32)).toNatClampNeg) σ v σ2 g1 H.size) (cwV 2 hts (wlV K936 K933 K934 K935 K2) rfl rfl rfl (by decide +kernel) ⟨(Nat.le_of_ble_eq_true rfl), (Nat.le_of_ble_eq_true rfl)⟩) (l_preV hK hP hstr hN hS hAC (gC_Main (D, tt, aC, ad) σ) rfl) rfl rfl hl.1 rfl (lv_room (Nat.le_of_ble_eq_true rfl)) dL_law_652 ⟨(Nat.le_of_ble_eq_true rfl), (Nat.le_of_ble_eq_true rfl)⟩) hS hAC hM (fun k x hx h => hdis _ h (al_of (halM (D, tt, aM, ad) _) hx)) (fun H locs hP hM hS => ?_)
  refine lv_aload_n hx hb dL_law_655 rfl (lv_at hl 2 rfl) ?_
  refine lv_aload_n hx hb dL_law_656 rfl (lv_at hl 0 rfl) ?_
  refine lv_iload_n hx hb dL_law_657 rfl (lv_at hl 3 rfl) ?_
  refine lv_iconst (v := (1 : Int32)) hx hb dL_law_658 (by decide) ?_
  refine lv_iadd hx hb dL_law_659 ?_
  refine va_sld hx hb hX hbl hbA hS (show vp_in ((nI i) + (1 : Int32)) L from l_in (k := 1) (by omega) hL) dL_law_660 ?_
  refine lv_aload_n hx hb dL_law_661 rfl (lv_at hl 0 rfl) ?_
  refine lv_iload_n hx hb dL_law_662 rfl (lv_at hl 3 rfl) ?_
  refine lv_iconst (v := (2 : Int32)) hx hb dL_law_663 (by decide) ?_
  refine lv_iadd hx hb dL_law_664 ?_
  refine va_sld hx hb hX hbl hbA hS (show vp_in ((nI i) + (2 : Int32)) L from l_in (k := 2) (by omega) hL) dL_law_665 ?_
  refine l_ci (va_runV (As := [.int (xs ((nI i) + (1 : Int32)).toNatClampNeg), .int (xs ((nI i) + (2 : Int32)).toNatClampNeg)]) (rest := [.int v]) ⟨hx, hb, hml, hown, hts⟩ (c_X9_drawn l (D, tt, aM, ad) hGM (xs ((nI i) + (1 : Int32)).toNatClampNeg) (xs ((nI i) + (2 : Int32)).toNatClampNeg) μ v μ2 g2 H.size) (cwV 2 hts (wlV K945 K942 K943 K944 K5) rfl rfl rfl (by decide +kernel) ⟨(Nat.le_of_ble_eq_true rfl), (Nat.le_of_ble_eq_true rfl)⟩) (l_preV hK hM hstr hN hS hAM (gM_Model (D, tt, aM, ad) μ) rfl) rfl rfl hl.1 rfl (lv_room (Nat.le_of_ble_eq_true rfl)) dL_law_666 ⟨(Nat.le_of_ble_eq_true rfl), (Nat.le_of_ble_eq_true rfl)⟩) hS hAM hP (fun k x hx => hdis _ (al_of (halC (D, tt, aC, ad) _) hx)) (fun H locs hM hP hS => ?_)
  exact lv_icmp_eq (tgt := 1012) hx hb dL_law_669 (by decide) (fun _ => kk _ _ _ _ ⟨hP, hM, hS, hInv2⟩) (fun c1 => absurd rfl c1)
set_option maxHeartbeats 4000000 in
set_option maxRecDepth 100000 in
theorem lc_chance {p : Program} {l : Launch} {e : Jvm.Env} {s : State} {m : MethodId} {below : List Frame} {meth : Method} {c : Code} {b L : Nat} {xs : Nat → Int32} {D : va_G} {tt : Nat → ClassId} {aC aM : Nat → Nat} {ad : (Nat → Nat) × (Nat → Nat)} (C0 : lw_At p s m meth c b L xs) (F : LF D tt aC aM ad s) (hL : L ≤ 3072) {i : Nat} (hi : i + 6 ≤ L) {ls : Array Slot} (hl : lv_has ls 4 [(0, .ref b), (1, .ref (aC 0)), (2, .ref (aM 0)), (3, .int (nI i))]) {σ : Sg} {μ : Sm} {H : Heap} {locs : List Loc} (hI : LI D tt aC aM ad s σ μ H locs) {Q : State → Prop}
    (kk : ∀ (σ : Sg) (μ : Sm) (H : Heap) (locs : List Loc), LI D tt aC aM ad s σ μ H locs → W p l e room_1 s m #[Value.ref b] below meth c H locs 89 5288 Q (F0 m 1012 ls [])) : W p l e room_1 s m #[Value.ref b] below meth c H locs 89 5288 Q (F0 m 674 ls []) := by
  obtain ⟨hx, hb, hr, hml, hown, hts0, hX, hbl, hlocks, hgv⟩ := C0
  have hts : ∀ w ∈ wsL_law, w.before #[Value.ref b] s = true := fun w h => hts0 w (wsL_law_in w h)
  obtain ⟨hK, hstr, hN, hGC, hGM, hAC, hAM, hdis⟩ := F
  obtain ⟨hP, hM, hS, hInv⟩ := hI
  have hbA : ¬ wA [] s.heap.size b := wA_nil hbl
  refine lv_aload_n hx hb dL_law_674 rfl (lv_at hl 1 rfl) ?_
  refine lv_aload_n hx hb dL_law_675 rfl (lv_at hl 0 rfl) ?_
  refine lv_iload_n hx hb dL_law_676 rfl (lv_at hl 3 rfl) ?_
  refine lv_iconst (v := (1 : Int32)) hx hb dL_law_677 (by decide) ?_
  refine lv_iadd hx hb dL_law_678 ?_
  refine va_sld hx hb hX hbl hbA hS (show vp_in ((nI i) + (1 : Int32)) L from l_in (k := 1) (by omega) hL) dL_law_679 ?_
  refine lv_aload_n hx hb dL_law_680 rfl (lv_at hl 0 rfl) ?_
  refine lv_iload_n hx hb dL_law_681 rfl (lv_at hl 3 rfl) ?_
  refine lv_iconst (v := (2 : Int32)) hx hb dL_law_682 (by decide) ?_
  refine lv_iadd hx hb dL_law_683 ?_
  refine va_sld hx hb hX hbl hbA hS (show vp_in ((nI i) + (2 : Int32)) L from l_in (k := 2) (by omega) hL) dL_law_684 ?_
  refine lv_aload_n hx hb dL_law_685 rfl (lv_at hl 0 rfl) ?_
  refine lv_iload_n hx hb dL_law_686 rfl (lv_at hl 3 rfl) ?_
  refine lv_iconst (v := (3 : Int32)) hx hb dL_law_687 (by decide) ?_
  refine lv_iadd hx hb dL_law_688 ?_
  refine va_sld hx hb hX hbl hbA hS (show vp_in ((nI i) + (3 : Int32)) L from l_in (k := 3) (by omega) hL) dL_law_689 ?_
  refine lv_aload_n hx hb dL_law_690 rfl (lv_at hl 0 rfl) ?_
  refine lv_iload_n hx hb dL_law_691 rfl (lv_at hl 3 rfl) ?_
  refine lv_iconst (v := (4 : Int32)) hx hb dL_law_692 (by decide) ?_
  refine lv_iadd hx hb dL_law_693 ?_
  refine va_sld hx hb hX hbl hbA hS (show vp_in ((nI i) + (4 : Int32)) L from l_in (k := 4) (by omega) hL) dL_law_694 ?_
  obtain ⟨v, σ2, μ2, g1, g2, hInv2⟩ := pub_chance hInv (xs ((nI i) + (1 : Int32)).toNatClampNeg) (xs ((nI i) + (2 : Int32)).toNatClampNeg) (xs ((nI i) + (3 : Int32)).toNatClampNeg) (xs ((nI i) + (4 : Int32)).toNatClampNeg)
  refine l_cl (va_runV (As := [.int (xs ((nI i) + (1 : Int32)).toNatClampNeg), .int (xs ((nI i) + (2 : Int32)).toNatClampNeg), .int (xs ((nI i) + (3 : Int32)).toNatClampNeg), .int (xs ((nI i) + (4 : Int32)).toNatClampNeg)]) (rest := []) ⟨hx, hb, hml, hown, hts⟩ (c_X8_chance l (D, tt, aC, ad) hGC (xs ((nI i) + (1 : Int32)).toNatClampNeg) (xs ((nI i) + (2 : Int32)).toNatClampNeg) (xs ((nI i) + (3 : Int32)).toNatClampNeg) (xs ((nI i) + (4 : Int32)).toNatClampNeg) σ v σ2 g1 H.size) (cwV 4 hts (wlV K954 K951 K952 K953 K2) rfl rfl rfl (by decide +kernel) ⟨(Nat.le_of_ble_eq_true rfl), (Nat.le_of_ble_eq_true rfl)⟩) (l_preV hK hP hstr hN hS hAC (gC_Main (D, tt, aC, ad) σ) rfl) rfl rfl hl.1 rfl (lv_room (Nat.le_of_ble_eq_true rfl)) dL_law_695 ⟨(Nat.le_of_ble_eq_true rfl), (Nat.le_of_ble_eq_true rfl)⟩) hS hAC hM (fun k x hx h => hdis _ h (al_of (halM (D, tt, aM, ad) _) hx)) (fun H locs hP hM hS => ?_)
  refine lv_aload_n hx hb dL_law_698 rfl (lv_at hl 2 rfl) ?_
  refine lv_aload_n hx hb dL_law_699 rfl (lv_at hl 0 rfl) ?_
  refine lv_iload_n hx hb dL_law_700 rfl (lv_at hl 3 rfl) ?_
  refine lv_iconst (v := (1 : Int32)) hx hb dL_law_701 (by decide) ?_
  refine lv_iadd hx hb dL_law_702 ?_
  refine va_sld hx hb hX hbl hbA hS (show vp_in ((nI i) + (1 : Int32)) L from l_in (k := 1) (by omega) hL) dL_law_703 ?_
  refine lv_aload_n hx hb dL_law_704 rfl (lv_at hl 0 rfl) ?_
  refine lv_iload_n hx hb dL_law_705 rfl (lv_at hl 3 rfl) ?_
  refine lv_iconst (v := (2 : Int32)) hx hb dL_law_706 (by decide) ?_
  refine lv_iadd hx hb dL_law_707 ?_
  refine va_sld hx hb hX hbl hbA hS (show vp_in ((nI i) + (2 : Int32)) L from l_in (k := 2) (by omega) hL) dL_law_708 ?_
  refine lv_aload_n hx hb dL_law_709 rfl (lv_at hl 0 rfl) ?_
  refine lv_iload_n hx hb dL_law_710 rfl (lv_at hl 3 rfl) ?_
  refine lv_iconst (v := (3 : Int32)) hx hb dL_law_711 (by decide) ?_
  refine lv_iadd hx hb dL_law_712 ?_
  refine va_sld hx hb hX hbl hbA hS (show vp_in ((nI i) + (3 : Int32)) L from l_in (k := 3) (by omega) hL) dL_law_713 ?_
  refine lv_aload_n hx hb dL_law_714 rfl (lv_at hl 0 rfl) ?_
  refine lv_iload_n hx hb dL_law_715 rfl (lv_at hl 3 rfl) ?_
  refine lv_iconst (v := (4 : Int32)) hx hb dL_law_716 (by decide) ?_
  refine lv_iadd hx hb dL_law_717 ?_
  refine va_sld hx hb hX hbl hbA hS (show vp_in ((nI i) + (4 : Int32)) L from l_in (k := 4) (by omega) hL) dL_law_718 ?_
  refine l_cl (va_runV (As := [.int (xs ((nI i) + (1 : Int32)).toNatClampNeg), .int (xs ((nI i) + (2 : Int32)).toNatClampNeg), .int (xs ((nI i) + (3 : Int32)).toNatClampNeg), .int (xs ((nI i) + (4 : Int32)).toNatClampNeg)]) (rest := [.long v]) ⟨hx, hb, hml, hown, hts⟩ (c_X9_chance l (D, tt, aM, ad) hGM (xs ((nI i) + (1 : Int32)).toNatClampNeg) (xs ((nI i) + (2 : Int32)).toNatClampNeg) (xs ((nI i) + (3 : Int32)).toNatClampNeg) (xs ((nI i) + (4 : Int32)).toNatClampNeg) μ v μ2 g2 H.size) (cwV 4 hts (wlV K958 K955 K956 K957 K5) rfl rfl rfl (by decide +kernel) ⟨(Nat.le_of_ble_eq_true rfl), (Nat.le_of_ble_eq_true rfl)⟩) (l_preV hK hM hstr hN hS hAM (gM_Model (D, tt, aM, ad) μ) rfl) rfl rfl hl.1 rfl (lv_room (Nat.le_of_ble_eq_true rfl)) dL_law_719 ⟨(Nat.le_of_ble_eq_true rfl), (Nat.le_of_ble_eq_true rfl)⟩) hS hAM hP (fun k x hx => hdis _ (al_of (halC (D, tt, aC, ad) _) hx)) (fun H locs hM hP hS => ?_)
  refine W.lcmp hx hb dL_law_722 ?_
  exact lv_if_eq (tgt := 1012) hx hb dL_law_723 (by decide) (fun _ => kk _ _ _ _ ⟨hP, hM, hS, hInv2⟩) (fun c1 => absurd (lg_zero.mpr rfl) c1)
set_option maxHeartbeats 4000000 in
set_option maxRecDepth 100000 in
theorem lc_image {p : Program} {l : Launch} {e : Jvm.Env} {s : State} {m : MethodId} {below : List Frame} {meth : Method} {c : Code} {b L : Nat} {xs : Nat → Int32} {D : va_G} {tt : Nat → ClassId} {aC aM : Nat → Nat} {ad : (Nat → Nat) × (Nat → Nat)} (C0 : lw_At p s m meth c b L xs) (F : LF D tt aC aM ad s) (hL : L ≤ 3072) {i : Nat} (hi : i + 6 ≤ L) {ls : Array Slot} (hl : lv_has ls 4 [(0, .ref b), (1, .ref (aC 0)), (2, .ref (aM 0)), (3, .int (nI i))]) {σ : Sg} {μ : Sm} {H : Heap} {locs : List Loc} (hI : LI D tt aC aM ad s σ μ H locs) {Q : State → Prop}
    (kk : ∀ (σ : Sg) (μ : Sm) (H : Heap) (locs : List Loc), LI D tt aC aM ad s σ μ H locs → W p l e room_1 s m #[Value.ref b] below meth c H locs 89 5288 Q (F0 m 1012 ls [])) : W p l e room_1 s m #[Value.ref b] below meth c H locs 89 5288 Q (F0 m 728 ls []) := by
  obtain ⟨hx, hb, hr, hml, hown, hts0, hX, hbl, hlocks, hgv⟩ := C0
  have hts : ∀ w ∈ wsL_law, w.before #[Value.ref b] s = true := fun w h => hts0 w (wsL_law_in w h)
  obtain ⟨hK, hstr, hN, hGC, hGM, hAC, hAM, hdis⟩ := F
  obtain ⟨hP, hM, hS, hInv⟩ := hI
  have hbA : ¬ wA [] s.heap.size b := wA_nil hbl
  refine lv_aload_n hx hb dL_law_728 rfl (lv_at hl 1 rfl) ?_
  obtain ⟨v, σ2, μ2, g1, g2, hInv2⟩ := pub_image hInv
  refine l_ci (va_runV (As := []) (rest := []) ⟨hx, hb, hml, hown, hts⟩ (c_X8_image l (D, tt, aC, ad) hGC σ v σ2 g1 H.size) (cwV 0 hts (wlV K963 K960 K961 K962 K2) rfl rfl rfl (by decide +kernel) ⟨(Nat.le_of_ble_eq_true rfl), (Nat.le_of_ble_eq_true rfl)⟩) (l_preV hK hP hstr hN hS hAC (gC_Main (D, tt, aC, ad) σ) rfl) rfl rfl hl.1 rfl (lv_room (Nat.le_of_ble_eq_true rfl)) dL_law_729 ⟨(Nat.le_of_ble_eq_true rfl), (Nat.le_of_ble_eq_true rfl)⟩) hS hAC hM (fun k x hx h => hdis _ h (al_of (halM (D, tt, aM, ad) _) hx)) (fun H locs hP hM hS => ?_)
  refine lv_aload_n hx hb dL_law_732 rfl (lv_at hl 2 rfl) ?_
  refine l_ci (va_runV (As := []) (rest := [.int v]) ⟨hx, hb, hml, hown, hts⟩ (c_X9_image l (D, tt, aM, ad) hGM μ v μ2 g2 H.size) (cwV 0 hts (wlV K968 K965 K966 K967 K5) rfl rfl rfl (by decide +kernel) ⟨(Nat.le_of_ble_eq_true rfl), (Nat.le_of_ble_eq_true rfl)⟩) (l_preV hK hM hstr hN hS hAM (gM_Model (D, tt, aM, ad) μ) rfl) rfl rfl hl.1 rfl (lv_room (Nat.le_of_ble_eq_true rfl)) dL_law_733 ⟨(Nat.le_of_ble_eq_true rfl), (Nat.le_of_ble_eq_true rfl)⟩) hS hAM hP (fun k x hx => hdis _ (al_of (halC (D, tt, aC, ad) _) hx)) (fun H locs hM hP hS => ?_)
  exact lv_icmp_eq (tgt := 1012) hx hb dL_law_736 (by decide) (fun _ => kk _ _ _ _ ⟨hP, hM, hS, hInv2⟩) (fun c1 => absurd rfl c1)
set_option maxHeartbeats 4000000 in
set_option maxRecDepth 100000 in
theorem lc_back {p : Program} {l : Launch} {e : Jvm.Env} {s : State} {m : MethodId} {below : List Frame} {meth : Method} {c : Code} {b L : Nat} {xs : Nat → Int32} {D : va_G} {tt : Nat → ClassId} {aC aM : Nat → Nat} {ad : (Nat → Nat) × (Nat → Nat)} (C0 : lw_At p s m meth c b L xs) (F : LF D tt aC aM ad s) (hL : L ≤ 3072) {i : Nat} (hi : i + 6 ≤ L) {ls : Array Slot} (hl : lv_has ls 4 [(0, .ref b), (1, .ref (aC 0)), (2, .ref (aM 0)), (3, .int (nI i))]) {σ : Sg} {μ : Sm} {H : Heap} {locs : List Loc} (hI : LI D tt aC aM ad s σ μ H locs) {Q : State → Prop}
    (kk : ∀ (σ : Sg) (μ : Sm) (H : Heap) (locs : List Loc), LI D tt aC aM ad s σ μ H locs → W p l e room_1 s m #[Value.ref b] below meth c H locs 89 5288 Q (F0 m 1012 ls [])) : W p l e room_1 s m #[Value.ref b] below meth c H locs 89 5288 Q (F0 m 741 ls []) := by
  obtain ⟨hx, hb, hr, hml, hown, hts0, hX, hbl, hlocks, hgv⟩ := C0
  have hts : ∀ w ∈ wsL_law, w.before #[Value.ref b] s = true := fun w h => hts0 w (wsL_law_in w h)
  obtain ⟨hK, hstr, hN, hGC, hGM, hAC, hAM, hdis⟩ := F
  obtain ⟨hP, hM, hS, hInv⟩ := hI
  have hbA : ¬ wA [] s.heap.size b := wA_nil hbl
  refine lv_aload_n hx hb dL_law_741 rfl (lv_at hl 1 rfl) ?_
  obtain ⟨v, σ2, μ2, g1, g2, hInv2⟩ := pub_back hInv
  refine l_ci (va_runV (As := []) (rest := []) ⟨hx, hb, hml, hown, hts⟩ (c_X8_back l (D, tt, aC, ad) hGC σ v σ2 g1 H.size) (cwV 0 hts (wlV K975 K972 K973 K974 K2) rfl rfl rfl (by decide +kernel) ⟨(Nat.le_of_ble_eq_true rfl), (Nat.le_of_ble_eq_true rfl)⟩) (l_preV hK hP hstr hN hS hAC (gC_Main (D, tt, aC, ad) σ) rfl) rfl rfl hl.1 rfl (lv_room (Nat.le_of_ble_eq_true rfl)) dL_law_742 ⟨(Nat.le_of_ble_eq_true rfl), (Nat.le_of_ble_eq_true rfl)⟩) hS hAC hM (fun k x hx h => hdis _ h (al_of (halM (D, tt, aM, ad) _) hx)) (fun H locs hP hM hS => ?_)
  refine lv_aload_n hx hb dL_law_745 rfl (lv_at hl 2 rfl) ?_
  refine l_ci (va_runV (As := []) (rest := [.int v]) ⟨hx, hb, hml, hown, hts⟩ (c_X9_back l (D, tt, aM, ad) hGM μ v μ2 g2 H.size) (cwV 0 hts (wlV K979 K976 K977 K978 K5) rfl rfl rfl (by decide +kernel) ⟨(Nat.le_of_ble_eq_true rfl), (Nat.le_of_ble_eq_true rfl)⟩) (l_preV hK hM hstr hN hS hAM (gM_Model (D, tt, aM, ad) μ) rfl) rfl rfl hl.1 rfl (lv_room (Nat.le_of_ble_eq_true rfl)) dL_law_746 ⟨(Nat.le_of_ble_eq_true rfl), (Nat.le_of_ble_eq_true rfl)⟩) hS hAM hP (fun k x hx => hdis _ (al_of (halC (D, tt, aC, ad) _) hx)) (fun H locs hM hP hS => ?_)
  exact lv_icmp_eq (tgt := 1012) hx hb dL_law_749 (by decide) (fun _ => kk _ _ _ _ ⟨hP, hM, hS, hInv2⟩) (fun c1 => absurd rfl c1)
set_option maxHeartbeats 4000000 in
set_option maxRecDepth 100000 in
theorem lc_count {p : Program} {l : Launch} {e : Jvm.Env} {s : State} {m : MethodId} {below : List Frame} {meth : Method} {c : Code} {b L : Nat} {xs : Nat → Int32} {D : va_G} {tt : Nat → ClassId} {aC aM : Nat → Nat} {ad : (Nat → Nat) × (Nat → Nat)} (C0 : lw_At p s m meth c b L xs) (F : LF D tt aC aM ad s) (hL : L ≤ 3072) {i : Nat} (hi : i + 6 ≤ L) {ls : Array Slot} (hl : lv_has ls 4 [(0, .ref b), (1, .ref (aC 0)), (2, .ref (aM 0)), (3, .int (nI i))]) {σ : Sg} {μ : Sm} {H : Heap} {locs : List Loc} (hI : LI D tt aC aM ad s σ μ H locs) {Q : State → Prop}
    (kk : ∀ (σ : Sg) (μ : Sm) (H : Heap) (locs : List Loc), LI D tt aC aM ad s σ μ H locs → W p l e room_1 s m #[Value.ref b] below meth c H locs 89 5288 Q (F0 m 1012 ls [])) : W p l e room_1 s m #[Value.ref b] below meth c H locs 89 5288 Q (F0 m 754 ls []) := by
  obtain ⟨hx, hb, hr, hml, hown, hts0, hX, hbl, hlocks, hgv⟩ := C0
  have hts : ∀ w ∈ wsL_law, w.before #[Value.ref b] s = true := fun w h => hts0 w (wsL_law_in w h)
  obtain ⟨hK, hstr, hN, hGC, hGM, hAC, hAM, hdis⟩ := F
  obtain ⟨hP, hM, hS, hInv⟩ := hI
  have hbA : ¬ wA [] s.heap.size b := wA_nil hbl
  refine lv_aload_n hx hb dL_law_754 rfl (lv_at hl 1 rfl) ?_
  refine lv_aload_n hx hb dL_law_755 rfl (lv_at hl 0 rfl) ?_
  refine lv_iload_n hx hb dL_law_756 rfl (lv_at hl 3 rfl) ?_
  refine lv_iconst (v := (1 : Int32)) hx hb dL_law_757 (by decide) ?_
  refine lv_iadd hx hb dL_law_758 ?_
  refine va_sld hx hb hX hbl hbA hS (show vp_in ((nI i) + (1 : Int32)) L from l_in (k := 1) (by omega) hL) dL_law_759 ?_
  obtain ⟨v, σ2, μ2, g1, g2, hInv2⟩ := pub_count hInv (xs ((nI i) + (1 : Int32)).toNatClampNeg)
  refine l_ci (va_runV (As := [.int (xs ((nI i) + (1 : Int32)).toNatClampNeg)]) (rest := []) ⟨hx, hb, hml, hown, hts⟩ (c_X8_count l (D, tt, aC, ad) hGC (xs ((nI i) + (1 : Int32)).toNatClampNeg) σ v σ2 g1 H.size) (cwV 1 hts (wlV K983 K980 K981 K982 K2) rfl rfl rfl (by decide +kernel) ⟨(Nat.le_of_ble_eq_true rfl), (Nat.le_of_ble_eq_true rfl)⟩) (l_preV hK hP hstr hN hS hAC (gC_Main (D, tt, aC, ad) σ) rfl) rfl rfl hl.1 rfl (lv_room (Nat.le_of_ble_eq_true rfl)) dL_law_760 ⟨(Nat.le_of_ble_eq_true rfl), (Nat.le_of_ble_eq_true rfl)⟩) hS hAC hM (fun k x hx h => hdis _ h (al_of (halM (D, tt, aM, ad) _) hx)) (fun H locs hP hM hS => ?_)
  refine lv_aload_n hx hb dL_law_763 rfl (lv_at hl 2 rfl) ?_
  refine lv_aload_n hx hb dL_law_764 rfl (lv_at hl 0 rfl) ?_
  refine lv_iload_n hx hb dL_law_765 rfl (lv_at hl 3 rfl) ?_
  refine lv_iconst (v := (1 : Int32)) hx hb dL_law_766 (by decide) ?_
  refine lv_iadd hx hb dL_law_767 ?_
  refine va_sld hx hb hX hbl hbA hS (show vp_in ((nI i) + (1 : Int32)) L from l_in (k := 1) (by omega) hL) dL_law_768 ?_
  refine l_ci (va_runV (As := [.int (xs ((nI i) + (1 : Int32)).toNatClampNeg)]) (rest := [.int v]) ⟨hx, hb, hml, hown, hts⟩ (c_X9_count l (D, tt, aM, ad) hGM (xs ((nI i) + (1 : Int32)).toNatClampNeg) μ v μ2 g2 H.size) (cwV 1 hts (wlV K991 K988 K989 K990 K5) rfl rfl rfl (by decide +kernel) ⟨(Nat.le_of_ble_eq_true rfl), (Nat.le_of_ble_eq_true rfl)⟩) (l_preV hK hM hstr hN hS hAM (gM_Model (D, tt, aM, ad) μ) rfl) rfl rfl hl.1 rfl (lv_room (Nat.le_of_ble_eq_true rfl)) dL_law_769 ⟨(Nat.le_of_ble_eq_true rfl), (Nat.le_of_ble_eq_true rfl)⟩) hS hAM hP (fun k x hx => hdis _ (al_of (halC (D, tt, aC, ad) _) hx)) (fun H locs hM hP hS => ?_)
  exact lv_icmp_eq (tgt := 1012) hx hb dL_law_772 (by decide) (fun _ => kk _ _ _ _ ⟨hP, hM, hS, hInv2⟩) (fun c1 => absurd rfl c1)
set_option maxHeartbeats 4000000 in
set_option maxRecDepth 100000 in
theorem lc_sheet {p : Program} {l : Launch} {e : Jvm.Env} {s : State} {m : MethodId} {below : List Frame} {meth : Method} {c : Code} {b L : Nat} {xs : Nat → Int32} {D : va_G} {tt : Nat → ClassId} {aC aM : Nat → Nat} {ad : (Nat → Nat) × (Nat → Nat)} (C0 : lw_At p s m meth c b L xs) (F : LF D tt aC aM ad s) (hL : L ≤ 3072) {i : Nat} (hi : i + 6 ≤ L) {ls : Array Slot} (hl : lv_has ls 4 [(0, .ref b), (1, .ref (aC 0)), (2, .ref (aM 0)), (3, .int (nI i))]) {σ : Sg} {μ : Sm} {H : Heap} {locs : List Loc} (hI : LI D tt aC aM ad s σ μ H locs) {Q : State → Prop}
    (kk : ∀ (σ : Sg) (μ : Sm) (H : Heap) (locs : List Loc), LI D tt aC aM ad s σ μ H locs → W p l e room_1 s m #[Value.ref b] below meth c H locs 89 5288 Q (F0 m 1012 ls [])) : W p l e room_1 s m #[Value.ref b] below meth c H locs 89 5288 Q (F0 m 777 ls []) := by
  obtain ⟨hx, hb, hr, hml, hown, hts0, hX, hbl, hlocks, hgv⟩ := C0
  have hts : ∀ w ∈ wsL_law, w.before #[Value.ref b] s = true := fun w h => hts0 w (wsL_law_in w h)
  obtain ⟨hK, hstr, hN, hGC, hGM, hAC, hAM, hdis⟩ := F
  obtain ⟨hP, hM, hS, hInv⟩ := hI
  have hbA : ¬ wA [] s.heap.size b := wA_nil hbl
  refine lv_aload_n hx hb dL_law_777 rfl (lv_at hl 1 rfl) ?_
  refine lv_aload_n hx hb dL_law_778 rfl (lv_at hl 0 rfl) ?_
  refine lv_iload_n hx hb dL_law_779 rfl (lv_at hl 3 rfl) ?_
  refine lv_iconst (v := (1 : Int32)) hx hb dL_law_780 (by decide) ?_
  refine lv_iadd hx hb dL_law_781 ?_
  refine va_sld hx hb hX hbl hbA hS (show vp_in ((nI i) + (1 : Int32)) L from l_in (k := 1) (by omega) hL) dL_law_782 ?_
  refine lv_aload_n hx hb dL_law_783 rfl (lv_at hl 0 rfl) ?_
  refine lv_iload_n hx hb dL_law_784 rfl (lv_at hl 3 rfl) ?_
  refine lv_iconst (v := (2 : Int32)) hx hb dL_law_785 (by decide) ?_
  refine lv_iadd hx hb dL_law_786 ?_
  refine va_sld hx hb hX hbl hbA hS (show vp_in ((nI i) + (2 : Int32)) L from l_in (k := 2) (by omega) hL) dL_law_787 ?_
  refine lv_aload_n hx hb dL_law_788 rfl (lv_at hl 0 rfl) ?_
  refine lv_iload_n hx hb dL_law_789 rfl (lv_at hl 3 rfl) ?_
  refine lv_iconst (v := (3 : Int32)) hx hb dL_law_790 (by decide) ?_
  refine lv_iadd hx hb dL_law_791 ?_
  refine va_sld hx hb hX hbl hbA hS (show vp_in ((nI i) + (3 : Int32)) L from l_in (k := 3) (by omega) hL) dL_law_792 ?_
  obtain ⟨v, σ2, μ2, g1, g2, hInv2⟩ := pub_sheet hInv (xs ((nI i) + (1 : Int32)).toNatClampNeg) (xs ((nI i) + (2 : Int32)).toNatClampNeg) (xs ((nI i) + (3 : Int32)).toNatClampNeg)
  refine l_ci (va_runV (As := [.int (xs ((nI i) + (1 : Int32)).toNatClampNeg), .int (xs ((nI i) + (2 : Int32)).toNatClampNeg), .int (xs ((nI i) + (3 : Int32)).toNatClampNeg)]) (rest := []) ⟨hx, hb, hml, hown, hts⟩ (c_X8_sheet l (D, tt, aC, ad) hGC (xs ((nI i) + (1 : Int32)).toNatClampNeg) (xs ((nI i) + (2 : Int32)).toNatClampNeg) (xs ((nI i) + (3 : Int32)).toNatClampNeg) σ v σ2 g1 H.size) (cwV 3 hts (wlV K995 K992 K993 K994 K2) rfl rfl rfl (by decide +kernel) ⟨(Nat.le_of_ble_eq_true rfl), (Nat.le_of_ble_eq_true rfl)⟩) (l_preV hK hP hstr hN hS hAC (gC_Main (D, tt, aC, ad) σ) rfl) rfl rfl hl.1 rfl (lv_room (Nat.le_of_ble_eq_true rfl)) dL_law_793 ⟨(Nat.le_of_ble_eq_true rfl), (Nat.le_of_ble_eq_true rfl)⟩) hS hAC hM (fun k x hx h => hdis _ h (al_of (halM (D, tt, aM, ad) _) hx)) (fun H locs hP hM hS => ?_)
  refine lv_aload_n hx hb dL_law_796 rfl (lv_at hl 2 rfl) ?_
  refine lv_aload_n hx hb dL_law_797 rfl (lv_at hl 0 rfl) ?_
  refine lv_iload_n hx hb dL_law_798 rfl (lv_at hl 3 rfl) ?_
  refine lv_iconst (v := (1 : Int32)) hx hb dL_law_799 (by decide) ?_
  refine lv_iadd hx hb dL_law_800 ?_
  refine va_sld hx hb hX hbl hbA hS (show vp_in ((nI i) + (1 : Int32)) L from l_in (k := 1) (by omega) hL) dL_law_801 ?_
  refine lv_aload_n hx hb dL_law_802 rfl (lv_at hl 0 rfl) ?_
  refine lv_iload_n hx hb dL_law_803 rfl (lv_at hl 3 rfl) ?_
  refine lv_iconst (v := (2 : Int32)) hx hb dL_law_804 (by decide) ?_
  refine lv_iadd hx hb dL_law_805 ?_
  refine va_sld hx hb hX hbl hbA hS (show vp_in ((nI i) + (2 : Int32)) L from l_in (k := 2) (by omega) hL) dL_law_806 ?_
  refine lv_aload_n hx hb dL_law_807 rfl (lv_at hl 0 rfl) ?_
  refine lv_iload_n hx hb dL_law_808 rfl (lv_at hl 3 rfl) ?_
  refine lv_iconst (v := (3 : Int32)) hx hb dL_law_809 (by decide) ?_
  refine lv_iadd hx hb dL_law_810 ?_
  refine va_sld hx hb hX hbl hbA hS (show vp_in ((nI i) + (3 : Int32)) L from l_in (k := 3) (by omega) hL) dL_law_811 ?_
  refine l_ci (va_runV (As := [.int (xs ((nI i) + (1 : Int32)).toNatClampNeg), .int (xs ((nI i) + (2 : Int32)).toNatClampNeg), .int (xs ((nI i) + (3 : Int32)).toNatClampNeg)]) (rest := [.int v]) ⟨hx, hb, hml, hown, hts⟩ (c_X9_sheet l (D, tt, aM, ad) hGM (xs ((nI i) + (1 : Int32)).toNatClampNeg) (xs ((nI i) + (2 : Int32)).toNatClampNeg) (xs ((nI i) + (3 : Int32)).toNatClampNeg) μ v μ2 g2 H.size) (cwV 3 hts (wlV K931 K996 K929 K930 K5) rfl rfl rfl (by decide +kernel) ⟨(Nat.le_of_ble_eq_true rfl), (Nat.le_of_ble_eq_true rfl)⟩) (l_preV hK hM hstr hN hS hAM (gM_Model (D, tt, aM, ad) μ) rfl) rfl rfl hl.1 rfl (lv_room (Nat.le_of_ble_eq_true rfl)) dL_law_812 ⟨(Nat.le_of_ble_eq_true rfl), (Nat.le_of_ble_eq_true rfl)⟩) hS hAM hP (fun k x hx => hdis _ (al_of (halC (D, tt, aC, ad) _) hx)) (fun H locs hM hP hS => ?_)
  exact lv_icmp_eq (tgt := 1012) hx hb dL_law_815 (by decide) (fun _ => kk _ _ _ _ ⟨hP, hM, hS, hInv2⟩) (fun c1 => absurd rfl c1)
set_option maxHeartbeats 4000000 in
set_option maxRecDepth 100000 in
theorem lc_cell {p : Program} {l : Launch} {e : Jvm.Env} {s : State} {m : MethodId} {below : List Frame} {meth : Method} {c : Code} {b L : Nat} {xs : Nat → Int32} {D : va_G} {tt : Nat → ClassId} {aC aM : Nat → Nat} {ad : (Nat → Nat) × (Nat → Nat)} (C0 : lw_At p s m meth c b L xs) (F : LF D tt aC aM ad s) (hL : L ≤ 3072) {i : Nat} (hi : i + 6 ≤ L) {ls : Array Slot} (hl : lv_has ls 4 [(0, .ref b), (1, .ref (aC 0)), (2, .ref (aM 0)), (3, .int (nI i))]) {σ : Sg} {μ : Sm} {H : Heap} {locs : List Loc} (hI : LI D tt aC aM ad s σ μ H locs) {Q : State → Prop}
    (kk : ∀ (σ : Sg) (μ : Sm) (H : Heap) (locs : List Loc), LI D tt aC aM ad s σ μ H locs → W p l e room_1 s m #[Value.ref b] below meth c H locs 89 5288 Q (F0 m 1012 ls [])) : W p l e room_1 s m #[Value.ref b] below meth c H locs 89 5288 Q (F0 m 820 ls []) := by
  obtain ⟨hx, hb, hr, hml, hown, hts0, hX, hbl, hlocks, hgv⟩ := C0
  have hts : ∀ w ∈ wsL_law, w.before #[Value.ref b] s = true := fun w h => hts0 w (wsL_law_in w h)
  obtain ⟨hK, hstr, hN, hGC, hGM, hAC, hAM, hdis⟩ := F
  obtain ⟨hP, hM, hS, hInv⟩ := hI
  have hbA : ¬ wA [] s.heap.size b := wA_nil hbl
  refine lv_aload_n hx hb dL_law_820 rfl (lv_at hl 1 rfl) ?_
  refine lv_aload_n hx hb dL_law_821 rfl (lv_at hl 0 rfl) ?_
  refine lv_iload_n hx hb dL_law_822 rfl (lv_at hl 3 rfl) ?_
  refine lv_iconst (v := (1 : Int32)) hx hb dL_law_823 (by decide) ?_
  refine lv_iadd hx hb dL_law_824 ?_
  refine va_sld hx hb hX hbl hbA hS (show vp_in ((nI i) + (1 : Int32)) L from l_in (k := 1) (by omega) hL) dL_law_825 ?_
  refine lv_aload_n hx hb dL_law_826 rfl (lv_at hl 0 rfl) ?_
  refine lv_iload_n hx hb dL_law_827 rfl (lv_at hl 3 rfl) ?_
  refine lv_iconst (v := (2 : Int32)) hx hb dL_law_828 (by decide) ?_
  refine lv_iadd hx hb dL_law_829 ?_
  refine va_sld hx hb hX hbl hbA hS (show vp_in ((nI i) + (2 : Int32)) L from l_in (k := 2) (by omega) hL) dL_law_830 ?_
  refine lv_aload_n hx hb dL_law_831 rfl (lv_at hl 0 rfl) ?_
  refine lv_iload_n hx hb dL_law_832 rfl (lv_at hl 3 rfl) ?_
  refine lv_iconst (v := (3 : Int32)) hx hb dL_law_833 (by decide) ?_
  refine lv_iadd hx hb dL_law_834 ?_
  refine va_sld hx hb hX hbl hbA hS (show vp_in ((nI i) + (3 : Int32)) L from l_in (k := 3) (by omega) hL) dL_law_835 ?_
  obtain ⟨v, σ2, μ2, g1, g2, hInv2⟩ := pub_cell hInv (xs ((nI i) + (1 : Int32)).toNatClampNeg) (xs ((nI i) + (2 : Int32)).toNatClampNeg) (xs ((nI i) + (3 : Int32)).toNatClampNeg)
  refine l_ci (va_runV (As := [.int (xs ((nI i) + (1 : Int32)).toNatClampNeg), .int (xs ((nI i) + (2 : Int32)).toNatClampNeg), .int (xs ((nI i) + (3 : Int32)).toNatClampNeg)]) (rest := []) ⟨hx, hb, hml, hown, hts⟩ (c_X8_cell l (D, tt, aC, ad) hGC (xs ((nI i) + (1 : Int32)).toNatClampNeg) (xs ((nI i) + (2 : Int32)).toNatClampNeg) (xs ((nI i) + (3 : Int32)).toNatClampNeg) σ v σ2 g1 H.size) (cwV 3 hts (wlV K1000 K997 K998 K999 K2) rfl rfl rfl (by decide +kernel) ⟨(Nat.le_of_ble_eq_true rfl), (Nat.le_of_ble_eq_true rfl)⟩) (l_preV hK hP hstr hN hS hAC (gC_Main (D, tt, aC, ad) σ) rfl) rfl rfl hl.1 rfl (lv_room (Nat.le_of_ble_eq_true rfl)) dL_law_836 ⟨(Nat.le_of_ble_eq_true rfl), (Nat.le_of_ble_eq_true rfl)⟩) hS hAC hM (fun k x hx h => hdis _ h (al_of (halM (D, tt, aM, ad) _) hx)) (fun H locs hP hM hS => ?_)
  refine lv_aload_n hx hb dL_law_839 rfl (lv_at hl 2 rfl) ?_
  refine lv_aload_n hx hb dL_law_840 rfl (lv_at hl 0 rfl) ?_
  refine lv_iload_n hx hb dL_law_841 rfl (lv_at hl 3 rfl) ?_
  refine lv_iconst (v := (1 : Int32)) hx hb dL_law_842 (by decide) ?_
  refine lv_iadd hx hb dL_law_843 ?_
  refine va_sld hx hb hX hbl hbA hS (show vp_in ((nI i) + (1 : Int32)) L from l_in (k := 1) (by omega) hL) dL_law_844 ?_
  refine lv_aload_n hx hb dL_law_845 rfl (lv_at hl 0 rfl) ?_
  refine lv_iload_n hx hb dL_law_846 rfl (lv_at hl 3 rfl) ?_
  refine lv_iconst (v := (2 : Int32)) hx hb dL_law_847 (by decide) ?_
  refine lv_iadd hx hb dL_law_848 ?_
  refine va_sld hx hb hX hbl hbA hS (show vp_in ((nI i) + (2 : Int32)) L from l_in (k := 2) (by omega) hL) dL_law_849 ?_
  refine lv_aload_n hx hb dL_law_850 rfl (lv_at hl 0 rfl) ?_
  refine lv_iload_n hx hb dL_law_851 rfl (lv_at hl 3 rfl) ?_
  refine lv_iconst (v := (3 : Int32)) hx hb dL_law_852 (by decide) ?_
  refine lv_iadd hx hb dL_law_853 ?_
  refine va_sld hx hb hX hbl hbA hS (show vp_in ((nI i) + (3 : Int32)) L from l_in (k := 3) (by omega) hL) dL_law_854 ?_
  refine l_ci (va_runV (As := [.int (xs ((nI i) + (1 : Int32)).toNatClampNeg), .int (xs ((nI i) + (2 : Int32)).toNatClampNeg), .int (xs ((nI i) + (3 : Int32)).toNatClampNeg)]) (rest := [.int v]) ⟨hx, hb, hml, hown, hts⟩ (c_X9_cell l (D, tt, aM, ad) hGM (xs ((nI i) + (1 : Int32)).toNatClampNeg) (xs ((nI i) + (2 : Int32)).toNatClampNeg) (xs ((nI i) + (3 : Int32)).toNatClampNeg) μ v μ2 g2 H.size) (cwV 3 hts (wlV K1004 K1001 K1002 K1003 K5) rfl rfl rfl (by decide +kernel) ⟨(Nat.le_of_ble_eq_true rfl), (Nat.le_of_ble_eq_true rfl)⟩) (l_preV hK hM hstr hN hS hAM (gM_Model (D, tt, aM, ad) μ) rfl) rfl rfl hl.1 rfl (lv_room (Nat.le_of_ble_eq_true rfl)) dL_law_855 ⟨(Nat.le_of_ble_eq_true rfl), (Nat.le_of_ble_eq_true rfl)⟩) hS hAM hP (fun k x hx => hdis _ (al_of (halC (D, tt, aC, ad) _) hx)) (fun H locs hM hP hS => ?_)
  exact lv_icmp_eq (tgt := 1012) hx hb dL_law_858 (by decide) (fun _ => kk _ _ _ _ ⟨hP, hM, hS, hInv2⟩) (fun c1 => absurd rfl c1)
set_option maxHeartbeats 4000000 in
set_option maxRecDepth 100000 in
theorem lc_copy {p : Program} {l : Launch} {e : Jvm.Env} {s : State} {m : MethodId} {below : List Frame} {meth : Method} {c : Code} {b L : Nat} {xs : Nat → Int32} {D : va_G} {tt : Nat → ClassId} {aC aM : Nat → Nat} {ad : (Nat → Nat) × (Nat → Nat)} (C0 : lw_At p s m meth c b L xs) (F : LF D tt aC aM ad s) (hL : L ≤ 3072) {i : Nat} (hi : i + 6 ≤ L) {ls : Array Slot} (hl : lv_has ls 4 [(0, .ref b), (1, .ref (aC 0)), (2, .ref (aM 0)), (3, .int (nI i))]) {σ : Sg} {μ : Sm} {H : Heap} {locs : List Loc} (hI : LI D tt aC aM ad s σ μ H locs) {Q : State → Prop}
    (kk : ∀ (σ : Sg) (μ : Sm) (H : Heap) (locs : List Loc), LI D tt aC aM ad s σ μ H locs → W p l e room_1 s m #[Value.ref b] below meth c H locs 89 5288 Q (F0 m 1012 ls [])) : W p l e room_1 s m #[Value.ref b] below meth c H locs 89 5288 Q (F0 m 863 ls []) := by
  obtain ⟨hx, hb, hr, hml, hown, hts0, hX, hbl, hlocks, hgv⟩ := C0
  have hts : ∀ w ∈ wsL_law, w.before #[Value.ref b] s = true := fun w h => hts0 w (wsL_law_in w h)
  obtain ⟨hK, hstr, hN, hGC, hGM, hAC, hAM, hdis⟩ := F
  obtain ⟨hP, hM, hS, hInv⟩ := hI
  have hbA : ¬ wA [] s.heap.size b := wA_nil hbl
  refine lv_aload_n hx hb dL_law_863 rfl (lv_at hl 1 rfl) ?_
  refine lv_aload_n hx hb dL_law_864 rfl (lv_at hl 0 rfl) ?_
  refine lv_iload_n hx hb dL_law_865 rfl (lv_at hl 3 rfl) ?_
  refine lv_iconst (v := (1 : Int32)) hx hb dL_law_866 (by decide) ?_
  refine lv_iadd hx hb dL_law_867 ?_
  refine va_sld hx hb hX hbl hbA hS (show vp_in ((nI i) + (1 : Int32)) L from l_in (k := 1) (by omega) hL) dL_law_868 ?_
  refine lv_aload_n hx hb dL_law_869 rfl (lv_at hl 0 rfl) ?_
  refine lv_iload_n hx hb dL_law_870 rfl (lv_at hl 3 rfl) ?_
  refine lv_iconst (v := (2 : Int32)) hx hb dL_law_871 (by decide) ?_
  refine lv_iadd hx hb dL_law_872 ?_
  refine va_sld hx hb hX hbl hbA hS (show vp_in ((nI i) + (2 : Int32)) L from l_in (k := 2) (by omega) hL) dL_law_873 ?_
  refine lv_aload_n hx hb dL_law_874 rfl (lv_at hl 0 rfl) ?_
  refine lv_iload_n hx hb dL_law_875 rfl (lv_at hl 3 rfl) ?_
  refine lv_iconst (v := (3 : Int32)) hx hb dL_law_876 (by decide) ?_
  refine lv_iadd hx hb dL_law_877 ?_
  refine va_sld hx hb hX hbl hbA hS (show vp_in ((nI i) + (3 : Int32)) L from l_in (k := 3) (by omega) hL) dL_law_878 ?_
  refine lv_aload_n hx hb dL_law_879 rfl (lv_at hl 0 rfl) ?_
  refine lv_iload_n hx hb dL_law_880 rfl (lv_at hl 3 rfl) ?_
  refine lv_iconst (v := (4 : Int32)) hx hb dL_law_881 (by decide) ?_
  refine lv_iadd hx hb dL_law_882 ?_
  refine va_sld hx hb hX hbl hbA hS (show vp_in ((nI i) + (4 : Int32)) L from l_in (k := 4) (by omega) hL) dL_law_883 ?_
  refine lv_aload_n hx hb dL_law_884 rfl (lv_at hl 0 rfl) ?_
  refine lv_iload_n hx hb dL_law_885 rfl (lv_at hl 3 rfl) ?_
  refine lv_iconst (v := (5 : Int32)) hx hb dL_law_886 (by decide) ?_
  refine lv_iadd hx hb dL_law_887 ?_
  refine va_sld hx hb hX hbl hbA hS (show vp_in ((nI i) + (5 : Int32)) L from l_in (k := 5) (by omega) hL) dL_law_888 ?_
  obtain ⟨v, σ2, μ2, g1, g2, hInv2⟩ := pub_copy hInv (xs ((nI i) + (1 : Int32)).toNatClampNeg) (xs ((nI i) + (2 : Int32)).toNatClampNeg) (xs ((nI i) + (3 : Int32)).toNatClampNeg) (xs ((nI i) + (4 : Int32)).toNatClampNeg) (xs ((nI i) + (5 : Int32)).toNatClampNeg)
  refine l_ci (va_runV (As := [.int (xs ((nI i) + (1 : Int32)).toNatClampNeg), .int (xs ((nI i) + (2 : Int32)).toNatClampNeg), .int (xs ((nI i) + (3 : Int32)).toNatClampNeg), .int (xs ((nI i) + (4 : Int32)).toNatClampNeg), .int (xs ((nI i) + (5 : Int32)).toNatClampNeg)]) (rest := []) ⟨hx, hb, hml, hown, hts⟩ (c_X8_copy l (D, tt, aC, ad) hGC (xs ((nI i) + (1 : Int32)).toNatClampNeg) (xs ((nI i) + (2 : Int32)).toNatClampNeg) (xs ((nI i) + (3 : Int32)).toNatClampNeg) (xs ((nI i) + (4 : Int32)).toNatClampNeg) (xs ((nI i) + (5 : Int32)).toNatClampNeg) σ v σ2 g1 H.size) (cwV 5 hts (wlV K1008 K1005 K1006 K1007 K2) rfl rfl rfl (by decide +kernel) ⟨(Nat.le_of_ble_eq_true rfl), (Nat.le_of_ble_eq_true rfl)⟩) (l_preV hK hP hstr hN hS hAC (gC_Main (D, tt, aC, ad) σ) rfl) rfl rfl hl.1 rfl (lv_room (Nat.le_of_ble_eq_true rfl)) dL_law_889 ⟨(Nat.le_of_ble_eq_true rfl), (Nat.le_of_ble_eq_true rfl)⟩) hS hAC hM (fun k x hx h => hdis _ h (al_of (halM (D, tt, aM, ad) _) hx)) (fun H locs hP hM hS => ?_)
  refine lv_aload_n hx hb dL_law_892 rfl (lv_at hl 2 rfl) ?_
  refine lv_aload_n hx hb dL_law_893 rfl (lv_at hl 0 rfl) ?_
  refine lv_iload_n hx hb dL_law_894 rfl (lv_at hl 3 rfl) ?_
  refine lv_iconst (v := (1 : Int32)) hx hb dL_law_895 (by decide) ?_
  refine lv_iadd hx hb dL_law_896 ?_
  refine va_sld hx hb hX hbl hbA hS (show vp_in ((nI i) + (1 : Int32)) L from l_in (k := 1) (by omega) hL) dL_law_897 ?_
  refine lv_aload_n hx hb dL_law_898 rfl (lv_at hl 0 rfl) ?_
  refine lv_iload_n hx hb dL_law_899 rfl (lv_at hl 3 rfl) ?_
  refine lv_iconst (v := (2 : Int32)) hx hb dL_law_900 (by decide) ?_
  refine lv_iadd hx hb dL_law_901 ?_
  refine va_sld hx hb hX hbl hbA hS (show vp_in ((nI i) + (2 : Int32)) L from l_in (k := 2) (by omega) hL) dL_law_902 ?_
  refine lv_aload_n hx hb dL_law_903 rfl (lv_at hl 0 rfl) ?_
  refine lv_iload_n hx hb dL_law_904 rfl (lv_at hl 3 rfl) ?_
  refine lv_iconst (v := (3 : Int32)) hx hb dL_law_905 (by decide) ?_
  refine lv_iadd hx hb dL_law_906 ?_
  refine va_sld hx hb hX hbl hbA hS (show vp_in ((nI i) + (3 : Int32)) L from l_in (k := 3) (by omega) hL) dL_law_907 ?_
  refine lv_aload_n hx hb dL_law_908 rfl (lv_at hl 0 rfl) ?_
  refine lv_iload_n hx hb dL_law_909 rfl (lv_at hl 3 rfl) ?_
  refine lv_iconst (v := (4 : Int32)) hx hb dL_law_910 (by decide) ?_
  refine lv_iadd hx hb dL_law_911 ?_
  refine va_sld hx hb hX hbl hbA hS (show vp_in ((nI i) + (4 : Int32)) L from l_in (k := 4) (by omega) hL) dL_law_912 ?_
  refine lv_aload_n hx hb dL_law_913 rfl (lv_at hl 0 rfl) ?_
  refine lv_iload_n hx hb dL_law_914 rfl (lv_at hl 3 rfl) ?_
  refine lv_iconst (v := (5 : Int32)) hx hb dL_law_915 (by decide) ?_
  refine lv_iadd hx hb dL_law_916 ?_
  refine va_sld hx hb hX hbl hbA hS (show vp_in ((nI i) + (5 : Int32)) L from l_in (k := 5) (by omega) hL) dL_law_917 ?_
  refine l_ci (va_runV (As := [.int (xs ((nI i) + (1 : Int32)).toNatClampNeg), .int (xs ((nI i) + (2 : Int32)).toNatClampNeg), .int (xs ((nI i) + (3 : Int32)).toNatClampNeg), .int (xs ((nI i) + (4 : Int32)).toNatClampNeg), .int (xs ((nI i) + (5 : Int32)).toNatClampNeg)]) (rest := [.int v]) ⟨hx, hb, hml, hown, hts⟩ (c_X9_copy l (D, tt, aM, ad) hGM (xs ((nI i) + (1 : Int32)).toNatClampNeg) (xs ((nI i) + (2 : Int32)).toNatClampNeg) (xs ((nI i) + (3 : Int32)).toNatClampNeg) (xs ((nI i) + (4 : Int32)).toNatClampNeg) (xs ((nI i) + (5 : Int32)).toNatClampNeg) μ v μ2 g2 H.size) (cwV 5 hts (wlV K1015 K1012 K1013 K1014 K5) rfl rfl rfl (by decide +kernel) ⟨(Nat.le_of_ble_eq_true rfl), (Nat.le_of_ble_eq_true rfl)⟩) (l_preV hK hM hstr hN hS hAM (gM_Model (D, tt, aM, ad) μ) rfl) rfl rfl hl.1 rfl (lv_room (Nat.le_of_ble_eq_true rfl)) dL_law_918 ⟨(Nat.le_of_ble_eq_true rfl), (Nat.le_of_ble_eq_true rfl)⟩) hS hAM hP (fun k x hx => hdis _ (al_of (halC (D, tt, aC, ad) _) hx)) (fun H locs hM hP hS => ?_)
  exact lv_icmp_eq (tgt := 1012) hx hb dL_law_921 (by decide) (fun _ => kk _ _ _ _ ⟨hP, hM, hS, hInv2⟩) (fun c1 => absurd rfl c1)
set_option maxHeartbeats 4000000 in
set_option maxRecDepth 100000 in
theorem lc_house {p : Program} {l : Launch} {e : Jvm.Env} {s : State} {m : MethodId} {below : List Frame} {meth : Method} {c : Code} {b L : Nat} {xs : Nat → Int32} {D : va_G} {tt : Nat → ClassId} {aC aM : Nat → Nat} {ad : (Nat → Nat) × (Nat → Nat)} (C0 : lw_At p s m meth c b L xs) (F : LF D tt aC aM ad s) (hL : L ≤ 3072) {i : Nat} (hi : i + 6 ≤ L) {ls : Array Slot} (hl : lv_has ls 4 [(0, .ref b), (1, .ref (aC 0)), (2, .ref (aM 0)), (3, .int (nI i))]) {σ : Sg} {μ : Sm} {H : Heap} {locs : List Loc} (hI : LI D tt aC aM ad s σ μ H locs) {Q : State → Prop}
    (kk : ∀ (σ : Sg) (μ : Sm) (H : Heap) (locs : List Loc), LI D tt aC aM ad s σ μ H locs → W p l e room_1 s m #[Value.ref b] below meth c H locs 89 5288 Q (F0 m 1012 ls [])) : W p l e room_1 s m #[Value.ref b] below meth c H locs 89 5288 Q (F0 m 926 ls []) := by
  obtain ⟨hx, hb, hr, hml, hown, hts0, hX, hbl, hlocks, hgv⟩ := C0
  have hts : ∀ w ∈ wsL_law, w.before #[Value.ref b] s = true := fun w h => hts0 w (wsL_law_in w h)
  obtain ⟨hK, hstr, hN, hGC, hGM, hAC, hAM, hdis⟩ := F
  obtain ⟨hP, hM, hS, hInv⟩ := hI
  have hbA : ¬ wA [] s.heap.size b := wA_nil hbl
  refine lv_aload_n hx hb dL_law_926 rfl (lv_at hl 1 rfl) ?_
  refine lv_aload_n hx hb dL_law_927 rfl (lv_at hl 0 rfl) ?_
  refine lv_iload_n hx hb dL_law_928 rfl (lv_at hl 3 rfl) ?_
  refine lv_iconst (v := (1 : Int32)) hx hb dL_law_929 (by decide) ?_
  refine lv_iadd hx hb dL_law_930 ?_
  refine va_sld hx hb hX hbl hbA hS (show vp_in ((nI i) + (1 : Int32)) L from l_in (k := 1) (by omega) hL) dL_law_931 ?_
  refine lv_aload_n hx hb dL_law_932 rfl (lv_at hl 0 rfl) ?_
  refine lv_iload_n hx hb dL_law_933 rfl (lv_at hl 3 rfl) ?_
  refine lv_iconst (v := (2 : Int32)) hx hb dL_law_934 (by decide) ?_
  refine lv_iadd hx hb dL_law_935 ?_
  refine va_sld hx hb hX hbl hbA hS (show vp_in ((nI i) + (2 : Int32)) L from l_in (k := 2) (by omega) hL) dL_law_936 ?_
  refine lv_aload_n hx hb dL_law_937 rfl (lv_at hl 0 rfl) ?_
  refine lv_iload_n hx hb dL_law_938 rfl (lv_at hl 3 rfl) ?_
  refine lv_iconst (v := (3 : Int32)) hx hb dL_law_939 (by decide) ?_
  refine lv_iadd hx hb dL_law_940 ?_
  refine va_sld hx hb hX hbl hbA hS (show vp_in ((nI i) + (3 : Int32)) L from l_in (k := 3) (by omega) hL) dL_law_941 ?_
  refine lv_aload_n hx hb dL_law_942 rfl (lv_at hl 0 rfl) ?_
  refine lv_iload_n hx hb dL_law_943 rfl (lv_at hl 3 rfl) ?_
  refine lv_iconst (v := (4 : Int32)) hx hb dL_law_944 (by decide) ?_
  refine lv_iadd hx hb dL_law_945 ?_
  refine va_sld hx hb hX hbl hbA hS (show vp_in ((nI i) + (4 : Int32)) L from l_in (k := 4) (by omega) hL) dL_law_946 ?_
  obtain ⟨v, σ2, μ2, g1, g2, hInv2⟩ := pub_house hInv (xs ((nI i) + (1 : Int32)).toNatClampNeg) (xs ((nI i) + (2 : Int32)).toNatClampNeg) (xs ((nI i) + (3 : Int32)).toNatClampNeg) (xs ((nI i) + (4 : Int32)).toNatClampNeg)
  refine l_ci (va_runV (As := [.int (xs ((nI i) + (1 : Int32)).toNatClampNeg), .int (xs ((nI i) + (2 : Int32)).toNatClampNeg), .int (xs ((nI i) + (3 : Int32)).toNatClampNeg), .int (xs ((nI i) + (4 : Int32)).toNatClampNeg)]) (rest := []) ⟨hx, hb, hml, hown, hts⟩ (c_X8_house l (D, tt, aC, ad) hGC (xs ((nI i) + (1 : Int32)).toNatClampNeg) (xs ((nI i) + (2 : Int32)).toNatClampNeg) (xs ((nI i) + (3 : Int32)).toNatClampNeg) (xs ((nI i) + (4 : Int32)).toNatClampNeg) σ v σ2 g1 H.size) (cwV 4 hts (wlV K1019 K1016 K1017 K1018 K2) rfl rfl rfl (by decide +kernel) ⟨(Nat.le_of_ble_eq_true rfl), (Nat.le_of_ble_eq_true rfl)⟩) (l_preV hK hP hstr hN hS hAC (gC_Main (D, tt, aC, ad) σ) rfl) rfl rfl hl.1 rfl (lv_room (Nat.le_of_ble_eq_true rfl)) dL_law_947 ⟨(Nat.le_of_ble_eq_true rfl), (Nat.le_of_ble_eq_true rfl)⟩) hS hAC hM (fun k x hx h => hdis _ h (al_of (halM (D, tt, aM, ad) _) hx)) (fun H locs hP hM hS => ?_)
  refine lv_aload_n hx hb dL_law_950 rfl (lv_at hl 2 rfl) ?_
  refine lv_aload_n hx hb dL_law_951 rfl (lv_at hl 0 rfl) ?_
  refine lv_iload_n hx hb dL_law_952 rfl (lv_at hl 3 rfl) ?_
  refine lv_iconst (v := (1 : Int32)) hx hb dL_law_953 (by decide) ?_
  refine lv_iadd hx hb dL_law_954 ?_
  refine va_sld hx hb hX hbl hbA hS (show vp_in ((nI i) + (1 : Int32)) L from l_in (k := 1) (by omega) hL) dL_law_955 ?_
  refine lv_aload_n hx hb dL_law_956 rfl (lv_at hl 0 rfl) ?_
  refine lv_iload_n hx hb dL_law_957 rfl (lv_at hl 3 rfl) ?_
  refine lv_iconst (v := (2 : Int32)) hx hb dL_law_958 (by decide) ?_
  refine lv_iadd hx hb dL_law_959 ?_
  refine va_sld hx hb hX hbl hbA hS (show vp_in ((nI i) + (2 : Int32)) L from l_in (k := 2) (by omega) hL) dL_law_960 ?_
  refine lv_aload_n hx hb dL_law_961 rfl (lv_at hl 0 rfl) ?_
  refine lv_iload_n hx hb dL_law_962 rfl (lv_at hl 3 rfl) ?_
  refine lv_iconst (v := (3 : Int32)) hx hb dL_law_963 (by decide) ?_
  refine lv_iadd hx hb dL_law_964 ?_
  refine va_sld hx hb hX hbl hbA hS (show vp_in ((nI i) + (3 : Int32)) L from l_in (k := 3) (by omega) hL) dL_law_965 ?_
  refine lv_aload_n hx hb dL_law_966 rfl (lv_at hl 0 rfl) ?_
  refine lv_iload_n hx hb dL_law_967 rfl (lv_at hl 3 rfl) ?_
  refine lv_iconst (v := (4 : Int32)) hx hb dL_law_968 (by decide) ?_
  refine lv_iadd hx hb dL_law_969 ?_
  refine va_sld hx hb hX hbl hbA hS (show vp_in ((nI i) + (4 : Int32)) L from l_in (k := 4) (by omega) hL) dL_law_970 ?_
  refine l_ci (va_runV (As := [.int (xs ((nI i) + (1 : Int32)).toNatClampNeg), .int (xs ((nI i) + (2 : Int32)).toNatClampNeg), .int (xs ((nI i) + (3 : Int32)).toNatClampNeg), .int (xs ((nI i) + (4 : Int32)).toNatClampNeg)]) (rest := [.int v]) ⟨hx, hb, hml, hown, hts⟩ (c_X9_house l (D, tt, aM, ad) hGM (xs ((nI i) + (1 : Int32)).toNatClampNeg) (xs ((nI i) + (2 : Int32)).toNatClampNeg) (xs ((nI i) + (3 : Int32)).toNatClampNeg) (xs ((nI i) + (4 : Int32)).toNatClampNeg) μ v μ2 g2 H.size) (cwV 4 hts (wlV K1023 K1020 K1021 K1022 K5) rfl rfl rfl (by decide +kernel) ⟨(Nat.le_of_ble_eq_true rfl), (Nat.le_of_ble_eq_true rfl)⟩) (l_preV hK hM hstr hN hS hAM (gM_Model (D, tt, aM, ad) μ) rfl) rfl rfl hl.1 rfl (lv_room (Nat.le_of_ble_eq_true rfl)) dL_law_971 ⟨(Nat.le_of_ble_eq_true rfl), (Nat.le_of_ble_eq_true rfl)⟩) hS hAM hP (fun k x hx => hdis _ (al_of (halC (D, tt, aC, ad) _) hx)) (fun H locs hM hP hS => ?_)
  exact lv_icmp_eq (tgt := 1012) hx hb dL_law_974 (by decide) (fun _ => kk _ _ _ _ ⟨hP, hM, hS, hInv2⟩) (fun c1 => absurd rfl c1)
set_option maxHeartbeats 4000000 in
set_option maxRecDepth 100000 in
theorem lc_taken {p : Program} {l : Launch} {e : Jvm.Env} {s : State} {m : MethodId} {below : List Frame} {meth : Method} {c : Code} {b L : Nat} {xs : Nat → Int32} {D : va_G} {tt : Nat → ClassId} {aC aM : Nat → Nat} {ad : (Nat → Nat) × (Nat → Nat)} (C0 : lw_At p s m meth c b L xs) (F : LF D tt aC aM ad s) (hL : L ≤ 3072) {i : Nat} (hi : i + 6 ≤ L) {ls : Array Slot} (hl : lv_has ls 4 [(0, .ref b), (1, .ref (aC 0)), (2, .ref (aM 0)), (3, .int (nI i))]) {σ : Sg} {μ : Sm} {H : Heap} {locs : List Loc} (hI : LI D tt aC aM ad s σ μ H locs) {Q : State → Prop}
    (kk : ∀ (σ : Sg) (μ : Sm) (H : Heap) (locs : List Loc), LI D tt aC aM ad s σ μ H locs → W p l e room_1 s m #[Value.ref b] below meth c H locs 89 5288 Q (F0 m 1012 ls [])) : W p l e room_1 s m #[Value.ref b] below meth c H locs 89 5288 Q (F0 m 979 ls []) := by
  obtain ⟨hx, hb, hr, hml, hown, hts0, hX, hbl, hlocks, hgv⟩ := C0
  have hts : ∀ w ∈ wsL_law, w.before #[Value.ref b] s = true := fun w h => hts0 w (wsL_law_in w h)
  obtain ⟨hK, hstr, hN, hGC, hGM, hAC, hAM, hdis⟩ := F
  obtain ⟨hP, hM, hS, hInv⟩ := hI
  have hbA : ¬ wA [] s.heap.size b := wA_nil hbl
  refine lv_aload_n hx hb dL_law_979 rfl (lv_at hl 1 rfl) ?_
  refine lv_aload_n hx hb dL_law_980 rfl (lv_at hl 0 rfl) ?_
  refine lv_iload_n hx hb dL_law_981 rfl (lv_at hl 3 rfl) ?_
  refine lv_iconst (v := (1 : Int32)) hx hb dL_law_982 (by decide) ?_
  refine lv_iadd hx hb dL_law_983 ?_
  refine va_sld hx hb hX hbl hbA hS (show vp_in ((nI i) + (1 : Int32)) L from l_in (k := 1) (by omega) hL) dL_law_984 ?_
  refine lv_aload_n hx hb dL_law_985 rfl (lv_at hl 0 rfl) ?_
  refine lv_iload_n hx hb dL_law_986 rfl (lv_at hl 3 rfl) ?_
  refine lv_iconst (v := (2 : Int32)) hx hb dL_law_987 (by decide) ?_
  refine lv_iadd hx hb dL_law_988 ?_
  refine va_sld hx hb hX hbl hbA hS (show vp_in ((nI i) + (2 : Int32)) L from l_in (k := 2) (by omega) hL) dL_law_989 ?_
  obtain ⟨v, σ2, μ2, g1, g2, hInv2⟩ := pub_taken hInv (xs ((nI i) + (1 : Int32)).toNatClampNeg) (xs ((nI i) + (2 : Int32)).toNatClampNeg)
  refine l_ci (va_runV (As := [.int (xs ((nI i) + (1 : Int32)).toNatClampNeg), .int (xs ((nI i) + (2 : Int32)).toNatClampNeg)]) (rest := []) ⟨hx, hb, hml, hown, hts⟩ (c_X8_taken l (D, tt, aC, ad) hGC (xs ((nI i) + (1 : Int32)).toNatClampNeg) (xs ((nI i) + (2 : Int32)).toNatClampNeg) σ v σ2 g1 H.size) (cwV 2 hts (wlV K1028 K1025 K1026 K1027 K2) rfl rfl rfl (by decide +kernel) ⟨(Nat.le_of_ble_eq_true rfl), (Nat.le_of_ble_eq_true rfl)⟩) (l_preV hK hP hstr hN hS hAC (gC_Main (D, tt, aC, ad) σ) rfl) rfl rfl hl.1 rfl (lv_room (Nat.le_of_ble_eq_true rfl)) dL_law_990 ⟨(Nat.le_of_ble_eq_true rfl), (Nat.le_of_ble_eq_true rfl)⟩) hS hAC hM (fun k x hx h => hdis _ h (al_of (halM (D, tt, aM, ad) _) hx)) (fun H locs hP hM hS => ?_)
  refine lv_aload_n hx hb dL_law_993 rfl (lv_at hl 2 rfl) ?_
  refine lv_aload_n hx hb dL_law_994 rfl (lv_at hl 0 rfl) ?_
  refine lv_iload_n hx hb dL_law_995 rfl (lv_at hl 3 rfl) ?_
  refine lv_iconst (v := (1 : Int32)) hx hb dL_law_996 (by decide) ?_
  refine lv_iadd hx hb dL_law_997 ?_
  refine va_sld hx hb hX hbl hbA hS (show vp_in ((nI i) + (1 : Int32)) L from l_in (k := 1) (by omega) hL) dL_law_998 ?_
  refine lv_aload_n hx hb dL_law_999 rfl (lv_at hl 0 rfl) ?_
  refine lv_iload_n hx hb dL_law_1000 rfl (lv_at hl 3 rfl) ?_
  refine lv_iconst (v := (2 : Int32)) hx hb dL_law_1001 (by decide) ?_
  refine lv_iadd hx hb dL_law_1002 ?_
  refine va_sld hx hb hX hbl hbA hS (show vp_in ((nI i) + (2 : Int32)) L from l_in (k := 2) (by omega) hL) dL_law_1003 ?_
  refine l_ci (va_runV (As := [.int (xs ((nI i) + (1 : Int32)).toNatClampNeg), .int (xs ((nI i) + (2 : Int32)).toNatClampNeg)]) (rest := [.int v]) ⟨hx, hb, hml, hown, hts⟩ (c_X9_taken l (D, tt, aM, ad) hGM (xs ((nI i) + (1 : Int32)).toNatClampNeg) (xs ((nI i) + (2 : Int32)).toNatClampNeg) μ v μ2 g2 H.size) (cwV 2 hts (wlV K1037 K1034 K1035 K1036 K5) rfl rfl rfl (by decide +kernel) ⟨(Nat.le_of_ble_eq_true rfl), (Nat.le_of_ble_eq_true rfl)⟩) (l_preV hK hM hstr hN hS hAM (gM_Model (D, tt, aM, ad) μ) rfl) rfl rfl hl.1 rfl (lv_room (Nat.le_of_ble_eq_true rfl)) dL_law_1004 ⟨(Nat.le_of_ble_eq_true rfl), (Nat.le_of_ble_eq_true rfl)⟩) hS hAM hP (fun k x hx => hdis _ (al_of (halC (D, tt, aC, ad) _) hx)) (fun H locs hM hP hS => ?_)
  exact lv_icmp_eq (tgt := 1012) hx hb dL_law_1007 (by decide) (fun _ => kk _ _ _ _ ⟨hP, hM, hS, hInv2⟩) (fun c1 => absurd rfl c1)
