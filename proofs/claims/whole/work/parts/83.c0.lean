set_option maxHeartbeats 4000000 in
set_option maxRecDepth 100000 in
theorem lc_0 {p : Program} {l : Launch} {e : Env} {s : State} {m : MethodId} {args : Array Value} {below : List Frame} {meth : Method} {c : Code} {g : XG} {A : Nat → Prop} {Q : State → Prop} {b L : Nat} {xs : Nat → Int32} (C0 : xC g A lw_tbl RL cL_law 4 ret p s m args meth c) (hX : va_X b L xs s s.heap) (hbl : b < s.heap.size) (hbA : ¬ A b) {i : Int32} (hin : ∀ c : Int32, vp_in c 6 → vp_in (i + c) L) (Gd : XS → Prop) {σ : XS} {H : Heap} {locs : List Loc} {ls : Array Slot} {cs : Nat} (hcs : cs + 1000 ≤ 600000) (hO : xO g A s σ H locs) (hl : lv_has ls 4 [(0, .ref b), (1, .ref (xa g 0)), (2, .ref (xa g 24)), (3, .int i)]) (hw : S0 Gd σ)
    (kk : ∀ (σ2 : XS) (H : Heap) (locs : List Loc) (c2 : Nat), c2 ≤ cs + 1000 → Gd σ2 → xO g A s σ2 H locs → W p l e room_1 s m args below meth c H locs c2 c2 Q (F0 m 1375 ls [])) : W p l e room_1 s m args below meth c H locs cs cs Q (F0 m 188 ls []) := by
  have hx := C0.1
  have hb := C0.2.1
  unfold S0 at hw
  refine lv_aload_n hx hb dL_law_188 rfl (lv_at hl 1 rfl) ?_
  refine lv_aload_n hx hb dL_law_189 rfl (lv_at hl 0 rfl) ?_
  refine lv_iload_n hx hb dL_law_190 rfl (lv_at hl 3 rfl) ?_
  refine lv_iconst (v := 1) hx hb dL_law_191 (by decide) ?_
  refine lv_iadd hx hb dL_law_192 ?_
  refine va_sld hx hb hX hbl hbA hO.2.2 (hin 1 (show ¬ ((1 : Int32) < 0 ∨ 6 ≤ (1 : Int32).toNatClampNeg) by decide)) dL_law_193 ?_
  refine lv_aload_n hx hb dL_law_194 rfl (lv_at hl 0 rfl) ?_
  refine lv_iload_n hx hb dL_law_195 rfl (lv_at hl 3 rfl) ?_
  refine lv_iconst (v := 2) hx hb dL_law_196 (by decide) ?_
  refine lv_iadd hx hb dL_law_197 ?_
  refine va_sld hx hb hX hbl hbA hO.2.2 (hin 2 (show ¬ ((2 : Int32) < 0 ∨ 6 ≤ (2 : Int32).toNatClampNeg) by decide)) dL_law_198 ?_
  refine lv_aload_n hx hb dL_law_199 rfl (lv_at hl 0 rfl) ?_
  refine lv_iload_n hx hb dL_law_200 rfl (lv_at hl 3 rfl) ?_
  refine lv_iconst (v := 3) hx hb dL_law_201 (by decide) ?_
  refine lv_iadd hx hb dL_law_202 ?_
  refine va_sld hx hb hX hbl hbA hO.2.2 (hin 3 (show ¬ ((3 : Int32) < 0 ∨ 6 ≤ (3 : Int32).toNatClampNeg) by decide)) dL_law_203 ?_
  refine lv_aload_n hx hb dL_law_204 rfl (lv_at hl 0 rfl) ?_
  refine lv_iload_n hx hb dL_law_205 rfl (lv_at hl 3 rfl) ?_
  refine lv_iconst (v := 4) hx hb dL_law_206 (by decide) ?_
  refine lv_iadd hx hb dL_law_207 ?_
  refine va_sld hx hb hX hbl hbA hO.2.2 (hin 4 (show ¬ ((4 : Int32) < 0 ∨ 6 ≤ (4 : Int32).toNatClampNeg) by decide)) dL_law_208 ?_
  replace hw := hw (xs (i + 1).toNatClampNeg) (xs (i + 2).toNatClampNeg) (xs (i + 3).toNatClampNeg) (xs (i + 4).toNatClampNeg)
  refine x_calli C0 hO (x_runV (As := [.int (xs (i + 1).toNatClampNeg), .int (xs (i + 2).toNatClampNeg), .int (xs (i + 3).toNatClampNeg), .int (xs (i + 4).toNatClampNeg)]) (rest := []) C0 hO (kX7_hall l g _ (xs (i + 1).toNatClampNeg) (xs (i + 2).toNatClampNeg) (xs (i + 3).toNatClampNeg) (xs (i + 4).toNatClampNeg) σ _ hw) 4 rfl (xRecv C0 hO (j := 0) rfl rfl) gL_X7_hall rfl rfl rfl hdX7_hall ⟨Nat.le_of_ble_eq_true rfl, Nat.le_of_ble_eq_true rfl⟩ hl.1 rfl (Nat.le_of_ble_eq_true rfl) dL_law_209 ⟨(show _ ≤ 600000 by omega), (show _ ≤ 7302250 by omega)⟩) (fun r1 σ1 H locs hw hO => ?_)
  refine lv_aload_n hx hb dL_law_212 rfl (lv_at hl 2 rfl) ?_
  refine lv_aload_n hx hb dL_law_213 rfl (lv_at hl 0 rfl) ?_
  refine lv_iload_n hx hb dL_law_214 rfl (lv_at hl 3 rfl) ?_
  refine lv_iconst (v := 1) hx hb dL_law_215 (by decide) ?_
  refine lv_iadd hx hb dL_law_216 ?_
  refine va_sld hx hb hX hbl hbA hO.2.2 (hin 1 (show ¬ ((1 : Int32) < 0 ∨ 6 ≤ (1 : Int32).toNatClampNeg) by decide)) dL_law_217 ?_
  refine lv_aload_n hx hb dL_law_218 rfl (lv_at hl 0 rfl) ?_
  refine lv_iload_n hx hb dL_law_219 rfl (lv_at hl 3 rfl) ?_
  refine lv_iconst (v := 2) hx hb dL_law_220 (by decide) ?_
  refine lv_iadd hx hb dL_law_221 ?_
  refine va_sld hx hb hX hbl hbA hO.2.2 (hin 2 (show ¬ ((2 : Int32) < 0 ∨ 6 ≤ (2 : Int32).toNatClampNeg) by decide)) dL_law_222 ?_
  refine lv_aload_n hx hb dL_law_223 rfl (lv_at hl 0 rfl) ?_
  refine lv_iload_n hx hb dL_law_224 rfl (lv_at hl 3 rfl) ?_
  refine lv_iconst (v := 3) hx hb dL_law_225 (by decide) ?_
  refine lv_iadd hx hb dL_law_226 ?_
  refine va_sld hx hb hX hbl hbA hO.2.2 (hin 3 (show ¬ ((3 : Int32) < 0 ∨ 6 ≤ (3 : Int32).toNatClampNeg) by decide)) dL_law_227 ?_
  refine lv_aload_n hx hb dL_law_228 rfl (lv_at hl 0 rfl) ?_
  refine lv_iload_n hx hb dL_law_229 rfl (lv_at hl 3 rfl) ?_
  refine lv_iconst (v := 4) hx hb dL_law_230 (by decide) ?_
  refine lv_iadd hx hb dL_law_231 ?_
  refine va_sld hx hb hX hbl hbA hO.2.2 (hin 4 (show ¬ ((4 : Int32) < 0 ∨ 6 ≤ (4 : Int32).toNatClampNeg) by decide)) dL_law_232 ?_
  refine x_calli C0 hO (x_runV (As := [.int (xs (i + 1).toNatClampNeg), .int (xs (i + 2).toNatClampNeg), .int (xs (i + 3).toNatClampNeg), .int (xs (i + 4).toNatClampNeg)]) (rest := [.int r1]) C0 hO (kX8_hall l g _ (xs (i + 1).toNatClampNeg) (xs (i + 2).toNatClampNeg) (xs (i + 3).toNatClampNeg) (xs (i + 4).toNatClampNeg) σ1 _ hw) 4 rfl (xRecv C0 hO (j := 24) rfl rfl) gL_X8_hall rfl rfl rfl hdX8_hall ⟨Nat.le_of_ble_eq_true rfl, Nat.le_of_ble_eq_true rfl⟩ hl.1 rfl (Nat.le_of_ble_eq_true rfl) dL_law_233 ⟨(show _ ≤ 600000 by omega), (show _ ≤ 7302250 by omega)⟩) (fun r2 σ2 H locs hw hO => ?_)
  obtain ⟨hr, hG⟩ := hw
  refine lv_icmp_eq (tgt := 1375) hx hb dL_law_236 (by decide) (fun c9 => ?_) (fun c9 => absurd hr c9)
  exact kk _ _ _ _ (by omega) hG hO
set_option maxHeartbeats 4000000 in
set_option maxRecDepth 100000 in
theorem lc_1 {p : Program} {l : Launch} {e : Env} {s : State} {m : MethodId} {args : Array Value} {below : List Frame} {meth : Method} {c : Code} {g : XG} {A : Nat → Prop} {Q : State → Prop} {b L : Nat} {xs : Nat → Int32} (C0 : xC g A lw_tbl RL cL_law 4 ret p s m args meth c) (hX : va_X b L xs s s.heap) (hbl : b < s.heap.size) (hbA : ¬ A b) {i : Int32} (hin : ∀ c : Int32, vp_in c 6 → vp_in (i + c) L) (Gd : XS → Prop) {σ : XS} {H : Heap} {locs : List Loc} {ls : Array Slot} {cs : Nat} (hcs : cs + 1000 ≤ 600000) (hO : xO g A s σ H locs) (hl : lv_has ls 4 [(0, .ref b), (1, .ref (xa g 0)), (2, .ref (xa g 24)), (3, .int i)]) (hw : S1 Gd σ)
    (kk : ∀ (σ2 : XS) (H : Heap) (locs : List Loc) (c2 : Nat), c2 ≤ cs + 1000 → Gd σ2 → xO g A s σ2 H locs → W p l e room_1 s m args below meth c H locs c2 c2 Q (F0 m 1375 ls [])) : W p l e room_1 s m args below meth c H locs cs cs Q (F0 m 241 ls []) := by
  have hx := C0.1
  have hb := C0.2.1
  unfold S1 at hw
  refine lv_aload_n hx hb dL_law_241 rfl (lv_at hl 1 rfl) ?_
  refine lv_aload_n hx hb dL_law_242 rfl (lv_at hl 0 rfl) ?_
  refine lv_iload_n hx hb dL_law_243 rfl (lv_at hl 3 rfl) ?_
  refine lv_iconst (v := 1) hx hb dL_law_244 (by decide) ?_
  refine lv_iadd hx hb dL_law_245 ?_
  refine va_sld hx hb hX hbl hbA hO.2.2 (hin 1 (show ¬ ((1 : Int32) < 0 ∨ 6 ≤ (1 : Int32).toNatClampNeg) by decide)) dL_law_246 ?_
  refine lv_aload_n hx hb dL_law_247 rfl (lv_at hl 0 rfl) ?_
  refine lv_iload_n hx hb dL_law_248 rfl (lv_at hl 3 rfl) ?_
  refine lv_iconst (v := 2) hx hb dL_law_249 (by decide) ?_
  refine lv_iadd hx hb dL_law_250 ?_
  refine va_sld hx hb hX hbl hbA hO.2.2 (hin 2 (show ¬ ((2 : Int32) < 0 ∨ 6 ≤ (2 : Int32).toNatClampNeg) by decide)) dL_law_251 ?_
  replace hw := hw (xs (i + 1).toNatClampNeg) (xs (i + 2).toNatClampNeg)
  refine x_calli C0 hO (x_runV (As := [.int (xs (i + 1).toNatClampNeg), .int (xs (i + 2).toNatClampNeg)]) (rest := []) C0 hO (kX7_ofPerson l g _ (xs (i + 1).toNatClampNeg) (xs (i + 2).toNatClampNeg) σ _ hw) 2 rfl (xRecv C0 hO (j := 0) rfl rfl) gL_X7_ofPerson rfl rfl rfl hdX7_ofPerson ⟨Nat.le_of_ble_eq_true rfl, Nat.le_of_ble_eq_true rfl⟩ hl.1 rfl (Nat.le_of_ble_eq_true rfl) dL_law_252 ⟨(show _ ≤ 600000 by omega), (show _ ≤ 7302250 by omega)⟩) (fun r1 σ' H locs hw hO => ?_)
  obtain ⟨hσ, hw⟩ := hw
  subst hσ
  refine lv_aload_n hx hb dL_law_255 rfl (lv_at hl 2 rfl) ?_
  refine lv_aload_n hx hb dL_law_256 rfl (lv_at hl 0 rfl) ?_
  refine lv_iload_n hx hb dL_law_257 rfl (lv_at hl 3 rfl) ?_
  refine lv_iconst (v := 1) hx hb dL_law_258 (by decide) ?_
  refine lv_iadd hx hb dL_law_259 ?_
  refine va_sld hx hb hX hbl hbA hO.2.2 (hin 1 (show ¬ ((1 : Int32) < 0 ∨ 6 ≤ (1 : Int32).toNatClampNeg) by decide)) dL_law_260 ?_
  refine lv_aload_n hx hb dL_law_261 rfl (lv_at hl 0 rfl) ?_
  refine lv_iload_n hx hb dL_law_262 rfl (lv_at hl 3 rfl) ?_
  refine lv_iconst (v := 2) hx hb dL_law_263 (by decide) ?_
  refine lv_iadd hx hb dL_law_264 ?_
  refine va_sld hx hb hX hbl hbA hO.2.2 (hin 2 (show ¬ ((2 : Int32) < 0 ∨ 6 ≤ (2 : Int32).toNatClampNeg) by decide)) dL_law_265 ?_
  refine x_calli C0 hO (x_runV (As := [.int (xs (i + 1).toNatClampNeg), .int (xs (i + 2).toNatClampNeg)]) (rest := [.int r1]) C0 hO (kX8_ofPerson l g _ (xs (i + 1).toNatClampNeg) (xs (i + 2).toNatClampNeg) σ _ hw) 2 rfl (xRecv C0 hO (j := 24) rfl rfl) gL_X8_ofPerson rfl rfl rfl hdX8_ofPerson ⟨Nat.le_of_ble_eq_true rfl, Nat.le_of_ble_eq_true rfl⟩ hl.1 rfl (Nat.le_of_ble_eq_true rfl) dL_law_266 ⟨(show _ ≤ 600000 by omega), (show _ ≤ 7302250 by omega)⟩) (fun r2 σ' H locs hw hO => ?_)
  obtain ⟨hσ, hw⟩ := hw
  subst hσ
  obtain ⟨hr, hG⟩ := hw
  refine lv_icmp_eq (tgt := 1375) hx hb dL_law_269 (by decide) (fun c9 => ?_) (fun c9 => absurd hr c9)
  exact kk _ _ _ _ (by omega) hG hO
set_option maxHeartbeats 4000000 in
set_option maxRecDepth 100000 in
theorem lc_2 {p : Program} {l : Launch} {e : Env} {s : State} {m : MethodId} {args : Array Value} {below : List Frame} {meth : Method} {c : Code} {g : XG} {A : Nat → Prop} {Q : State → Prop} {b L : Nat} {xs : Nat → Int32} (C0 : xC g A lw_tbl RL cL_law 4 ret p s m args meth c) (hX : va_X b L xs s s.heap) (hbl : b < s.heap.size) (hbA : ¬ A b) {i : Int32} (hin : ∀ c : Int32, vp_in c 6 → vp_in (i + c) L) (Gd : XS → Prop) {σ : XS} {H : Heap} {locs : List Loc} {ls : Array Slot} {cs : Nat} (hcs : cs + 1000 ≤ 600000) (hO : xO g A s σ H locs) (hl : lv_has ls 4 [(0, .ref b), (1, .ref (xa g 0)), (2, .ref (xa g 24)), (3, .int i)]) (hw : S2 Gd σ)
    (kk : ∀ (σ2 : XS) (H : Heap) (locs : List Loc) (c2 : Nat), c2 ≤ cs + 1000 → Gd σ2 → xO g A s σ2 H locs → W p l e room_1 s m args below meth c H locs c2 c2 Q (F0 m 1375 ls [])) : W p l e room_1 s m args below meth c H locs cs cs Q (F0 m 274 ls []) := by
  have hx := C0.1
  have hb := C0.2.1
  unfold S2 at hw
  refine lv_aload_n hx hb dL_law_274 rfl (lv_at hl 1 rfl) ?_
  refine lv_aload_n hx hb dL_law_275 rfl (lv_at hl 0 rfl) ?_
  refine lv_iload_n hx hb dL_law_276 rfl (lv_at hl 3 rfl) ?_
  refine lv_iconst (v := 1) hx hb dL_law_277 (by decide) ?_
  refine lv_iadd hx hb dL_law_278 ?_
  refine va_sld hx hb hX hbl hbA hO.2.2 (hin 1 (show ¬ ((1 : Int32) < 0 ∨ 6 ≤ (1 : Int32).toNatClampNeg) by decide)) dL_law_279 ?_
  refine lv_aload_n hx hb dL_law_280 rfl (lv_at hl 0 rfl) ?_
  refine lv_iload_n hx hb dL_law_281 rfl (lv_at hl 3 rfl) ?_
  refine lv_iconst (v := 2) hx hb dL_law_282 (by decide) ?_
  refine lv_iadd hx hb dL_law_283 ?_
  refine va_sld hx hb hX hbl hbA hO.2.2 (hin 2 (show ¬ ((2 : Int32) < 0 ∨ 6 ≤ (2 : Int32).toNatClampNeg) by decide)) dL_law_284 ?_
  replace hw := hw (xs (i + 1).toNatClampNeg) (xs (i + 2).toNatClampNeg)
  refine x_calli C0 hO (x_runV (As := [.int (xs (i + 1).toNatClampNeg), .int (xs (i + 2).toNatClampNeg)]) (rest := []) C0 hO (kX7_gum l g _ (xs (i + 1).toNatClampNeg) (xs (i + 2).toNatClampNeg) σ _ hw) 2 rfl (xRecv C0 hO (j := 0) rfl rfl) gL_X7_gum rfl rfl rfl hdX7_gum ⟨Nat.le_of_ble_eq_true rfl, Nat.le_of_ble_eq_true rfl⟩ hl.1 rfl (Nat.le_of_ble_eq_true rfl) dL_law_285 ⟨(show _ ≤ 600000 by omega), (show _ ≤ 7302250 by omega)⟩) (fun r1 σ' H locs hw hO => ?_)
  obtain ⟨hσ, hw⟩ := hw
  subst hσ
  refine lv_aload_n hx hb dL_law_288 rfl (lv_at hl 2 rfl) ?_
  refine lv_aload_n hx hb dL_law_289 rfl (lv_at hl 0 rfl) ?_
  refine lv_iload_n hx hb dL_law_290 rfl (lv_at hl 3 rfl) ?_
  refine lv_iconst (v := 1) hx hb dL_law_291 (by decide) ?_
  refine lv_iadd hx hb dL_law_292 ?_
  refine va_sld hx hb hX hbl hbA hO.2.2 (hin 1 (show ¬ ((1 : Int32) < 0 ∨ 6 ≤ (1 : Int32).toNatClampNeg) by decide)) dL_law_293 ?_
  refine lv_aload_n hx hb dL_law_294 rfl (lv_at hl 0 rfl) ?_
  refine lv_iload_n hx hb dL_law_295 rfl (lv_at hl 3 rfl) ?_
  refine lv_iconst (v := 2) hx hb dL_law_296 (by decide) ?_
  refine lv_iadd hx hb dL_law_297 ?_
  refine va_sld hx hb hX hbl hbA hO.2.2 (hin 2 (show ¬ ((2 : Int32) < 0 ∨ 6 ≤ (2 : Int32).toNatClampNeg) by decide)) dL_law_298 ?_
  refine x_calli C0 hO (x_runV (As := [.int (xs (i + 1).toNatClampNeg), .int (xs (i + 2).toNatClampNeg)]) (rest := [.int r1]) C0 hO (kX8_gum l g _ (xs (i + 1).toNatClampNeg) (xs (i + 2).toNatClampNeg) σ _ hw) 2 rfl (xRecv C0 hO (j := 24) rfl rfl) gL_X8_gum rfl rfl rfl hdX8_gum ⟨Nat.le_of_ble_eq_true rfl, Nat.le_of_ble_eq_true rfl⟩ hl.1 rfl (Nat.le_of_ble_eq_true rfl) dL_law_299 ⟨(show _ ≤ 600000 by omega), (show _ ≤ 7302250 by omega)⟩) (fun r2 σ' H locs hw hO => ?_)
  obtain ⟨hσ, hw⟩ := hw
  subst hσ
  obtain ⟨hr, hG⟩ := hw
  refine lv_icmp_eq (tgt := 1375) hx hb dL_law_302 (by decide) (fun c9 => ?_) (fun c9 => absurd hr c9)
  exact kk _ _ _ _ (by omega) hG hO
set_option maxHeartbeats 4000000 in
set_option maxRecDepth 100000 in
theorem lc_3 {p : Program} {l : Launch} {e : Env} {s : State} {m : MethodId} {args : Array Value} {below : List Frame} {meth : Method} {c : Code} {g : XG} {A : Nat → Prop} {Q : State → Prop} {b L : Nat} {xs : Nat → Int32} (C0 : xC g A lw_tbl RL cL_law 4 ret p s m args meth c) (hX : va_X b L xs s s.heap) (hbl : b < s.heap.size) (hbA : ¬ A b) {i : Int32} (hin : ∀ c : Int32, vp_in c 6 → vp_in (i + c) L) (Gd : XS → Prop) {σ : XS} {H : Heap} {locs : List Loc} {ls : Array Slot} {cs : Nat} (hcs : cs + 1000 ≤ 600000) (hO : xO g A s σ H locs) (hl : lv_has ls 4 [(0, .ref b), (1, .ref (xa g 0)), (2, .ref (xa g 24)), (3, .int i)]) (hw : S3 Gd σ)
    (kk : ∀ (σ2 : XS) (H : Heap) (locs : List Loc) (c2 : Nat), c2 ≤ cs + 1000 → Gd σ2 → xO g A s σ2 H locs → W p l e room_1 s m args below meth c H locs c2 c2 Q (F0 m 1375 ls [])) : W p l e room_1 s m args below meth c H locs cs cs Q (F0 m 307 ls []) := by
  have hx := C0.1
  have hb := C0.2.1
  unfold S3 at hw
  refine lv_aload_n hx hb dL_law_307 rfl (lv_at hl 1 rfl) ?_
  refine lv_aload_n hx hb dL_law_308 rfl (lv_at hl 0 rfl) ?_
  refine lv_iload_n hx hb dL_law_309 rfl (lv_at hl 3 rfl) ?_
  refine lv_iconst (v := 1) hx hb dL_law_310 (by decide) ?_
  refine lv_iadd hx hb dL_law_311 ?_
  refine va_sld hx hb hX hbl hbA hO.2.2 (hin 1 (show ¬ ((1 : Int32) < 0 ∨ 6 ≤ (1 : Int32).toNatClampNeg) by decide)) dL_law_312 ?_
  refine lv_aload_n hx hb dL_law_313 rfl (lv_at hl 0 rfl) ?_
  refine lv_iload_n hx hb dL_law_314 rfl (lv_at hl 3 rfl) ?_
  refine lv_iconst (v := 2) hx hb dL_law_315 (by decide) ?_
  refine lv_iadd hx hb dL_law_316 ?_
  refine va_sld hx hb hX hbl hbA hO.2.2 (hin 2 (show ¬ ((2 : Int32) < 0 ∨ 6 ≤ (2 : Int32).toNatClampNeg) by decide)) dL_law_317 ?_
  refine lv_aload_n hx hb dL_law_318 rfl (lv_at hl 0 rfl) ?_
  refine lv_iload_n hx hb dL_law_319 rfl (lv_at hl 3 rfl) ?_
  refine lv_iconst (v := 3) hx hb dL_law_320 (by decide) ?_
  refine lv_iadd hx hb dL_law_321 ?_
  refine va_sld hx hb hX hbl hbA hO.2.2 (hin 3 (show ¬ ((3 : Int32) < 0 ∨ 6 ≤ (3 : Int32).toNatClampNeg) by decide)) dL_law_322 ?_
  replace hw := hw (xs (i + 1).toNatClampNeg) (xs (i + 2).toNatClampNeg) (xs (i + 3).toNatClampNeg)
  refine x_calli C0 hO (x_runV (As := [.int (xs (i + 1).toNatClampNeg), .int (xs (i + 2).toNatClampNeg), .int (xs (i + 3).toNatClampNeg)]) (rest := []) C0 hO (kX7_sit l g _ (xs (i + 1).toNatClampNeg) (xs (i + 2).toNatClampNeg) (xs (i + 3).toNatClampNeg) σ _ hw) 3 rfl (xRecv C0 hO (j := 0) rfl rfl) gL_X7_sit rfl rfl rfl hdX7_sit ⟨Nat.le_of_ble_eq_true rfl, Nat.le_of_ble_eq_true rfl⟩ hl.1 rfl (Nat.le_of_ble_eq_true rfl) dL_law_323 ⟨(show _ ≤ 600000 by omega), (show _ ≤ 7302250 by omega)⟩) (fun r1 σ1 H locs hw hO => ?_)
  refine lv_aload_n hx hb dL_law_326 rfl (lv_at hl 2 rfl) ?_
  refine lv_aload_n hx hb dL_law_327 rfl (lv_at hl 0 rfl) ?_
  refine lv_iload_n hx hb dL_law_328 rfl (lv_at hl 3 rfl) ?_
  refine lv_iconst (v := 1) hx hb dL_law_329 (by decide) ?_
  refine lv_iadd hx hb dL_law_330 ?_
  refine va_sld hx hb hX hbl hbA hO.2.2 (hin 1 (show ¬ ((1 : Int32) < 0 ∨ 6 ≤ (1 : Int32).toNatClampNeg) by decide)) dL_law_331 ?_
  refine lv_aload_n hx hb dL_law_332 rfl (lv_at hl 0 rfl) ?_
  refine lv_iload_n hx hb dL_law_333 rfl (lv_at hl 3 rfl) ?_
  refine lv_iconst (v := 2) hx hb dL_law_334 (by decide) ?_
  refine lv_iadd hx hb dL_law_335 ?_
  refine va_sld hx hb hX hbl hbA hO.2.2 (hin 2 (show ¬ ((2 : Int32) < 0 ∨ 6 ≤ (2 : Int32).toNatClampNeg) by decide)) dL_law_336 ?_
  refine lv_aload_n hx hb dL_law_337 rfl (lv_at hl 0 rfl) ?_
  refine lv_iload_n hx hb dL_law_338 rfl (lv_at hl 3 rfl) ?_
  refine lv_iconst (v := 3) hx hb dL_law_339 (by decide) ?_
  refine lv_iadd hx hb dL_law_340 ?_
  refine va_sld hx hb hX hbl hbA hO.2.2 (hin 3 (show ¬ ((3 : Int32) < 0 ∨ 6 ≤ (3 : Int32).toNatClampNeg) by decide)) dL_law_341 ?_
  refine x_calli C0 hO (x_runV (As := [.int (xs (i + 1).toNatClampNeg), .int (xs (i + 2).toNatClampNeg), .int (xs (i + 3).toNatClampNeg)]) (rest := [.int r1]) C0 hO (kX8_sit l g _ (xs (i + 1).toNatClampNeg) (xs (i + 2).toNatClampNeg) (xs (i + 3).toNatClampNeg) σ1 _ hw) 3 rfl (xRecv C0 hO (j := 24) rfl rfl) gL_X8_sit rfl rfl rfl hdX8_sit ⟨Nat.le_of_ble_eq_true rfl, Nat.le_of_ble_eq_true rfl⟩ hl.1 rfl (Nat.le_of_ble_eq_true rfl) dL_law_342 ⟨(show _ ≤ 600000 by omega), (show _ ≤ 7302250 by omega)⟩) (fun r2 σ2 H locs hw hO => ?_)
  obtain ⟨hr, hG⟩ := hw
  refine lv_icmp_eq (tgt := 1375) hx hb dL_law_345 (by decide) (fun c9 => ?_) (fun c9 => absurd hr c9)
  exact kk _ _ _ _ (by omega) hG hO
set_option maxHeartbeats 4000000 in
set_option maxRecDepth 100000 in
theorem lc_4 {p : Program} {l : Launch} {e : Env} {s : State} {m : MethodId} {args : Array Value} {below : List Frame} {meth : Method} {c : Code} {g : XG} {A : Nat → Prop} {Q : State → Prop} {b L : Nat} {xs : Nat → Int32} (C0 : xC g A lw_tbl RL cL_law 4 ret p s m args meth c) (hX : va_X b L xs s s.heap) (hbl : b < s.heap.size) (hbA : ¬ A b) {i : Int32} (hin : ∀ c : Int32, vp_in c 6 → vp_in (i + c) L) (Gd : XS → Prop) {σ : XS} {H : Heap} {locs : List Loc} {ls : Array Slot} {cs : Nat} (hcs : cs + 1000 ≤ 600000) (hO : xO g A s σ H locs) (hl : lv_has ls 4 [(0, .ref b), (1, .ref (xa g 0)), (2, .ref (xa g 24)), (3, .int i)]) (hw : S4 Gd σ)
    (kk : ∀ (σ2 : XS) (H : Heap) (locs : List Loc) (c2 : Nat), c2 ≤ cs + 1000 → Gd σ2 → xO g A s σ2 H locs → W p l e room_1 s m args below meth c H locs c2 c2 Q (F0 m 1375 ls [])) : W p l e room_1 s m args below meth c H locs cs cs Q (F0 m 350 ls []) := by
  have hx := C0.1
  have hb := C0.2.1
  unfold S4 at hw
  refine lv_aload_n hx hb dL_law_350 rfl (lv_at hl 1 rfl) ?_
  refine lv_aload_n hx hb dL_law_351 rfl (lv_at hl 0 rfl) ?_
  refine lv_iload_n hx hb dL_law_352 rfl (lv_at hl 3 rfl) ?_
  refine lv_iconst (v := 1) hx hb dL_law_353 (by decide) ?_
  refine lv_iadd hx hb dL_law_354 ?_
  refine va_sld hx hb hX hbl hbA hO.2.2 (hin 1 (show ¬ ((1 : Int32) < 0 ∨ 6 ≤ (1 : Int32).toNatClampNeg) by decide)) dL_law_355 ?_
  replace hw := hw (xs (i + 1).toNatClampNeg)
  refine x_calli C0 hO (x_runV (As := [.int (xs (i + 1).toNatClampNeg)]) (rest := []) C0 hO (kX7_rise l g _ (xs (i + 1).toNatClampNeg) σ _ hw) 1 rfl (xRecv C0 hO (j := 0) rfl rfl) gL_X7_rise rfl rfl rfl hdX7_rise ⟨Nat.le_of_ble_eq_true rfl, Nat.le_of_ble_eq_true rfl⟩ hl.1 rfl (Nat.le_of_ble_eq_true rfl) dL_law_356 ⟨(show _ ≤ 600000 by omega), (show _ ≤ 7302250 by omega)⟩) (fun r1 σ1 H locs hw hO => ?_)
  refine lv_aload_n hx hb dL_law_359 rfl (lv_at hl 2 rfl) ?_
  refine lv_aload_n hx hb dL_law_360 rfl (lv_at hl 0 rfl) ?_
  refine lv_iload_n hx hb dL_law_361 rfl (lv_at hl 3 rfl) ?_
  refine lv_iconst (v := 1) hx hb dL_law_362 (by decide) ?_
  refine lv_iadd hx hb dL_law_363 ?_
  refine va_sld hx hb hX hbl hbA hO.2.2 (hin 1 (show ¬ ((1 : Int32) < 0 ∨ 6 ≤ (1 : Int32).toNatClampNeg) by decide)) dL_law_364 ?_
  refine x_calli C0 hO (x_runV (As := [.int (xs (i + 1).toNatClampNeg)]) (rest := [.int r1]) C0 hO (kX8_rise l g _ (xs (i + 1).toNatClampNeg) σ1 _ hw) 1 rfl (xRecv C0 hO (j := 24) rfl rfl) gL_X8_rise rfl rfl rfl hdX8_rise ⟨Nat.le_of_ble_eq_true rfl, Nat.le_of_ble_eq_true rfl⟩ hl.1 rfl (Nat.le_of_ble_eq_true rfl) dL_law_365 ⟨(show _ ≤ 600000 by omega), (show _ ≤ 7302250 by omega)⟩) (fun r2 σ2 H locs hw hO => ?_)
  obtain ⟨hr, hG⟩ := hw
  refine lv_icmp_eq (tgt := 1375) hx hb dL_law_368 (by decide) (fun c9 => ?_) (fun c9 => absurd hr c9)
  exact kk _ _ _ _ (by omega) hG hO
set_option maxHeartbeats 4000000 in
set_option maxRecDepth 100000 in
theorem lc_5 {p : Program} {l : Launch} {e : Env} {s : State} {m : MethodId} {args : Array Value} {below : List Frame} {meth : Method} {c : Code} {g : XG} {A : Nat → Prop} {Q : State → Prop} {b L : Nat} {xs : Nat → Int32} (C0 : xC g A lw_tbl RL cL_law 4 ret p s m args meth c) (hX : va_X b L xs s s.heap) (hbl : b < s.heap.size) (hbA : ¬ A b) {i : Int32} (hin : ∀ c : Int32, vp_in c 6 → vp_in (i + c) L) (Gd : XS → Prop) {σ : XS} {H : Heap} {locs : List Loc} {ls : Array Slot} {cs : Nat} (hcs : cs + 1000 ≤ 600000) (hO : xO g A s σ H locs) (hl : lv_has ls 4 [(0, .ref b), (1, .ref (xa g 0)), (2, .ref (xa g 24)), (3, .int i)]) (hw : S5 Gd σ)
    (kk : ∀ (σ2 : XS) (H : Heap) (locs : List Loc) (c2 : Nat), c2 ≤ cs + 1000 → Gd σ2 → xO g A s σ2 H locs → W p l e room_1 s m args below meth c H locs c2 c2 Q (F0 m 1375 ls [])) : W p l e room_1 s m args below meth c H locs cs cs Q (F0 m 373 ls []) := by
  have hx := C0.1
  have hb := C0.2.1
  unfold S5 at hw
  refine lv_aload_n hx hb dL_law_373 rfl (lv_at hl 1 rfl) ?_
  refine lv_aload_n hx hb dL_law_374 rfl (lv_at hl 0 rfl) ?_
  refine lv_iload_n hx hb dL_law_375 rfl (lv_at hl 3 rfl) ?_
  refine lv_iconst (v := 1) hx hb dL_law_376 (by decide) ?_
  refine lv_iadd hx hb dL_law_377 ?_
  refine va_sld hx hb hX hbl hbA hO.2.2 (hin 1 (show ¬ ((1 : Int32) < 0 ∨ 6 ≤ (1 : Int32).toNatClampNeg) by decide)) dL_law_378 ?_
  refine lv_aload_n hx hb dL_law_379 rfl (lv_at hl 0 rfl) ?_
  refine lv_iload_n hx hb dL_law_380 rfl (lv_at hl 3 rfl) ?_
  refine lv_iconst (v := 2) hx hb dL_law_381 (by decide) ?_
  refine lv_iadd hx hb dL_law_382 ?_
  refine va_sld hx hb hX hbl hbA hO.2.2 (hin 2 (show ¬ ((2 : Int32) < 0 ∨ 6 ≤ (2 : Int32).toNatClampNeg) by decide)) dL_law_383 ?_
  refine lv_aload_n hx hb dL_law_384 rfl (lv_at hl 0 rfl) ?_
  refine lv_iload_n hx hb dL_law_385 rfl (lv_at hl 3 rfl) ?_
  refine lv_iconst (v := 3) hx hb dL_law_386 (by decide) ?_
  refine lv_iadd hx hb dL_law_387 ?_
  refine va_sld hx hb hX hbl hbA hO.2.2 (hin 3 (show ¬ ((3 : Int32) < 0 ∨ 6 ≤ (3 : Int32).toNatClampNeg) by decide)) dL_law_388 ?_
  replace hw := hw (xs (i + 1).toNatClampNeg) (xs (i + 2).toNatClampNeg) (xs (i + 3).toNatClampNeg)
  refine x_calli C0 hO (x_runV (As := [.int (xs (i + 1).toNatClampNeg), .int (xs (i + 2).toNatClampNeg), .int (xs (i + 3).toNatClampNeg)]) (rest := []) C0 hO (kX7_move l g _ (xs (i + 1).toNatClampNeg) (xs (i + 2).toNatClampNeg) (xs (i + 3).toNatClampNeg) σ _ hw) 3 rfl (xRecv C0 hO (j := 0) rfl rfl) gL_X7_move rfl rfl rfl hdX7_move ⟨Nat.le_of_ble_eq_true rfl, Nat.le_of_ble_eq_true rfl⟩ hl.1 rfl (Nat.le_of_ble_eq_true rfl) dL_law_389 ⟨(show _ ≤ 600000 by omega), (show _ ≤ 7302250 by omega)⟩) (fun r1 σ1 H locs hw hO => ?_)
  refine lv_aload_n hx hb dL_law_392 rfl (lv_at hl 2 rfl) ?_
  refine lv_aload_n hx hb dL_law_393 rfl (lv_at hl 0 rfl) ?_
  refine lv_iload_n hx hb dL_law_394 rfl (lv_at hl 3 rfl) ?_
  refine lv_iconst (v := 1) hx hb dL_law_395 (by decide) ?_
  refine lv_iadd hx hb dL_law_396 ?_
  refine va_sld hx hb hX hbl hbA hO.2.2 (hin 1 (show ¬ ((1 : Int32) < 0 ∨ 6 ≤ (1 : Int32).toNatClampNeg) by decide)) dL_law_397 ?_
  refine lv_aload_n hx hb dL_law_398 rfl (lv_at hl 0 rfl) ?_
  refine lv_iload_n hx hb dL_law_399 rfl (lv_at hl 3 rfl) ?_
  refine lv_iconst (v := 2) hx hb dL_law_400 (by decide) ?_
  refine lv_iadd hx hb dL_law_401 ?_
  refine va_sld hx hb hX hbl hbA hO.2.2 (hin 2 (show ¬ ((2 : Int32) < 0 ∨ 6 ≤ (2 : Int32).toNatClampNeg) by decide)) dL_law_402 ?_
  refine lv_aload_n hx hb dL_law_403 rfl (lv_at hl 0 rfl) ?_
  refine lv_iload_n hx hb dL_law_404 rfl (lv_at hl 3 rfl) ?_
  refine lv_iconst (v := 3) hx hb dL_law_405 (by decide) ?_
  refine lv_iadd hx hb dL_law_406 ?_
  refine va_sld hx hb hX hbl hbA hO.2.2 (hin 3 (show ¬ ((3 : Int32) < 0 ∨ 6 ≤ (3 : Int32).toNatClampNeg) by decide)) dL_law_407 ?_
  refine x_calli C0 hO (x_runV (As := [.int (xs (i + 1).toNatClampNeg), .int (xs (i + 2).toNatClampNeg), .int (xs (i + 3).toNatClampNeg)]) (rest := [.int r1]) C0 hO (kX8_move l g _ (xs (i + 1).toNatClampNeg) (xs (i + 2).toNatClampNeg) (xs (i + 3).toNatClampNeg) σ1 _ hw) 3 rfl (xRecv C0 hO (j := 24) rfl rfl) gL_X8_move rfl rfl rfl hdX8_move ⟨Nat.le_of_ble_eq_true rfl, Nat.le_of_ble_eq_true rfl⟩ hl.1 rfl (Nat.le_of_ble_eq_true rfl) dL_law_408 ⟨(show _ ≤ 600000 by omega), (show _ ≤ 7302250 by omega)⟩) (fun r2 σ2 H locs hw hO => ?_)
  obtain ⟨hr, hG⟩ := hw
  refine lv_icmp_eq (tgt := 1375) hx hb dL_law_411 (by decide) (fun c9 => ?_) (fun c9 => absurd hr c9)
  exact kk _ _ _ _ (by omega) hG hO
set_option maxHeartbeats 4000000 in
set_option maxRecDepth 100000 in
theorem lc_6 {p : Program} {l : Launch} {e : Env} {s : State} {m : MethodId} {args : Array Value} {below : List Frame} {meth : Method} {c : Code} {g : XG} {A : Nat → Prop} {Q : State → Prop} {b L : Nat} {xs : Nat → Int32} (C0 : xC g A lw_tbl RL cL_law 4 ret p s m args meth c) (hX : va_X b L xs s s.heap) (hbl : b < s.heap.size) (hbA : ¬ A b) {i : Int32} (hin : ∀ c : Int32, vp_in c 6 → vp_in (i + c) L) (Gd : XS → Prop) {σ : XS} {H : Heap} {locs : List Loc} {ls : Array Slot} {cs : Nat} (hcs : cs + 1000 ≤ 600000) (hO : xO g A s σ H locs) (hl : lv_has ls 4 [(0, .ref b), (1, .ref (xa g 0)), (2, .ref (xa g 24)), (3, .int i)]) (hw : S6 Gd σ)
    (kk : ∀ (σ2 : XS) (H : Heap) (locs : List Loc) (c2 : Nat), c2 ≤ cs + 1000 → Gd σ2 → xO g A s σ2 H locs → W p l e room_1 s m args below meth c H locs c2 c2 Q (F0 m 1375 ls [])) : W p l e room_1 s m args below meth c H locs cs cs Q (F0 m 416 ls []) := by
  have hx := C0.1
  have hb := C0.2.1
  unfold S6 at hw
  refine lv_aload_n hx hb dL_law_416 rfl (lv_at hl 1 rfl) ?_
  refine lv_aload_n hx hb dL_law_417 rfl (lv_at hl 0 rfl) ?_
  refine lv_iload_n hx hb dL_law_418 rfl (lv_at hl 3 rfl) ?_
  refine lv_iconst (v := 1) hx hb dL_law_419 (by decide) ?_
  refine lv_iadd hx hb dL_law_420 ?_
  refine va_sld hx hb hX hbl hbA hO.2.2 (hin 1 (show ¬ ((1 : Int32) < 0 ∨ 6 ≤ (1 : Int32).toNatClampNeg) by decide)) dL_law_421 ?_
  replace hw := hw (xs (i + 1).toNatClampNeg)
  refine x_calli C0 hO (x_runV (As := [.int (xs (i + 1).toNatClampNeg)]) (rest := []) C0 hO (kX7_unmove l g _ (xs (i + 1).toNatClampNeg) σ _ hw) 1 rfl (xRecv C0 hO (j := 0) rfl rfl) gL_X7_unmove rfl rfl rfl hdX7_unmove ⟨Nat.le_of_ble_eq_true rfl, Nat.le_of_ble_eq_true rfl⟩ hl.1 rfl (Nat.le_of_ble_eq_true rfl) dL_law_422 ⟨(show _ ≤ 600000 by omega), (show _ ≤ 7302250 by omega)⟩) (fun r1 σ1 H locs hw hO => ?_)
  refine lv_aload_n hx hb dL_law_425 rfl (lv_at hl 2 rfl) ?_
  refine lv_aload_n hx hb dL_law_426 rfl (lv_at hl 0 rfl) ?_
  refine lv_iload_n hx hb dL_law_427 rfl (lv_at hl 3 rfl) ?_
  refine lv_iconst (v := 1) hx hb dL_law_428 (by decide) ?_
  refine lv_iadd hx hb dL_law_429 ?_
  refine va_sld hx hb hX hbl hbA hO.2.2 (hin 1 (show ¬ ((1 : Int32) < 0 ∨ 6 ≤ (1 : Int32).toNatClampNeg) by decide)) dL_law_430 ?_
  refine x_calli C0 hO (x_runV (As := [.int (xs (i + 1).toNatClampNeg)]) (rest := [.int r1]) C0 hO (kX8_unmove l g _ (xs (i + 1).toNatClampNeg) σ1 _ hw) 1 rfl (xRecv C0 hO (j := 24) rfl rfl) gL_X8_unmove rfl rfl rfl hdX8_unmove ⟨Nat.le_of_ble_eq_true rfl, Nat.le_of_ble_eq_true rfl⟩ hl.1 rfl (Nat.le_of_ble_eq_true rfl) dL_law_431 ⟨(show _ ≤ 600000 by omega), (show _ ≤ 7302250 by omega)⟩) (fun r2 σ2 H locs hw hO => ?_)
  obtain ⟨hr, hG⟩ := hw
  refine lv_icmp_eq (tgt := 1375) hx hb dL_law_434 (by decide) (fun c9 => ?_) (fun c9 => absurd hr c9)
  exact kk _ _ _ _ (by omega) hG hO
set_option maxHeartbeats 4000000 in
set_option maxRecDepth 100000 in
theorem lc_7 {p : Program} {l : Launch} {e : Env} {s : State} {m : MethodId} {args : Array Value} {below : List Frame} {meth : Method} {c : Code} {g : XG} {A : Nat → Prop} {Q : State → Prop} {b L : Nat} {xs : Nat → Int32} (C0 : xC g A lw_tbl RL cL_law 4 ret p s m args meth c) (hX : va_X b L xs s s.heap) (hbl : b < s.heap.size) (hbA : ¬ A b) {i : Int32} (hin : ∀ c : Int32, vp_in c 6 → vp_in (i + c) L) (Gd : XS → Prop) {σ : XS} {H : Heap} {locs : List Loc} {ls : Array Slot} {cs : Nat} (hcs : cs + 1000 ≤ 600000) (hO : xO g A s σ H locs) (hl : lv_has ls 4 [(0, .ref b), (1, .ref (xa g 0)), (2, .ref (xa g 24)), (3, .int i)]) (hw : S7 Gd σ)
    (kk : ∀ (σ2 : XS) (H : Heap) (locs : List Loc) (c2 : Nat), c2 ≤ cs + 1000 → Gd σ2 → xO g A s σ2 H locs → W p l e room_1 s m args below meth c H locs c2 c2 Q (F0 m 1375 ls [])) : W p l e room_1 s m args below meth c H locs cs cs Q (F0 m 439 ls []) := by
  have hx := C0.1
  have hb := C0.2.1
  unfold S7 at hw
  refine lv_aload_n hx hb dL_law_439 rfl (lv_at hl 1 rfl) ?_
  refine lv_aload_n hx hb dL_law_440 rfl (lv_at hl 0 rfl) ?_
  refine lv_iload_n hx hb dL_law_441 rfl (lv_at hl 3 rfl) ?_
  refine lv_iconst (v := 1) hx hb dL_law_442 (by decide) ?_
  refine lv_iadd hx hb dL_law_443 ?_
  refine va_sld hx hb hX hbl hbA hO.2.2 (hin 1 (show ¬ ((1 : Int32) < 0 ∨ 6 ≤ (1 : Int32).toNatClampNeg) by decide)) dL_law_444 ?_
  refine lv_aload_n hx hb dL_law_445 rfl (lv_at hl 0 rfl) ?_
  refine lv_iload_n hx hb dL_law_446 rfl (lv_at hl 3 rfl) ?_
  refine lv_iconst (v := 2) hx hb dL_law_447 (by decide) ?_
  refine lv_iadd hx hb dL_law_448 ?_
  refine va_sld hx hb hX hbl hbA hO.2.2 (hin 2 (show ¬ ((2 : Int32) < 0 ∨ 6 ≤ (2 : Int32).toNatClampNeg) by decide)) dL_law_449 ?_
  replace hw := hw (xs (i + 1).toNatClampNeg) (xs (i + 2).toNatClampNeg)
  refine x_calli C0 hO (x_runV (As := [.int (xs (i + 1).toNatClampNeg), .int (xs (i + 2).toNatClampNeg)]) (rest := []) C0 hO (kX7_scrape l g _ (xs (i + 1).toNatClampNeg) (xs (i + 2).toNatClampNeg) σ _ hw) 2 rfl (xRecv C0 hO (j := 0) rfl rfl) gL_X7_scrape rfl rfl rfl hdX7_scrape ⟨Nat.le_of_ble_eq_true rfl, Nat.le_of_ble_eq_true rfl⟩ hl.1 rfl (Nat.le_of_ble_eq_true rfl) dL_law_450 ⟨(show _ ≤ 600000 by omega), (show _ ≤ 7302250 by omega)⟩) (fun r1 σ1 H locs hw hO => ?_)
  refine lv_aload_n hx hb dL_law_453 rfl (lv_at hl 2 rfl) ?_
  refine lv_aload_n hx hb dL_law_454 rfl (lv_at hl 0 rfl) ?_
  refine lv_iload_n hx hb dL_law_455 rfl (lv_at hl 3 rfl) ?_
  refine lv_iconst (v := 1) hx hb dL_law_456 (by decide) ?_
  refine lv_iadd hx hb dL_law_457 ?_
  refine va_sld hx hb hX hbl hbA hO.2.2 (hin 1 (show ¬ ((1 : Int32) < 0 ∨ 6 ≤ (1 : Int32).toNatClampNeg) by decide)) dL_law_458 ?_
  refine lv_aload_n hx hb dL_law_459 rfl (lv_at hl 0 rfl) ?_
  refine lv_iload_n hx hb dL_law_460 rfl (lv_at hl 3 rfl) ?_
  refine lv_iconst (v := 2) hx hb dL_law_461 (by decide) ?_
  refine lv_iadd hx hb dL_law_462 ?_
  refine va_sld hx hb hX hbl hbA hO.2.2 (hin 2 (show ¬ ((2 : Int32) < 0 ∨ 6 ≤ (2 : Int32).toNatClampNeg) by decide)) dL_law_463 ?_
  refine x_calli C0 hO (x_runV (As := [.int (xs (i + 1).toNatClampNeg), .int (xs (i + 2).toNatClampNeg)]) (rest := [.int r1]) C0 hO (kX8_scrape l g _ (xs (i + 1).toNatClampNeg) (xs (i + 2).toNatClampNeg) σ1 _ hw) 2 rfl (xRecv C0 hO (j := 24) rfl rfl) gL_X8_scrape rfl rfl rfl hdX8_scrape ⟨Nat.le_of_ble_eq_true rfl, Nat.le_of_ble_eq_true rfl⟩ hl.1 rfl (Nat.le_of_ble_eq_true rfl) dL_law_464 ⟨(show _ ≤ 600000 by omega), (show _ ≤ 7302250 by omega)⟩) (fun r2 σ2 H locs hw hO => ?_)
  obtain ⟨hr, hG⟩ := hw
  refine lv_icmp_eq (tgt := 1375) hx hb dL_law_467 (by decide) (fun c9 => ?_) (fun c9 => absurd hr c9)
  exact kk _ _ _ _ (by omega) hG hO
set_option maxHeartbeats 4000000 in
set_option maxRecDepth 100000 in
theorem lc_8 {p : Program} {l : Launch} {e : Env} {s : State} {m : MethodId} {args : Array Value} {below : List Frame} {meth : Method} {c : Code} {g : XG} {A : Nat → Prop} {Q : State → Prop} {b L : Nat} {xs : Nat → Int32} (C0 : xC g A lw_tbl RL cL_law 4 ret p s m args meth c) (hX : va_X b L xs s s.heap) (hbl : b < s.heap.size) (hbA : ¬ A b) {i : Int32} (hin : ∀ c : Int32, vp_in c 6 → vp_in (i + c) L) (Gd : XS → Prop) {σ : XS} {H : Heap} {locs : List Loc} {ls : Array Slot} {cs : Nat} (hcs : cs + 1000 ≤ 600000) (hO : xO g A s σ H locs) (hl : lv_has ls 4 [(0, .ref b), (1, .ref (xa g 0)), (2, .ref (xa g 24)), (3, .int i)]) (hw : S8 Gd σ)
    (kk : ∀ (σ2 : XS) (H : Heap) (locs : List Loc) (c2 : Nat), c2 ≤ cs + 1000 → Gd σ2 → xO g A s σ2 H locs → W p l e room_1 s m args below meth c H locs c2 c2 Q (F0 m 1375 ls [])) : W p l e room_1 s m args below meth c H locs cs cs Q (F0 m 472 ls []) := by
  have hx := C0.1
  have hb := C0.2.1
  unfold S8 at hw
  refine lv_aload_n hx hb dL_law_472 rfl (lv_at hl 1 rfl) ?_
  refine lv_aload_n hx hb dL_law_473 rfl (lv_at hl 0 rfl) ?_
  refine lv_iload_n hx hb dL_law_474 rfl (lv_at hl 3 rfl) ?_
  refine lv_iconst (v := 1) hx hb dL_law_475 (by decide) ?_
  refine lv_iadd hx hb dL_law_476 ?_
  refine va_sld hx hb hX hbl hbA hO.2.2 (hin 1 (show ¬ ((1 : Int32) < 0 ∨ 6 ≤ (1 : Int32).toNatClampNeg) by decide)) dL_law_477 ?_
  replace hw := hw (xs (i + 1).toNatClampNeg)
  refine x_calli C0 hO (x_runV (As := [.int (xs (i + 1).toNatClampNeg)]) (rest := []) C0 hO (kX7_unscrape l g _ (xs (i + 1).toNatClampNeg) σ _ hw) 1 rfl (xRecv C0 hO (j := 0) rfl rfl) gL_X7_unscrape rfl rfl rfl hdX7_unscrape ⟨Nat.le_of_ble_eq_true rfl, Nat.le_of_ble_eq_true rfl⟩ hl.1 rfl (Nat.le_of_ble_eq_true rfl) dL_law_478 ⟨(show _ ≤ 600000 by omega), (show _ ≤ 7302250 by omega)⟩) (fun r1 σ1 H locs hw hO => ?_)
  refine lv_aload_n hx hb dL_law_481 rfl (lv_at hl 2 rfl) ?_
  refine lv_aload_n hx hb dL_law_482 rfl (lv_at hl 0 rfl) ?_
  refine lv_iload_n hx hb dL_law_483 rfl (lv_at hl 3 rfl) ?_
  refine lv_iconst (v := 1) hx hb dL_law_484 (by decide) ?_
  refine lv_iadd hx hb dL_law_485 ?_
  refine va_sld hx hb hX hbl hbA hO.2.2 (hin 1 (show ¬ ((1 : Int32) < 0 ∨ 6 ≤ (1 : Int32).toNatClampNeg) by decide)) dL_law_486 ?_
  refine x_calli C0 hO (x_runV (As := [.int (xs (i + 1).toNatClampNeg)]) (rest := [.int r1]) C0 hO (kX8_unscrape l g _ (xs (i + 1).toNatClampNeg) σ1 _ hw) 1 rfl (xRecv C0 hO (j := 24) rfl rfl) gL_X8_unscrape rfl rfl rfl hdX8_unscrape ⟨Nat.le_of_ble_eq_true rfl, Nat.le_of_ble_eq_true rfl⟩ hl.1 rfl (Nat.le_of_ble_eq_true rfl) dL_law_487 ⟨(show _ ≤ 600000 by omega), (show _ ≤ 7302250 by omega)⟩) (fun r2 σ2 H locs hw hO => ?_)
  obtain ⟨hr, hG⟩ := hw
  refine lv_icmp_eq (tgt := 1375) hx hb dL_law_490 (by decide) (fun c9 => ?_) (fun c9 => absurd hr c9)
  exact kk _ _ _ _ (by omega) hG hO
set_option maxHeartbeats 4000000 in
set_option maxRecDepth 100000 in
theorem lc_9 {p : Program} {l : Launch} {e : Env} {s : State} {m : MethodId} {args : Array Value} {below : List Frame} {meth : Method} {c : Code} {g : XG} {A : Nat → Prop} {Q : State → Prop} {b L : Nat} {xs : Nat → Int32} (C0 : xC g A lw_tbl RL cL_law 4 ret p s m args meth c) (hX : va_X b L xs s s.heap) (hbl : b < s.heap.size) (hbA : ¬ A b) {i : Int32} (hin : ∀ c : Int32, vp_in c 6 → vp_in (i + c) L) (Gd : XS → Prop) {σ : XS} {H : Heap} {locs : List Loc} {ls : Array Slot} {cs : Nat} (hcs : cs + 1000 ≤ 600000) (hO : xO g A s σ H locs) (hl : lv_has ls 4 [(0, .ref b), (1, .ref (xa g 0)), (2, .ref (xa g 24)), (3, .int i)]) (hw : S9 Gd σ)
    (kk : ∀ (σ2 : XS) (H : Heap) (locs : List Loc) (c2 : Nat), c2 ≤ cs + 1000 → Gd σ2 → xO g A s σ2 H locs → W p l e room_1 s m args below meth c H locs c2 c2 Q (F0 m 1375 ls [])) : W p l e room_1 s m args below meth c H locs cs cs Q (F0 m 495 ls []) := by
  have hx := C0.1
  have hb := C0.2.1
  unfold S9 at hw
  refine lv_aload_n hx hb dL_law_495 rfl (lv_at hl 1 rfl) ?_
  refine lv_aload_n hx hb dL_law_496 rfl (lv_at hl 0 rfl) ?_
  refine lv_iload_n hx hb dL_law_497 rfl (lv_at hl 3 rfl) ?_
  refine lv_iconst (v := 1) hx hb dL_law_498 (by decide) ?_
  refine lv_iadd hx hb dL_law_499 ?_
  refine va_sld hx hb hX hbl hbA hO.2.2 (hin 1 (show ¬ ((1 : Int32) < 0 ∨ 6 ≤ (1 : Int32).toNatClampNeg) by decide)) dL_law_500 ?_
  refine lv_aload_n hx hb dL_law_501 rfl (lv_at hl 0 rfl) ?_
  refine lv_iload_n hx hb dL_law_502 rfl (lv_at hl 3 rfl) ?_
  refine lv_iconst (v := 2) hx hb dL_law_503 (by decide) ?_
  refine lv_iadd hx hb dL_law_504 ?_
  refine va_sld hx hb hX hbl hbA hO.2.2 (hin 2 (show ¬ ((2 : Int32) < 0 ∨ 6 ≤ (2 : Int32).toNatClampNeg) by decide)) dL_law_505 ?_
  replace hw := hw (xs (i + 1).toNatClampNeg) (xs (i + 2).toNatClampNeg)
  refine x_calli C0 hO (x_runV (As := [.int (xs (i + 1).toNatClampNeg), .int (xs (i + 2).toNatClampNeg)]) (rest := []) C0 hO (kX7_layers l g _ (xs (i + 1).toNatClampNeg) (xs (i + 2).toNatClampNeg) σ _ hw) 2 rfl (xRecv C0 hO (j := 0) rfl rfl) gL_X7_layers rfl rfl rfl hdX7_layers ⟨Nat.le_of_ble_eq_true rfl, Nat.le_of_ble_eq_true rfl⟩ hl.1 rfl (Nat.le_of_ble_eq_true rfl) dL_law_506 ⟨(show _ ≤ 600000 by omega), (show _ ≤ 7302250 by omega)⟩) (fun r1 σ1 H locs hw hO => ?_)
  refine lv_aload_n hx hb dL_law_509 rfl (lv_at hl 2 rfl) ?_
  refine lv_aload_n hx hb dL_law_510 rfl (lv_at hl 0 rfl) ?_
  refine lv_iload_n hx hb dL_law_511 rfl (lv_at hl 3 rfl) ?_
  refine lv_iconst (v := 1) hx hb dL_law_512 (by decide) ?_
  refine lv_iadd hx hb dL_law_513 ?_
  refine va_sld hx hb hX hbl hbA hO.2.2 (hin 1 (show ¬ ((1 : Int32) < 0 ∨ 6 ≤ (1 : Int32).toNatClampNeg) by decide)) dL_law_514 ?_
  refine lv_aload_n hx hb dL_law_515 rfl (lv_at hl 0 rfl) ?_
  refine lv_iload_n hx hb dL_law_516 rfl (lv_at hl 3 rfl) ?_
  refine lv_iconst (v := 2) hx hb dL_law_517 (by decide) ?_
  refine lv_iadd hx hb dL_law_518 ?_
  refine va_sld hx hb hX hbl hbA hO.2.2 (hin 2 (show ¬ ((2 : Int32) < 0 ∨ 6 ≤ (2 : Int32).toNatClampNeg) by decide)) dL_law_519 ?_
  refine x_calli C0 hO (x_runV (As := [.int (xs (i + 1).toNatClampNeg), .int (xs (i + 2).toNatClampNeg)]) (rest := [.int r1]) C0 hO (kX8_layers l g _ (xs (i + 1).toNatClampNeg) (xs (i + 2).toNatClampNeg) σ1 _ hw) 2 rfl (xRecv C0 hO (j := 24) rfl rfl) gL_X8_layers rfl rfl rfl hdX8_layers ⟨Nat.le_of_ble_eq_true rfl, Nat.le_of_ble_eq_true rfl⟩ hl.1 rfl (Nat.le_of_ble_eq_true rfl) dL_law_520 ⟨(show _ ≤ 600000 by omega), (show _ ≤ 7302250 by omega)⟩) (fun r2 σ2 H locs hw hO => ?_)
  obtain ⟨hr, hG⟩ := hw
  refine lv_icmp_eq (tgt := 1375) hx hb dL_law_523 (by decide) (fun c9 => ?_) (fun c9 => absurd hr c9)
  exact kk _ _ _ _ (by omega) hG hO
set_option maxHeartbeats 4000000 in
set_option maxRecDepth 100000 in
theorem lc_10 {p : Program} {l : Launch} {e : Env} {s : State} {m : MethodId} {args : Array Value} {below : List Frame} {meth : Method} {c : Code} {g : XG} {A : Nat → Prop} {Q : State → Prop} {b L : Nat} {xs : Nat → Int32} (C0 : xC g A lw_tbl RL cL_law 4 ret p s m args meth c) (hX : va_X b L xs s s.heap) (hbl : b < s.heap.size) (hbA : ¬ A b) {i : Int32} (hin : ∀ c : Int32, vp_in c 6 → vp_in (i + c) L) (Gd : XS → Prop) {σ : XS} {H : Heap} {locs : List Loc} {ls : Array Slot} {cs : Nat} (hcs : cs + 1000 ≤ 600000) (hO : xO g A s σ H locs) (hl : lv_has ls 4 [(0, .ref b), (1, .ref (xa g 0)), (2, .ref (xa g 24)), (3, .int i)]) (hw : S10 Gd σ)
    (kk : ∀ (σ2 : XS) (H : Heap) (locs : List Loc) (c2 : Nat), c2 ≤ cs + 1000 → Gd σ2 → xO g A s σ2 H locs → W p l e room_1 s m args below meth c H locs c2 c2 Q (F0 m 1375 ls [])) : W p l e room_1 s m args below meth c H locs cs cs Q (F0 m 528 ls []) := by
  have hx := C0.1
  have hb := C0.2.1
  unfold S10 at hw
  refine lv_aload_n hx hb dL_law_528 rfl (lv_at hl 1 rfl) ?_
  refine lv_aload_n hx hb dL_law_529 rfl (lv_at hl 0 rfl) ?_
  refine lv_iload_n hx hb dL_law_530 rfl (lv_at hl 3 rfl) ?_
  refine lv_iconst (v := 1) hx hb dL_law_531 (by decide) ?_
  refine lv_iadd hx hb dL_law_532 ?_
  refine va_sld hx hb hX hbl hbA hO.2.2 (hin 1 (show ¬ ((1 : Int32) < 0 ∨ 6 ≤ (1 : Int32).toNatClampNeg) by decide)) dL_law_533 ?_
  refine lv_aload_n hx hb dL_law_534 rfl (lv_at hl 0 rfl) ?_
  refine lv_iload_n hx hb dL_law_535 rfl (lv_at hl 3 rfl) ?_
  refine lv_iconst (v := 2) hx hb dL_law_536 (by decide) ?_
  refine lv_iadd hx hb dL_law_537 ?_
  refine va_sld hx hb hX hbl hbA hO.2.2 (hin 2 (show ¬ ((2 : Int32) < 0 ∨ 6 ≤ (2 : Int32).toNatClampNeg) by decide)) dL_law_538 ?_
  refine lv_aload_n hx hb dL_law_539 rfl (lv_at hl 0 rfl) ?_
  refine lv_iload_n hx hb dL_law_540 rfl (lv_at hl 3 rfl) ?_
  refine lv_iconst (v := 3) hx hb dL_law_541 (by decide) ?_
  refine lv_iadd hx hb dL_law_542 ?_
  refine va_sld hx hb hX hbl hbA hO.2.2 (hin 3 (show ¬ ((3 : Int32) < 0 ∨ 6 ≤ (3 : Int32).toNatClampNeg) by decide)) dL_law_543 ?_
  refine lv_aload_n hx hb dL_law_544 rfl (lv_at hl 0 rfl) ?_
  refine lv_iload_n hx hb dL_law_545 rfl (lv_at hl 3 rfl) ?_
  refine lv_iconst (v := 4) hx hb dL_law_546 (by decide) ?_
  refine lv_iadd hx hb dL_law_547 ?_
  refine va_sld hx hb hX hbl hbA hO.2.2 (hin 4 (show ¬ ((4 : Int32) < 0 ∨ 6 ≤ (4 : Int32).toNatClampNeg) by decide)) dL_law_548 ?_
  replace hw := hw (xs (i + 1).toNatClampNeg) (xs (i + 2).toNatClampNeg) (xs (i + 3).toNatClampNeg) (xs (i + 4).toNatClampNeg)
  refine x_calli C0 hO (x_runV (As := [.int (xs (i + 1).toNatClampNeg), .int (xs (i + 2).toNatClampNeg), .int (xs (i + 3).toNatClampNeg), .int (xs (i + 4).toNatClampNeg)]) (rest := []) C0 hO (kX7_under l g _ (xs (i + 1).toNatClampNeg) (xs (i + 2).toNatClampNeg) (xs (i + 3).toNatClampNeg) (xs (i + 4).toNatClampNeg) σ _ hw) 4 rfl (xRecv C0 hO (j := 0) rfl rfl) gL_X7_under rfl rfl rfl hdX7_under ⟨Nat.le_of_ble_eq_true rfl, Nat.le_of_ble_eq_true rfl⟩ hl.1 rfl (Nat.le_of_ble_eq_true rfl) dL_law_549 ⟨(show _ ≤ 600000 by omega), (show _ ≤ 7302250 by omega)⟩) (fun r1 σ1 H locs hw hO => ?_)
  refine lv_aload_n hx hb dL_law_552 rfl (lv_at hl 2 rfl) ?_
  refine lv_aload_n hx hb dL_law_553 rfl (lv_at hl 0 rfl) ?_
  refine lv_iload_n hx hb dL_law_554 rfl (lv_at hl 3 rfl) ?_
  refine lv_iconst (v := 1) hx hb dL_law_555 (by decide) ?_
  refine lv_iadd hx hb dL_law_556 ?_
  refine va_sld hx hb hX hbl hbA hO.2.2 (hin 1 (show ¬ ((1 : Int32) < 0 ∨ 6 ≤ (1 : Int32).toNatClampNeg) by decide)) dL_law_557 ?_
  refine lv_aload_n hx hb dL_law_558 rfl (lv_at hl 0 rfl) ?_
  refine lv_iload_n hx hb dL_law_559 rfl (lv_at hl 3 rfl) ?_
  refine lv_iconst (v := 2) hx hb dL_law_560 (by decide) ?_
  refine lv_iadd hx hb dL_law_561 ?_
  refine va_sld hx hb hX hbl hbA hO.2.2 (hin 2 (show ¬ ((2 : Int32) < 0 ∨ 6 ≤ (2 : Int32).toNatClampNeg) by decide)) dL_law_562 ?_
  refine lv_aload_n hx hb dL_law_563 rfl (lv_at hl 0 rfl) ?_
  refine lv_iload_n hx hb dL_law_564 rfl (lv_at hl 3 rfl) ?_
  refine lv_iconst (v := 3) hx hb dL_law_565 (by decide) ?_
  refine lv_iadd hx hb dL_law_566 ?_
  refine va_sld hx hb hX hbl hbA hO.2.2 (hin 3 (show ¬ ((3 : Int32) < 0 ∨ 6 ≤ (3 : Int32).toNatClampNeg) by decide)) dL_law_567 ?_
  refine lv_aload_n hx hb dL_law_568 rfl (lv_at hl 0 rfl) ?_
  refine lv_iload_n hx hb dL_law_569 rfl (lv_at hl 3 rfl) ?_
  refine lv_iconst (v := 4) hx hb dL_law_570 (by decide) ?_
  refine lv_iadd hx hb dL_law_571 ?_
  refine va_sld hx hb hX hbl hbA hO.2.2 (hin 4 (show ¬ ((4 : Int32) < 0 ∨ 6 ≤ (4 : Int32).toNatClampNeg) by decide)) dL_law_572 ?_
  refine x_calli C0 hO (x_runV (As := [.int (xs (i + 1).toNatClampNeg), .int (xs (i + 2).toNatClampNeg), .int (xs (i + 3).toNatClampNeg), .int (xs (i + 4).toNatClampNeg)]) (rest := [.int r1]) C0 hO (kX8_under l g _ (xs (i + 1).toNatClampNeg) (xs (i + 2).toNatClampNeg) (xs (i + 3).toNatClampNeg) (xs (i + 4).toNatClampNeg) σ1 _ hw) 4 rfl (xRecv C0 hO (j := 24) rfl rfl) gL_X8_under rfl rfl rfl hdX8_under ⟨Nat.le_of_ble_eq_true rfl, Nat.le_of_ble_eq_true rfl⟩ hl.1 rfl (Nat.le_of_ble_eq_true rfl) dL_law_573 ⟨(show _ ≤ 600000 by omega), (show _ ≤ 7302250 by omega)⟩) (fun r2 σ2 H locs hw hO => ?_)
  obtain ⟨hr, hG⟩ := hw
  refine lv_icmp_eq (tgt := 1375) hx hb dL_law_576 (by decide) (fun c9 => ?_) (fun c9 => absurd hr c9)
  exact kk _ _ _ _ (by omega) hG hO
set_option maxHeartbeats 4000000 in
set_option maxRecDepth 100000 in
theorem lc_11 {p : Program} {l : Launch} {e : Env} {s : State} {m : MethodId} {args : Array Value} {below : List Frame} {meth : Method} {c : Code} {g : XG} {A : Nat → Prop} {Q : State → Prop} {b L : Nat} {xs : Nat → Int32} (C0 : xC g A lw_tbl RL cL_law 4 ret p s m args meth c) (hX : va_X b L xs s s.heap) (hbl : b < s.heap.size) (hbA : ¬ A b) {i : Int32} (hin : ∀ c : Int32, vp_in c 6 → vp_in (i + c) L) (Gd : XS → Prop) {σ : XS} {H : Heap} {locs : List Loc} {ls : Array Slot} {cs : Nat} (hcs : cs + 1000 ≤ 600000) (hO : xO g A s σ H locs) (hl : lv_has ls 4 [(0, .ref b), (1, .ref (xa g 0)), (2, .ref (xa g 24)), (3, .int i)]) (hw : S11 Gd σ)
    (kk : ∀ (σ2 : XS) (H : Heap) (locs : List Loc) (c2 : Nat), c2 ≤ cs + 1000 → Gd σ2 → xO g A s σ2 H locs → W p l e room_1 s m args below meth c H locs c2 c2 Q (F0 m 1375 ls [])) : W p l e room_1 s m args below meth c H locs cs cs Q (F0 m 581 ls []) := by
  have hx := C0.1
  have hb := C0.2.1
  unfold S11 at hw
  refine lv_aload_n hx hb dL_law_581 rfl (lv_at hl 1 rfl) ?_
  refine lv_aload_n hx hb dL_law_582 rfl (lv_at hl 0 rfl) ?_
  refine lv_iload_n hx hb dL_law_583 rfl (lv_at hl 3 rfl) ?_
  refine lv_iconst (v := 1) hx hb dL_law_584 (by decide) ?_
  refine lv_iadd hx hb dL_law_585 ?_
  refine va_sld hx hb hX hbl hbA hO.2.2 (hin 1 (show ¬ ((1 : Int32) < 0 ∨ 6 ≤ (1 : Int32).toNatClampNeg) by decide)) dL_law_586 ?_
  refine lv_aload_n hx hb dL_law_587 rfl (lv_at hl 0 rfl) ?_
  refine lv_iload_n hx hb dL_law_588 rfl (lv_at hl 3 rfl) ?_
  refine lv_iconst (v := 2) hx hb dL_law_589 (by decide) ?_
  refine lv_iadd hx hb dL_law_590 ?_
  refine va_sld hx hb hX hbl hbA hO.2.2 (hin 2 (show ¬ ((2 : Int32) < 0 ∨ 6 ≤ (2 : Int32).toNatClampNeg) by decide)) dL_law_591 ?_
  replace hw := hw (xs (i + 1).toNatClampNeg) (xs (i + 2).toNatClampNeg)
  refine x_calli C0 hO (x_runV (As := [.int (xs (i + 1).toNatClampNeg), .int (xs (i + 2).toNatClampNeg)]) (rest := []) C0 hO (kX7_chair l g _ (xs (i + 1).toNatClampNeg) (xs (i + 2).toNatClampNeg) σ _ hw) 2 rfl (xRecv C0 hO (j := 0) rfl rfl) gL_X7_chair rfl rfl rfl hdX7_chair ⟨Nat.le_of_ble_eq_true rfl, Nat.le_of_ble_eq_true rfl⟩ hl.1 rfl (Nat.le_of_ble_eq_true rfl) dL_law_592 ⟨(show _ ≤ 600000 by omega), (show _ ≤ 7302250 by omega)⟩) (fun r1 σ1 H locs hw hO => ?_)
  refine lv_aload_n hx hb dL_law_595 rfl (lv_at hl 2 rfl) ?_
  refine lv_aload_n hx hb dL_law_596 rfl (lv_at hl 0 rfl) ?_
  refine lv_iload_n hx hb dL_law_597 rfl (lv_at hl 3 rfl) ?_
  refine lv_iconst (v := 1) hx hb dL_law_598 (by decide) ?_
  refine lv_iadd hx hb dL_law_599 ?_
  refine va_sld hx hb hX hbl hbA hO.2.2 (hin 1 (show ¬ ((1 : Int32) < 0 ∨ 6 ≤ (1 : Int32).toNatClampNeg) by decide)) dL_law_600 ?_
  refine lv_aload_n hx hb dL_law_601 rfl (lv_at hl 0 rfl) ?_
  refine lv_iload_n hx hb dL_law_602 rfl (lv_at hl 3 rfl) ?_
  refine lv_iconst (v := 2) hx hb dL_law_603 (by decide) ?_
  refine lv_iadd hx hb dL_law_604 ?_
  refine va_sld hx hb hX hbl hbA hO.2.2 (hin 2 (show ¬ ((2 : Int32) < 0 ∨ 6 ≤ (2 : Int32).toNatClampNeg) by decide)) dL_law_605 ?_
  refine x_calli C0 hO (x_runV (As := [.int (xs (i + 1).toNatClampNeg), .int (xs (i + 2).toNatClampNeg)]) (rest := [.int r1]) C0 hO (kX8_chair l g _ (xs (i + 1).toNatClampNeg) (xs (i + 2).toNatClampNeg) σ1 _ hw) 2 rfl (xRecv C0 hO (j := 24) rfl rfl) gL_X8_chair rfl rfl rfl hdX8_chair ⟨Nat.le_of_ble_eq_true rfl, Nat.le_of_ble_eq_true rfl⟩ hl.1 rfl (Nat.le_of_ble_eq_true rfl) dL_law_606 ⟨(show _ ≤ 600000 by omega), (show _ ≤ 7302250 by omega)⟩) (fun r2 σ2 H locs hw hO => ?_)
  obtain ⟨hr, hG⟩ := hw
  refine lv_icmp_eq (tgt := 1375) hx hb dL_law_609 (by decide) (fun c9 => ?_) (fun c9 => absurd hr c9)
  exact kk _ _ _ _ (by omega) hG hO
