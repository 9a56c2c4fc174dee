/-! the law's blocks, one for each call (wip/whole/gen/mk90.py) -/
section LB
variable {p : Program} {l : Launch} {e : Env} {s : State} {m : MethodId} {below : List Frame} {meth : Method} {c : Code} {b L : Nat} {xs : Nat → Int32} {Q : State → Prop} {D : va_G} {ls : Array Slot} {q1 q2 n : Nat}
set_option maxHeartbeats 1000000 in
theorem lb_0 (C0 : lw_At p s m meth c b L xs) (hAm : Amb_ D s) (hL : L ≤ 3072) (hn : 6 * n + 6 ≤ L) (hl : lv_has ls 4 [(0, .ref b), (1, .ref q1), (2, .ref q2), (3, .int (nI (6 * n)))]) (kk : LG_ p l e s m below meth c b D Q ls q1 q2 (n + 1) 1320) : LG_ p l e s m below meth c b D Q ls q1 q2 n 192 := by
  intro α β gX gM H locs cells slots hR hLW hq1 hq2 hce hsl
  obtain ⟨hx, hb, hr, hml, hown, hts, hX, hbl, hlocks, hgv⟩ := id C0
  obtain ⟨r, gX2, gM2, f1, f2, hR2, b1, b2, b3, b4⟩ := op_addDocument (xs (6 * n + 1)) (xs (6 * n + 2)) (xs (6 * n + 3)) (xs (6 * n + 4)) (xs (6 * n + 5)) gX gM n (by omega) hR
  have M1 := t9_addDocument 0 (xs (6 * n + 1)) (xs (6 * n + 2)) (xs (6 * n + 3)) (xs (6 * n + 4)) (xs (6 * n + 5)) gX
  have M2 := t10_addDocument 0 (xs (6 * n + 1)) (xs (6 * n + 2)) (xs (6 * n + 3)) (xs (6 * n + 4)) (xs (6 * n + 5)) gM
  rw [f1] at M1
  rw [f2] at M2
  refine lv_aload_n hx hb dL_law_192 rfl (lv_at hl 1 rfl) ?_
  refine lw_arg (6 * n) 1 C0 hLW.2.2.2.2.2 hL (by omega) hl (by decide) dL_law_193 dL_law_194 dL_law_195 dL_law_196 dL_law_197 ?_
  refine lw_arg (6 * n) 2 C0 hLW.2.2.2.2.2 hL (by omega) hl (by decide) dL_law_198 dL_law_199 dL_law_200 dL_law_201 dL_law_202 ?_
  refine lw_arg (6 * n) 3 C0 hLW.2.2.2.2.2 hL (by omega) hl (by decide) dL_law_203 dL_law_204 dL_law_205 dL_law_206 dL_law_207 ?_
  refine lw_arg (6 * n) 4 C0 hLW.2.2.2.2.2 hL (by omega) hl (by decide) dL_law_208 dL_law_209 dL_law_210 dL_law_211 dL_law_212 ?_
  refine lw_arg (6 * n) 5 C0 hLW.2.2.2.2.2 hL (by omega) hl (by decide) dL_law_213 dL_law_214 dL_law_215 dL_law_216 dL_law_217 ?_
  refine lw_call (As := [xs (6 * n + 1), xs (6 * n + 2), xs (6 * n + 3), xs (6 * n + 4), xs (6 * n + 5)]) (t1 := 9) (q1 := q1) (rest := []) (r := r) (g1 := gX2) M1 cw_cX9_addDocument mlL_13 dL_law_218 rfl (by decide) (by decide) C0 hAm hl.1 hLW hq1 (by decide) (by omega) (by omega) rfl (fun α2 H2 locs2 hLW2 hq12 => ?_)
  have hLW2 := LW_swap hLW2
  refine lv_aload_n hx hb dL_law_221 rfl (lv_at hl 2 rfl) ?_
  refine lw_arg (6 * n) 1 C0 hLW2.2.2.2.2.2 hL (by omega) hl (by decide) dL_law_222 dL_law_223 dL_law_224 dL_law_225 dL_law_226 ?_
  refine lw_arg (6 * n) 2 C0 hLW2.2.2.2.2.2 hL (by omega) hl (by decide) dL_law_227 dL_law_228 dL_law_229 dL_law_230 dL_law_231 ?_
  refine lw_arg (6 * n) 3 C0 hLW2.2.2.2.2.2 hL (by omega) hl (by decide) dL_law_232 dL_law_233 dL_law_234 dL_law_235 dL_law_236 ?_
  refine lw_arg (6 * n) 4 C0 hLW2.2.2.2.2.2 hL (by omega) hl (by decide) dL_law_237 dL_law_238 dL_law_239 dL_law_240 dL_law_241 ?_
  refine lw_arg (6 * n) 5 C0 hLW2.2.2.2.2.2 hL (by omega) hl (by decide) dL_law_242 dL_law_243 dL_law_244 dL_law_245 dL_law_246 ?_
  refine lw_call (As := [xs (6 * n + 1), xs (6 * n + 2), xs (6 * n + 3), xs (6 * n + 4), xs (6 * n + 5)]) (t1 := 10) (q1 := q2) (rest := [.int r]) (r := r) (g1 := gM2) M2 cw_cX10_addDocument mlL_17 dL_law_247 rfl (by decide) (by decide) C0 hAm hl.1 hLW2 hq2 (Nat.le_of_ble_eq_true rfl) (by omega) (by omega) rfl (fun β2 H3 locs3 hLW3 hq22 => ?_)
  refine lv_icmp_eq (tgt := 1320) hx hb dL_law_250 (by decide) (fun _ => ?_) (fun h => absurd rfl h)
  exact kk α2 β2 gX2 gM2 H3 locs3 _ _ hR2 (LW_swap hLW3) hq12 hq22 (by omega) (by omega)
set_option maxHeartbeats 1000000 in
theorem lb_1 (C0 : lw_At p s m meth c b L xs) (hAm : Amb_ D s) (hL : L ≤ 3072) (hn : 6 * n + 6 ≤ L) (hl : lv_has ls 4 [(0, .ref b), (1, .ref q1), (2, .ref q2), (3, .int (nI (6 * n)))]) (kk : LG_ p l e s m below meth c b D Q ls q1 q2 (n + 1) 1320) : LG_ p l e s m below meth c b D Q ls q1 q2 n 255 := by
  intro α β gX gM H locs cells slots hR hLW hq1 hq2 hce hsl
  obtain ⟨hx, hb, hr, hml, hown, hts, hX, hbl, hlocks, hgv⟩ := id C0
  obtain ⟨r, gX2, gM2, f1, f2, hR2, b1, b2, b3, b4⟩ := op_weight (xs (6 * n + 1)) (xs (6 * n + 2)) gX gM n (by omega) hR
  have M1 := t9_weight 0 (xs (6 * n + 1)) (xs (6 * n + 2)) gX
  have M2 := t10_weight 0 (xs (6 * n + 1)) (xs (6 * n + 2)) gM
  rw [f1] at M1
  rw [f2] at M2
  refine lv_aload_n hx hb dL_law_255 rfl (lv_at hl 1 rfl) ?_
  refine lw_arg (6 * n) 1 C0 hLW.2.2.2.2.2 hL (by omega) hl (by decide) dL_law_256 dL_law_257 dL_law_258 dL_law_259 dL_law_260 ?_
  refine lw_arg (6 * n) 2 C0 hLW.2.2.2.2.2 hL (by omega) hl (by decide) dL_law_261 dL_law_262 dL_law_263 dL_law_264 dL_law_265 ?_
  refine lw_call (As := [xs (6 * n + 1), xs (6 * n + 2)]) (t1 := 9) (q1 := q1) (rest := []) (r := r) (g1 := gX2) M1 cw_cX9_weight mlL_18 dL_law_266 rfl (by decide) (by decide) C0 hAm hl.1 hLW hq1 (by decide) (by omega) (by omega) rfl (fun α2 H2 locs2 hLW2 hq12 => ?_)
  have hLW2 := LW_swap hLW2
  refine lv_aload_n hx hb dL_law_269 rfl (lv_at hl 2 rfl) ?_
  refine lw_arg (6 * n) 1 C0 hLW2.2.2.2.2.2 hL (by omega) hl (by decide) dL_law_270 dL_law_271 dL_law_272 dL_law_273 dL_law_274 ?_
  refine lw_arg (6 * n) 2 C0 hLW2.2.2.2.2.2 hL (by omega) hl (by decide) dL_law_275 dL_law_276 dL_law_277 dL_law_278 dL_law_279 ?_
  refine lw_call (As := [xs (6 * n + 1), xs (6 * n + 2)]) (t1 := 10) (q1 := q2) (rest := [.int r]) (r := r) (g1 := gM2) M2 cw_cX10_weight mlL_22 dL_law_280 rfl (by decide) (by decide) C0 hAm hl.1 hLW2 hq2 (Nat.le_of_ble_eq_true rfl) (by omega) (by omega) rfl (fun β2 H3 locs3 hLW3 hq22 => ?_)
  refine lv_icmp_eq (tgt := 1320) hx hb dL_law_283 (by decide) (fun _ => ?_) (fun h => absurd rfl h)
  exact kk α2 β2 gX2 gM2 H3 locs3 _ _ hR2 (LW_swap hLW3) hq12 hq22 (by omega) (by omega)
set_option maxHeartbeats 1000000 in
theorem lb_2 (C0 : lw_At p s m meth c b L xs) (hAm : Amb_ D s) (hL : L ≤ 3072) (hn : 6 * n + 6 ≤ L) (hl : lv_has ls 4 [(0, .ref b), (1, .ref q1), (2, .ref q2), (3, .int (nI (6 * n)))]) (kk : LG_ p l e s m below meth c b D Q ls q1 q2 (n + 1) 1320) : LG_ p l e s m below meth c b D Q ls q1 q2 n 288 := by
  intro α β gX gM H locs cells slots hR hLW hq1 hq2 hce hsl
  obtain ⟨hx, hb, hr, hml, hown, hts, hX, hbl, hlocks, hgv⟩ := id C0
  obtain ⟨r, gX2, gM2, f1, f2, hR2, b1, b2, b3, b4⟩ := op_say (xs (6 * n + 1)) gX gM n (by omega) hR
  have M1 := t9_say 0 (xs (6 * n + 1)) gX
  have M2 := t10_say 0 (xs (6 * n + 1)) gM
  rw [f1] at M1
  rw [f2] at M2
  refine lv_aload_n hx hb dL_law_288 rfl (lv_at hl 1 rfl) ?_
  refine lw_arg (6 * n) 1 C0 hLW.2.2.2.2.2 hL (by omega) hl (by decide) dL_law_289 dL_law_290 dL_law_291 dL_law_292 dL_law_293 ?_
  refine lw_call (As := [xs (6 * n + 1)]) (t1 := 9) (q1 := q1) (rest := []) (r := r) (g1 := gX2) M1 cw_cX9_say mlL_23 dL_law_294 rfl (by decide) (by decide) C0 hAm hl.1 hLW hq1 (by decide) (by omega) (by omega) rfl (fun α2 H2 locs2 hLW2 hq12 => ?_)
  have hLW2 := LW_swap hLW2
  refine lv_aload_n hx hb dL_law_297 rfl (lv_at hl 2 rfl) ?_
  refine lw_arg (6 * n) 1 C0 hLW2.2.2.2.2.2 hL (by omega) hl (by decide) dL_law_298 dL_law_299 dL_law_300 dL_law_301 dL_law_302 ?_
  refine lw_call (As := [xs (6 * n + 1)]) (t1 := 10) (q1 := q2) (rest := [.int r]) (r := r) (g1 := gM2) M2 cw_cX10_say mlL_27 dL_law_303 rfl (by decide) (by decide) C0 hAm hl.1 hLW2 hq2 (Nat.le_of_ble_eq_true rfl) (by omega) (by omega) rfl (fun β2 H3 locs3 hLW3 hq22 => ?_)
  refine lv_icmp_eq (tgt := 1320) hx hb dL_law_306 (by decide) (fun _ => ?_) (fun h => absurd rfl h)
  exact kk α2 β2 gX2 gM2 H3 locs3 _ _ hR2 (LW_swap hLW3) hq12 hq22 (by omega) (by omega)
set_option maxHeartbeats 1000000 in
theorem lb_3 (C0 : lw_At p s m meth c b L xs) (hAm : Amb_ D s) (hL : L ≤ 3072) (hn : 6 * n + 6 ≤ L) (hl : lv_has ls 4 [(0, .ref b), (1, .ref q1), (2, .ref q2), (3, .int (nI (6 * n)))]) (kk : LG_ p l e s m below meth c b D Q ls q1 q2 (n + 1) 1320) : LG_ p l e s m below meth c b D Q ls q1 q2 n 311 := by
  intro α β gX gM H locs cells slots hR hLW hq1 hq2 hce hsl
  obtain ⟨hx, hb, hr, hml, hown, hts, hX, hbl, hlocks, hgv⟩ := id C0
  obtain ⟨r, gX2, gM2, f1, f2, hR2, b1, b2, b3, b4⟩ := op_wipe gX gM n (by omega) hR
  have M1 := t9_wipe 0 gX
  have M2 := t10_wipe 0 gM
  rw [f1] at M1
  rw [f2] at M2
  refine lv_aload_n hx hb dL_law_311 rfl (lv_at hl 1 rfl) ?_
  refine lw_call (As := []) (t1 := 9) (q1 := q1) (rest := []) (r := r) (g1 := gX2) M1 cw_cX9_wipe mlL_28 dL_law_312 rfl (by decide) (by decide) C0 hAm hl.1 hLW hq1 (by decide) (by omega) (by omega) rfl (fun α2 H2 locs2 hLW2 hq12 => ?_)
  have hLW2 := LW_swap hLW2
  refine lv_aload_n hx hb dL_law_315 rfl (lv_at hl 2 rfl) ?_
  refine lw_call (As := []) (t1 := 10) (q1 := q2) (rest := [.int r]) (r := r) (g1 := gM2) M2 cw_cX10_wipe mlL_32 dL_law_316 rfl (by decide) (by decide) C0 hAm hl.1 hLW2 hq2 (Nat.le_of_ble_eq_true rfl) (by omega) (by omega) rfl (fun β2 H3 locs3 hLW3 hq22 => ?_)
  refine lv_icmp_eq (tgt := 1320) hx hb dL_law_319 (by decide) (fun _ => ?_) (fun h => absurd rfl h)
  exact kk α2 β2 gX2 gM2 H3 locs3 _ _ hR2 (LW_swap hLW3) hq12 hq22 (by omega) (by omega)
set_option maxHeartbeats 1000000 in
theorem lb_4 (C0 : lw_At p s m meth c b L xs) (hAm : Amb_ D s) (hL : L ≤ 3072) (hn : 6 * n + 6 ≤ L) (hl : lv_has ls 4 [(0, .ref b), (1, .ref q1), (2, .ref q2), (3, .int (nI (6 * n)))]) (kk : LG_ p l e s m below meth c b D Q ls q1 q2 (n + 1) 1320) : LG_ p l e s m below meth c b D Q ls q1 q2 n 324 := by
  intro α β gX gM H locs cells slots hR hLW hq1 hq2 hce hsl
  obtain ⟨hx, hb, hr, hml, hown, hts, hX, hbl, hlocks, hgv⟩ := id C0
  obtain ⟨r, gX2, gM2, f1, f2, hR2, b1, b2, b3, b4⟩ := op_fault gX gM n (by omega) hR
  have M1 := t9_fault 0 gX
  have M2 := t10_fault 0 gM
  rw [f1] at M1
  rw [f2] at M2
  refine lv_aload_n hx hb dL_law_324 rfl (lv_at hl 1 rfl) ?_
  refine lw_call (As := []) (t1 := 9) (q1 := q1) (rest := []) (r := r) (g1 := gX2) M1 cw_cX9_fault mlL_33 dL_law_325 rfl (by decide) (by decide) C0 hAm hl.1 hLW hq1 (by decide) (by omega) (by omega) rfl (fun α2 H2 locs2 hLW2 hq12 => ?_)
  have hLW2 := LW_swap hLW2
  refine lv_aload_n hx hb dL_law_328 rfl (lv_at hl 2 rfl) ?_
  refine lw_call (As := []) (t1 := 10) (q1 := q2) (rest := [.int r]) (r := r) (g1 := gM2) M2 cw_cX10_fault mlL_36 dL_law_329 rfl (by decide) (by decide) C0 hAm hl.1 hLW2 hq2 (Nat.le_of_ble_eq_true rfl) (by omega) (by omega) rfl (fun β2 H3 locs3 hLW3 hq22 => ?_)
  refine lv_icmp_eq (tgt := 1320) hx hb dL_law_332 (by decide) (fun _ => ?_) (fun h => absurd rfl h)
  exact kk α2 β2 gX2 gM2 H3 locs3 _ _ hR2 (LW_swap hLW3) hq12 hq22 (by omega) (by omega)
set_option maxHeartbeats 1000000 in
theorem lb_5 (C0 : lw_At p s m meth c b L xs) (hAm : Amb_ D s) (hL : L ≤ 3072) (hn : 6 * n + 6 ≤ L) (hl : lv_has ls 4 [(0, .ref b), (1, .ref q1), (2, .ref q2), (3, .int (nI (6 * n)))]) (kk : LG_ p l e s m below meth c b D Q ls q1 q2 (n + 1) 1320) : LG_ p l e s m below meth c b D Q ls q1 q2 n 337 := by
  intro α β gX gM H locs cells slots hR hLW hq1 hq2 hce hsl
  obtain ⟨hx, hb, hr, hml, hown, hts, hX, hbl, hlocks, hgv⟩ := id C0
  obtain ⟨r, gX2, gM2, f1, f2, hR2, b1, b2, b3, b4⟩ := op_listed (xs (6 * n + 1)) (xs (6 * n + 2)) gX gM n (by omega) hR
  have M1 := t9_listed 0 (xs (6 * n + 1)) (xs (6 * n + 2)) gX
  have M2 := t10_listed 0 (xs (6 * n + 1)) (xs (6 * n + 2)) gM
  rw [f1] at M1
  rw [f2] at M2
  refine lv_aload_n hx hb dL_law_337 rfl (lv_at hl 1 rfl) ?_
  refine lw_arg (6 * n) 1 C0 hLW.2.2.2.2.2 hL (by omega) hl (by decide) dL_law_338 dL_law_339 dL_law_340 dL_law_341 dL_law_342 ?_
  refine lw_arg (6 * n) 2 C0 hLW.2.2.2.2.2 hL (by omega) hl (by decide) dL_law_343 dL_law_344 dL_law_345 dL_law_346 dL_law_347 ?_
  refine lw_call (As := [xs (6 * n + 1), xs (6 * n + 2)]) (t1 := 9) (q1 := q1) (rest := []) (r := r) (g1 := gX2) M1 cw_cX9_listed mlL_37 dL_law_348 rfl (by decide) (by decide) C0 hAm hl.1 hLW hq1 (by decide) (by omega) (by omega) rfl (fun α2 H2 locs2 hLW2 hq12 => ?_)
  have hLW2 := LW_swap hLW2
  refine lv_aload_n hx hb dL_law_351 rfl (lv_at hl 2 rfl) ?_
  refine lw_arg (6 * n) 1 C0 hLW2.2.2.2.2.2 hL (by omega) hl (by decide) dL_law_352 dL_law_353 dL_law_354 dL_law_355 dL_law_356 ?_
  refine lw_arg (6 * n) 2 C0 hLW2.2.2.2.2.2 hL (by omega) hl (by decide) dL_law_357 dL_law_358 dL_law_359 dL_law_360 dL_law_361 ?_
  refine lw_call (As := [xs (6 * n + 1), xs (6 * n + 2)]) (t1 := 10) (q1 := q2) (rest := [.int r]) (r := r) (g1 := gM2) M2 cw_cX10_listed mlL_40 dL_law_362 rfl (by decide) (by decide) C0 hAm hl.1 hLW2 hq2 (Nat.le_of_ble_eq_true rfl) (by omega) (by omega) rfl (fun β2 H3 locs3 hLW3 hq22 => ?_)
  refine lv_icmp_eq (tgt := 1320) hx hb dL_law_365 (by decide) (fun _ => ?_) (fun h => absurd rfl h)
  exact kk α2 β2 gX2 gM2 H3 locs3 _ _ hR2 (LW_swap hLW3) hq12 hq22 (by omega) (by omega)
set_option maxHeartbeats 1000000 in
theorem lb_6 (C0 : lw_At p s m meth c b L xs) (hAm : Amb_ D s) (hL : L ≤ 3072) (hn : 6 * n + 6 ≤ L) (hl : lv_has ls 4 [(0, .ref b), (1, .ref q1), (2, .ref q2), (3, .int (nI (6 * n)))]) (kk : LG_ p l e s m below meth c b D Q ls q1 q2 (n + 1) 1320) : LG_ p l e s m below meth c b D Q ls q1 q2 n 370 := by
  intro α β gX gM H locs cells slots hR hLW hq1 hq2 hce hsl
  obtain ⟨hx, hb, hr, hml, hown, hts, hX, hbl, hlocks, hgv⟩ := id C0
  obtain ⟨r, gX2, gM2, f1, f2, hR2, b1, b2, b3, b4⟩ := op_set (xs (6 * n + 1)) (xs (6 * n + 2)) gX gM n (by omega) hR
  have M1 := t9_set 0 (xs (6 * n + 1)) (xs (6 * n + 2)) gX
  have M2 := t10_set 0 (xs (6 * n + 1)) (xs (6 * n + 2)) gM
  rw [f1] at M1
  rw [f2] at M2
  refine lv_aload_n hx hb dL_law_370 rfl (lv_at hl 1 rfl) ?_
  refine lw_arg (6 * n) 1 C0 hLW.2.2.2.2.2 hL (by omega) hl (by decide) dL_law_371 dL_law_372 dL_law_373 dL_law_374 dL_law_375 ?_
  refine lw_arg (6 * n) 2 C0 hLW.2.2.2.2.2 hL (by omega) hl (by decide) dL_law_376 dL_law_377 dL_law_378 dL_law_379 dL_law_380 ?_
  refine lw_call (As := [xs (6 * n + 1), xs (6 * n + 2)]) (t1 := 9) (q1 := q1) (rest := []) (r := r) (g1 := gX2) M1 cw_cX9_set mlL_41 dL_law_381 rfl (by decide) (by decide) C0 hAm hl.1 hLW hq1 (by decide) (by omega) (by omega) rfl (fun α2 H2 locs2 hLW2 hq12 => ?_)
  have hLW2 := LW_swap hLW2
  refine lv_aload_n hx hb dL_law_384 rfl (lv_at hl 2 rfl) ?_
  refine lw_arg (6 * n) 1 C0 hLW2.2.2.2.2.2 hL (by omega) hl (by decide) dL_law_385 dL_law_386 dL_law_387 dL_law_388 dL_law_389 ?_
  refine lw_arg (6 * n) 2 C0 hLW2.2.2.2.2.2 hL (by omega) hl (by decide) dL_law_390 dL_law_391 dL_law_392 dL_law_393 dL_law_394 ?_
  refine lw_call (As := [xs (6 * n + 1), xs (6 * n + 2)]) (t1 := 10) (q1 := q2) (rest := [.int r]) (r := r) (g1 := gM2) M2 cw_cX10_set mlL_44 dL_law_395 rfl (by decide) (by decide) C0 hAm hl.1 hLW2 hq2 (Nat.le_of_ble_eq_true rfl) (by omega) (by omega) rfl (fun β2 H3 locs3 hLW3 hq22 => ?_)
  refine lv_icmp_eq (tgt := 1320) hx hb dL_law_398 (by decide) (fun _ => ?_) (fun h => absurd rfl h)
  exact kk α2 β2 gX2 gM2 H3 locs3 _ _ hR2 (LW_swap hLW3) hq12 hq22 (by omega) (by omega)
set_option maxHeartbeats 1000000 in
theorem lb_7 (C0 : lw_At p s m meth c b L xs) (hAm : Amb_ D s) (hL : L ≤ 3072) (hn : 6 * n + 6 ≤ L) (hl : lv_has ls 4 [(0, .ref b), (1, .ref q1), (2, .ref q2), (3, .int (nI (6 * n)))]) (kk : LG_ p l e s m below meth c b D Q ls q1 q2 (n + 1) 1320) : LG_ p l e s m below meth c b D Q ls q1 q2 n 403 := by
  intro α β gX gM H locs cells slots hR hLW hq1 hq2 hce hsl
  obtain ⟨hx, hb, hr, hml, hown, hts, hX, hbl, hlocks, hgv⟩ := id C0
  obtain ⟨r, gX2, gM2, f1, f2, hR2, b1, b2, b3, b4⟩ := op_submit (xs (6 * n + 1)) gX gM n (by omega) hR
  have M1 := t9_submit 0 (xs (6 * n + 1)) gX
  have M2 := t10_submit 0 (xs (6 * n + 1)) gM
  rw [f1] at M1
  rw [f2] at M2
  refine lv_aload_n hx hb dL_law_403 rfl (lv_at hl 1 rfl) ?_
  refine lw_arg (6 * n) 1 C0 hLW.2.2.2.2.2 hL (by omega) hl (by decide) dL_law_404 dL_law_405 dL_law_406 dL_law_407 dL_law_408 ?_
  refine lw_call (As := [xs (6 * n + 1)]) (t1 := 9) (q1 := q1) (rest := []) (r := r) (g1 := gX2) M1 cw_cX9_submit mlL_45 dL_law_409 rfl (by decide) (by decide) C0 hAm hl.1 hLW hq1 (by decide) (by omega) (by omega) rfl (fun α2 H2 locs2 hLW2 hq12 => ?_)
  have hLW2 := LW_swap hLW2
  refine lv_aload_n hx hb dL_law_412 rfl (lv_at hl 2 rfl) ?_
  refine lw_arg (6 * n) 1 C0 hLW2.2.2.2.2.2 hL (by omega) hl (by decide) dL_law_413 dL_law_414 dL_law_415 dL_law_416 dL_law_417 ?_
  refine lw_call (As := [xs (6 * n + 1)]) (t1 := 10) (q1 := q2) (rest := [.int r]) (r := r) (g1 := gM2) M2 cw_cX10_submit mlL_48 dL_law_418 rfl (by decide) (by decide) C0 hAm hl.1 hLW2 hq2 (Nat.le_of_ble_eq_true rfl) (by omega) (by omega) rfl (fun β2 H3 locs3 hLW3 hq22 => ?_)
  refine lv_icmp_eq (tgt := 1320) hx hb dL_law_421 (by decide) (fun _ => ?_) (fun h => absurd rfl h)
  exact kk α2 β2 gX2 gM2 H3 locs3 _ _ hR2 (LW_swap hLW3) hq12 hq22 (by omega) (by omega)
set_option maxHeartbeats 1000000 in
theorem lb_8 (C0 : lw_At p s m meth c b L xs) (hAm : Amb_ D s) (hL : L ≤ 3072) (hn : 6 * n + 6 ≤ L) (hl : lv_has ls 4 [(0, .ref b), (1, .ref q1), (2, .ref q2), (3, .int (nI (6 * n)))]) (kk : LG_ p l e s m below meth c b D Q ls q1 q2 (n + 1) 1320) : LG_ p l e s m below meth c b D Q ls q1 q2 n 426 := by
  intro α β gX gM H locs cells slots hR hLW hq1 hq2 hce hsl
  obtain ⟨hx, hb, hr, hml, hown, hts, hX, hbl, hlocks, hgv⟩ := id C0
  obtain ⟨r, gX2, gM2, f1, f2, hR2, b1, b2, b3, b4⟩ := op_about (xs (6 * n + 1)) (xs (6 * n + 2)) gX gM n (by omega) hR
  have M1 := t9_about 0 (xs (6 * n + 1)) (xs (6 * n + 2)) gX
  have M2 := t10_about 0 (xs (6 * n + 1)) (xs (6 * n + 2)) gM
  rw [f1] at M1
  rw [f2] at M2
  refine lv_aload_n hx hb dL_law_426 rfl (lv_at hl 1 rfl) ?_
  refine lw_arg (6 * n) 1 C0 hLW.2.2.2.2.2 hL (by omega) hl (by decide) dL_law_427 dL_law_428 dL_law_429 dL_law_430 dL_law_431 ?_
  refine lw_arg (6 * n) 2 C0 hLW.2.2.2.2.2 hL (by omega) hl (by decide) dL_law_432 dL_law_433 dL_law_434 dL_law_435 dL_law_436 ?_
  refine lw_call (As := [xs (6 * n + 1), xs (6 * n + 2)]) (t1 := 9) (q1 := q1) (rest := []) (r := r) (g1 := gX2) M1 cw_cX9_about mlL_49 dL_law_437 rfl (by decide) (by decide) C0 hAm hl.1 hLW hq1 (by decide) (by omega) (by omega) rfl (fun α2 H2 locs2 hLW2 hq12 => ?_)
  have hLW2 := LW_swap hLW2
  refine lv_aload_n hx hb dL_law_440 rfl (lv_at hl 2 rfl) ?_
  refine lw_arg (6 * n) 1 C0 hLW2.2.2.2.2.2 hL (by omega) hl (by decide) dL_law_441 dL_law_442 dL_law_443 dL_law_444 dL_law_445 ?_
  refine lw_arg (6 * n) 2 C0 hLW2.2.2.2.2.2 hL (by omega) hl (by decide) dL_law_446 dL_law_447 dL_law_448 dL_law_449 dL_law_450 ?_
  refine lw_call (As := [xs (6 * n + 1), xs (6 * n + 2)]) (t1 := 10) (q1 := q2) (rest := [.int r]) (r := r) (g1 := gM2) M2 cw_cX10_about mlL_52 dL_law_451 rfl (by decide) (by decide) C0 hAm hl.1 hLW2 hq2 (Nat.le_of_ble_eq_true rfl) (by omega) (by omega) rfl (fun β2 H3 locs3 hLW3 hq22 => ?_)
  refine lv_icmp_eq (tgt := 1320) hx hb dL_law_454 (by decide) (fun _ => ?_) (fun h => absurd rfl h)
  exact kk α2 β2 gX2 gM2 H3 locs3 _ _ hR2 (LW_swap hLW3) hq12 hq22 (by omega) (by omega)
set_option maxHeartbeats 1000000 in
theorem lb_9 (C0 : lw_At p s m meth c b L xs) (hAm : Amb_ D s) (hL : L ≤ 3072) (hn : 6 * n + 6 ≤ L) (hl : lv_has ls 4 [(0, .ref b), (1, .ref q1), (2, .ref q2), (3, .int (nI (6 * n)))]) (kk : LG_ p l e s m below meth c b D Q ls q1 q2 (n + 1) 1320) : LG_ p l e s m below meth c b D Q ls q1 q2 n 459 := by
  intro α β gX gM H locs cells slots hR hLW hq1 hq2 hce hsl
  obtain ⟨hx, hb, hr, hml, hown, hts, hX, hbl, hlocks, hgv⟩ := id C0
  obtain ⟨r, gX2, gM2, f1, f2, hR2, b1, b2, b3, b4⟩ := op_page (xs (6 * n + 1)) (xs (6 * n + 2)) (xs (6 * n + 3)) (xs (6 * n + 4)) gX gM n (by omega) hR
  have M1 := t9_page 0 (xs (6 * n + 1)) (xs (6 * n + 2)) (xs (6 * n + 3)) (xs (6 * n + 4)) gX
  have M2 := t10_page 0 (xs (6 * n + 1)) (xs (6 * n + 2)) (xs (6 * n + 3)) (xs (6 * n + 4)) gM
  rw [f1] at M1
  rw [f2] at M2
  refine lv_aload_n hx hb dL_law_459 rfl (lv_at hl 1 rfl) ?_
  refine lw_arg (6 * n) 1 C0 hLW.2.2.2.2.2 hL (by omega) hl (by decide) dL_law_460 dL_law_461 dL_law_462 dL_law_463 dL_law_464 ?_
  refine lw_arg (6 * n) 2 C0 hLW.2.2.2.2.2 hL (by omega) hl (by decide) dL_law_465 dL_law_466 dL_law_467 dL_law_468 dL_law_469 ?_
  refine lw_arg (6 * n) 3 C0 hLW.2.2.2.2.2 hL (by omega) hl (by decide) dL_law_470 dL_law_471 dL_law_472 dL_law_473 dL_law_474 ?_
  refine lw_arg (6 * n) 4 C0 hLW.2.2.2.2.2 hL (by omega) hl (by decide) dL_law_475 dL_law_476 dL_law_477 dL_law_478 dL_law_479 ?_
  refine lw_call (As := [xs (6 * n + 1), xs (6 * n + 2), xs (6 * n + 3), xs (6 * n + 4)]) (t1 := 9) (q1 := q1) (rest := []) (r := r) (g1 := gX2) M1 cw_cX9_page mlL_53 dL_law_480 rfl (by decide) (by decide) C0 hAm hl.1 hLW hq1 (by decide) (by omega) (by omega) rfl (fun α2 H2 locs2 hLW2 hq12 => ?_)
  have hLW2 := LW_swap hLW2
  refine lv_aload_n hx hb dL_law_483 rfl (lv_at hl 2 rfl) ?_
  refine lw_arg (6 * n) 1 C0 hLW2.2.2.2.2.2 hL (by omega) hl (by decide) dL_law_484 dL_law_485 dL_law_486 dL_law_487 dL_law_488 ?_
  refine lw_arg (6 * n) 2 C0 hLW2.2.2.2.2.2 hL (by omega) hl (by decide) dL_law_489 dL_law_490 dL_law_491 dL_law_492 dL_law_493 ?_
  refine lw_arg (6 * n) 3 C0 hLW2.2.2.2.2.2 hL (by omega) hl (by decide) dL_law_494 dL_law_495 dL_law_496 dL_law_497 dL_law_498 ?_
  refine lw_arg (6 * n) 4 C0 hLW2.2.2.2.2.2 hL (by omega) hl (by decide) dL_law_499 dL_law_500 dL_law_501 dL_law_502 dL_law_503 ?_
  refine lw_call (As := [xs (6 * n + 1), xs (6 * n + 2), xs (6 * n + 3), xs (6 * n + 4)]) (t1 := 10) (q1 := q2) (rest := [.int r]) (r := r) (g1 := gM2) M2 cw_cX10_page mlL_57 dL_law_504 rfl (by decide) (by decide) C0 hAm hl.1 hLW2 hq2 (Nat.le_of_ble_eq_true rfl) (by omega) (by omega) rfl (fun β2 H3 locs3 hLW3 hq22 => ?_)
  refine lv_icmp_eq (tgt := 1320) hx hb dL_law_507 (by decide) (fun _ => ?_) (fun h => absurd rfl h)
  exact kk α2 β2 gX2 gM2 H3 locs3 _ _ hR2 (LW_swap hLW3) hq12 hq22 (by omega) (by omega)
set_option maxHeartbeats 1000000 in
theorem lb_10 (C0 : lw_At p s m meth c b L xs) (hAm : Amb_ D s) (hL : L ≤ 3072) (hn : 6 * n + 6 ≤ L) (hl : lv_has ls 4 [(0, .ref b), (1, .ref q1), (2, .ref q2), (3, .int (nI (6 * n)))]) (kk : LG_ p l e s m below meth c b D Q ls q1 q2 (n + 1) 1320) : LG_ p l e s m below meth c b D Q ls q1 q2 n 512 := by
  intro α β gX gM H locs cells slots hR hLW hq1 hq2 hce hsl
  obtain ⟨hx, hb, hr, hml, hown, hts, hX, hbl, hlocks, hgv⟩ := id C0
  obtain ⟨r, gX2, gM2, f1, f2, hR2, b1, b2, b3, b4⟩ := op_turned (xs (6 * n + 1)) (xs (6 * n + 2)) gX gM n (by omega) hR
  have M1 := t9_turned 0 (xs (6 * n + 1)) (xs (6 * n + 2)) gX
  have M2 := t10_turned 0 (xs (6 * n + 1)) (xs (6 * n + 2)) gM
  rw [f1] at M1
  rw [f2] at M2
  refine lv_aload_n hx hb dL_law_512 rfl (lv_at hl 1 rfl) ?_
  refine lw_arg (6 * n) 1 C0 hLW.2.2.2.2.2 hL (by omega) hl (by decide) dL_law_513 dL_law_514 dL_law_515 dL_law_516 dL_law_517 ?_
  refine lw_arg (6 * n) 2 C0 hLW.2.2.2.2.2 hL (by omega) hl (by decide) dL_law_518 dL_law_519 dL_law_520 dL_law_521 dL_law_522 ?_
  refine lw_call (As := [xs (6 * n + 1), xs (6 * n + 2)]) (t1 := 9) (q1 := q1) (rest := []) (r := r) (g1 := gX2) M1 cw_cX9_turned mlL_58 dL_law_523 rfl (by decide) (by decide) C0 hAm hl.1 hLW hq1 (by decide) (by omega) (by omega) rfl (fun α2 H2 locs2 hLW2 hq12 => ?_)
  have hLW2 := LW_swap hLW2
  refine lv_aload_n hx hb dL_law_526 rfl (lv_at hl 2 rfl) ?_
  refine lw_arg (6 * n) 1 C0 hLW2.2.2.2.2.2 hL (by omega) hl (by decide) dL_law_527 dL_law_528 dL_law_529 dL_law_530 dL_law_531 ?_
  refine lw_arg (6 * n) 2 C0 hLW2.2.2.2.2.2 hL (by omega) hl (by decide) dL_law_532 dL_law_533 dL_law_534 dL_law_535 dL_law_536 ?_
  refine lw_call (As := [xs (6 * n + 1), xs (6 * n + 2)]) (t1 := 10) (q1 := q2) (rest := [.int r]) (r := r) (g1 := gM2) M2 cw_cX10_turned mlL_61 dL_law_537 rfl (by decide) (by decide) C0 hAm hl.1 hLW2 hq2 (Nat.le_of_ble_eq_true rfl) (by omega) (by omega) rfl (fun β2 H3 locs3 hLW3 hq22 => ?_)
  refine lv_icmp_eq (tgt := 1320) hx hb dL_law_540 (by decide) (fun _ => ?_) (fun h => absurd rfl h)
  exact kk α2 β2 gX2 gM2 H3 locs3 _ _ hR2 (LW_swap hLW3) hq12 hq22 (by omega) (by omega)
set_option maxHeartbeats 1000000 in
theorem lb_11 (C0 : lw_At p s m meth c b L xs) (hAm : Amb_ D s) (hL : L ≤ 3072) (hn : 6 * n + 6 ≤ L) (hl : lv_has ls 4 [(0, .ref b), (1, .ref q1), (2, .ref q2), (3, .int (nI (6 * n)))]) (kk : LG_ p l e s m below meth c b D Q ls q1 q2 (n + 1) 1320) : LG_ p l e s m below meth c b D Q ls q1 q2 n 545 := by
  intro α β gX gM H locs cells slots hR hLW hq1 hq2 hce hsl
  obtain ⟨hx, hb, hr, hml, hown, hts, hX, hbl, hlocks, hgv⟩ := id C0
  obtain ⟨r, gX2, gM2, f1, f2, hR2, b1, b2, b3, b4⟩ := op_blanks (xs (6 * n + 1)) gX gM n (by omega) hR
  have M1 := t9_blanks 0 (xs (6 * n + 1)) gX
  have M2 := t10_blanks 0 (xs (6 * n + 1)) gM
  rw [f1] at M1
  rw [f2] at M2
  refine lv_aload_n hx hb dL_law_545 rfl (lv_at hl 1 rfl) ?_
  refine lw_arg (6 * n) 1 C0 hLW.2.2.2.2.2 hL (by omega) hl (by decide) dL_law_546 dL_law_547 dL_law_548 dL_law_549 dL_law_550 ?_
  refine lw_call (As := [xs (6 * n + 1)]) (t1 := 9) (q1 := q1) (rest := []) (r := r) (g1 := gX2) M1 cw_cX9_blanks mlL_62 dL_law_551 rfl (by decide) (by decide) C0 hAm hl.1 hLW hq1 (by decide) (by omega) (by omega) rfl (fun α2 H2 locs2 hLW2 hq12 => ?_)
  have hLW2 := LW_swap hLW2
  refine lv_aload_n hx hb dL_law_554 rfl (lv_at hl 2 rfl) ?_
  refine lw_arg (6 * n) 1 C0 hLW2.2.2.2.2.2 hL (by omega) hl (by decide) dL_law_555 dL_law_556 dL_law_557 dL_law_558 dL_law_559 ?_
  refine lw_call (As := [xs (6 * n + 1)]) (t1 := 10) (q1 := q2) (rest := [.int r]) (r := r) (g1 := gM2) M2 cw_cX10_blanks mlL_65 dL_law_560 rfl (by decide) (by decide) C0 hAm hl.1 hLW2 hq2 (Nat.le_of_ble_eq_true rfl) (by omega) (by omega) rfl (fun β2 H3 locs3 hLW3 hq22 => ?_)
  refine lv_icmp_eq (tgt := 1320) hx hb dL_law_563 (by decide) (fun _ => ?_) (fun h => absurd rfl h)
  exact kk α2 β2 gX2 gM2 H3 locs3 _ _ hR2 (LW_swap hLW3) hq12 hq22 (by omega) (by omega)
end LB
