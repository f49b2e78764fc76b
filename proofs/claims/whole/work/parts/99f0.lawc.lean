section WC
variable {p : Program} {l : Launch} {e : Env} {s : State} {m : MethodId} {below : List Frame} {meth : Method} {c : Code} {H : Heap} {locs : List Loc} {cells slots : Nat} {Q : State → Prop}
variable {pc : Nat} {ls : Array Slot} {rest : List Value} {D : va_G} {aC : Nat → ClassId} {b L : Nat} {xs : Nat → Int32} {cm mm : g_M}
set_option maxHeartbeats 4000000 in
set_option maxRecDepth 100000 in
theorem w_case0 (E : w_E p s m c D aC b L xs) {i : Nat} (hi : i + 6 ≤ L) (hM : w_M D aC s cm mm H locs) (hI : INV cm mm) (hl : lv_has ls 7 (w_lv s b i)) (hf : cells ≤ 601024 ∧ slots ≤ 7293034) (kk : ∀ (H1 : Heap) (locs1 : List Loc) (c1 m1 : g_M), w_M D aC s c1 m1 H1 locs1 → INV c1 m1 → W p l e room_1 s m #[Value.ref b] below meth c H1 locs1 cells slots Q (F0 m 1762 ls [])) : W p l e room_1 s m #[Value.ref b] below meth c H locs cells slots Q (F0 m 220 ls []) := by
  have hx := E.1.1
  have hb := E.1.2.1
  obtain ⟨r, c1, m1, h1, h2, hI1⟩ := s_feed (F := 5001) (by decide) hI (xs (i + 1)) (xs (i + 2)) (xs (i + 3)) (xs (i + 4)) (xs (i + 5))
  refine lv_aload_n hx hb dL_law_220 rfl (lv_at hl 1 rfl) ?_
  refine w_arg (j := 1) E hM.2.2.2 hl rfl (by omega) dL_law_221 dL_law_222 dL_law_224 dL_law_225 dL_law_226 ?_
  refine W.eq (g2 := F0 m 227 ls [.int (xs (i + 1)), .ref (s.heap.size + 0)]) rfl ?_
  refine w_arg (j := 2) E hM.2.2.2 hl rfl (by omega) dL_law_227 dL_law_228 dL_law_230 dL_law_231 dL_law_232 ?_
  refine W.eq (g2 := F0 m 233 ls [.int (xs (i + 2)), .int (xs (i + 1)), .ref (s.heap.size + 0)]) rfl ?_
  refine w_arg (j := 3) E hM.2.2.2 hl rfl (by omega) dL_law_233 dL_law_234 dL_law_236 dL_law_237 dL_law_238 ?_
  refine W.eq (g2 := F0 m 239 ls [.int (xs (i + 3)), .int (xs (i + 2)), .int (xs (i + 1)), .ref (s.heap.size + 0)]) rfl ?_
  refine w_arg (j := 4) E hM.2.2.2 hl rfl (by omega) dL_law_239 dL_law_240 dL_law_242 dL_law_243 dL_law_244 ?_
  refine W.eq (g2 := F0 m 245 ls [.int (xs (i + 4)), .int (xs (i + 3)), .int (xs (i + 2)), .int (xs (i + 1)), .ref (s.heap.size + 0)]) rfl ?_
  refine w_arg (j := 5) E hM.2.2.2 hl rfl (by omega) dL_law_245 dL_law_246 dL_law_248 dL_law_249 dL_law_250 ?_
  refine W.eq (g2 := F0 m 251 ls [.int (xs (i + 5)), .int (xs (i + 4)), .int (xs (i + 3)), .int (xs (i + 2)), .int (xs (i + 1)), .ref (s.heap.size + 0)]) rfl ?_
  refine w_callC [.int (xs (i + 1)), .int (xs (i + 2)), .int (xs (i + 3)), .int (xs (i + 4)), .int (xs (i + 5))] (rest := []) E hl.1 hM cv_L_21 (c10_feed l D aC s.heap.size h1) (Nat.le_of_ble_eq_true rfl) (Nat.le_of_ble_eq_true rfl) rfl rfl (Nat.le_of_ble_eq_true rfl) dL_law_251 hf (fun H locs hM => ?_)
  refine W.eq (g2 := F0 m 254 ls [.int r]) rfl ?_
  refine lv_aload_n hx hb dL_law_254 rfl (lv_at hl 2 rfl) ?_
  refine w_arg (j := 1) E hM.2.2.2 hl rfl (by omega) dL_law_255 dL_law_256 dL_law_258 dL_law_259 dL_law_260 ?_
  refine W.eq (g2 := F0 m 261 ls [.int (xs (i + 1)), .ref (s.heap.size + 69 + 0), .int r]) rfl ?_
  refine w_arg (j := 2) E hM.2.2.2 hl rfl (by omega) dL_law_261 dL_law_262 dL_law_264 dL_law_265 dL_law_266 ?_
  refine W.eq (g2 := F0 m 267 ls [.int (xs (i + 2)), .int (xs (i + 1)), .ref (s.heap.size + 69 + 0), .int r]) rfl ?_
  refine w_arg (j := 3) E hM.2.2.2 hl rfl (by omega) dL_law_267 dL_law_268 dL_law_270 dL_law_271 dL_law_272 ?_
  refine W.eq (g2 := F0 m 273 ls [.int (xs (i + 3)), .int (xs (i + 2)), .int (xs (i + 1)), .ref (s.heap.size + 69 + 0), .int r]) rfl ?_
  refine w_arg (j := 4) E hM.2.2.2 hl rfl (by omega) dL_law_273 dL_law_274 dL_law_276 dL_law_277 dL_law_278 ?_
  refine W.eq (g2 := F0 m 279 ls [.int (xs (i + 4)), .int (xs (i + 3)), .int (xs (i + 2)), .int (xs (i + 1)), .ref (s.heap.size + 69 + 0), .int r]) rfl ?_
  refine w_arg (j := 5) E hM.2.2.2 hl rfl (by omega) dL_law_279 dL_law_280 dL_law_282 dL_law_283 dL_law_284 ?_
  refine W.eq (g2 := F0 m 285 ls [.int (xs (i + 5)), .int (xs (i + 4)), .int (xs (i + 3)), .int (xs (i + 2)), .int (xs (i + 1)), .ref (s.heap.size + 69 + 0), .int r]) rfl ?_
  refine w_callM [.int (xs (i + 1)), .int (xs (i + 2)), .int (xs (i + 3)), .int (xs (i + 4)), .int (xs (i + 5))] (rest := [.int r]) E hl.1 hM cv_L_25 (c11_feed l D aC (s.heap.size + 69) h2) (Nat.le_of_ble_eq_true rfl) (Nat.le_of_ble_eq_true rfl) rfl rfl (Nat.le_of_ble_eq_true rfl) dL_law_285 hf (fun H locs hM => ?_)
  refine W.eq (g2 := F0 m 288 ls [.int r, .int r]) rfl ?_
  refine lv_icmp_eq (tgt := 1762) hx hb dL_law_288 (by decide) (fun _ => ?_) (fun h => absurd rfl h)
  exact kk H locs c1 m1 hM hI1
set_option maxHeartbeats 4000000 in
set_option maxRecDepth 100000 in
theorem w_case1 (E : w_E p s m c D aC b L xs) {i : Nat} (hi : i + 6 ≤ L) (hM : w_M D aC s cm mm H locs) (hI : INV cm mm) (hl : lv_has ls 7 (w_lv s b i)) (hf : cells ≤ 601024 ∧ slots ≤ 7293034) (kk : ∀ (H1 : Heap) (locs1 : List Loc) (c1 m1 : g_M), w_M D aC s c1 m1 H1 locs1 → INV c1 m1 → W p l e room_1 s m #[Value.ref b] below meth c H1 locs1 cells slots Q (F0 m 1762 ls [])) : W p l e room_1 s m #[Value.ref b] below meth c H locs cells slots Q (F0 m 293 ls []) := by
  have hx := E.1.1
  have hb := E.1.2.1
  obtain ⟨r, c1, m1, h1, h2, hI1⟩ := s_text (F := 5001) (by decide) hI (xs (i + 1))
  refine lv_aload_n hx hb dL_law_293 rfl (lv_at hl 1 rfl) ?_
  refine w_arg (j := 1) E hM.2.2.2 hl rfl (by omega) dL_law_294 dL_law_295 dL_law_297 dL_law_298 dL_law_299 ?_
  refine W.eq (g2 := F0 m 300 ls [.int (xs (i + 1)), .ref (s.heap.size + 0)]) rfl ?_
  refine w_callC [.int (xs (i + 1))] (rest := []) E hl.1 hM cv_L_26 (c10_text l D aC s.heap.size h1) (Nat.le_of_ble_eq_true rfl) (Nat.le_of_ble_eq_true rfl) rfl rfl (Nat.le_of_ble_eq_true rfl) dL_law_300 hf (fun H locs hM => ?_)
  refine W.eq (g2 := F0 m 303 ls [.int r]) rfl ?_
  refine lv_aload_n hx hb dL_law_303 rfl (lv_at hl 2 rfl) ?_
  refine w_arg (j := 1) E hM.2.2.2 hl rfl (by omega) dL_law_304 dL_law_305 dL_law_307 dL_law_308 dL_law_309 ?_
  refine W.eq (g2 := F0 m 310 ls [.int (xs (i + 1)), .ref (s.heap.size + 69 + 0), .int r]) rfl ?_
  refine w_callM [.int (xs (i + 1))] (rest := [.int r]) E hl.1 hM cv_L_30 (c11_text l D aC (s.heap.size + 69) h2) (Nat.le_of_ble_eq_true rfl) (Nat.le_of_ble_eq_true rfl) rfl rfl (Nat.le_of_ble_eq_true rfl) dL_law_310 hf (fun H locs hM => ?_)
  refine W.eq (g2 := F0 m 313 ls [.int r, .int r]) rfl ?_
  refine lv_icmp_eq (tgt := 1762) hx hb dL_law_313 (by decide) (fun _ => ?_) (fun h => absurd rfl h)
  exact kk H locs c1 m1 hM hI1
set_option maxHeartbeats 4000000 in
set_option maxRecDepth 100000 in
theorem w_case2 (E : w_E p s m c D aC b L xs) {i : Nat} (hi : i + 6 ≤ L) (hM : w_M D aC s cm mm H locs) (hI : INV cm mm) (hl : lv_has ls 7 (w_lv s b i)) (hf : cells ≤ 601024 ∧ slots ≤ 7293034) (kk : ∀ (H1 : Heap) (locs1 : List Loc) (c1 m1 : g_M), w_M D aC s c1 m1 H1 locs1 → INV c1 m1 → W p l e room_1 s m #[Value.ref b] below meth c H1 locs1 cells slots Q (F0 m 1762 ls [])) : W p l e room_1 s m #[Value.ref b] below meth c H locs cells slots Q (F0 m 318 ls []) := by
  have hx := E.1.1
  have hb := E.1.2.1
  obtain ⟨r, m1, h1, h2, hI1⟩ := s_fault (F := 5001) hI (xs (i + 1))
  refine lv_aload_n hx hb dL_law_318 rfl (lv_at hl 1 rfl) ?_
  refine w_arg (j := 1) E hM.2.2.2 hl rfl (by omega) dL_law_319 dL_law_320 dL_law_322 dL_law_323 dL_law_324 ?_
  refine W.eq (g2 := F0 m 325 ls [.int (xs (i + 1)), .ref (s.heap.size + 0)]) rfl ?_
  refine w_callC [.int (xs (i + 1))] (rest := []) E hl.1 hM cv_L_31 (c10_fault l D aC s.heap.size h1) (Nat.le_of_ble_eq_true rfl) (Nat.le_of_ble_eq_true rfl) rfl rfl (Nat.le_of_ble_eq_true rfl) dL_law_325 hf (fun H locs hM => ?_)
  refine W.eq (g2 := F0 m 328 ls [.int r]) rfl ?_
  refine lv_aload_n hx hb dL_law_328 rfl (lv_at hl 2 rfl) ?_
  refine w_arg (j := 1) E hM.2.2.2 hl rfl (by omega) dL_law_329 dL_law_330 dL_law_332 dL_law_333 dL_law_334 ?_
  refine W.eq (g2 := F0 m 335 ls [.int (xs (i + 1)), .ref (s.heap.size + 69 + 0), .int r]) rfl ?_
  refine w_callM [.int (xs (i + 1))] (rest := [.int r]) E hl.1 hM cv_L_34 (c11_fault l D aC (s.heap.size + 69) h2) (Nat.le_of_ble_eq_true rfl) (Nat.le_of_ble_eq_true rfl) rfl rfl (Nat.le_of_ble_eq_true rfl) dL_law_335 hf (fun H locs hM => ?_)
  refine W.eq (g2 := F0 m 338 ls [.int r, .int r]) rfl ?_
  refine lv_icmp_eq (tgt := 1762) hx hb dL_law_338 (by decide) (fun _ => ?_) (fun h => absurd rfl h)
  exact kk H locs cm m1 hM hI1
set_option maxHeartbeats 4000000 in
set_option maxRecDepth 100000 in
theorem w_case3 (E : w_E p s m c D aC b L xs) {i : Nat} (hi : i + 6 ≤ L) (hM : w_M D aC s cm mm H locs) (hI : INV cm mm) (hl : lv_has ls 7 (w_lv s b i)) (hf : cells ≤ 601024 ∧ slots ≤ 7293034) (kk : ∀ (H1 : Heap) (locs1 : List Loc) (c1 m1 : g_M), w_M D aC s c1 m1 H1 locs1 → INV c1 m1 → W p l e room_1 s m #[Value.ref b] below meth c H1 locs1 cells slots Q (F0 m 1762 ls [])) : W p l e room_1 s m #[Value.ref b] below meth c H locs cells slots Q (F0 m 343 ls []) := by
  have hx := E.1.1
  have hb := E.1.2.1
  obtain ⟨r, m1, h1, h2, hI1⟩ := s_named (F := 5001) (by decide) hI (xs (i + 1)) (xs (i + 2))
  refine lv_aload_n hx hb dL_law_343 rfl (lv_at hl 1 rfl) ?_
  refine w_arg (j := 1) E hM.2.2.2 hl rfl (by omega) dL_law_344 dL_law_345 dL_law_347 dL_law_348 dL_law_349 ?_
  refine W.eq (g2 := F0 m 350 ls [.int (xs (i + 1)), .ref (s.heap.size + 0)]) rfl ?_
  refine w_arg (j := 2) E hM.2.2.2 hl rfl (by omega) dL_law_350 dL_law_351 dL_law_353 dL_law_354 dL_law_355 ?_
  refine W.eq (g2 := F0 m 356 ls [.int (xs (i + 2)), .int (xs (i + 1)), .ref (s.heap.size + 0)]) rfl ?_
  refine w_callC [.int (xs (i + 1)), .int (xs (i + 2))] (rest := []) E hl.1 hM cv_L_35 (c10_named l D aC s.heap.size h1) (Nat.le_of_ble_eq_true rfl) (Nat.le_of_ble_eq_true rfl) rfl rfl (Nat.le_of_ble_eq_true rfl) dL_law_356 hf (fun H locs hM => ?_)
  refine W.eq (g2 := F0 m 359 ls [.int r]) rfl ?_
  refine lv_aload_n hx hb dL_law_359 rfl (lv_at hl 2 rfl) ?_
  refine w_arg (j := 1) E hM.2.2.2 hl rfl (by omega) dL_law_360 dL_law_361 dL_law_363 dL_law_364 dL_law_365 ?_
  refine W.eq (g2 := F0 m 366 ls [.int (xs (i + 1)), .ref (s.heap.size + 69 + 0), .int r]) rfl ?_
  refine w_arg (j := 2) E hM.2.2.2 hl rfl (by omega) dL_law_366 dL_law_367 dL_law_369 dL_law_370 dL_law_371 ?_
  refine W.eq (g2 := F0 m 372 ls [.int (xs (i + 2)), .int (xs (i + 1)), .ref (s.heap.size + 69 + 0), .int r]) rfl ?_
  refine w_callM [.int (xs (i + 1)), .int (xs (i + 2))] (rest := [.int r]) E hl.1 hM cv_L_38 (c11_named l D aC (s.heap.size + 69) h2) (Nat.le_of_ble_eq_true rfl) (Nat.le_of_ble_eq_true rfl) rfl rfl (Nat.le_of_ble_eq_true rfl) dL_law_372 hf (fun H locs hM => ?_)
  refine W.eq (g2 := F0 m 375 ls [.int r, .int r]) rfl ?_
  refine lv_icmp_eq (tgt := 1762) hx hb dL_law_375 (by decide) (fun _ => ?_) (fun h => absurd rfl h)
  exact kk H locs cm m1 hM hI1
set_option maxHeartbeats 4000000 in
set_option maxRecDepth 100000 in
theorem w_case5 (E : w_E p s m c D aC b L xs) {i : Nat} (hi : i + 6 ≤ L) (hM : w_M D aC s cm mm H locs) (hI : INV cm mm) (hl : lv_has ls 7 (w_lv s b i)) (hf : cells ≤ 601024 ∧ slots ≤ 7293034) (kk : ∀ (H1 : Heap) (locs1 : List Loc) (c1 m1 : g_M), w_M D aC s c1 m1 H1 locs1 → INV c1 m1 → W p l e room_1 s m #[Value.ref b] below meth c H1 locs1 cells slots Q (F0 m 1762 ls [])) : W p l e room_1 s m #[Value.ref b] below meth c H locs cells slots Q (F0 m 448 ls []) := by
  have hx := E.1.1
  have hb := E.1.2.1
  obtain ⟨r, m1, h1, h2, hI1⟩ := s_sort (F := 5001) hI (xs (i + 1)) (xs (i + 2))
  refine lv_aload_n hx hb dL_law_448 rfl (lv_at hl 1 rfl) ?_
  refine w_arg (j := 1) E hM.2.2.2 hl rfl (by omega) dL_law_449 dL_law_450 dL_law_452 dL_law_453 dL_law_454 ?_
  refine W.eq (g2 := F0 m 455 ls [.int (xs (i + 1)), .ref (s.heap.size + 0)]) rfl ?_
  refine w_arg (j := 2) E hM.2.2.2 hl rfl (by omega) dL_law_455 dL_law_456 dL_law_458 dL_law_459 dL_law_460 ?_
  refine W.eq (g2 := F0 m 461 ls [.int (xs (i + 2)), .int (xs (i + 1)), .ref (s.heap.size + 0)]) rfl ?_
  refine w_callC [.int (xs (i + 1)), .int (xs (i + 2))] (rest := []) E hl.1 hM cv_L_49 (c10_sort l D aC s.heap.size h1) (Nat.le_of_ble_eq_true rfl) (Nat.le_of_ble_eq_true rfl) rfl rfl (Nat.le_of_ble_eq_true rfl) dL_law_461 hf (fun H locs hM => ?_)
  refine W.eq (g2 := F0 m 464 ls [.int r]) rfl ?_
  refine lv_aload_n hx hb dL_law_464 rfl (lv_at hl 2 rfl) ?_
  refine w_arg (j := 1) E hM.2.2.2 hl rfl (by omega) dL_law_465 dL_law_466 dL_law_468 dL_law_469 dL_law_470 ?_
  refine W.eq (g2 := F0 m 471 ls [.int (xs (i + 1)), .ref (s.heap.size + 69 + 0), .int r]) rfl ?_
  refine w_arg (j := 2) E hM.2.2.2 hl rfl (by omega) dL_law_471 dL_law_472 dL_law_474 dL_law_475 dL_law_476 ?_
  refine W.eq (g2 := F0 m 477 ls [.int (xs (i + 2)), .int (xs (i + 1)), .ref (s.heap.size + 69 + 0), .int r]) rfl ?_
  refine w_callM [.int (xs (i + 1)), .int (xs (i + 2))] (rest := [.int r]) E hl.1 hM cv_L_52 (c11_sort l D aC (s.heap.size + 69) h2) (Nat.le_of_ble_eq_true rfl) (Nat.le_of_ble_eq_true rfl) rfl rfl (Nat.le_of_ble_eq_true rfl) dL_law_477 hf (fun H locs hM => ?_)
  refine W.eq (g2 := F0 m 480 ls [.int r, .int r]) rfl ?_
  refine lv_icmp_eq (tgt := 1762) hx hb dL_law_480 (by decide) (fun _ => ?_) (fun h => absurd rfl h)
  exact kk H locs cm m1 hM hI1
set_option maxHeartbeats 4000000 in
set_option maxRecDepth 100000 in
theorem w_case6 (E : w_E p s m c D aC b L xs) {i : Nat} (hi : i + 6 ≤ L) (hM : w_M D aC s cm mm H locs) (hI : INV cm mm) (hl : lv_has ls 7 (w_lv s b i)) (hf : cells ≤ 601024 ∧ slots ≤ 7293034) (kk : ∀ (H1 : Heap) (locs1 : List Loc) (c1 m1 : g_M), w_M D aC s c1 m1 H1 locs1 → INV c1 m1 → W p l e room_1 s m #[Value.ref b] below meth c H1 locs1 cells slots Q (F0 m 1762 ls [])) : W p l e room_1 s m #[Value.ref b] below meth c H locs cells slots Q (F0 m 485 ls []) := by
  have hx := E.1.1
  have hb := E.1.2.1
  obtain ⟨r, m1, h1, h2, hI1⟩ := s_deed (F := 5001) hI (xs (i + 1))
  refine lv_aload_n hx hb dL_law_485 rfl (lv_at hl 1 rfl) ?_
  refine w_arg (j := 1) E hM.2.2.2 hl rfl (by omega) dL_law_486 dL_law_487 dL_law_489 dL_law_490 dL_law_491 ?_
  refine W.eq (g2 := F0 m 492 ls [.int (xs (i + 1)), .ref (s.heap.size + 0)]) rfl ?_
  refine w_callC [.int (xs (i + 1))] (rest := []) E hl.1 hM cv_L_53 (c10_deed l D aC s.heap.size h1) (Nat.le_of_ble_eq_true rfl) (Nat.le_of_ble_eq_true rfl) rfl rfl (Nat.le_of_ble_eq_true rfl) dL_law_492 hf (fun H locs hM => ?_)
  refine W.eq (g2 := F0 m 495 ls [.int r]) rfl ?_
  refine lv_aload_n hx hb dL_law_495 rfl (lv_at hl 2 rfl) ?_
  refine w_arg (j := 1) E hM.2.2.2 hl rfl (by omega) dL_law_496 dL_law_497 dL_law_499 dL_law_500 dL_law_501 ?_
  refine W.eq (g2 := F0 m 502 ls [.int (xs (i + 1)), .ref (s.heap.size + 69 + 0), .int r]) rfl ?_
  refine w_callM [.int (xs (i + 1))] (rest := [.int r]) E hl.1 hM cv_L_56 (c11_deed l D aC (s.heap.size + 69) h2) (Nat.le_of_ble_eq_true rfl) (Nat.le_of_ble_eq_true rfl) rfl rfl (Nat.le_of_ble_eq_true rfl) dL_law_502 hf (fun H locs hM => ?_)
  refine W.eq (g2 := F0 m 505 ls [.int r, .int r]) rfl ?_
  refine lv_icmp_eq (tgt := 1762) hx hb dL_law_505 (by decide) (fun _ => ?_) (fun h => absurd rfl h)
  exact kk H locs cm m1 hM hI1
set_option maxHeartbeats 4000000 in
set_option maxRecDepth 100000 in
theorem w_case7 (E : w_E p s m c D aC b L xs) {i : Nat} (hi : i + 6 ≤ L) (hM : w_M D aC s cm mm H locs) (hI : INV cm mm) (hl : lv_has ls 7 (w_lv s b i)) (hf : cells ≤ 601024 ∧ slots ≤ 7293034) (kk : ∀ (H1 : Heap) (locs1 : List Loc) (c1 m1 : g_M), w_M D aC s c1 m1 H1 locs1 → INV c1 m1 → W p l e room_1 s m #[Value.ref b] below meth c H1 locs1 cells slots Q (F0 m 1762 ls [])) : W p l e room_1 s m #[Value.ref b] below meth c H locs cells slots Q (F0 m 510 ls []) := by
  have hx := E.1.1
  have hb := E.1.2.1
  obtain ⟨r, m1, h1, h2, hI1⟩ := s_sending (F := 5001) hI (xs (i + 1)) (xs (i + 2))
  refine lv_aload_n hx hb dL_law_510 rfl (lv_at hl 1 rfl) ?_
  refine w_arg (j := 1) E hM.2.2.2 hl rfl (by omega) dL_law_511 dL_law_512 dL_law_514 dL_law_515 dL_law_516 ?_
  refine W.eq (g2 := F0 m 517 ls [.int (xs (i + 1)), .ref (s.heap.size + 0)]) rfl ?_
  refine w_arg (j := 2) E hM.2.2.2 hl rfl (by omega) dL_law_517 dL_law_518 dL_law_520 dL_law_521 dL_law_522 ?_
  refine W.eq (g2 := F0 m 523 ls [.int (xs (i + 2)), .int (xs (i + 1)), .ref (s.heap.size + 0)]) rfl ?_
  refine w_callC [.int (xs (i + 1)), .int (xs (i + 2))] (rest := []) E hl.1 hM cv_L_57 (c10_sending l D aC s.heap.size h1) (Nat.le_of_ble_eq_true rfl) (Nat.le_of_ble_eq_true rfl) rfl rfl (Nat.le_of_ble_eq_true rfl) dL_law_523 hf (fun H locs hM => ?_)
  refine W.eq (g2 := F0 m 526 ls [.int r]) rfl ?_
  refine lv_aload_n hx hb dL_law_526 rfl (lv_at hl 2 rfl) ?_
  refine w_arg (j := 1) E hM.2.2.2 hl rfl (by omega) dL_law_527 dL_law_528 dL_law_530 dL_law_531 dL_law_532 ?_
  refine W.eq (g2 := F0 m 533 ls [.int (xs (i + 1)), .ref (s.heap.size + 69 + 0), .int r]) rfl ?_
  refine w_arg (j := 2) E hM.2.2.2 hl rfl (by omega) dL_law_533 dL_law_534 dL_law_536 dL_law_537 dL_law_538 ?_
  refine W.eq (g2 := F0 m 539 ls [.int (xs (i + 2)), .int (xs (i + 1)), .ref (s.heap.size + 69 + 0), .int r]) rfl ?_
  refine w_callM [.int (xs (i + 1)), .int (xs (i + 2))] (rest := [.int r]) E hl.1 hM cv_L_60 (c11_sending l D aC (s.heap.size + 69) h2) (Nat.le_of_ble_eq_true rfl) (Nat.le_of_ble_eq_true rfl) rfl rfl (Nat.le_of_ble_eq_true rfl) dL_law_539 hf (fun H locs hM => ?_)
  refine W.eq (g2 := F0 m 542 ls [.int r, .int r]) rfl ?_
  refine lv_icmp_eq (tgt := 1762) hx hb dL_law_542 (by decide) (fun _ => ?_) (fun h => absurd rfl h)
  exact kk H locs cm m1 hM hI1
set_option maxHeartbeats 4000000 in
set_option maxRecDepth 100000 in
theorem w_case8 (E : w_E p s m c D aC b L xs) {i : Nat} (hi : i + 6 ≤ L) (hM : w_M D aC s cm mm H locs) (hI : INV cm mm) (hl : lv_has ls 7 (w_lv s b i)) (hf : cells ≤ 601024 ∧ slots ≤ 7293034) (kk : ∀ (H1 : Heap) (locs1 : List Loc) (c1 m1 : g_M), w_M D aC s c1 m1 H1 locs1 → INV c1 m1 → W p l e room_1 s m #[Value.ref b] below meth c H1 locs1 cells slots Q (F0 m 1762 ls [])) : W p l e room_1 s m #[Value.ref b] below meth c H locs cells slots Q (F0 m 547 ls []) := by
  have hx := E.1.1
  have hb := E.1.2.1
  obtain ⟨r, m1, h1, h2, hI1⟩ := s_want (F := 5001) hI (xs (i + 1)) (xs (i + 2))
  refine lv_aload_n hx hb dL_law_547 rfl (lv_at hl 1 rfl) ?_
  refine w_arg (j := 1) E hM.2.2.2 hl rfl (by omega) dL_law_548 dL_law_549 dL_law_551 dL_law_552 dL_law_553 ?_
  refine W.eq (g2 := F0 m 554 ls [.int (xs (i + 1)), .ref (s.heap.size + 0)]) rfl ?_
  refine w_arg (j := 2) E hM.2.2.2 hl rfl (by omega) dL_law_554 dL_law_555 dL_law_557 dL_law_558 dL_law_559 ?_
  refine W.eq (g2 := F0 m 560 ls [.int (xs (i + 2)), .int (xs (i + 1)), .ref (s.heap.size + 0)]) rfl ?_
  refine w_callC [.int (xs (i + 1)), .int (xs (i + 2))] (rest := []) E hl.1 hM cv_L_61 (c10_want l D aC s.heap.size h1) (Nat.le_of_ble_eq_true rfl) (Nat.le_of_ble_eq_true rfl) rfl rfl (Nat.le_of_ble_eq_true rfl) dL_law_560 hf (fun H locs hM => ?_)
  refine W.eq (g2 := F0 m 563 ls [.int r]) rfl ?_
  refine lv_aload_n hx hb dL_law_563 rfl (lv_at hl 2 rfl) ?_
  refine w_arg (j := 1) E hM.2.2.2 hl rfl (by omega) dL_law_564 dL_law_565 dL_law_567 dL_law_568 dL_law_569 ?_
  refine W.eq (g2 := F0 m 570 ls [.int (xs (i + 1)), .ref (s.heap.size + 69 + 0), .int r]) rfl ?_
  refine w_arg (j := 2) E hM.2.2.2 hl rfl (by omega) dL_law_570 dL_law_571 dL_law_573 dL_law_574 dL_law_575 ?_
  refine W.eq (g2 := F0 m 576 ls [.int (xs (i + 2)), .int (xs (i + 1)), .ref (s.heap.size + 69 + 0), .int r]) rfl ?_
  refine w_callM [.int (xs (i + 1)), .int (xs (i + 2))] (rest := [.int r]) E hl.1 hM cv_L_64 (c11_want l D aC (s.heap.size + 69) h2) (Nat.le_of_ble_eq_true rfl) (Nat.le_of_ble_eq_true rfl) rfl rfl (Nat.le_of_ble_eq_true rfl) dL_law_576 hf (fun H locs hM => ?_)
  refine W.eq (g2 := F0 m 579 ls [.int r, .int r]) rfl ?_
  refine lv_icmp_eq (tgt := 1762) hx hb dL_law_579 (by decide) (fun _ => ?_) (fun h => absurd rfl h)
  exact kk H locs cm m1 hM hI1
set_option maxHeartbeats 4000000 in
set_option maxRecDepth 100000 in
theorem w_case9 (E : w_E p s m c D aC b L xs) {i : Nat} (hi : i + 6 ≤ L) (hM : w_M D aC s cm mm H locs) (hI : INV cm mm) (hl : lv_has ls 7 (w_lv s b i)) (hf : cells ≤ 601024 ∧ slots ≤ 7293034) (kk : ∀ (H1 : Heap) (locs1 : List Loc) (c1 m1 : g_M), w_M D aC s c1 m1 H1 locs1 → INV c1 m1 → W p l e room_1 s m #[Value.ref b] below meth c H1 locs1 cells slots Q (F0 m 1762 ls [])) : W p l e room_1 s m #[Value.ref b] below meth c H locs cells slots Q (F0 m 584 ls []) := by
  have hx := E.1.1
  have hb := E.1.2.1
  obtain ⟨r, m1, h1, h2, hI1⟩ := s_holds (F := 5001) hI (xs (i + 1)) (xs (i + 2))
  refine lv_aload_n hx hb dL_law_584 rfl (lv_at hl 1 rfl) ?_
  refine w_arg (j := 1) E hM.2.2.2 hl rfl (by omega) dL_law_585 dL_law_586 dL_law_588 dL_law_589 dL_law_590 ?_
  refine W.eq (g2 := F0 m 591 ls [.int (xs (i + 1)), .ref (s.heap.size + 0)]) rfl ?_
  refine w_arg (j := 2) E hM.2.2.2 hl rfl (by omega) dL_law_591 dL_law_592 dL_law_594 dL_law_595 dL_law_596 ?_
  refine W.eq (g2 := F0 m 597 ls [.int (xs (i + 2)), .int (xs (i + 1)), .ref (s.heap.size + 0)]) rfl ?_
  refine w_callC [.int (xs (i + 1)), .int (xs (i + 2))] (rest := []) E hl.1 hM cv_L_65 (c10_holds l D aC s.heap.size h1) (Nat.le_of_ble_eq_true rfl) (Nat.le_of_ble_eq_true rfl) rfl rfl (Nat.le_of_ble_eq_true rfl) dL_law_597 hf (fun H locs hM => ?_)
  refine W.eq (g2 := F0 m 600 ls [.int r]) rfl ?_
  refine lv_aload_n hx hb dL_law_600 rfl (lv_at hl 2 rfl) ?_
  refine w_arg (j := 1) E hM.2.2.2 hl rfl (by omega) dL_law_601 dL_law_602 dL_law_604 dL_law_605 dL_law_606 ?_
  refine W.eq (g2 := F0 m 607 ls [.int (xs (i + 1)), .ref (s.heap.size + 69 + 0), .int r]) rfl ?_
  refine w_arg (j := 2) E hM.2.2.2 hl rfl (by omega) dL_law_607 dL_law_608 dL_law_610 dL_law_611 dL_law_612 ?_
  refine W.eq (g2 := F0 m 613 ls [.int (xs (i + 2)), .int (xs (i + 1)), .ref (s.heap.size + 69 + 0), .int r]) rfl ?_
  refine w_callM [.int (xs (i + 1)), .int (xs (i + 2))] (rest := [.int r]) E hl.1 hM cv_L_68 (c11_holds l D aC (s.heap.size + 69) h2) (Nat.le_of_ble_eq_true rfl) (Nat.le_of_ble_eq_true rfl) rfl rfl (Nat.le_of_ble_eq_true rfl) dL_law_613 hf (fun H locs hM => ?_)
  refine W.eq (g2 := F0 m 616 ls [.int r, .int r]) rfl ?_
  refine lv_icmp_eq (tgt := 1762) hx hb dL_law_616 (by decide) (fun _ => ?_) (fun h => absurd rfl h)
  exact kk H locs cm m1 hM hI1
set_option maxHeartbeats 4000000 in
set_option maxRecDepth 100000 in
theorem w_case10 (E : w_E p s m c D aC b L xs) {i : Nat} (hi : i + 6 ≤ L) (hM : w_M D aC s cm mm H locs) (hI : INV cm mm) (hl : lv_has ls 7 (w_lv s b i)) (hf : cells ≤ 601024 ∧ slots ≤ 7293034) (kk : ∀ (H1 : Heap) (locs1 : List Loc) (c1 m1 : g_M), w_M D aC s c1 m1 H1 locs1 → INV c1 m1 → W p l e room_1 s m #[Value.ref b] below meth c H1 locs1 cells slots Q (F0 m 1762 ls [])) : W p l e room_1 s m #[Value.ref b] below meth c H locs cells slots Q (F0 m 621 ls []) := by
  have hx := E.1.1
  have hb := E.1.2.1
  obtain ⟨r, m1, h1, h2, hI1⟩ := s_port (F := 5001) hI (xs (i + 1)) (xs (i + 2))
  refine lv_aload_n hx hb dL_law_621 rfl (lv_at hl 1 rfl) ?_
  refine w_arg (j := 1) E hM.2.2.2 hl rfl (by omega) dL_law_622 dL_law_623 dL_law_625 dL_law_626 dL_law_627 ?_
  refine W.eq (g2 := F0 m 628 ls [.int (xs (i + 1)), .ref (s.heap.size + 0)]) rfl ?_
  refine w_arg (j := 2) E hM.2.2.2 hl rfl (by omega) dL_law_628 dL_law_629 dL_law_631 dL_law_632 dL_law_633 ?_
  refine W.eq (g2 := F0 m 634 ls [.int (xs (i + 2)), .int (xs (i + 1)), .ref (s.heap.size + 0)]) rfl ?_
  refine w_callC [.int (xs (i + 1)), .int (xs (i + 2))] (rest := []) E hl.1 hM cv_L_69 (c10_port l D aC s.heap.size h1) (Nat.le_of_ble_eq_true rfl) (Nat.le_of_ble_eq_true rfl) rfl rfl (Nat.le_of_ble_eq_true rfl) dL_law_634 hf (fun H locs hM => ?_)
  refine W.eq (g2 := F0 m 637 ls [.int r]) rfl ?_
  refine lv_aload_n hx hb dL_law_637 rfl (lv_at hl 2 rfl) ?_
  refine w_arg (j := 1) E hM.2.2.2 hl rfl (by omega) dL_law_638 dL_law_639 dL_law_641 dL_law_642 dL_law_643 ?_
  refine W.eq (g2 := F0 m 644 ls [.int (xs (i + 1)), .ref (s.heap.size + 69 + 0), .int r]) rfl ?_
  refine w_arg (j := 2) E hM.2.2.2 hl rfl (by omega) dL_law_644 dL_law_645 dL_law_647 dL_law_648 dL_law_649 ?_
  refine W.eq (g2 := F0 m 650 ls [.int (xs (i + 2)), .int (xs (i + 1)), .ref (s.heap.size + 69 + 0), .int r]) rfl ?_
  refine w_callM [.int (xs (i + 1)), .int (xs (i + 2))] (rest := [.int r]) E hl.1 hM cv_L_72 (c11_port l D aC (s.heap.size + 69) h2) (Nat.le_of_ble_eq_true rfl) (Nat.le_of_ble_eq_true rfl) rfl rfl (Nat.le_of_ble_eq_true rfl) dL_law_650 hf (fun H locs hM => ?_)
  refine W.eq (g2 := F0 m 653 ls [.int r, .int r]) rfl ?_
  refine lv_icmp_eq (tgt := 1762) hx hb dL_law_653 (by decide) (fun _ => ?_) (fun h => absurd rfl h)
  exact kk H locs cm m1 hM hI1
set_option maxHeartbeats 4000000 in
set_option maxRecDepth 100000 in
theorem w_case11 (E : w_E p s m c D aC b L xs) {i : Nat} (hi : i + 6 ≤ L) (hM : w_M D aC s cm mm H locs) (hI : INV cm mm) (hl : lv_has ls 7 (w_lv s b i)) (hf : cells ≤ 601024 ∧ slots ≤ 7293034) (kk : ∀ (H1 : Heap) (locs1 : List Loc) (c1 m1 : g_M), w_M D aC s c1 m1 H1 locs1 → INV c1 m1 → W p l e room_1 s m #[Value.ref b] below meth c H1 locs1 cells slots Q (F0 m 1762 ls [])) : W p l e room_1 s m #[Value.ref b] below meth c H locs cells slots Q (F0 m 658 ls []) := by
  have hx := E.1.1
  have hb := E.1.2.1
  obtain ⟨r, m1, h1, h2, hI1⟩ := s_can (F := 5001) (by decide) hI (xs (i + 1)) (xs (i + 2)) (xs (i + 3))
  refine lv_aload_n hx hb dL_law_658 rfl (lv_at hl 1 rfl) ?_
  refine w_arg (j := 1) E hM.2.2.2 hl rfl (by omega) dL_law_659 dL_law_660 dL_law_662 dL_law_663 dL_law_664 ?_
  refine W.eq (g2 := F0 m 665 ls [.int (xs (i + 1)), .ref (s.heap.size + 0)]) rfl ?_
  refine w_arg (j := 2) E hM.2.2.2 hl rfl (by omega) dL_law_665 dL_law_666 dL_law_668 dL_law_669 dL_law_670 ?_
  refine W.eq (g2 := F0 m 671 ls [.int (xs (i + 2)), .int (xs (i + 1)), .ref (s.heap.size + 0)]) rfl ?_
  refine w_arg (j := 3) E hM.2.2.2 hl rfl (by omega) dL_law_671 dL_law_672 dL_law_674 dL_law_675 dL_law_676 ?_
  refine W.eq (g2 := F0 m 677 ls [.int (xs (i + 3)), .int (xs (i + 2)), .int (xs (i + 1)), .ref (s.heap.size + 0)]) rfl ?_
  refine w_callC [.int (xs (i + 1)), .int (xs (i + 2)), .int (xs (i + 3))] (rest := []) E hl.1 hM cv_L_73 (c10_can l D aC s.heap.size h1) (Nat.le_of_ble_eq_true rfl) (Nat.le_of_ble_eq_true rfl) rfl rfl (Nat.le_of_ble_eq_true rfl) dL_law_677 hf (fun H locs hM => ?_)
  refine W.eq (g2 := F0 m 680 ls [.int r]) rfl ?_
  refine lv_aload_n hx hb dL_law_680 rfl (lv_at hl 2 rfl) ?_
  refine w_arg (j := 1) E hM.2.2.2 hl rfl (by omega) dL_law_681 dL_law_682 dL_law_684 dL_law_685 dL_law_686 ?_
  refine W.eq (g2 := F0 m 687 ls [.int (xs (i + 1)), .ref (s.heap.size + 69 + 0), .int r]) rfl ?_
  refine w_arg (j := 2) E hM.2.2.2 hl rfl (by omega) dL_law_687 dL_law_688 dL_law_690 dL_law_691 dL_law_692 ?_
  refine W.eq (g2 := F0 m 693 ls [.int (xs (i + 2)), .int (xs (i + 1)), .ref (s.heap.size + 69 + 0), .int r]) rfl ?_
  refine w_arg (j := 3) E hM.2.2.2 hl rfl (by omega) dL_law_693 dL_law_694 dL_law_696 dL_law_697 dL_law_698 ?_
  refine W.eq (g2 := F0 m 699 ls [.int (xs (i + 3)), .int (xs (i + 2)), .int (xs (i + 1)), .ref (s.heap.size + 69 + 0), .int r]) rfl ?_
  refine w_callM [.int (xs (i + 1)), .int (xs (i + 2)), .int (xs (i + 3))] (rest := [.int r]) E hl.1 hM cv_L_77 (c11_can l D aC (s.heap.size + 69) h2) (Nat.le_of_ble_eq_true rfl) (Nat.le_of_ble_eq_true rfl) rfl rfl (Nat.le_of_ble_eq_true rfl) dL_law_699 hf (fun H locs hM => ?_)
  refine W.eq (g2 := F0 m 702 ls [.int r, .int r]) rfl ?_
  refine lv_icmp_eq (tgt := 1762) hx hb dL_law_702 (by decide) (fun _ => ?_) (fun h => absurd rfl h)
  exact kk H locs cm m1 hM hI1
set_option maxHeartbeats 4000000 in
set_option maxRecDepth 100000 in
theorem w_case12 (E : w_E p s m c D aC b L xs) {i : Nat} (hi : i + 6 ≤ L) (hM : w_M D aC s cm mm H locs) (hI : INV cm mm) (hl : lv_has ls 7 (w_lv s b i)) (hf : cells ≤ 601024 ∧ slots ≤ 7293034) (kk : ∀ (H1 : Heap) (locs1 : List Loc) (c1 m1 : g_M), w_M D aC s c1 m1 H1 locs1 → INV c1 m1 → W p l e room_1 s m #[Value.ref b] below meth c H1 locs1 cells slots Q (F0 m 1762 ls [])) : W p l e room_1 s m #[Value.ref b] below meth c H locs cells slots Q (F0 m 707 ls []) := by
  have hx := E.1.1
  have hb := E.1.2.1
  obtain ⟨r, c1, m1, h1, h2, hI1⟩ := s_law (F := 5001) (by decide) hI (xs (i + 1)) (xs (i + 2)) (xs (i + 3))
  refine lv_aload_n hx hb dL_law_707 rfl (lv_at hl 1 rfl) ?_
  refine w_arg (j := 1) E hM.2.2.2 hl rfl (by omega) dL_law_708 dL_law_709 dL_law_711 dL_law_712 dL_law_713 ?_
  refine W.eq (g2 := F0 m 714 ls [.int (xs (i + 1)), .ref (s.heap.size + 0)]) rfl ?_
  refine w_arg (j := 2) E hM.2.2.2 hl rfl (by omega) dL_law_714 dL_law_715 dL_law_717 dL_law_718 dL_law_719 ?_
  refine W.eq (g2 := F0 m 720 ls [.int (xs (i + 2)), .int (xs (i + 1)), .ref (s.heap.size + 0)]) rfl ?_
  refine w_arg (j := 3) E hM.2.2.2 hl rfl (by omega) dL_law_720 dL_law_721 dL_law_723 dL_law_724 dL_law_725 ?_
  refine W.eq (g2 := F0 m 726 ls [.int (xs (i + 3)), .int (xs (i + 2)), .int (xs (i + 1)), .ref (s.heap.size + 0)]) rfl ?_
  refine w_callC [.int (xs (i + 1)), .int (xs (i + 2)), .int (xs (i + 3))] (rest := []) E hl.1 hM cv_L_78 (c10_law l D aC s.heap.size h1) (Nat.le_of_ble_eq_true rfl) (Nat.le_of_ble_eq_true rfl) rfl rfl (Nat.le_of_ble_eq_true rfl) dL_law_726 hf (fun H locs hM => ?_)
  refine W.eq (g2 := F0 m 729 ls [.long r]) rfl ?_
  refine lv_aload_n hx hb dL_law_729 rfl (lv_at hl 2 rfl) ?_
  refine w_arg (j := 1) E hM.2.2.2 hl rfl (by omega) dL_law_730 dL_law_731 dL_law_733 dL_law_734 dL_law_735 ?_
  refine W.eq (g2 := F0 m 736 ls [.int (xs (i + 1)), .ref (s.heap.size + 69 + 0), .long r]) rfl ?_
  refine w_arg (j := 2) E hM.2.2.2 hl rfl (by omega) dL_law_736 dL_law_737 dL_law_739 dL_law_740 dL_law_741 ?_
  refine W.eq (g2 := F0 m 742 ls [.int (xs (i + 2)), .int (xs (i + 1)), .ref (s.heap.size + 69 + 0), .long r]) rfl ?_
  refine w_arg (j := 3) E hM.2.2.2 hl rfl (by omega) dL_law_742 dL_law_743 dL_law_745 dL_law_746 dL_law_747 ?_
  refine W.eq (g2 := F0 m 748 ls [.int (xs (i + 3)), .int (xs (i + 2)), .int (xs (i + 1)), .ref (s.heap.size + 69 + 0), .long r]) rfl ?_
  refine w_callM [.int (xs (i + 1)), .int (xs (i + 2)), .int (xs (i + 3))] (rest := [.long r]) E hl.1 hM cv_L_82 (c11_law l D aC (s.heap.size + 69) h2) (Nat.le_of_ble_eq_true rfl) (Nat.le_of_ble_eq_true rfl) rfl rfl (Nat.le_of_ble_eq_true rfl) dL_law_748 hf (fun H locs hM => ?_)
  refine W.eq (g2 := F0 m 751 ls [.long r, .long r]) rfl ?_
  refine W.lcmp hx hb dL_law_751 ?_
  refine lv_if_eq (tgt := 1762) hx hb dL_law_752 (by decide) (fun _ => ?_) (fun h => absurd (w_cmp r) h)
  exact kk H locs c1 m1 hM hI1
set_option maxHeartbeats 4000000 in
set_option maxRecDepth 100000 in
theorem w_case13 (E : w_E p s m c D aC b L xs) {i : Nat} (hi : i + 6 ≤ L) (hM : w_M D aC s cm mm H locs) (hI : INV cm mm) (hl : lv_has ls 7 (w_lv s b i)) (hf : cells ≤ 601024 ∧ slots ≤ 7293034) (kk : ∀ (H1 : Heap) (locs1 : List Loc) (c1 m1 : g_M), w_M D aC s c1 m1 H1 locs1 → INV c1 m1 → W p l e room_1 s m #[Value.ref b] below meth c H1 locs1 cells slots Q (F0 m 1762 ls [])) : W p l e room_1 s m #[Value.ref b] below meth c H locs cells slots Q (F0 m 757 ls []) := by
  have hx := E.1.1
  have hb := E.1.2.1
  obtain ⟨r, c1, m1, h1, h2, hI1⟩ := s_send (F := 5001) (by decide) hI (xs (i + 1)) (xs (i + 2)) (xs (i + 3))
  refine lv_aload_n hx hb dL_law_757 rfl (lv_at hl 1 rfl) ?_
  refine w_arg (j := 1) E hM.2.2.2 hl rfl (by omega) dL_law_758 dL_law_759 dL_law_761 dL_law_762 dL_law_763 ?_
  refine W.eq (g2 := F0 m 764 ls [.int (xs (i + 1)), .ref (s.heap.size + 0)]) rfl ?_
  refine w_arg (j := 2) E hM.2.2.2 hl rfl (by omega) dL_law_764 dL_law_765 dL_law_767 dL_law_768 dL_law_769 ?_
  refine W.eq (g2 := F0 m 770 ls [.int (xs (i + 2)), .int (xs (i + 1)), .ref (s.heap.size + 0)]) rfl ?_
  refine w_arg (j := 3) E hM.2.2.2 hl rfl (by omega) dL_law_770 dL_law_771 dL_law_773 dL_law_774 dL_law_775 ?_
  refine W.eq (g2 := F0 m 776 ls [.int (xs (i + 3)), .int (xs (i + 2)), .int (xs (i + 1)), .ref (s.heap.size + 0)]) rfl ?_
  refine w_callC [.int (xs (i + 1)), .int (xs (i + 2)), .int (xs (i + 3))] (rest := []) E hl.1 hM cv_L_83 (c10_send l D aC s.heap.size h1) (Nat.le_of_ble_eq_true rfl) (Nat.le_of_ble_eq_true rfl) rfl rfl (Nat.le_of_ble_eq_true rfl) dL_law_776 hf (fun H locs hM => ?_)
  refine W.eq (g2 := F0 m 779 ls [.int r]) rfl ?_
  refine lv_aload_n hx hb dL_law_779 rfl (lv_at hl 2 rfl) ?_
  refine w_arg (j := 1) E hM.2.2.2 hl rfl (by omega) dL_law_780 dL_law_781 dL_law_783 dL_law_784 dL_law_785 ?_
  refine W.eq (g2 := F0 m 786 ls [.int (xs (i + 1)), .ref (s.heap.size + 69 + 0), .int r]) rfl ?_
  refine w_arg (j := 2) E hM.2.2.2 hl rfl (by omega) dL_law_786 dL_law_787 dL_law_789 dL_law_790 dL_law_791 ?_
  refine W.eq (g2 := F0 m 792 ls [.int (xs (i + 2)), .int (xs (i + 1)), .ref (s.heap.size + 69 + 0), .int r]) rfl ?_
  refine w_arg (j := 3) E hM.2.2.2 hl rfl (by omega) dL_law_792 dL_law_793 dL_law_795 dL_law_796 dL_law_797 ?_
  refine W.eq (g2 := F0 m 798 ls [.int (xs (i + 3)), .int (xs (i + 2)), .int (xs (i + 1)), .ref (s.heap.size + 69 + 0), .int r]) rfl ?_
  refine w_callM [.int (xs (i + 1)), .int (xs (i + 2)), .int (xs (i + 3))] (rest := [.int r]) E hl.1 hM cv_L_86 (c11_send l D aC (s.heap.size + 69) h2) (Nat.le_of_ble_eq_true rfl) (Nat.le_of_ble_eq_true rfl) rfl rfl (Nat.le_of_ble_eq_true rfl) dL_law_798 hf (fun H locs hM => ?_)
  refine W.eq (g2 := F0 m 801 ls [.int r, .int r]) rfl ?_
  refine lv_icmp_eq (tgt := 1762) hx hb dL_law_801 (by decide) (fun _ => ?_) (fun h => absurd rfl h)
  exact kk H locs c1 m1 hM hI1
set_option maxHeartbeats 4000000 in
set_option maxRecDepth 100000 in
theorem w_case14 (E : w_E p s m c D aC b L xs) {i : Nat} (hi : i + 6 ≤ L) (hM : w_M D aC s cm mm H locs) (hI : INV cm mm) (hl : lv_has ls 7 (w_lv s b i)) (hf : cells ≤ 601024 ∧ slots ≤ 7293034) (kk : ∀ (H1 : Heap) (locs1 : List Loc) (c1 m1 : g_M), w_M D aC s c1 m1 H1 locs1 → INV c1 m1 → W p l e room_1 s m #[Value.ref b] below meth c H1 locs1 cells slots Q (F0 m 1762 ls [])) : W p l e room_1 s m #[Value.ref b] below meth c H locs cells slots Q (F0 m 806 ls []) := by
  have hx := E.1.1
  have hb := E.1.2.1
  obtain ⟨r, c1, m1, h1, h2, hI1⟩ := s_take (F := 5001) (by decide) hI (xs (i + 1))
  refine lv_aload_n hx hb dL_law_806 rfl (lv_at hl 1 rfl) ?_
  refine w_arg (j := 1) E hM.2.2.2 hl rfl (by omega) dL_law_807 dL_law_808 dL_law_810 dL_law_811 dL_law_812 ?_
  refine W.eq (g2 := F0 m 813 ls [.int (xs (i + 1)), .ref (s.heap.size + 0)]) rfl ?_
  refine w_callC [.int (xs (i + 1))] (rest := []) E hl.1 hM cv_L_87 (c10_take l D aC s.heap.size h1) (Nat.le_of_ble_eq_true rfl) (Nat.le_of_ble_eq_true rfl) rfl rfl (Nat.le_of_ble_eq_true rfl) dL_law_813 hf (fun H locs hM => ?_)
  refine W.eq (g2 := F0 m 816 ls [.int r]) rfl ?_
  refine lv_aload_n hx hb dL_law_816 rfl (lv_at hl 2 rfl) ?_
  refine w_arg (j := 1) E hM.2.2.2 hl rfl (by omega) dL_law_817 dL_law_818 dL_law_820 dL_law_821 dL_law_822 ?_
  refine W.eq (g2 := F0 m 823 ls [.int (xs (i + 1)), .ref (s.heap.size + 69 + 0), .int r]) rfl ?_
  refine w_callM [.int (xs (i + 1))] (rest := [.int r]) E hl.1 hM cv_L_91 (c11_take l D aC (s.heap.size + 69) h2) (Nat.le_of_ble_eq_true rfl) (Nat.le_of_ble_eq_true rfl) rfl rfl (Nat.le_of_ble_eq_true rfl) dL_law_823 hf (fun H locs hM => ?_)
  refine W.eq (g2 := F0 m 826 ls [.int r, .int r]) rfl ?_
  refine lv_icmp_eq (tgt := 1762) hx hb dL_law_826 (by decide) (fun _ => ?_) (fun h => absurd rfl h)
  exact kk H locs c1 m1 hM hI1
end WC
