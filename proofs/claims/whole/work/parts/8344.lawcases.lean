/-! THE LAW: its cases (printed by gcase.py) -/
set_option maxRecDepth 20000 in
theorem lc_0 {l : Launch} {d L : Nat} {xs : Nat → Int32} {M M1 M2 : mj_M} {i : Int32} {k : Int32} (h1 : vp_in (i + Int32.ofInt 1) L) (hx : mj_R ic_P d 11001 (.ref 0 :: [.int (if (xs (i + Int32.ofInt 1).toNatClampNeg) = 0 then 0 else 1)]) M (some (.int k)) M1) (hm : mj_R ic_P d 12014 (.ref 124 :: [.int (if (xs (i + Int32.ofInt 1).toNatClampNeg) = 0 then 0 else 1)]) M1 (some (.int k)) M2) (o0 : M.1[0]? = some (11, 17)) (o1 : M1.1[124]? = some (12, 195)) (o2 : M2.1[124]? = some (12, 195)) (o3 : M2.1[194]? = some (101, 1)) : lw_T l d L xs (240, [(4, .int i), (0, .ref 4000000), (1, .ref 0), (2, .ref 124), (3, .ref 194)], [], M) (3275, [(4, .int i), (0, .ref 4000000), (1, .ref 0), (2, .ref 124), (3, .ref 194)], [], M2) 0 := by
  refine lw_one lk_240 rfl ?_
  refine lw_one lk_241 rfl ?_
  refine lw_one lk_242 rfl ?_
  refine lw_one lk_244 rfl ?_
  refine lw_one lk_245 rfl ?_
  refine lw_ld lk_246 h1 ?_
  refine lw_bool lk_247 lk_250 lk_251 lk_254 ?_
  refine lw_cv (vs := [.int (if (xs (i + Int32.ofInt 1).toNatClampNeg) = 0 then 0 else 1)]) (rest := []) lk_255 rfl rfl (by decide) o0 (Nat.le_of_ble_eq_true rfl) hx ?_
  refine lw_one lk_258 rfl ?_
  refine lw_one lk_259 rfl ?_
  refine lw_one lk_260 rfl ?_
  refine lw_one lk_262 rfl ?_
  refine lw_one lk_263 rfl ?_
  refine lw_ld lk_264 h1 ?_
  refine lw_bool lk_265 lk_268 lk_269 lk_272 ?_
  refine lw_cv (vs := [.int (if (xs (i + Int32.ofInt 1).toNatClampNeg) = 0 then 0 else 1)]) (rest := [.int k]) lk_273 rfl rfl (by decide) o1 (Nat.le_of_ble_eq_true rfl) hm ?_
  refine lw_br (c := mj_c .eq k k) (off := 2999) (t := 3275) (r := []) lk_276 rfl rfl rfl rfl rfl (fun _ => ?_) (fun h => absurd rfl (of_decide_eq_false h))
  exact lw_rf
set_option maxRecDepth 20000 in
theorem lc_1 {l : Launch} {d L : Nat} {xs : Nat → Int32} {M M1 M2 : mj_M} {i : Int32} {k : Int32} {b : Int32} (h1 : vp_in (i + Int32.ofInt 1) L) (hw : mw_Met l mj_AW ic_Ns vwCl ic_ty ic_X il_pass ih_pass d [.ref 0, .int (xs (i + Int32.ofInt 1).toNatClampNeg), .ref 194] M (some (.int k)) M1) (he : mj_ext M M1) (hM1 : mj_wM M1) (hm : mj_R ic_P d 12085 (.ref 124 :: [.int (xs (i + Int32.ofInt 1).toNatClampNeg)]) M1 (some (.int b)) M2) (ht : mj_R ic_P d 12003 (.ref 124 :: []) M2 (some (.int k)) M2) (hc : k = 0 → M2.2.2.1 194 0 = b.toInt64) (o0 : M.1[0]? = some (11, 17)) (o1 : M1.1[124]? = some (12, 195)) (o2 : M2.1[124]? = some (12, 195)) (o3 : M2.1[194]? = some (101, 1)) : lw_T l d L xs (281, [(4, .int i), (0, .ref 4000000), (1, .ref 0), (2, .ref 124), (3, .ref 194)], [], M) (3275, [(6, .int b), (5, .int k), (4, .int i), (0, .ref 4000000), (1, .ref 0), (2, .ref 124), (3, .ref 194)], [], M2) 1 := by
  refine lw_one lk_281 rfl ?_
  refine lw_one lk_282 rfl ?_
  refine lw_one lk_283 rfl ?_
  refine lw_one lk_285 rfl ?_
  refine lw_one lk_286 rfl ?_
  refine lw_ld lk_287 h1 ?_
  refine lw_one lk_288 rfl ?_
  refine lw_wr (e := 0) (vs := [.ref 0, .int (xs (i + Int32.ofInt 1).toNatClampNeg), .ref 194]) (rest := []) lk_289 rfl rfl (by decide) hw he hM1 ?_
  refine lw_one lk_292 rfl ?_
  refine lw_one lk_294 rfl ?_
  refine lw_one lk_295 rfl ?_
  refine lw_one lk_296 rfl ?_
  refine lw_one lk_298 rfl ?_
  refine lw_one lk_299 rfl ?_
  refine lw_ld lk_300 h1 ?_
  refine lw_cv (vs := [.int (xs (i + Int32.ofInt 1).toNatClampNeg)]) (rest := []) lk_301 rfl rfl (by decide) o1 (Nat.le_of_ble_eq_true rfl) hm ?_
  refine lw_one lk_304 rfl ?_
  refine lw_one lk_306 rfl ?_
  refine lw_cv (vs := []) (rest := []) lk_307 rfl rfl (by decide) o2 (Nat.le_of_ble_eq_true rfl) ht ?_
  refine lw_one lk_310 rfl ?_
  refine lw_br (c := mj_c .eq k k) (off := 5) (t := 317) (r := []) lk_312 rfl rfl rfl rfl rfl (fun _ => ?_) (fun h => absurd rfl (of_decide_eq_false h))
  refine lw_one lk_317 rfl ?_
  refine lw_br (c := mj_c .ne k 0) (off := 15) (t := 334) (r := []) lk_319 rfl rfl rfl rfl rfl (fun _ => ?_) (fun h => ?_)
  · exact lw_one lk_334 rfl lw_rf
  have hk : k = 0 := Classical.byContradiction (fun q => by have := of_decide_eq_false h; exact this q)
  refine lw_one lk_322 rfl ?_
  refine lw_one lk_323 rfl ?_
  refine lw_lal lk_324 o3 (by decide) ?_
  refine lw_one lk_325 rfl ?_
  refine lw_one lk_327 rfl ?_
  refine lw_one lk_328 rfl ?_
  refine lw_br (c := mj_c .eq (lg_cmp (M2.2.2.1 194 0) b.toInt64) 0) (off := 5) (t := 334) (r := []) lk_329 rfl rfl rfl rfl rfl (fun _ => ?_) (fun h => absurd (by rw [hc hk]; exact lw_cmp _) (of_decide_eq_false h))
  exact lw_one lk_334 rfl lw_rf
set_option maxRecDepth 20000 in
theorem lc_2 {l : Launch} {d L : Nat} {xs : Nat → Int32} {M M1 M2 : mj_M} {i : Int32} {k : Int32} {b : Int32} (h1 : vp_in (i + Int32.ofInt 1) L) (hw : mw_Met l mj_AW ic_Ns vwCl ic_ty ic_X il_tooth ih_tooth d [.ref 0, .int (xs (i + Int32.ofInt 1).toNatClampNeg), .ref 194] M (some (.int k)) M1) (he : mj_ext M M1) (hM1 : mj_wM M1) (hm : mj_R ic_P d 12086 (.ref 124 :: [.int (xs (i + Int32.ofInt 1).toNatClampNeg)]) M1 (some (.int b)) M2) (ht : mj_R ic_P d 12003 (.ref 124 :: []) M2 (some (.int k)) M2) (hc : k = 0 → M2.2.2.1 194 0 = b.toInt64) (o0 : M.1[0]? = some (11, 17)) (o1 : M1.1[124]? = some (12, 195)) (o2 : M2.1[124]? = some (12, 195)) (o3 : M2.1[194]? = some (101, 1)) : lw_T l d L xs (337, [(4, .int i), (0, .ref 4000000), (1, .ref 0), (2, .ref 124), (3, .ref 194)], [], M) (3275, [(6, .int b), (5, .int k), (4, .int i), (0, .ref 4000000), (1, .ref 0), (2, .ref 124), (3, .ref 194)], [], M2) 1 := by
  refine lw_one lk_337 rfl ?_
  refine lw_one lk_338 rfl ?_
  refine lw_one lk_339 rfl ?_
  refine lw_one lk_341 rfl ?_
  refine lw_one lk_342 rfl ?_
  refine lw_ld lk_343 h1 ?_
  refine lw_one lk_344 rfl ?_
  refine lw_wr (e := 0) (vs := [.ref 0, .int (xs (i + Int32.ofInt 1).toNatClampNeg), .ref 194]) (rest := []) lk_345 rfl rfl (by decide) hw he hM1 ?_
  refine lw_one lk_348 rfl ?_
  refine lw_one lk_350 rfl ?_
  refine lw_one lk_351 rfl ?_
  refine lw_one lk_352 rfl ?_
  refine lw_one lk_354 rfl ?_
  refine lw_one lk_355 rfl ?_
  refine lw_ld lk_356 h1 ?_
  refine lw_cv (vs := [.int (xs (i + Int32.ofInt 1).toNatClampNeg)]) (rest := []) lk_357 rfl rfl (by decide) o1 (Nat.le_of_ble_eq_true rfl) hm ?_
  refine lw_one lk_360 rfl ?_
  refine lw_one lk_362 rfl ?_
  refine lw_cv (vs := []) (rest := []) lk_363 rfl rfl (by decide) o2 (Nat.le_of_ble_eq_true rfl) ht ?_
  refine lw_one lk_366 rfl ?_
  refine lw_br (c := mj_c .eq k k) (off := 5) (t := 373) (r := []) lk_368 rfl rfl rfl rfl rfl (fun _ => ?_) (fun h => absurd rfl (of_decide_eq_false h))
  refine lw_one lk_373 rfl ?_
  refine lw_br (c := mj_c .ne k 0) (off := 15) (t := 390) (r := []) lk_375 rfl rfl rfl rfl rfl (fun _ => ?_) (fun h => ?_)
  · exact lw_one lk_390 rfl lw_rf
  have hk : k = 0 := Classical.byContradiction (fun q => by have := of_decide_eq_false h; exact this q)
  refine lw_one lk_378 rfl ?_
  refine lw_one lk_379 rfl ?_
  refine lw_lal lk_380 o3 (by decide) ?_
  refine lw_one lk_381 rfl ?_
  refine lw_one lk_383 rfl ?_
  refine lw_one lk_384 rfl ?_
  refine lw_br (c := mj_c .eq (lg_cmp (M2.2.2.1 194 0) b.toInt64) 0) (off := 5) (t := 390) (r := []) lk_385 rfl rfl rfl rfl rfl (fun _ => ?_) (fun h => absurd (by rw [hc hk]; exact lw_cmp _) (of_decide_eq_false h))
  exact lw_one lk_390 rfl lw_rf
set_option maxRecDepth 20000 in
theorem lc_3 {l : Launch} {d L : Nat} {xs : Nat → Int32} {M M1 M2 : mj_M} {i : Int32} {k : Int32} {b : Int32} (h1 : vp_in (i + Int32.ofInt 1) L) (hw : mw_Met l mj_AW ic_Ns vwCl ic_ty ic_X il_cam ih_cam d [.ref 0, .int (xs (i + Int32.ofInt 1).toNatClampNeg), .ref 194] M (some (.int k)) M1) (he : mj_ext M M1) (hM1 : mj_wM M1) (hm : mj_R ic_P d 12087 (.ref 124 :: [.int (xs (i + Int32.ofInt 1).toNatClampNeg)]) M1 (some (.int b)) M2) (ht : mj_R ic_P d 12003 (.ref 124 :: []) M2 (some (.int k)) M2) (hc : k = 0 → M2.2.2.1 194 0 = b.toInt64) (o0 : M.1[0]? = some (11, 17)) (o1 : M1.1[124]? = some (12, 195)) (o2 : M2.1[124]? = some (12, 195)) (o3 : M2.1[194]? = some (101, 1)) : lw_T l d L xs (393, [(4, .int i), (0, .ref 4000000), (1, .ref 0), (2, .ref 124), (3, .ref 194)], [], M) (3275, [(6, .int b), (5, .int k), (4, .int i), (0, .ref 4000000), (1, .ref 0), (2, .ref 124), (3, .ref 194)], [], M2) 1 := by
  refine lw_one lk_393 rfl ?_
  refine lw_one lk_394 rfl ?_
  refine lw_one lk_395 rfl ?_
  refine lw_one lk_397 rfl ?_
  refine lw_one lk_398 rfl ?_
  refine lw_ld lk_399 h1 ?_
  refine lw_one lk_400 rfl ?_
  refine lw_wr (e := 0) (vs := [.ref 0, .int (xs (i + Int32.ofInt 1).toNatClampNeg), .ref 194]) (rest := []) lk_401 rfl rfl (by decide) hw he hM1 ?_
  refine lw_one lk_404 rfl ?_
  refine lw_one lk_406 rfl ?_
  refine lw_one lk_407 rfl ?_
  refine lw_one lk_408 rfl ?_
  refine lw_one lk_410 rfl ?_
  refine lw_one lk_411 rfl ?_
  refine lw_ld lk_412 h1 ?_
  refine lw_cv (vs := [.int (xs (i + Int32.ofInt 1).toNatClampNeg)]) (rest := []) lk_413 rfl rfl (by decide) o1 (Nat.le_of_ble_eq_true rfl) hm ?_
  refine lw_one lk_416 rfl ?_
  refine lw_one lk_418 rfl ?_
  refine lw_cv (vs := []) (rest := []) lk_419 rfl rfl (by decide) o2 (Nat.le_of_ble_eq_true rfl) ht ?_
  refine lw_one lk_422 rfl ?_
  refine lw_br (c := mj_c .eq k k) (off := 5) (t := 429) (r := []) lk_424 rfl rfl rfl rfl rfl (fun _ => ?_) (fun h => absurd rfl (of_decide_eq_false h))
  refine lw_one lk_429 rfl ?_
  refine lw_br (c := mj_c .ne k 0) (off := 15) (t := 446) (r := []) lk_431 rfl rfl rfl rfl rfl (fun _ => ?_) (fun h => ?_)
  · exact lw_one lk_446 rfl lw_rf
  have hk : k = 0 := Classical.byContradiction (fun q => by have := of_decide_eq_false h; exact this q)
  refine lw_one lk_434 rfl ?_
  refine lw_one lk_435 rfl ?_
  refine lw_lal lk_436 o3 (by decide) ?_
  refine lw_one lk_437 rfl ?_
  refine lw_one lk_439 rfl ?_
  refine lw_one lk_440 rfl ?_
  refine lw_br (c := mj_c .eq (lg_cmp (M2.2.2.1 194 0) b.toInt64) 0) (off := 5) (t := 446) (r := []) lk_441 rfl rfl rfl rfl rfl (fun _ => ?_) (fun h => absurd (by rw [hc hk]; exact lw_cmp _) (of_decide_eq_false h))
  exact lw_one lk_446 rfl lw_rf
set_option maxRecDepth 20000 in
theorem lc_4 {l : Launch} {d L : Nat} {xs : Nat → Int32} {M M1 M2 : mj_M} {i : Int32} {k : Int32} {b : Int32} (h1 : vp_in (i + Int32.ofInt 1) L) (h2 : vp_in (i + Int32.ofInt 2) L) (hw : mw_Met l mj_AW ic_Ns vwCl ic_ty ic_X il_turn ih_turn d [.ref 0, .int (xs (i + Int32.ofInt 1).toNatClampNeg), .int (xs (i + Int32.ofInt 2).toNatClampNeg), .ref 194] M (some (.int k)) M1) (he : mj_ext M M1) (hM1 : mj_wM M1) (hm : mj_R ic_P d 12088 (.ref 124 :: [.int (xs (i + Int32.ofInt 1).toNatClampNeg), .int (xs (i + Int32.ofInt 2).toNatClampNeg)]) M1 (some (.int b)) M2) (ht : mj_R ic_P d 12003 (.ref 124 :: []) M2 (some (.int k)) M2) (hc : k = 0 → M2.2.2.1 194 0 = b.toInt64) (o0 : M.1[0]? = some (11, 17)) (o1 : M1.1[124]? = some (12, 195)) (o2 : M2.1[124]? = some (12, 195)) (o3 : M2.1[194]? = some (101, 1)) : lw_T l d L xs (449, [(4, .int i), (0, .ref 4000000), (1, .ref 0), (2, .ref 124), (3, .ref 194)], [], M) (3275, [(6, .int b), (5, .int k), (4, .int i), (0, .ref 4000000), (1, .ref 0), (2, .ref 124), (3, .ref 194)], [], M2) 1 := by
  refine lw_one lk_449 rfl ?_
  refine lw_one lk_450 rfl ?_
  refine lw_one lk_451 rfl ?_
  refine lw_one lk_453 rfl ?_
  refine lw_one lk_454 rfl ?_
  refine lw_ld lk_455 h1 ?_
  refine lw_one lk_456 rfl ?_
  refine lw_one lk_457 rfl ?_
  refine lw_one lk_459 rfl ?_
  refine lw_one lk_460 rfl ?_
  refine lw_ld lk_461 h2 ?_
  refine lw_one lk_462 rfl ?_
  refine lw_wr (e := 0) (vs := [.ref 0, .int (xs (i + Int32.ofInt 1).toNatClampNeg), .int (xs (i + Int32.ofInt 2).toNatClampNeg), .ref 194]) (rest := []) lk_463 rfl rfl (by decide) hw he hM1 ?_
  refine lw_one lk_466 rfl ?_
  refine lw_one lk_468 rfl ?_
  refine lw_one lk_469 rfl ?_
  refine lw_one lk_470 rfl ?_
  refine lw_one lk_472 rfl ?_
  refine lw_one lk_473 rfl ?_
  refine lw_ld lk_474 h1 ?_
  refine lw_one lk_475 rfl ?_
  refine lw_one lk_476 rfl ?_
  refine lw_one lk_478 rfl ?_
  refine lw_one lk_479 rfl ?_
  refine lw_ld lk_480 h2 ?_
  refine lw_cv (vs := [.int (xs (i + Int32.ofInt 1).toNatClampNeg), .int (xs (i + Int32.ofInt 2).toNatClampNeg)]) (rest := []) lk_481 rfl rfl (by decide) o1 (Nat.le_of_ble_eq_true rfl) hm ?_
  refine lw_one lk_484 rfl ?_
  refine lw_one lk_486 rfl ?_
  refine lw_cv (vs := []) (rest := []) lk_487 rfl rfl (by decide) o2 (Nat.le_of_ble_eq_true rfl) ht ?_
  refine lw_one lk_490 rfl ?_
  refine lw_br (c := mj_c .eq k k) (off := 5) (t := 497) (r := []) lk_492 rfl rfl rfl rfl rfl (fun _ => ?_) (fun h => absurd rfl (of_decide_eq_false h))
  refine lw_one lk_497 rfl ?_
  refine lw_br (c := mj_c .ne k 0) (off := 15) (t := 514) (r := []) lk_499 rfl rfl rfl rfl rfl (fun _ => ?_) (fun h => ?_)
  · exact lw_one lk_514 rfl lw_rf
  have hk : k = 0 := Classical.byContradiction (fun q => by have := of_decide_eq_false h; exact this q)
  refine lw_one lk_502 rfl ?_
  refine lw_one lk_503 rfl ?_
  refine lw_lal lk_504 o3 (by decide) ?_
  refine lw_one lk_505 rfl ?_
  refine lw_one lk_507 rfl ?_
  refine lw_one lk_508 rfl ?_
  refine lw_br (c := mj_c .eq (lg_cmp (M2.2.2.1 194 0) b.toInt64) 0) (off := 5) (t := 514) (r := []) lk_509 rfl rfl rfl rfl rfl (fun _ => ?_) (fun h => absurd (by rw [hc hk]; exact lw_cmp _) (of_decide_eq_false h))
  exact lw_one lk_514 rfl lw_rf
set_option maxRecDepth 20000 in
theorem lc_5 {l : Launch} {d L : Nat} {xs : Nat → Int32} {M M1 M2 : mj_M} {i : Int32} {k : Int32} {b : Int32} (h1 : vp_in (i + Int32.ofInt 1) L) (hw : mw_Met l mj_AW ic_Ns vwCl ic_ty ic_X il_run ih_run d [.ref 0, .int (xs (i + Int32.ofInt 1).toNatClampNeg), .ref 194] M (some (.int k)) M1) (he : mj_ext M M1) (hM1 : mj_wM M1) (hm : mj_R ic_P d 12089 (.ref 124 :: [.int (xs (i + Int32.ofInt 1).toNatClampNeg)]) M1 (some (.int b)) M2) (ht : mj_R ic_P d 12003 (.ref 124 :: []) M2 (some (.int k)) M2) (hc : k = 0 → M2.2.2.1 194 0 = b.toInt64) (o0 : M.1[0]? = some (11, 17)) (o1 : M1.1[124]? = some (12, 195)) (o2 : M2.1[124]? = some (12, 195)) (o3 : M2.1[194]? = some (101, 1)) : lw_T l d L xs (517, [(4, .int i), (0, .ref 4000000), (1, .ref 0), (2, .ref 124), (3, .ref 194)], [], M) (3275, [(6, .int b), (5, .int k), (4, .int i), (0, .ref 4000000), (1, .ref 0), (2, .ref 124), (3, .ref 194)], [], M2) 1 := by
  refine lw_one lk_517 rfl ?_
  refine lw_one lk_518 rfl ?_
  refine lw_one lk_519 rfl ?_
  refine lw_one lk_521 rfl ?_
  refine lw_one lk_522 rfl ?_
  refine lw_ld lk_523 h1 ?_
  refine lw_one lk_524 rfl ?_
  refine lw_wr (e := 0) (vs := [.ref 0, .int (xs (i + Int32.ofInt 1).toNatClampNeg), .ref 194]) (rest := []) lk_525 rfl rfl (by decide) hw he hM1 ?_
  refine lw_one lk_528 rfl ?_
  refine lw_one lk_530 rfl ?_
  refine lw_one lk_531 rfl ?_
  refine lw_one lk_532 rfl ?_
  refine lw_one lk_534 rfl ?_
  refine lw_one lk_535 rfl ?_
  refine lw_ld lk_536 h1 ?_
  refine lw_cv (vs := [.int (xs (i + Int32.ofInt 1).toNatClampNeg)]) (rest := []) lk_537 rfl rfl (by decide) o1 (Nat.le_of_ble_eq_true rfl) hm ?_
  refine lw_one lk_540 rfl ?_
  refine lw_one lk_542 rfl ?_
  refine lw_cv (vs := []) (rest := []) lk_543 rfl rfl (by decide) o2 (Nat.le_of_ble_eq_true rfl) ht ?_
  refine lw_one lk_546 rfl ?_
  refine lw_br (c := mj_c .eq k k) (off := 5) (t := 553) (r := []) lk_548 rfl rfl rfl rfl rfl (fun _ => ?_) (fun h => absurd rfl (of_decide_eq_false h))
  refine lw_one lk_553 rfl ?_
  refine lw_br (c := mj_c .ne k 0) (off := 15) (t := 570) (r := []) lk_555 rfl rfl rfl rfl rfl (fun _ => ?_) (fun h => ?_)
  · exact lw_one lk_570 rfl lw_rf
  have hk : k = 0 := Classical.byContradiction (fun q => by have := of_decide_eq_false h; exact this q)
  refine lw_one lk_558 rfl ?_
  refine lw_one lk_559 rfl ?_
  refine lw_lal lk_560 o3 (by decide) ?_
  refine lw_one lk_561 rfl ?_
  refine lw_one lk_563 rfl ?_
  refine lw_one lk_564 rfl ?_
  refine lw_br (c := mj_c .eq (lg_cmp (M2.2.2.1 194 0) b.toInt64) 0) (off := 5) (t := 570) (r := []) lk_565 rfl rfl rfl rfl rfl (fun _ => ?_) (fun h => absurd (by rw [hc hk]; exact lw_cmp _) (of_decide_eq_false h))
  exact lw_one lk_570 rfl lw_rf
set_option maxRecDepth 20000 in
theorem lc_6 {l : Launch} {d L : Nat} {xs : Nat → Int32} {M M1 M2 : mj_M} {i : Int32} {k : Int32} {b : Int32} (h1 : vp_in (i + Int32.ofInt 1) L) (h2 : vp_in (i + Int32.ofInt 2) L) (hw : mw_Met l mj_AW ic_Ns vwCl ic_ty ic_X il_set ih_set d [.ref 0, .int (xs (i + Int32.ofInt 1).toNatClampNeg), .int (if (xs (i + Int32.ofInt 2).toNatClampNeg) = 0 then 0 else 1), .ref 194] M (some (.int k)) M1) (he : mj_ext M M1) (hM1 : mj_wM M1) (hm : mj_R ic_P d 12090 (.ref 124 :: [.int (xs (i + Int32.ofInt 1).toNatClampNeg), .int (if (xs (i + Int32.ofInt 2).toNatClampNeg) = 0 then 0 else 1)]) M1 (some (.int b)) M2) (ht : mj_R ic_P d 12003 (.ref 124 :: []) M2 (some (.int k)) M2) (hc : k = 0 → M2.2.2.1 194 0 = (if b = 0 then 0 else 1)) (o0 : M.1[0]? = some (11, 17)) (o1 : M1.1[124]? = some (12, 195)) (o2 : M2.1[124]? = some (12, 195)) (o3 : M2.1[194]? = some (101, 1)) : lw_T l d L xs (573, [(4, .int i), (0, .ref 4000000), (1, .ref 0), (2, .ref 124), (3, .ref 194)], [], M) (3275, [(6, .int b), (5, .int k), (4, .int i), (0, .ref 4000000), (1, .ref 0), (2, .ref 124), (3, .ref 194)], [], M2) 1 := by
  refine lw_one lk_573 rfl ?_
  refine lw_one lk_574 rfl ?_
  refine lw_one lk_575 rfl ?_
  refine lw_one lk_577 rfl ?_
  refine lw_one lk_578 rfl ?_
  refine lw_ld lk_579 h1 ?_
  refine lw_one lk_580 rfl ?_
  refine lw_one lk_581 rfl ?_
  refine lw_one lk_583 rfl ?_
  refine lw_one lk_584 rfl ?_
  refine lw_ld lk_585 h2 ?_
  refine lw_bool lk_586 lk_589 lk_590 lk_593 ?_
  refine lw_one lk_594 rfl ?_
  refine lw_wr (e := 0) (vs := [.ref 0, .int (xs (i + Int32.ofInt 1).toNatClampNeg), .int (if (xs (i + Int32.ofInt 2).toNatClampNeg) = 0 then 0 else 1), .ref 194]) (rest := []) lk_595 rfl rfl (by decide) hw he hM1 ?_
  refine lw_one lk_598 rfl ?_
  refine lw_one lk_600 rfl ?_
  refine lw_one lk_601 rfl ?_
  refine lw_one lk_602 rfl ?_
  refine lw_one lk_604 rfl ?_
  refine lw_one lk_605 rfl ?_
  refine lw_ld lk_606 h1 ?_
  refine lw_one lk_607 rfl ?_
  refine lw_one lk_608 rfl ?_
  refine lw_one lk_610 rfl ?_
  refine lw_one lk_611 rfl ?_
  refine lw_ld lk_612 h2 ?_
  refine lw_bool lk_613 lk_616 lk_617 lk_620 ?_
  refine lw_cv (vs := [.int (xs (i + Int32.ofInt 1).toNatClampNeg), .int (if (xs (i + Int32.ofInt 2).toNatClampNeg) = 0 then 0 else 1)]) (rest := []) lk_621 rfl rfl (by decide) o1 (Nat.le_of_ble_eq_true rfl) hm ?_
  refine lw_one lk_624 rfl ?_
  refine lw_one lk_626 rfl ?_
  refine lw_cv (vs := []) (rest := []) lk_627 rfl rfl (by decide) o2 (Nat.le_of_ble_eq_true rfl) ht ?_
  refine lw_one lk_630 rfl ?_
  refine lw_br (c := mj_c .eq k k) (off := 5) (t := 637) (r := []) lk_632 rfl rfl rfl rfl rfl (fun _ => ?_) (fun h => absurd rfl (of_decide_eq_false h))
  refine lw_one lk_637 rfl ?_
  refine lw_br (c := mj_c .ne k 0) (off := 22) (t := 661) (r := []) lk_639 rfl rfl rfl rfl rfl (fun _ => ?_) (fun h => ?_)
  · exact lw_one lk_661 rfl lw_rf
  have hk : k = 0 := Classical.byContradiction (fun q => by have := of_decide_eq_false h; exact this q)
  refine lw_one lk_642 rfl ?_
  refine lw_one lk_643 rfl ?_
  refine lw_lal lk_644 o3 (by decide) ?_
  refine lw_one lk_645 rfl ?_
  have key : lw_T l d L xs (655, [(6, .int b), (5, .int k), (4, .int i), (0, .ref 4000000), (1, .ref 0), (2, .ref 124), (3, .ref 194)], [.long (if b = 0 then 0 else 1), .long (M2.2.2.1 194 0)], M2) (3275, [(6, .int b), (5, .int k), (4, .int i), (0, .ref 4000000), (1, .ref 0), (2, .ref 124), (3, .ref 194)], [], M2) 0 := by
    refine lw_one lk_655 rfl ?_
    refine lw_br (c := mj_c .eq (lg_cmp (M2.2.2.1 194 0) (if b = 0 then 0 else 1)) 0) (off := 5) (t := 661) (r := []) lk_656 rfl rfl rfl rfl rfl (fun _ => ?_) (fun h => absurd (by rw [hc hk]; exact lw_cmp _) (of_decide_eq_false h))
    exact lw_one lk_661 rfl lw_rf
  · refine lw_br (c := mj_c .eq b 0) (off := 7) (t := 654) (r := [.long (M2.2.2.1 194 0)]) lk_647 rfl rfl rfl rfl rfl (fun h => ?_) (fun h => ?_)
    · rw [if_pos (of_decide_eq_true h)] at key; exact lw_one lk_654 rfl key
    · rw [if_neg (of_decide_eq_false h)] at key; exact lw_one lk_650 rfl (lw_one lk_651 rfl key)
set_option maxRecDepth 20000 in
theorem lc_7 {l : Launch} {d L : Nat} {xs : Nat → Int32} {M M1 M2 : mj_M} {i : Int32} {k : Int32} {b : Int32} (h1 : vp_in (i + Int32.ofInt 1) L) (hw : mw_Met l mj_AW ic_Ns vwCl ic_ty ic_X il_load ih_load d [.ref 0, .int (xs (i + Int32.ofInt 1).toNatClampNeg), .ref 194] M (some (.int k)) M1) (he : mj_ext M M1) (hM1 : mj_wM M1) (hm : mj_R ic_P d 12091 (.ref 124 :: [.int (xs (i + Int32.ofInt 1).toNatClampNeg)]) M1 (some (.int b)) M2) (ht : mj_R ic_P d 12003 (.ref 124 :: []) M2 (some (.int k)) M2) (hc : k = 0 → M2.2.2.1 194 0 = b.toInt64) (o0 : M.1[0]? = some (11, 17)) (o1 : M1.1[124]? = some (12, 195)) (o2 : M2.1[124]? = some (12, 195)) (o3 : M2.1[194]? = some (101, 1)) : lw_T l d L xs (664, [(4, .int i), (0, .ref 4000000), (1, .ref 0), (2, .ref 124), (3, .ref 194)], [], M) (3275, [(6, .int b), (5, .int k), (4, .int i), (0, .ref 4000000), (1, .ref 0), (2, .ref 124), (3, .ref 194)], [], M2) 1 := by
  refine lw_one lk_664 rfl ?_
  refine lw_one lk_665 rfl ?_
  refine lw_one lk_666 rfl ?_
  refine lw_one lk_668 rfl ?_
  refine lw_one lk_669 rfl ?_
  refine lw_ld lk_670 h1 ?_
  refine lw_one lk_671 rfl ?_
  refine lw_wr (e := 0) (vs := [.ref 0, .int (xs (i + Int32.ofInt 1).toNatClampNeg), .ref 194]) (rest := []) lk_672 rfl rfl (by decide) hw he hM1 ?_
  refine lw_one lk_675 rfl ?_
  refine lw_one lk_677 rfl ?_
  refine lw_one lk_678 rfl ?_
  refine lw_one lk_679 rfl ?_
  refine lw_one lk_681 rfl ?_
  refine lw_one lk_682 rfl ?_
  refine lw_ld lk_683 h1 ?_
  refine lw_cv (vs := [.int (xs (i + Int32.ofInt 1).toNatClampNeg)]) (rest := []) lk_684 rfl rfl (by decide) o1 (Nat.le_of_ble_eq_true rfl) hm ?_
  refine lw_one lk_687 rfl ?_
  refine lw_one lk_689 rfl ?_
  refine lw_cv (vs := []) (rest := []) lk_690 rfl rfl (by decide) o2 (Nat.le_of_ble_eq_true rfl) ht ?_
  refine lw_one lk_693 rfl ?_
  refine lw_br (c := mj_c .eq k k) (off := 5) (t := 700) (r := []) lk_695 rfl rfl rfl rfl rfl (fun _ => ?_) (fun h => absurd rfl (of_decide_eq_false h))
  refine lw_one lk_700 rfl ?_
  refine lw_br (c := mj_c .ne k 0) (off := 15) (t := 717) (r := []) lk_702 rfl rfl rfl rfl rfl (fun _ => ?_) (fun h => ?_)
  · exact lw_one lk_717 rfl lw_rf
  have hk : k = 0 := Classical.byContradiction (fun q => by have := of_decide_eq_false h; exact this q)
  refine lw_one lk_705 rfl ?_
  refine lw_one lk_706 rfl ?_
  refine lw_lal lk_707 o3 (by decide) ?_
  refine lw_one lk_708 rfl ?_
  refine lw_one lk_710 rfl ?_
  refine lw_one lk_711 rfl ?_
  refine lw_br (c := mj_c .eq (lg_cmp (M2.2.2.1 194 0) b.toInt64) 0) (off := 5) (t := 717) (r := []) lk_712 rfl rfl rfl rfl rfl (fun _ => ?_) (fun h => absurd (by rw [hc hk]; exact lw_cmp _) (of_decide_eq_false h))
  exact lw_one lk_717 rfl lw_rf
set_option maxRecDepth 20000 in
theorem lc_8 {l : Launch} {d L : Nat} {xs : Nat → Int32} {M M1 M2 : mj_M} {i : Int32} {k : Int32} {b : Int32} (h1 : vp_in (i + Int32.ofInt 1) L) (h2 : vp_in (i + Int32.ofInt 2) L) (hw : mw_Met l mj_AW ic_Ns vwCl ic_ty ic_X il_pin ih_pin d [.ref 0, .int (xs (i + Int32.ofInt 1).toNatClampNeg), .int (xs (i + Int32.ofInt 2).toNatClampNeg), .ref 194] M (some (.int k)) M1) (he : mj_ext M M1) (hM1 : mj_wM M1) (hm : mj_R ic_P d 12092 (.ref 124 :: [.int (xs (i + Int32.ofInt 1).toNatClampNeg), .int (xs (i + Int32.ofInt 2).toNatClampNeg)]) M1 (some (.int b)) M2) (ht : mj_R ic_P d 12003 (.ref 124 :: []) M2 (some (.int k)) M2) (hc : k = 0 → M2.2.2.1 194 0 = b.toInt64) (o0 : M.1[0]? = some (11, 17)) (o1 : M1.1[124]? = some (12, 195)) (o2 : M2.1[124]? = some (12, 195)) (o3 : M2.1[194]? = some (101, 1)) : lw_T l d L xs (720, [(4, .int i), (0, .ref 4000000), (1, .ref 0), (2, .ref 124), (3, .ref 194)], [], M) (3275, [(6, .int b), (5, .int k), (4, .int i), (0, .ref 4000000), (1, .ref 0), (2, .ref 124), (3, .ref 194)], [], M2) 1 := by
  refine lw_one lk_720 rfl ?_
  refine lw_one lk_721 rfl ?_
  refine lw_one lk_722 rfl ?_
  refine lw_one lk_724 rfl ?_
  refine lw_one lk_725 rfl ?_
  refine lw_ld lk_726 h1 ?_
  refine lw_one lk_727 rfl ?_
  refine lw_one lk_728 rfl ?_
  refine lw_one lk_730 rfl ?_
  refine lw_one lk_731 rfl ?_
  refine lw_ld lk_732 h2 ?_
  refine lw_one lk_733 rfl ?_
  refine lw_wr (e := 0) (vs := [.ref 0, .int (xs (i + Int32.ofInt 1).toNatClampNeg), .int (xs (i + Int32.ofInt 2).toNatClampNeg), .ref 194]) (rest := []) lk_734 rfl rfl (by decide) hw he hM1 ?_
  refine lw_one lk_737 rfl ?_
  refine lw_one lk_739 rfl ?_
  refine lw_one lk_740 rfl ?_
  refine lw_one lk_741 rfl ?_
  refine lw_one lk_743 rfl ?_
  refine lw_one lk_744 rfl ?_
  refine lw_ld lk_745 h1 ?_
  refine lw_one lk_746 rfl ?_
  refine lw_one lk_747 rfl ?_
  refine lw_one lk_749 rfl ?_
  refine lw_one lk_750 rfl ?_
  refine lw_ld lk_751 h2 ?_
  refine lw_cv (vs := [.int (xs (i + Int32.ofInt 1).toNatClampNeg), .int (xs (i + Int32.ofInt 2).toNatClampNeg)]) (rest := []) lk_752 rfl rfl (by decide) o1 (Nat.le_of_ble_eq_true rfl) hm ?_
  refine lw_one lk_755 rfl ?_
  refine lw_one lk_757 rfl ?_
  refine lw_cv (vs := []) (rest := []) lk_758 rfl rfl (by decide) o2 (Nat.le_of_ble_eq_true rfl) ht ?_
  refine lw_one lk_761 rfl ?_
  refine lw_br (c := mj_c .eq k k) (off := 5) (t := 768) (r := []) lk_763 rfl rfl rfl rfl rfl (fun _ => ?_) (fun h => absurd rfl (of_decide_eq_false h))
  refine lw_one lk_768 rfl ?_
  refine lw_br (c := mj_c .ne k 0) (off := 15) (t := 785) (r := []) lk_770 rfl rfl rfl rfl rfl (fun _ => ?_) (fun h => ?_)
  · exact lw_one lk_785 rfl lw_rf
  have hk : k = 0 := Classical.byContradiction (fun q => by have := of_decide_eq_false h; exact this q)
  refine lw_one lk_773 rfl ?_
  refine lw_one lk_774 rfl ?_
  refine lw_lal lk_775 o3 (by decide) ?_
  refine lw_one lk_776 rfl ?_
  refine lw_one lk_778 rfl ?_
  refine lw_one lk_779 rfl ?_
  refine lw_br (c := mj_c .eq (lg_cmp (M2.2.2.1 194 0) b.toInt64) 0) (off := 5) (t := 785) (r := []) lk_780 rfl rfl rfl rfl rfl (fun _ => ?_) (fun h => absurd (by rw [hc hk]; exact lw_cmp _) (of_decide_eq_false h))
  exact lw_one lk_785 rfl lw_rf
set_option maxRecDepth 20000 in
theorem lc_9 {l : Launch} {d L : Nat} {xs : Nat → Int32} {M M1 M2 : mj_M} {i : Int32} {k : Int32} (h1 : vp_in (i + Int32.ofInt 1) L) (h2 : vp_in (i + Int32.ofInt 2) L) (h3 : vp_in (i + Int32.ofInt 3) L) (h4 : vp_in (i + Int32.ofInt 4) L) (hw : mw_Met l mj_AW ic_Ns vwCl ic_ty ic_X il_limits ih_limits d [.ref 0, .int (xs (i + Int32.ofInt 1).toNatClampNeg), .int (xs (i + Int32.ofInt 2).toNatClampNeg), .int (xs (i + Int32.ofInt 3).toNatClampNeg), .int (xs (i + Int32.ofInt 4).toNatClampNeg)] M (some (.int k)) M1) (he : mj_ext M M1) (hM1 : mj_wM M1) (hm : mj_R ic_P d 12093 (.ref 124 :: [.int (xs (i + Int32.ofInt 1).toNatClampNeg), .int (xs (i + Int32.ofInt 2).toNatClampNeg), .int (xs (i + Int32.ofInt 3).toNatClampNeg), .int (xs (i + Int32.ofInt 4).toNatClampNeg)]) M1 none M2) (ht : mj_R ic_P d 12003 (.ref 124 :: []) M2 (some (.int k)) M2) (o0 : M.1[0]? = some (11, 17)) (o1 : M1.1[124]? = some (12, 195)) (o2 : M2.1[124]? = some (12, 195)) (o3 : M2.1[194]? = some (101, 1)) : lw_T l d L xs (788, [(4, .int i), (0, .ref 4000000), (1, .ref 0), (2, .ref 124), (3, .ref 194)], [], M) (3275, [(5, .int k), (4, .int i), (0, .ref 4000000), (1, .ref 0), (2, .ref 124), (3, .ref 194)], [], M2) 1 := by
  refine lw_one lk_788 rfl ?_
  refine lw_one lk_789 rfl ?_
  refine lw_one lk_790 rfl ?_
  refine lw_one lk_792 rfl ?_
  refine lw_one lk_793 rfl ?_
  refine lw_ld lk_794 h1 ?_
  refine lw_one lk_795 rfl ?_
  refine lw_one lk_796 rfl ?_
  refine lw_one lk_798 rfl ?_
  refine lw_one lk_799 rfl ?_
  refine lw_ld lk_800 h2 ?_
  refine lw_one lk_801 rfl ?_
  refine lw_one lk_802 rfl ?_
  refine lw_one lk_804 rfl ?_
  refine lw_one lk_805 rfl ?_
  refine lw_ld lk_806 h3 ?_
  refine lw_one lk_807 rfl ?_
  refine lw_one lk_808 rfl ?_
  refine lw_one lk_810 rfl ?_
  refine lw_one lk_811 rfl ?_
  refine lw_ld lk_812 h4 ?_
  refine lw_wr (e := 0) (vs := [.ref 0, .int (xs (i + Int32.ofInt 1).toNatClampNeg), .int (xs (i + Int32.ofInt 2).toNatClampNeg), .int (xs (i + Int32.ofInt 3).toNatClampNeg), .int (xs (i + Int32.ofInt 4).toNatClampNeg)]) (rest := []) lk_813 rfl rfl (by decide) hw he hM1 ?_
  refine lw_one lk_816 rfl ?_
  refine lw_one lk_818 rfl ?_
  refine lw_one lk_819 rfl ?_
  refine lw_one lk_820 rfl ?_
  refine lw_one lk_822 rfl ?_
  refine lw_one lk_823 rfl ?_
  refine lw_ld lk_824 h1 ?_
  refine lw_one lk_825 rfl ?_
  refine lw_one lk_826 rfl ?_
  refine lw_one lk_828 rfl ?_
  refine lw_one lk_829 rfl ?_
  refine lw_ld lk_830 h2 ?_
  refine lw_one lk_831 rfl ?_
  refine lw_one lk_832 rfl ?_
  refine lw_one lk_834 rfl ?_
  refine lw_one lk_835 rfl ?_
  refine lw_ld lk_836 h3 ?_
  refine lw_one lk_837 rfl ?_
  refine lw_one lk_838 rfl ?_
  refine lw_one lk_840 rfl ?_
  refine lw_one lk_841 rfl ?_
  refine lw_ld lk_842 h4 ?_
  refine lw_cv (vs := [.int (xs (i + Int32.ofInt 1).toNatClampNeg), .int (xs (i + Int32.ofInt 2).toNatClampNeg), .int (xs (i + Int32.ofInt 3).toNatClampNeg), .int (xs (i + Int32.ofInt 4).toNatClampNeg)]) (rest := []) lk_843 rfl rfl (by decide) o1 (Nat.le_of_ble_eq_true rfl) hm ?_
  refine lw_one lk_846 rfl ?_
  refine lw_cv (vs := []) (rest := []) lk_847 rfl rfl (by decide) o2 (Nat.le_of_ble_eq_true rfl) ht ?_
  refine lw_one lk_850 rfl ?_
  refine lw_br (c := mj_c .eq k k) (off := 5) (t := 857) (r := []) lk_852 rfl rfl rfl rfl rfl (fun _ => ?_) (fun h => absurd rfl (of_decide_eq_false h))
  exact lw_one lk_857 rfl lw_rf
set_option maxRecDepth 20000 in
theorem lc_10 {l : Launch} {d L : Nat} {xs : Nat → Int32} {M M1 M2 : mj_M} {i : Int32} {k : Int32} (h1 : vp_in (i + Int32.ofInt 1) L) (h2 : vp_in (i + Int32.ofInt 2) L) (h3 : vp_in (i + Int32.ofInt 3) L) (h4 : vp_in (i + Int32.ofInt 4) L) (h5 : vp_in (i + Int32.ofInt 5) L) (hw : mw_Met l mj_AW ic_Ns vwCl ic_ty ic_X il_line ih_line d [.ref 0, .int (xs (i + Int32.ofInt 1).toNatClampNeg), .int (xs (i + Int32.ofInt 2).toNatClampNeg), .int (xs (i + Int32.ofInt 3).toNatClampNeg), .int (xs (i + Int32.ofInt 4).toNatClampNeg), .int (xs (i + Int32.ofInt 5).toNatClampNeg)] M (some (.int k)) M1) (he : mj_ext M M1) (hM1 : mj_wM M1) (hm : mj_R ic_P d 12095 (.ref 124 :: [.int (xs (i + Int32.ofInt 1).toNatClampNeg), .int (xs (i + Int32.ofInt 2).toNatClampNeg), .int (xs (i + Int32.ofInt 3).toNatClampNeg), .int (xs (i + Int32.ofInt 4).toNatClampNeg), .int (xs (i + Int32.ofInt 5).toNatClampNeg)]) M1 none M2) (ht : mj_R ic_P d 12003 (.ref 124 :: []) M2 (some (.int k)) M2) (o0 : M.1[0]? = some (11, 17)) (o1 : M1.1[124]? = some (12, 195)) (o2 : M2.1[124]? = some (12, 195)) (o3 : M2.1[194]? = some (101, 1)) : lw_T l d L xs (860, [(4, .int i), (0, .ref 4000000), (1, .ref 0), (2, .ref 124), (3, .ref 194)], [], M) (3275, [(5, .int k), (4, .int i), (0, .ref 4000000), (1, .ref 0), (2, .ref 124), (3, .ref 194)], [], M2) 1 := by
  refine lw_one lk_860 rfl ?_
  refine lw_one lk_861 rfl ?_
  refine lw_one lk_862 rfl ?_
  refine lw_one lk_864 rfl ?_
  refine lw_one lk_865 rfl ?_
  refine lw_ld lk_866 h1 ?_
  refine lw_one lk_867 rfl ?_
  refine lw_one lk_868 rfl ?_
  refine lw_one lk_870 rfl ?_
  refine lw_one lk_871 rfl ?_
  refine lw_ld lk_872 h2 ?_
  refine lw_one lk_873 rfl ?_
  refine lw_one lk_874 rfl ?_
  refine lw_one lk_876 rfl ?_
  refine lw_one lk_877 rfl ?_
  refine lw_ld lk_878 h3 ?_
  refine lw_one lk_879 rfl ?_
  refine lw_one lk_880 rfl ?_
  refine lw_one lk_882 rfl ?_
  refine lw_one lk_883 rfl ?_
  refine lw_ld lk_884 h4 ?_
  refine lw_one lk_885 rfl ?_
  refine lw_one lk_886 rfl ?_
  refine lw_one lk_888 rfl ?_
  refine lw_one lk_889 rfl ?_
  refine lw_ld lk_890 h5 ?_
  refine lw_wr (e := 0) (vs := [.ref 0, .int (xs (i + Int32.ofInt 1).toNatClampNeg), .int (xs (i + Int32.ofInt 2).toNatClampNeg), .int (xs (i + Int32.ofInt 3).toNatClampNeg), .int (xs (i + Int32.ofInt 4).toNatClampNeg), .int (xs (i + Int32.ofInt 5).toNatClampNeg)]) (rest := []) lk_891 rfl rfl (by decide) hw he hM1 ?_
  refine lw_one lk_894 rfl ?_
  refine lw_one lk_896 rfl ?_
  refine lw_one lk_897 rfl ?_
  refine lw_one lk_898 rfl ?_
  refine lw_one lk_900 rfl ?_
  refine lw_one lk_901 rfl ?_
  refine lw_ld lk_902 h1 ?_
  refine lw_one lk_903 rfl ?_
  refine lw_one lk_904 rfl ?_
  refine lw_one lk_906 rfl ?_
  refine lw_one lk_907 rfl ?_
  refine lw_ld lk_908 h2 ?_
  refine lw_one lk_909 rfl ?_
  refine lw_one lk_910 rfl ?_
  refine lw_one lk_912 rfl ?_
  refine lw_one lk_913 rfl ?_
  refine lw_ld lk_914 h3 ?_
  refine lw_one lk_915 rfl ?_
  refine lw_one lk_916 rfl ?_
  refine lw_one lk_918 rfl ?_
  refine lw_one lk_919 rfl ?_
  refine lw_ld lk_920 h4 ?_
  refine lw_one lk_921 rfl ?_
  refine lw_one lk_922 rfl ?_
  refine lw_one lk_924 rfl ?_
  refine lw_one lk_925 rfl ?_
  refine lw_ld lk_926 h5 ?_
  refine lw_cv (vs := [.int (xs (i + Int32.ofInt 1).toNatClampNeg), .int (xs (i + Int32.ofInt 2).toNatClampNeg), .int (xs (i + Int32.ofInt 3).toNatClampNeg), .int (xs (i + Int32.ofInt 4).toNatClampNeg), .int (xs (i + Int32.ofInt 5).toNatClampNeg)]) (rest := []) lk_927 rfl rfl (by decide) o1 (Nat.le_of_ble_eq_true rfl) hm ?_
  refine lw_one lk_930 rfl ?_
  refine lw_cv (vs := []) (rest := []) lk_931 rfl rfl (by decide) o2 (Nat.le_of_ble_eq_true rfl) ht ?_
  refine lw_one lk_934 rfl ?_
  refine lw_br (c := mj_c .eq k k) (off := 5) (t := 941) (r := []) lk_936 rfl rfl rfl rfl rfl (fun _ => ?_) (fun h => absurd rfl (of_decide_eq_false h))
  exact lw_one lk_941 rfl lw_rf
set_option maxRecDepth 20000 in
theorem lc_11 {l : Launch} {d L : Nat} {xs : Nat → Int32} {M M1 M2 : mj_M} {i : Int32} {k : Int32} {b : Int32} (h1 : vp_in (i + Int32.ofInt 1) L) (h2 : vp_in (i + Int32.ofInt 2) L) (h3 : vp_in (i + Int32.ofInt 3) L) (hw : mw_Met l mj_AW ic_Ns vwCl ic_ty ic_X il_point ih_point d [.ref 0, .int (xs (i + Int32.ofInt 1).toNatClampNeg), .int (xs (i + Int32.ofInt 2).toNatClampNeg), .int (xs (i + Int32.ofInt 3).toNatClampNeg), .ref 194] M (some (.int k)) M1) (he : mj_ext M M1) (hM1 : mj_wM M1) (hm : mj_R ic_P d 12096 (.ref 124 :: [.int (xs (i + Int32.ofInt 1).toNatClampNeg), .int (xs (i + Int32.ofInt 2).toNatClampNeg), .int (xs (i + Int32.ofInt 3).toNatClampNeg)]) M1 (some (.int b)) M2) (ht : mj_R ic_P d 12003 (.ref 124 :: []) M2 (some (.int k)) M2) (hc : k = 0 → M2.2.2.1 194 0 = b.toInt64) (o0 : M.1[0]? = some (11, 17)) (o1 : M1.1[124]? = some (12, 195)) (o2 : M2.1[124]? = some (12, 195)) (o3 : M2.1[194]? = some (101, 1)) : lw_T l d L xs (944, [(4, .int i), (0, .ref 4000000), (1, .ref 0), (2, .ref 124), (3, .ref 194)], [], M) (3275, [(6, .int b), (5, .int k), (4, .int i), (0, .ref 4000000), (1, .ref 0), (2, .ref 124), (3, .ref 194)], [], M2) 1 := by
  refine lw_one lk_944 rfl ?_
  refine lw_one lk_945 rfl ?_
  refine lw_one lk_946 rfl ?_
  refine lw_one lk_948 rfl ?_
  refine lw_one lk_949 rfl ?_
  refine lw_ld lk_950 h1 ?_
  refine lw_one lk_951 rfl ?_
  refine lw_one lk_952 rfl ?_
  refine lw_one lk_954 rfl ?_
  refine lw_one lk_955 rfl ?_
  refine lw_ld lk_956 h2 ?_
  refine lw_one lk_957 rfl ?_
  refine lw_one lk_958 rfl ?_
  refine lw_one lk_960 rfl ?_
  refine lw_one lk_961 rfl ?_
  refine lw_ld lk_962 h3 ?_
  refine lw_one lk_963 rfl ?_
  refine lw_wr (e := 0) (vs := [.ref 0, .int (xs (i + Int32.ofInt 1).toNatClampNeg), .int (xs (i + Int32.ofInt 2).toNatClampNeg), .int (xs (i + Int32.ofInt 3).toNatClampNeg), .ref 194]) (rest := []) lk_964 rfl rfl (by decide) hw he hM1 ?_
  refine lw_one lk_967 rfl ?_
  refine lw_one lk_969 rfl ?_
  refine lw_one lk_970 rfl ?_
  refine lw_one lk_971 rfl ?_
  refine lw_one lk_973 rfl ?_
  refine lw_one lk_974 rfl ?_
  refine lw_ld lk_975 h1 ?_
  refine lw_one lk_976 rfl ?_
  refine lw_one lk_977 rfl ?_
  refine lw_one lk_979 rfl ?_
  refine lw_one lk_980 rfl ?_
  refine lw_ld lk_981 h2 ?_
  refine lw_one lk_982 rfl ?_
  refine lw_one lk_983 rfl ?_
  refine lw_one lk_985 rfl ?_
  refine lw_one lk_986 rfl ?_
  refine lw_ld lk_987 h3 ?_
  refine lw_cv (vs := [.int (xs (i + Int32.ofInt 1).toNatClampNeg), .int (xs (i + Int32.ofInt 2).toNatClampNeg), .int (xs (i + Int32.ofInt 3).toNatClampNeg)]) (rest := []) lk_988 rfl rfl (by decide) o1 (Nat.le_of_ble_eq_true rfl) hm ?_
  refine lw_one lk_991 rfl ?_
  refine lw_one lk_993 rfl ?_
  refine lw_cv (vs := []) (rest := []) lk_994 rfl rfl (by decide) o2 (Nat.le_of_ble_eq_true rfl) ht ?_
  refine lw_one lk_997 rfl ?_
  refine lw_br (c := mj_c .eq k k) (off := 5) (t := 1004) (r := []) lk_999 rfl rfl rfl rfl rfl (fun _ => ?_) (fun h => absurd rfl (of_decide_eq_false h))
  refine lw_one lk_1004 rfl ?_
  refine lw_br (c := mj_c .ne k 0) (off := 15) (t := 1021) (r := []) lk_1006 rfl rfl rfl rfl rfl (fun _ => ?_) (fun h => ?_)
  · exact lw_one lk_1021 rfl lw_rf
  have hk : k = 0 := Classical.byContradiction (fun q => by have := of_decide_eq_false h; exact this q)
  refine lw_one lk_1009 rfl ?_
  refine lw_one lk_1010 rfl ?_
  refine lw_lal lk_1011 o3 (by decide) ?_
  refine lw_one lk_1012 rfl ?_
  refine lw_one lk_1014 rfl ?_
  refine lw_one lk_1015 rfl ?_
  refine lw_br (c := mj_c .eq (lg_cmp (M2.2.2.1 194 0) b.toInt64) 0) (off := 5) (t := 1021) (r := []) lk_1016 rfl rfl rfl rfl rfl (fun _ => ?_) (fun h => absurd (by rw [hc hk]; exact lw_cmp _) (of_decide_eq_false h))
  exact lw_one lk_1021 rfl lw_rf
set_option maxRecDepth 20000 in
theorem lc_12 {l : Launch} {d L : Nat} {xs : Nat → Int32} {M M1 M2 : mj_M} {i : Int32} {k : Int32} {b : Int32} (h1 : vp_in (i + Int32.ofInt 1) L) (h2 : vp_in (i + Int32.ofInt 2) L) (hw : mw_Met l mj_AW ic_Ns vwCl ic_ty ic_X il_lineAt ih_lineAt d [.ref 0, .int (xs (i + Int32.ofInt 1).toNatClampNeg), .int (xs (i + Int32.ofInt 2).toNatClampNeg), .ref 194] M (some (.int k)) M1) (he : mj_ext M M1) (hM1 : mj_wM M1) (hm : mj_R ic_P d 12097 (.ref 124 :: [.int (xs (i + Int32.ofInt 1).toNatClampNeg), .int (xs (i + Int32.ofInt 2).toNatClampNeg)]) M1 (some (.int b)) M2) (ht : mj_R ic_P d 12003 (.ref 124 :: []) M2 (some (.int k)) M2) (hc : k = 0 → M2.2.2.1 194 0 = b.toInt64) (o0 : M.1[0]? = some (11, 17)) (o1 : M1.1[124]? = some (12, 195)) (o2 : M2.1[124]? = some (12, 195)) (o3 : M2.1[194]? = some (101, 1)) : lw_T l d L xs (1024, [(4, .int i), (0, .ref 4000000), (1, .ref 0), (2, .ref 124), (3, .ref 194)], [], M) (3275, [(6, .int b), (5, .int k), (4, .int i), (0, .ref 4000000), (1, .ref 0), (2, .ref 124), (3, .ref 194)], [], M2) 1 := by
  refine lw_one lk_1024 rfl ?_
  refine lw_one lk_1025 rfl ?_
  refine lw_one lk_1026 rfl ?_
  refine lw_one lk_1028 rfl ?_
  refine lw_one lk_1029 rfl ?_
  refine lw_ld lk_1030 h1 ?_
  refine lw_one lk_1031 rfl ?_
  refine lw_one lk_1032 rfl ?_
  refine lw_one lk_1034 rfl ?_
  refine lw_one lk_1035 rfl ?_
  refine lw_ld lk_1036 h2 ?_
  refine lw_one lk_1037 rfl ?_
  refine lw_wr (e := 0) (vs := [.ref 0, .int (xs (i + Int32.ofInt 1).toNatClampNeg), .int (xs (i + Int32.ofInt 2).toNatClampNeg), .ref 194]) (rest := []) lk_1038 rfl rfl (by decide) hw he hM1 ?_
  refine lw_one lk_1041 rfl ?_
  refine lw_one lk_1043 rfl ?_
  refine lw_one lk_1044 rfl ?_
  refine lw_one lk_1045 rfl ?_
  refine lw_one lk_1047 rfl ?_
  refine lw_one lk_1048 rfl ?_
  refine lw_ld lk_1049 h1 ?_
  refine lw_one lk_1050 rfl ?_
  refine lw_one lk_1051 rfl ?_
  refine lw_one lk_1053 rfl ?_
  refine lw_one lk_1054 rfl ?_
  refine lw_ld lk_1055 h2 ?_
  refine lw_cv (vs := [.int (xs (i + Int32.ofInt 1).toNatClampNeg), .int (xs (i + Int32.ofInt 2).toNatClampNeg)]) (rest := []) lk_1056 rfl rfl (by decide) o1 (Nat.le_of_ble_eq_true rfl) hm ?_
  refine lw_one lk_1059 rfl ?_
  refine lw_one lk_1061 rfl ?_
  refine lw_cv (vs := []) (rest := []) lk_1062 rfl rfl (by decide) o2 (Nat.le_of_ble_eq_true rfl) ht ?_
  refine lw_one lk_1065 rfl ?_
  refine lw_br (c := mj_c .eq k k) (off := 5) (t := 1072) (r := []) lk_1067 rfl rfl rfl rfl rfl (fun _ => ?_) (fun h => absurd rfl (of_decide_eq_false h))
  refine lw_one lk_1072 rfl ?_
  refine lw_br (c := mj_c .ne k 0) (off := 15) (t := 1089) (r := []) lk_1074 rfl rfl rfl rfl rfl (fun _ => ?_) (fun h => ?_)
  · exact lw_one lk_1089 rfl lw_rf
  have hk : k = 0 := Classical.byContradiction (fun q => by have := of_decide_eq_false h; exact this q)
  refine lw_one lk_1077 rfl ?_
  refine lw_one lk_1078 rfl ?_
  refine lw_lal lk_1079 o3 (by decide) ?_
  refine lw_one lk_1080 rfl ?_
  refine lw_one lk_1082 rfl ?_
  refine lw_one lk_1083 rfl ?_
  refine lw_br (c := mj_c .eq (lg_cmp (M2.2.2.1 194 0) b.toInt64) 0) (off := 5) (t := 1089) (r := []) lk_1084 rfl rfl rfl rfl rfl (fun _ => ?_) (fun h => absurd (by rw [hc hk]; exact lw_cmp _) (of_decide_eq_false h))
  exact lw_one lk_1089 rfl lw_rf
set_option maxRecDepth 20000 in
theorem lc_13 {l : Launch} {d L : Nat} {xs : Nat → Int32} {M M1 M2 : mj_M} {i : Int32} {k : Int32} (h1 : vp_in (i + Int32.ofInt 1) L) (h2 : vp_in (i + Int32.ofInt 2) L) (h3 : vp_in (i + Int32.ofInt 3) L) (h4 : vp_in (i + Int32.ofInt 4) L) (h5 : vp_in (i + Int32.ofInt 5) L) (h6 : vp_in (i + (Int8.ofInt 6).toInt32) L) (hw : mw_Met l mj_AW ic_Ns vwCl ic_ty ic_X il_axis ih_axis d [.ref 0, .int (xs (i + Int32.ofInt 1).toNatClampNeg), .int (xs (i + Int32.ofInt 2).toNatClampNeg), .int (xs (i + Int32.ofInt 3).toNatClampNeg), .int (xs (i + Int32.ofInt 4).toNatClampNeg), .int (xs (i + Int32.ofInt 5).toNatClampNeg), .int (xs (i + (Int8.ofInt 6).toInt32).toNatClampNeg)] M (some (.int k)) M1) (he : mj_ext M M1) (hM1 : mj_wM M1) (hm : mj_R ic_P d 12098 (.ref 124 :: [.int (xs (i + Int32.ofInt 1).toNatClampNeg), .int (xs (i + Int32.ofInt 2).toNatClampNeg), .int (xs (i + Int32.ofInt 3).toNatClampNeg), .int (xs (i + Int32.ofInt 4).toNatClampNeg), .int (xs (i + Int32.ofInt 5).toNatClampNeg), .int (xs (i + (Int8.ofInt 6).toInt32).toNatClampNeg)]) M1 none M2) (ht : mj_R ic_P d 12003 (.ref 124 :: []) M2 (some (.int k)) M2) (o0 : M.1[0]? = some (11, 17)) (o1 : M1.1[124]? = some (12, 195)) (o2 : M2.1[124]? = some (12, 195)) (o3 : M2.1[194]? = some (101, 1)) : lw_T l d L xs (1092, [(4, .int i), (0, .ref 4000000), (1, .ref 0), (2, .ref 124), (3, .ref 194)], [], M) (3275, [(5, .int k), (4, .int i), (0, .ref 4000000), (1, .ref 0), (2, .ref 124), (3, .ref 194)], [], M2) 1 := by
  refine lw_one lk_1092 rfl ?_
  refine lw_one lk_1093 rfl ?_
  refine lw_one lk_1094 rfl ?_
  refine lw_one lk_1096 rfl ?_
  refine lw_one lk_1097 rfl ?_
  refine lw_ld lk_1098 h1 ?_
  refine lw_one lk_1099 rfl ?_
  refine lw_one lk_1100 rfl ?_
  refine lw_one lk_1102 rfl ?_
  refine lw_one lk_1103 rfl ?_
  refine lw_ld lk_1104 h2 ?_
  refine lw_one lk_1105 rfl ?_
  refine lw_one lk_1106 rfl ?_
  refine lw_one lk_1108 rfl ?_
  refine lw_one lk_1109 rfl ?_
  refine lw_ld lk_1110 h3 ?_
  refine lw_one lk_1111 rfl ?_
  refine lw_one lk_1112 rfl ?_
  refine lw_one lk_1114 rfl ?_
  refine lw_one lk_1115 rfl ?_
  refine lw_ld lk_1116 h4 ?_
  refine lw_one lk_1117 rfl ?_
  refine lw_one lk_1118 rfl ?_
  refine lw_one lk_1120 rfl ?_
  refine lw_one lk_1121 rfl ?_
  refine lw_ld lk_1122 h5 ?_
  refine lw_one lk_1123 rfl ?_
  refine lw_one lk_1124 rfl ?_
  refine lw_one lk_1126 rfl ?_
  refine lw_one lk_1128 rfl ?_
  refine lw_ld lk_1129 h6 ?_
  refine lw_wr (e := 0) (vs := [.ref 0, .int (xs (i + Int32.ofInt 1).toNatClampNeg), .int (xs (i + Int32.ofInt 2).toNatClampNeg), .int (xs (i + Int32.ofInt 3).toNatClampNeg), .int (xs (i + Int32.ofInt 4).toNatClampNeg), .int (xs (i + Int32.ofInt 5).toNatClampNeg), .int (xs (i + (Int8.ofInt 6).toInt32).toNatClampNeg)]) (rest := []) lk_1130 rfl rfl (by decide) hw he hM1 ?_
  refine lw_one lk_1133 rfl ?_
  refine lw_one lk_1135 rfl ?_
  refine lw_one lk_1136 rfl ?_
  refine lw_one lk_1137 rfl ?_
  refine lw_one lk_1139 rfl ?_
  refine lw_one lk_1140 rfl ?_
  refine lw_ld lk_1141 h1 ?_
  refine lw_one lk_1142 rfl ?_
  refine lw_one lk_1143 rfl ?_
  refine lw_one lk_1145 rfl ?_
  refine lw_one lk_1146 rfl ?_
  refine lw_ld lk_1147 h2 ?_
  refine lw_one lk_1148 rfl ?_
  refine lw_one lk_1149 rfl ?_
  refine lw_one lk_1151 rfl ?_
  refine lw_one lk_1152 rfl ?_
  refine lw_ld lk_1153 h3 ?_
  refine lw_one lk_1154 rfl ?_
  refine lw_one lk_1155 rfl ?_
  refine lw_one lk_1157 rfl ?_
  refine lw_one lk_1158 rfl ?_
  refine lw_ld lk_1159 h4 ?_
  refine lw_one lk_1160 rfl ?_
  refine lw_one lk_1161 rfl ?_
  refine lw_one lk_1163 rfl ?_
  refine lw_one lk_1164 rfl ?_
  refine lw_ld lk_1165 h5 ?_
  refine lw_one lk_1166 rfl ?_
  refine lw_one lk_1167 rfl ?_
  refine lw_one lk_1169 rfl ?_
  refine lw_one lk_1171 rfl ?_
  refine lw_ld lk_1172 h6 ?_
  refine lw_cv (vs := [.int (xs (i + Int32.ofInt 1).toNatClampNeg), .int (xs (i + Int32.ofInt 2).toNatClampNeg), .int (xs (i + Int32.ofInt 3).toNatClampNeg), .int (xs (i + Int32.ofInt 4).toNatClampNeg), .int (xs (i + Int32.ofInt 5).toNatClampNeg), .int (xs (i + (Int8.ofInt 6).toInt32).toNatClampNeg)]) (rest := []) lk_1173 rfl rfl (by decide) o1 (Nat.le_of_ble_eq_true rfl) hm ?_
  refine lw_one lk_1176 rfl ?_
  refine lw_cv (vs := []) (rest := []) lk_1177 rfl rfl (by decide) o2 (Nat.le_of_ble_eq_true rfl) ht ?_
  refine lw_one lk_1180 rfl ?_
  refine lw_br (c := mj_c .eq k k) (off := 5) (t := 1187) (r := []) lk_1182 rfl rfl rfl rfl rfl (fun _ => ?_) (fun h => absurd rfl (of_decide_eq_false h))
  exact lw_one lk_1187 rfl lw_rf
set_option maxRecDepth 20000 in
theorem lc_14 {l : Launch} {d L : Nat} {xs : Nat → Int32} {M M1 M2 : mj_M} {i : Int32} {k : Int32} {b : Int32} (h1 : vp_in (i + Int32.ofInt 1) L) (h2 : vp_in (i + Int32.ofInt 2) L) (h3 : vp_in (i + Int32.ofInt 3) L) (h4 : vp_in (i + Int32.ofInt 4) L) (hw : mw_Met l mj_AW ic_Ns vwCl ic_ty ic_X il_cell ih_cell d [.ref 0, .int (xs (i + Int32.ofInt 1).toNatClampNeg), .int (xs (i + Int32.ofInt 2).toNatClampNeg), .int (xs (i + Int32.ofInt 3).toNatClampNeg), .int (xs (i + Int32.ofInt 4).toNatClampNeg), .ref 194] M (some (.int k)) M1) (he : mj_ext M M1) (hM1 : mj_wM M1) (hm : mj_R ic_P d 12099 (.ref 124 :: [.int (xs (i + Int32.ofInt 1).toNatClampNeg), .int (xs (i + Int32.ofInt 2).toNatClampNeg), .int (xs (i + Int32.ofInt 3).toNatClampNeg), .int (xs (i + Int32.ofInt 4).toNatClampNeg)]) M1 (some (.int b)) M2) (ht : mj_R ic_P d 12003 (.ref 124 :: []) M2 (some (.int k)) M2) (hc : k = 0 → M2.2.2.1 194 0 = b.toInt64) (o0 : M.1[0]? = some (11, 17)) (o1 : M1.1[124]? = some (12, 195)) (o2 : M2.1[124]? = some (12, 195)) (o3 : M2.1[194]? = some (101, 1)) : lw_T l d L xs (1190, [(4, .int i), (0, .ref 4000000), (1, .ref 0), (2, .ref 124), (3, .ref 194)], [], M) (3275, [(6, .int b), (5, .int k), (4, .int i), (0, .ref 4000000), (1, .ref 0), (2, .ref 124), (3, .ref 194)], [], M2) 1 := by
  refine lw_one lk_1190 rfl ?_
  refine lw_one lk_1191 rfl ?_
  refine lw_one lk_1192 rfl ?_
  refine lw_one lk_1194 rfl ?_
  refine lw_one lk_1195 rfl ?_
  refine lw_ld lk_1196 h1 ?_
  refine lw_one lk_1197 rfl ?_
  refine lw_one lk_1198 rfl ?_
  refine lw_one lk_1200 rfl ?_
  refine lw_one lk_1201 rfl ?_
  refine lw_ld lk_1202 h2 ?_
  refine lw_one lk_1203 rfl ?_
  refine lw_one lk_1204 rfl ?_
  refine lw_one lk_1206 rfl ?_
  refine lw_one lk_1207 rfl ?_
  refine lw_ld lk_1208 h3 ?_
  refine lw_one lk_1209 rfl ?_
  refine lw_one lk_1210 rfl ?_
  refine lw_one lk_1212 rfl ?_
  refine lw_one lk_1213 rfl ?_
  refine lw_ld lk_1214 h4 ?_
  refine lw_one lk_1215 rfl ?_
  refine lw_wr (e := 0) (vs := [.ref 0, .int (xs (i + Int32.ofInt 1).toNatClampNeg), .int (xs (i + Int32.ofInt 2).toNatClampNeg), .int (xs (i + Int32.ofInt 3).toNatClampNeg), .int (xs (i + Int32.ofInt 4).toNatClampNeg), .ref 194]) (rest := []) lk_1216 rfl rfl (by decide) hw he hM1 ?_
  refine lw_one lk_1219 rfl ?_
  refine lw_one lk_1221 rfl ?_
  refine lw_one lk_1222 rfl ?_
  refine lw_one lk_1223 rfl ?_
  refine lw_one lk_1225 rfl ?_
  refine lw_one lk_1226 rfl ?_
  refine lw_ld lk_1227 h1 ?_
  refine lw_one lk_1228 rfl ?_
  refine lw_one lk_1229 rfl ?_
  refine lw_one lk_1231 rfl ?_
  refine lw_one lk_1232 rfl ?_
  refine lw_ld lk_1233 h2 ?_
  refine lw_one lk_1234 rfl ?_
  refine lw_one lk_1235 rfl ?_
  refine lw_one lk_1237 rfl ?_
  refine lw_one lk_1238 rfl ?_
  refine lw_ld lk_1239 h3 ?_
  refine lw_one lk_1240 rfl ?_
  refine lw_one lk_1241 rfl ?_
  refine lw_one lk_1243 rfl ?_
  refine lw_one lk_1244 rfl ?_
  refine lw_ld lk_1245 h4 ?_
  refine lw_cv (vs := [.int (xs (i + Int32.ofInt 1).toNatClampNeg), .int (xs (i + Int32.ofInt 2).toNatClampNeg), .int (xs (i + Int32.ofInt 3).toNatClampNeg), .int (xs (i + Int32.ofInt 4).toNatClampNeg)]) (rest := []) lk_1246 rfl rfl (by decide) o1 (Nat.le_of_ble_eq_true rfl) hm ?_
  refine lw_one lk_1249 rfl ?_
  refine lw_one lk_1251 rfl ?_
  refine lw_cv (vs := []) (rest := []) lk_1252 rfl rfl (by decide) o2 (Nat.le_of_ble_eq_true rfl) ht ?_
  refine lw_one lk_1255 rfl ?_
  refine lw_br (c := mj_c .eq k k) (off := 5) (t := 1262) (r := []) lk_1257 rfl rfl rfl rfl rfl (fun _ => ?_) (fun h => absurd rfl (of_decide_eq_false h))
  refine lw_one lk_1262 rfl ?_
  refine lw_br (c := mj_c .ne k 0) (off := 15) (t := 1279) (r := []) lk_1264 rfl rfl rfl rfl rfl (fun _ => ?_) (fun h => ?_)
  · exact lw_one lk_1279 rfl lw_rf
  have hk : k = 0 := Classical.byContradiction (fun q => by have := of_decide_eq_false h; exact this q)
  refine lw_one lk_1267 rfl ?_
  refine lw_one lk_1268 rfl ?_
  refine lw_lal lk_1269 o3 (by decide) ?_
  refine lw_one lk_1270 rfl ?_
  refine lw_one lk_1272 rfl ?_
  refine lw_one lk_1273 rfl ?_
  refine lw_br (c := mj_c .eq (lg_cmp (M2.2.2.1 194 0) b.toInt64) 0) (off := 5) (t := 1279) (r := []) lk_1274 rfl rfl rfl rfl rfl (fun _ => ?_) (fun h => absurd (by rw [hc hk]; exact lw_cmp _) (of_decide_eq_false h))
  exact lw_one lk_1279 rfl lw_rf
set_option maxRecDepth 20000 in
theorem lc_15 {l : Launch} {d L : Nat} {xs : Nat → Int32} {M M1 M2 : mj_M} {i : Int32} {k : Int32} {b : Int32} (h1 : vp_in (i + Int32.ofInt 1) L) (h2 : vp_in (i + Int32.ofInt 2) L) (h3 : vp_in (i + Int32.ofInt 3) L) (hw : mw_Met l mj_AW ic_Ns vwCl ic_ty ic_X il_value ih_value d [.ref 0, .int (xs (i + Int32.ofInt 1).toNatClampNeg), .int (xs (i + Int32.ofInt 2).toNatClampNeg), .int (xs (i + Int32.ofInt 3).toNatClampNeg), .ref 194] M (some (.int k)) M1) (he : mj_ext M M1) (hM1 : mj_wM M1) (hm : mj_R ic_P d 12100 (.ref 124 :: [.int (xs (i + Int32.ofInt 1).toNatClampNeg), .int (xs (i + Int32.ofInt 2).toNatClampNeg), .int (xs (i + Int32.ofInt 3).toNatClampNeg)]) M1 (some (.int b)) M2) (ht : mj_R ic_P d 12003 (.ref 124 :: []) M2 (some (.int k)) M2) (hc : k = 0 → M2.2.2.1 194 0 = b.toInt64) (o0 : M.1[0]? = some (11, 17)) (o1 : M1.1[124]? = some (12, 195)) (o2 : M2.1[124]? = some (12, 195)) (o3 : M2.1[194]? = some (101, 1)) : lw_T l d L xs (1282, [(4, .int i), (0, .ref 4000000), (1, .ref 0), (2, .ref 124), (3, .ref 194)], [], M) (3275, [(6, .int b), (5, .int k), (4, .int i), (0, .ref 4000000), (1, .ref 0), (2, .ref 124), (3, .ref 194)], [], M2) 1 := by
  refine lw_one lk_1282 rfl ?_
  refine lw_one lk_1283 rfl ?_
  refine lw_one lk_1284 rfl ?_
  refine lw_one lk_1286 rfl ?_
  refine lw_one lk_1287 rfl ?_
  refine lw_ld lk_1288 h1 ?_
  refine lw_one lk_1289 rfl ?_
  refine lw_one lk_1290 rfl ?_
  refine lw_one lk_1292 rfl ?_
  refine lw_one lk_1293 rfl ?_
  refine lw_ld lk_1294 h2 ?_
  refine lw_one lk_1295 rfl ?_
  refine lw_one lk_1296 rfl ?_
  refine lw_one lk_1298 rfl ?_
  refine lw_one lk_1299 rfl ?_
  refine lw_ld lk_1300 h3 ?_
  refine lw_one lk_1301 rfl ?_
  refine lw_wr (e := 0) (vs := [.ref 0, .int (xs (i + Int32.ofInt 1).toNatClampNeg), .int (xs (i + Int32.ofInt 2).toNatClampNeg), .int (xs (i + Int32.ofInt 3).toNatClampNeg), .ref 194]) (rest := []) lk_1302 rfl rfl (by decide) hw he hM1 ?_
  refine lw_one lk_1305 rfl ?_
  refine lw_one lk_1307 rfl ?_
  refine lw_one lk_1308 rfl ?_
  refine lw_one lk_1309 rfl ?_
  refine lw_one lk_1311 rfl ?_
  refine lw_one lk_1312 rfl ?_
  refine lw_ld lk_1313 h1 ?_
  refine lw_one lk_1314 rfl ?_
  refine lw_one lk_1315 rfl ?_
  refine lw_one lk_1317 rfl ?_
  refine lw_one lk_1318 rfl ?_
  refine lw_ld lk_1319 h2 ?_
  refine lw_one lk_1320 rfl ?_
  refine lw_one lk_1321 rfl ?_
  refine lw_one lk_1323 rfl ?_
  refine lw_one lk_1324 rfl ?_
  refine lw_ld lk_1325 h3 ?_
  refine lw_cv (vs := [.int (xs (i + Int32.ofInt 1).toNatClampNeg), .int (xs (i + Int32.ofInt 2).toNatClampNeg), .int (xs (i + Int32.ofInt 3).toNatClampNeg)]) (rest := []) lk_1326 rfl rfl (by decide) o1 (Nat.le_of_ble_eq_true rfl) hm ?_
  refine lw_one lk_1329 rfl ?_
  refine lw_one lk_1331 rfl ?_
  refine lw_cv (vs := []) (rest := []) lk_1332 rfl rfl (by decide) o2 (Nat.le_of_ble_eq_true rfl) ht ?_
  refine lw_one lk_1335 rfl ?_
  refine lw_br (c := mj_c .eq k k) (off := 5) (t := 1342) (r := []) lk_1337 rfl rfl rfl rfl rfl (fun _ => ?_) (fun h => absurd rfl (of_decide_eq_false h))
  refine lw_one lk_1342 rfl ?_
  refine lw_br (c := mj_c .ne k 0) (off := 15) (t := 1359) (r := []) lk_1344 rfl rfl rfl rfl rfl (fun _ => ?_) (fun h => ?_)
  · exact lw_one lk_1359 rfl lw_rf
  have hk : k = 0 := Classical.byContradiction (fun q => by have := of_decide_eq_false h; exact this q)
  refine lw_one lk_1347 rfl ?_
  refine lw_one lk_1348 rfl ?_
  refine lw_lal lk_1349 o3 (by decide) ?_
  refine lw_one lk_1350 rfl ?_
  refine lw_one lk_1352 rfl ?_
  refine lw_one lk_1353 rfl ?_
  refine lw_br (c := mj_c .eq (lg_cmp (M2.2.2.1 194 0) b.toInt64) 0) (off := 5) (t := 1359) (r := []) lk_1354 rfl rfl rfl rfl rfl (fun _ => ?_) (fun h => absurd (by rw [hc hk]; exact lw_cmp _) (of_decide_eq_false h))
  exact lw_one lk_1359 rfl lw_rf
set_option maxRecDepth 20000 in
theorem lc_16 {l : Launch} {d L : Nat} {xs : Nat → Int32} {M M1 M2 : mj_M} {i : Int32} {k : Int32} {b : Int32} (h1 : vp_in (i + Int32.ofInt 1) L) (h2 : vp_in (i + Int32.ofInt 2) L) (hw : mw_Met l mj_AW ic_Ns vwCl ic_ty ic_X il_calibrate ih_calibrate d [.ref 0, .int (xs (i + Int32.ofInt 1).toNatClampNeg), .int (xs (i + Int32.ofInt 2).toNatClampNeg), .ref 194] M (some (.int k)) M1) (he : mj_ext M M1) (hM1 : mj_wM M1) (hm : mj_R ic_P d 12101 (.ref 124 :: [.int (xs (i + Int32.ofInt 1).toNatClampNeg), .int (xs (i + Int32.ofInt 2).toNatClampNeg)]) M1 (some (.int b)) M2) (ht : mj_R ic_P d 12003 (.ref 124 :: []) M2 (some (.int k)) M2) (hc : k = 0 → M2.2.2.1 194 0 = b.toInt64) (o0 : M.1[0]? = some (11, 17)) (o1 : M1.1[124]? = some (12, 195)) (o2 : M2.1[124]? = some (12, 195)) (o3 : M2.1[194]? = some (101, 1)) : lw_T l d L xs (1362, [(4, .int i), (0, .ref 4000000), (1, .ref 0), (2, .ref 124), (3, .ref 194)], [], M) (3275, [(6, .int b), (5, .int k), (4, .int i), (0, .ref 4000000), (1, .ref 0), (2, .ref 124), (3, .ref 194)], [], M2) 1 := by
  refine lw_one lk_1362 rfl ?_
  refine lw_one lk_1363 rfl ?_
  refine lw_one lk_1364 rfl ?_
  refine lw_one lk_1366 rfl ?_
  refine lw_one lk_1367 rfl ?_
  refine lw_ld lk_1368 h1 ?_
  refine lw_one lk_1369 rfl ?_
  refine lw_one lk_1370 rfl ?_
  refine lw_one lk_1372 rfl ?_
  refine lw_one lk_1373 rfl ?_
  refine lw_ld lk_1374 h2 ?_
  refine lw_one lk_1375 rfl ?_
  refine lw_wr (e := 0) (vs := [.ref 0, .int (xs (i + Int32.ofInt 1).toNatClampNeg), .int (xs (i + Int32.ofInt 2).toNatClampNeg), .ref 194]) (rest := []) lk_1376 rfl rfl (by decide) hw he hM1 ?_
  refine lw_one lk_1379 rfl ?_
  refine lw_one lk_1381 rfl ?_
  refine lw_one lk_1382 rfl ?_
  refine lw_one lk_1383 rfl ?_
  refine lw_one lk_1385 rfl ?_
  refine lw_one lk_1386 rfl ?_
  refine lw_ld lk_1387 h1 ?_
  refine lw_one lk_1388 rfl ?_
  refine lw_one lk_1389 rfl ?_
  refine lw_one lk_1391 rfl ?_
  refine lw_one lk_1392 rfl ?_
  refine lw_ld lk_1393 h2 ?_
  refine lw_cv (vs := [.int (xs (i + Int32.ofInt 1).toNatClampNeg), .int (xs (i + Int32.ofInt 2).toNatClampNeg)]) (rest := []) lk_1394 rfl rfl (by decide) o1 (Nat.le_of_ble_eq_true rfl) hm ?_
  refine lw_one lk_1397 rfl ?_
  refine lw_one lk_1399 rfl ?_
  refine lw_cv (vs := []) (rest := []) lk_1400 rfl rfl (by decide) o2 (Nat.le_of_ble_eq_true rfl) ht ?_
  refine lw_one lk_1403 rfl ?_
  refine lw_br (c := mj_c .eq k k) (off := 5) (t := 1410) (r := []) lk_1405 rfl rfl rfl rfl rfl (fun _ => ?_) (fun h => absurd rfl (of_decide_eq_false h))
  refine lw_one lk_1410 rfl ?_
  refine lw_br (c := mj_c .ne k 0) (off := 15) (t := 1427) (r := []) lk_1412 rfl rfl rfl rfl rfl (fun _ => ?_) (fun h => ?_)
  · exact lw_one lk_1427 rfl lw_rf
  have hk : k = 0 := Classical.byContradiction (fun q => by have := of_decide_eq_false h; exact this q)
  refine lw_one lk_1415 rfl ?_
  refine lw_one lk_1416 rfl ?_
  refine lw_lal lk_1417 o3 (by decide) ?_
  refine lw_one lk_1418 rfl ?_
  refine lw_one lk_1420 rfl ?_
  refine lw_one lk_1421 rfl ?_
  refine lw_br (c := mj_c .eq (lg_cmp (M2.2.2.1 194 0) b.toInt64) 0) (off := 5) (t := 1427) (r := []) lk_1422 rfl rfl rfl rfl rfl (fun _ => ?_) (fun h => absurd (by rw [hc hk]; exact lw_cmp _) (of_decide_eq_false h))
  exact lw_one lk_1427 rfl lw_rf
set_option maxRecDepth 20000 in
theorem lc_17 {l : Launch} {d L : Nat} {xs : Nat → Int32} {M M1 M2 : mj_M} {i : Int32} {k : Int32} {b : Int32} (h1 : vp_in (i + Int32.ofInt 1) L) (hw : mw_Met l mj_AW ic_Ns vwCl ic_ty ic_X il_cut ih_cut d [.ref 0, .int (xs (i + Int32.ofInt 1).toNatClampNeg), .ref 194] M (some (.int k)) M1) (he : mj_ext M M1) (hM1 : mj_wM M1) (hm : mj_R ic_P d 12102 (.ref 124 :: [.int (xs (i + Int32.ofInt 1).toNatClampNeg)]) M1 (some (.int b)) M2) (ht : mj_R ic_P d 12003 (.ref 124 :: []) M2 (some (.int k)) M2) (hc : k = 0 → M2.2.2.1 194 0 = b.toInt64) (o0 : M.1[0]? = some (11, 17)) (o1 : M1.1[124]? = some (12, 195)) (o2 : M2.1[124]? = some (12, 195)) (o3 : M2.1[194]? = some (101, 1)) : lw_T l d L xs (1430, [(4, .int i), (0, .ref 4000000), (1, .ref 0), (2, .ref 124), (3, .ref 194)], [], M) (3275, [(6, .int b), (5, .int k), (4, .int i), (0, .ref 4000000), (1, .ref 0), (2, .ref 124), (3, .ref 194)], [], M2) 1 := by
  refine lw_one lk_1430 rfl ?_
  refine lw_one lk_1431 rfl ?_
  refine lw_one lk_1432 rfl ?_
  refine lw_one lk_1434 rfl ?_
  refine lw_one lk_1435 rfl ?_
  refine lw_ld lk_1436 h1 ?_
  refine lw_one lk_1437 rfl ?_
  refine lw_wr (e := 0) (vs := [.ref 0, .int (xs (i + Int32.ofInt 1).toNatClampNeg), .ref 194]) (rest := []) lk_1438 rfl rfl (by decide) hw he hM1 ?_
  refine lw_one lk_1441 rfl ?_
  refine lw_one lk_1443 rfl ?_
  refine lw_one lk_1444 rfl ?_
  refine lw_one lk_1445 rfl ?_
  refine lw_one lk_1447 rfl ?_
  refine lw_one lk_1448 rfl ?_
  refine lw_ld lk_1449 h1 ?_
  refine lw_cv (vs := [.int (xs (i + Int32.ofInt 1).toNatClampNeg)]) (rest := []) lk_1450 rfl rfl (by decide) o1 (Nat.le_of_ble_eq_true rfl) hm ?_
  refine lw_one lk_1453 rfl ?_
  refine lw_one lk_1455 rfl ?_
  refine lw_cv (vs := []) (rest := []) lk_1456 rfl rfl (by decide) o2 (Nat.le_of_ble_eq_true rfl) ht ?_
  refine lw_one lk_1459 rfl ?_
  refine lw_br (c := mj_c .eq k k) (off := 5) (t := 1466) (r := []) lk_1461 rfl rfl rfl rfl rfl (fun _ => ?_) (fun h => absurd rfl (of_decide_eq_false h))
  refine lw_one lk_1466 rfl ?_
  refine lw_br (c := mj_c .ne k 0) (off := 15) (t := 1483) (r := []) lk_1468 rfl rfl rfl rfl rfl (fun _ => ?_) (fun h => ?_)
  · exact lw_one lk_1483 rfl lw_rf
  have hk : k = 0 := Classical.byContradiction (fun q => by have := of_decide_eq_false h; exact this q)
  refine lw_one lk_1471 rfl ?_
  refine lw_one lk_1472 rfl ?_
  refine lw_lal lk_1473 o3 (by decide) ?_
  refine lw_one lk_1474 rfl ?_
  refine lw_one lk_1476 rfl ?_
  refine lw_one lk_1477 rfl ?_
  refine lw_br (c := mj_c .eq (lg_cmp (M2.2.2.1 194 0) b.toInt64) 0) (off := 5) (t := 1483) (r := []) lk_1478 rfl rfl rfl rfl rfl (fun _ => ?_) (fun h => absurd (by rw [hc hk]; exact lw_cmp _) (of_decide_eq_false h))
  exact lw_one lk_1483 rfl lw_rf
set_option maxRecDepth 20000 in
theorem lc_18 {l : Launch} {d L : Nat} {xs : Nat → Int32} {M M1 M2 : mj_M} {i : Int32} {k : Int32} {b : Int32} (h1 : vp_in (i + Int32.ofInt 1) L) (h2 : vp_in (i + Int32.ofInt 2) L) (h3 : vp_in (i + Int32.ofInt 3) L) (hw : mw_Met l mj_AW ic_Ns vwCl ic_ty ic_X il_spoil ih_spoil d [.ref 0, .int (xs (i + Int32.ofInt 1).toNatClampNeg), .int (xs (i + Int32.ofInt 2).toNatClampNeg), .int (xs (i + Int32.ofInt 3).toNatClampNeg), .ref 194] M (some (.int k)) M1) (he : mj_ext M M1) (hM1 : mj_wM M1) (hm : mj_R ic_P d 12104 (.ref 124 :: [.int (xs (i + Int32.ofInt 1).toNatClampNeg), .int (xs (i + Int32.ofInt 2).toNatClampNeg), .int (xs (i + Int32.ofInt 3).toNatClampNeg)]) M1 (some (.int b)) M2) (ht : mj_R ic_P d 12003 (.ref 124 :: []) M2 (some (.int k)) M2) (hc : k = 0 → M2.2.2.1 194 0 = b.toInt64) (o0 : M.1[0]? = some (11, 17)) (o1 : M1.1[124]? = some (12, 195)) (o2 : M2.1[124]? = some (12, 195)) (o3 : M2.1[194]? = some (101, 1)) : lw_T l d L xs (1486, [(4, .int i), (0, .ref 4000000), (1, .ref 0), (2, .ref 124), (3, .ref 194)], [], M) (3275, [(6, .int b), (5, .int k), (4, .int i), (0, .ref 4000000), (1, .ref 0), (2, .ref 124), (3, .ref 194)], [], M2) 1 := by
  refine lw_one lk_1486 rfl ?_
  refine lw_one lk_1487 rfl ?_
  refine lw_one lk_1488 rfl ?_
  refine lw_one lk_1490 rfl ?_
  refine lw_one lk_1491 rfl ?_
  refine lw_ld lk_1492 h1 ?_
  refine lw_one lk_1493 rfl ?_
  refine lw_one lk_1494 rfl ?_
  refine lw_one lk_1496 rfl ?_
  refine lw_one lk_1497 rfl ?_
  refine lw_ld lk_1498 h2 ?_
  refine lw_one lk_1499 rfl ?_
  refine lw_one lk_1500 rfl ?_
  refine lw_one lk_1502 rfl ?_
  refine lw_one lk_1503 rfl ?_
  refine lw_ld lk_1504 h3 ?_
  refine lw_one lk_1505 rfl ?_
  refine lw_wr (e := 0) (vs := [.ref 0, .int (xs (i + Int32.ofInt 1).toNatClampNeg), .int (xs (i + Int32.ofInt 2).toNatClampNeg), .int (xs (i + Int32.ofInt 3).toNatClampNeg), .ref 194]) (rest := []) lk_1506 rfl rfl (by decide) hw he hM1 ?_
  refine lw_one lk_1509 rfl ?_
  refine lw_one lk_1511 rfl ?_
  refine lw_one lk_1512 rfl ?_
  refine lw_one lk_1513 rfl ?_
  refine lw_one lk_1515 rfl ?_
  refine lw_one lk_1516 rfl ?_
  refine lw_ld lk_1517 h1 ?_
  refine lw_one lk_1518 rfl ?_
  refine lw_one lk_1519 rfl ?_
  refine lw_one lk_1521 rfl ?_
  refine lw_one lk_1522 rfl ?_
  refine lw_ld lk_1523 h2 ?_
  refine lw_one lk_1524 rfl ?_
  refine lw_one lk_1525 rfl ?_
  refine lw_one lk_1527 rfl ?_
  refine lw_one lk_1528 rfl ?_
  refine lw_ld lk_1529 h3 ?_
  refine lw_cv (vs := [.int (xs (i + Int32.ofInt 1).toNatClampNeg), .int (xs (i + Int32.ofInt 2).toNatClampNeg), .int (xs (i + Int32.ofInt 3).toNatClampNeg)]) (rest := []) lk_1530 rfl rfl (by decide) o1 (Nat.le_of_ble_eq_true rfl) hm ?_
  refine lw_one lk_1533 rfl ?_
  refine lw_one lk_1535 rfl ?_
  refine lw_cv (vs := []) (rest := []) lk_1536 rfl rfl (by decide) o2 (Nat.le_of_ble_eq_true rfl) ht ?_
  refine lw_one lk_1539 rfl ?_
  refine lw_br (c := mj_c .eq k k) (off := 5) (t := 1546) (r := []) lk_1541 rfl rfl rfl rfl rfl (fun _ => ?_) (fun h => absurd rfl (of_decide_eq_false h))
  refine lw_one lk_1546 rfl ?_
  refine lw_br (c := mj_c .ne k 0) (off := 15) (t := 1563) (r := []) lk_1548 rfl rfl rfl rfl rfl (fun _ => ?_) (fun h => ?_)
  · exact lw_one lk_1563 rfl lw_rf
  have hk : k = 0 := Classical.byContradiction (fun q => by have := of_decide_eq_false h; exact this q)
  refine lw_one lk_1551 rfl ?_
  refine lw_one lk_1552 rfl ?_
  refine lw_lal lk_1553 o3 (by decide) ?_
  refine lw_one lk_1554 rfl ?_
  refine lw_one lk_1556 rfl ?_
  refine lw_one lk_1557 rfl ?_
  refine lw_br (c := mj_c .eq (lg_cmp (M2.2.2.1 194 0) b.toInt64) 0) (off := 5) (t := 1563) (r := []) lk_1558 rfl rfl rfl rfl rfl (fun _ => ?_) (fun h => absurd (by rw [hc hk]; exact lw_cmp _) (of_decide_eq_false h))
  exact lw_one lk_1563 rfl lw_rf
set_option maxRecDepth 20000 in
theorem lc_19 {l : Launch} {d L : Nat} {xs : Nat → Int32} {M M1 M2 : mj_M} {i : Int32} {k : Int32} {b : Int32} (h1 : vp_in (i + Int32.ofInt 1) L) (h2 : vp_in (i + Int32.ofInt 2) L) (hw : mw_Met l mj_AW ic_Ns vwCl ic_ty ic_X il_word ih_word d [.ref 0, .int (xs (i + Int32.ofInt 1).toNatClampNeg), .int (xs (i + Int32.ofInt 2).toNatClampNeg), .ref 194] M (some (.int k)) M1) (he : mj_ext M M1) (hM1 : mj_wM M1) (hm : mj_R ic_P d 12105 (.ref 124 :: [.int (xs (i + Int32.ofInt 1).toNatClampNeg), .int (xs (i + Int32.ofInt 2).toNatClampNeg)]) M1 (some (.int b)) M2) (ht : mj_R ic_P d 12003 (.ref 124 :: []) M2 (some (.int k)) M2) (hc : k = 0 → M2.2.2.1 194 0 = b.toInt64) (o0 : M.1[0]? = some (11, 17)) (o1 : M1.1[124]? = some (12, 195)) (o2 : M2.1[124]? = some (12, 195)) (o3 : M2.1[194]? = some (101, 1)) : lw_T l d L xs (1566, [(4, .int i), (0, .ref 4000000), (1, .ref 0), (2, .ref 124), (3, .ref 194)], [], M) (3275, [(6, .int b), (5, .int k), (4, .int i), (0, .ref 4000000), (1, .ref 0), (2, .ref 124), (3, .ref 194)], [], M2) 1 := by
  refine lw_one lk_1566 rfl ?_
  refine lw_one lk_1567 rfl ?_
  refine lw_one lk_1568 rfl ?_
  refine lw_one lk_1570 rfl ?_
  refine lw_one lk_1571 rfl ?_
  refine lw_ld lk_1572 h1 ?_
  refine lw_one lk_1573 rfl ?_
  refine lw_one lk_1574 rfl ?_
  refine lw_one lk_1576 rfl ?_
  refine lw_one lk_1577 rfl ?_
  refine lw_ld lk_1578 h2 ?_
  refine lw_one lk_1579 rfl ?_
  refine lw_wr (e := 0) (vs := [.ref 0, .int (xs (i + Int32.ofInt 1).toNatClampNeg), .int (xs (i + Int32.ofInt 2).toNatClampNeg), .ref 194]) (rest := []) lk_1580 rfl rfl (by decide) hw he hM1 ?_
  refine lw_one lk_1583 rfl ?_
  refine lw_one lk_1585 rfl ?_
  refine lw_one lk_1586 rfl ?_
  refine lw_one lk_1587 rfl ?_
  refine lw_one lk_1589 rfl ?_
  refine lw_one lk_1590 rfl ?_
  refine lw_ld lk_1591 h1 ?_
  refine lw_one lk_1592 rfl ?_
  refine lw_one lk_1593 rfl ?_
  refine lw_one lk_1595 rfl ?_
  refine lw_one lk_1596 rfl ?_
  refine lw_ld lk_1597 h2 ?_
  refine lw_cv (vs := [.int (xs (i + Int32.ofInt 1).toNatClampNeg), .int (xs (i + Int32.ofInt 2).toNatClampNeg)]) (rest := []) lk_1598 rfl rfl (by decide) o1 (Nat.le_of_ble_eq_true rfl) hm ?_
  refine lw_one lk_1601 rfl ?_
  refine lw_one lk_1603 rfl ?_
  refine lw_cv (vs := []) (rest := []) lk_1604 rfl rfl (by decide) o2 (Nat.le_of_ble_eq_true rfl) ht ?_
  refine lw_one lk_1607 rfl ?_
  refine lw_br (c := mj_c .eq k k) (off := 5) (t := 1614) (r := []) lk_1609 rfl rfl rfl rfl rfl (fun _ => ?_) (fun h => absurd rfl (of_decide_eq_false h))
  refine lw_one lk_1614 rfl ?_
  refine lw_br (c := mj_c .ne k 0) (off := 15) (t := 1631) (r := []) lk_1616 rfl rfl rfl rfl rfl (fun _ => ?_) (fun h => ?_)
  · exact lw_one lk_1631 rfl lw_rf
  have hk : k = 0 := Classical.byContradiction (fun q => by have := of_decide_eq_false h; exact this q)
  refine lw_one lk_1619 rfl ?_
  refine lw_one lk_1620 rfl ?_
  refine lw_lal lk_1621 o3 (by decide) ?_
  refine lw_one lk_1622 rfl ?_
  refine lw_one lk_1624 rfl ?_
  refine lw_one lk_1625 rfl ?_
  refine lw_br (c := mj_c .eq (lg_cmp (M2.2.2.1 194 0) b.toInt64) 0) (off := 5) (t := 1631) (r := []) lk_1626 rfl rfl rfl rfl rfl (fun _ => ?_) (fun h => absurd (by rw [hc hk]; exact lw_cmp _) (of_decide_eq_false h))
  exact lw_one lk_1631 rfl lw_rf
set_option maxRecDepth 20000 in
theorem lc_20 {l : Launch} {d L : Nat} {xs : Nat → Int32} {M M1 M2 : mj_M} {i : Int32} {k : Int32} {b : Int32} (h1 : vp_in (i + Int32.ofInt 1) L) (hw : mw_Met l mj_AW ic_Ns vwCl ic_ty ic_X il_watch ih_watch d [.ref 0, .int (if (xs (i + Int32.ofInt 1).toNatClampNeg) = 0 then 0 else 1), .ref 194] M (some (.int k)) M1) (he : mj_ext M M1) (hM1 : mj_wM M1) (hm : mj_R ic_P d 12106 (.ref 124 :: [.int (if (xs (i + Int32.ofInt 1).toNatClampNeg) = 0 then 0 else 1)]) M1 (some (.int b)) M2) (ht : mj_R ic_P d 12003 (.ref 124 :: []) M2 (some (.int k)) M2) (hc : k = 0 → M2.2.2.1 194 0 = (if b = 0 then 0 else 1)) (o0 : M.1[0]? = some (11, 17)) (o1 : M1.1[124]? = some (12, 195)) (o2 : M2.1[124]? = some (12, 195)) (o3 : M2.1[194]? = some (101, 1)) : lw_T l d L xs (1634, [(4, .int i), (0, .ref 4000000), (1, .ref 0), (2, .ref 124), (3, .ref 194)], [], M) (3275, [(6, .int b), (5, .int k), (4, .int i), (0, .ref 4000000), (1, .ref 0), (2, .ref 124), (3, .ref 194)], [], M2) 1 := by
  refine lw_one lk_1634 rfl ?_
  refine lw_one lk_1635 rfl ?_
  refine lw_one lk_1636 rfl ?_
  refine lw_one lk_1638 rfl ?_
  refine lw_one lk_1639 rfl ?_
  refine lw_ld lk_1640 h1 ?_
  refine lw_bool lk_1641 lk_1644 lk_1645 lk_1648 ?_
  refine lw_one lk_1649 rfl ?_
  refine lw_wr (e := 0) (vs := [.ref 0, .int (if (xs (i + Int32.ofInt 1).toNatClampNeg) = 0 then 0 else 1), .ref 194]) (rest := []) lk_1650 rfl rfl (by decide) hw he hM1 ?_
  refine lw_one lk_1653 rfl ?_
  refine lw_one lk_1655 rfl ?_
  refine lw_one lk_1656 rfl ?_
  refine lw_one lk_1657 rfl ?_
  refine lw_one lk_1659 rfl ?_
  refine lw_one lk_1660 rfl ?_
  refine lw_ld lk_1661 h1 ?_
  refine lw_bool lk_1662 lk_1665 lk_1666 lk_1669 ?_
  refine lw_cv (vs := [.int (if (xs (i + Int32.ofInt 1).toNatClampNeg) = 0 then 0 else 1)]) (rest := []) lk_1670 rfl rfl (by decide) o1 (Nat.le_of_ble_eq_true rfl) hm ?_
  refine lw_one lk_1673 rfl ?_
  refine lw_one lk_1675 rfl ?_
  refine lw_cv (vs := []) (rest := []) lk_1676 rfl rfl (by decide) o2 (Nat.le_of_ble_eq_true rfl) ht ?_
  refine lw_one lk_1679 rfl ?_
  refine lw_br (c := mj_c .eq k k) (off := 5) (t := 1686) (r := []) lk_1681 rfl rfl rfl rfl rfl (fun _ => ?_) (fun h => absurd rfl (of_decide_eq_false h))
  refine lw_one lk_1686 rfl ?_
  refine lw_br (c := mj_c .ne k 0) (off := 22) (t := 1710) (r := []) lk_1688 rfl rfl rfl rfl rfl (fun _ => ?_) (fun h => ?_)
  · exact lw_one lk_1710 rfl lw_rf
  have hk : k = 0 := Classical.byContradiction (fun q => by have := of_decide_eq_false h; exact this q)
  refine lw_one lk_1691 rfl ?_
  refine lw_one lk_1692 rfl ?_
  refine lw_lal lk_1693 o3 (by decide) ?_
  refine lw_one lk_1694 rfl ?_
  have key : lw_T l d L xs (1704, [(6, .int b), (5, .int k), (4, .int i), (0, .ref 4000000), (1, .ref 0), (2, .ref 124), (3, .ref 194)], [.long (if b = 0 then 0 else 1), .long (M2.2.2.1 194 0)], M2) (3275, [(6, .int b), (5, .int k), (4, .int i), (0, .ref 4000000), (1, .ref 0), (2, .ref 124), (3, .ref 194)], [], M2) 0 := by
    refine lw_one lk_1704 rfl ?_
    refine lw_br (c := mj_c .eq (lg_cmp (M2.2.2.1 194 0) (if b = 0 then 0 else 1)) 0) (off := 5) (t := 1710) (r := []) lk_1705 rfl rfl rfl rfl rfl (fun _ => ?_) (fun h => absurd (by rw [hc hk]; exact lw_cmp _) (of_decide_eq_false h))
    exact lw_one lk_1710 rfl lw_rf
  · refine lw_br (c := mj_c .eq b 0) (off := 7) (t := 1703) (r := [.long (M2.2.2.1 194 0)]) lk_1696 rfl rfl rfl rfl rfl (fun h => ?_) (fun h => ?_)
    · rw [if_pos (of_decide_eq_true h)] at key; exact lw_one lk_1703 rfl key
    · rw [if_neg (of_decide_eq_false h)] at key; exact lw_one lk_1699 rfl (lw_one lk_1700 rfl key)
set_option maxRecDepth 20000 in
theorem lc_21 {l : Launch} {d L : Nat} {xs : Nat → Int32} {M M1 M2 : mj_M} {i : Int32} {k : Int32} {b : Int32} (h1 : vp_in (i + Int32.ofInt 1) L) (hw : mw_Met l mj_AW ic_Ns vwCl ic_ty ic_X il_answer ih_answer d [.ref 0, .int (xs (i + Int32.ofInt 1).toNatClampNeg), .ref 194] M (some (.int k)) M1) (he : mj_ext M M1) (hM1 : mj_wM M1) (hm : mj_R ic_P d 12107 (.ref 124 :: [.int (xs (i + Int32.ofInt 1).toNatClampNeg)]) M1 (some (.int b)) M2) (ht : mj_R ic_P d 12003 (.ref 124 :: []) M2 (some (.int k)) M2) (hc : k = 0 → M2.2.2.1 194 0 = (if b = 0 then 0 else 1)) (o0 : M.1[0]? = some (11, 17)) (o1 : M1.1[124]? = some (12, 195)) (o2 : M2.1[124]? = some (12, 195)) (o3 : M2.1[194]? = some (101, 1)) : lw_T l d L xs (1713, [(4, .int i), (0, .ref 4000000), (1, .ref 0), (2, .ref 124), (3, .ref 194)], [], M) (3275, [(6, .int b), (5, .int k), (4, .int i), (0, .ref 4000000), (1, .ref 0), (2, .ref 124), (3, .ref 194)], [], M2) 1 := by
  refine lw_one lk_1713 rfl ?_
  refine lw_one lk_1714 rfl ?_
  refine lw_one lk_1715 rfl ?_
  refine lw_one lk_1717 rfl ?_
  refine lw_one lk_1718 rfl ?_
  refine lw_ld lk_1719 h1 ?_
  refine lw_one lk_1720 rfl ?_
  refine lw_wr (e := 0) (vs := [.ref 0, .int (xs (i + Int32.ofInt 1).toNatClampNeg), .ref 194]) (rest := []) lk_1721 rfl rfl (by decide) hw he hM1 ?_
  refine lw_one lk_1724 rfl ?_
  refine lw_one lk_1726 rfl ?_
  refine lw_one lk_1727 rfl ?_
  refine lw_one lk_1728 rfl ?_
  refine lw_one lk_1730 rfl ?_
  refine lw_one lk_1731 rfl ?_
  refine lw_ld lk_1732 h1 ?_
  refine lw_cv (vs := [.int (xs (i + Int32.ofInt 1).toNatClampNeg)]) (rest := []) lk_1733 rfl rfl (by decide) o1 (Nat.le_of_ble_eq_true rfl) hm ?_
  refine lw_one lk_1736 rfl ?_
  refine lw_one lk_1738 rfl ?_
  refine lw_cv (vs := []) (rest := []) lk_1739 rfl rfl (by decide) o2 (Nat.le_of_ble_eq_true rfl) ht ?_
  refine lw_one lk_1742 rfl ?_
  refine lw_br (c := mj_c .eq k k) (off := 5) (t := 1749) (r := []) lk_1744 rfl rfl rfl rfl rfl (fun _ => ?_) (fun h => absurd rfl (of_decide_eq_false h))
  refine lw_one lk_1749 rfl ?_
  refine lw_br (c := mj_c .ne k 0) (off := 22) (t := 1773) (r := []) lk_1751 rfl rfl rfl rfl rfl (fun _ => ?_) (fun h => ?_)
  · exact lw_one lk_1773 rfl lw_rf
  have hk : k = 0 := Classical.byContradiction (fun q => by have := of_decide_eq_false h; exact this q)
  refine lw_one lk_1754 rfl ?_
  refine lw_one lk_1755 rfl ?_
  refine lw_lal lk_1756 o3 (by decide) ?_
  refine lw_one lk_1757 rfl ?_
  have key : lw_T l d L xs (1767, [(6, .int b), (5, .int k), (4, .int i), (0, .ref 4000000), (1, .ref 0), (2, .ref 124), (3, .ref 194)], [.long (if b = 0 then 0 else 1), .long (M2.2.2.1 194 0)], M2) (3275, [(6, .int b), (5, .int k), (4, .int i), (0, .ref 4000000), (1, .ref 0), (2, .ref 124), (3, .ref 194)], [], M2) 0 := by
    refine lw_one lk_1767 rfl ?_
    refine lw_br (c := mj_c .eq (lg_cmp (M2.2.2.1 194 0) (if b = 0 then 0 else 1)) 0) (off := 5) (t := 1773) (r := []) lk_1768 rfl rfl rfl rfl rfl (fun _ => ?_) (fun h => absurd (by rw [hc hk]; exact lw_cmp _) (of_decide_eq_false h))
    exact lw_one lk_1773 rfl lw_rf
  · refine lw_br (c := mj_c .eq b 0) (off := 7) (t := 1766) (r := [.long (M2.2.2.1 194 0)]) lk_1759 rfl rfl rfl rfl rfl (fun h => ?_) (fun h => ?_)
    · rw [if_pos (of_decide_eq_true h)] at key; exact lw_one lk_1766 rfl key
    · rw [if_neg (of_decide_eq_false h)] at key; exact lw_one lk_1762 rfl (lw_one lk_1763 rfl key)
set_option maxRecDepth 20000 in
theorem lc_22 {l : Launch} {d L : Nat} {xs : Nat → Int32} {M M1 M2 : mj_M} {i : Int32} {k : Int32} {b : Int32} (h1 : vp_in (i + Int32.ofInt 1) L) (h2 : vp_in (i + Int32.ofInt 2) L) (hw : mw_Met l mj_AW ic_Ns vwCl ic_ty ic_X il_hear ih_hear d [.ref 0, .int (xs (i + Int32.ofInt 1).toNatClampNeg), .int (xs (i + Int32.ofInt 2).toNatClampNeg), .ref 194] M (some (.int k)) M1) (he : mj_ext M M1) (hM1 : mj_wM M1) (hm : mj_R ic_P d 12108 (.ref 124 :: [.int (xs (i + Int32.ofInt 1).toNatClampNeg), .int (xs (i + Int32.ofInt 2).toNatClampNeg)]) M1 (some (.int b)) M2) (ht : mj_R ic_P d 12003 (.ref 124 :: []) M2 (some (.int k)) M2) (hc : k = 0 → M2.2.2.1 194 0 = b.toInt64) (o0 : M.1[0]? = some (11, 17)) (o1 : M1.1[124]? = some (12, 195)) (o2 : M2.1[124]? = some (12, 195)) (o3 : M2.1[194]? = some (101, 1)) : lw_T l d L xs (1776, [(4, .int i), (0, .ref 4000000), (1, .ref 0), (2, .ref 124), (3, .ref 194)], [], M) (3275, [(6, .int b), (5, .int k), (4, .int i), (0, .ref 4000000), (1, .ref 0), (2, .ref 124), (3, .ref 194)], [], M2) 1 := by
  refine lw_one lk_1776 rfl ?_
  refine lw_one lk_1777 rfl ?_
  refine lw_one lk_1778 rfl ?_
  refine lw_one lk_1780 rfl ?_
  refine lw_one lk_1781 rfl ?_
  refine lw_ld lk_1782 h1 ?_
  refine lw_one lk_1783 rfl ?_
  refine lw_one lk_1784 rfl ?_
  refine lw_one lk_1786 rfl ?_
  refine lw_one lk_1787 rfl ?_
  refine lw_ld lk_1788 h2 ?_
  refine lw_one lk_1789 rfl ?_
  refine lw_wr (e := 0) (vs := [.ref 0, .int (xs (i + Int32.ofInt 1).toNatClampNeg), .int (xs (i + Int32.ofInt 2).toNatClampNeg), .ref 194]) (rest := []) lk_1790 rfl rfl (by decide) hw he hM1 ?_
  refine lw_one lk_1793 rfl ?_
  refine lw_one lk_1795 rfl ?_
  refine lw_one lk_1796 rfl ?_
  refine lw_one lk_1797 rfl ?_
  refine lw_one lk_1799 rfl ?_
  refine lw_one lk_1800 rfl ?_
  refine lw_ld lk_1801 h1 ?_
  refine lw_one lk_1802 rfl ?_
  refine lw_one lk_1803 rfl ?_
  refine lw_one lk_1805 rfl ?_
  refine lw_one lk_1806 rfl ?_
  refine lw_ld lk_1807 h2 ?_
  refine lw_cv (vs := [.int (xs (i + Int32.ofInt 1).toNatClampNeg), .int (xs (i + Int32.ofInt 2).toNatClampNeg)]) (rest := []) lk_1808 rfl rfl (by decide) o1 (Nat.le_of_ble_eq_true rfl) hm ?_
  refine lw_one lk_1811 rfl ?_
  refine lw_one lk_1813 rfl ?_
  refine lw_cv (vs := []) (rest := []) lk_1814 rfl rfl (by decide) o2 (Nat.le_of_ble_eq_true rfl) ht ?_
  refine lw_one lk_1817 rfl ?_
  refine lw_br (c := mj_c .eq k k) (off := 5) (t := 1824) (r := []) lk_1819 rfl rfl rfl rfl rfl (fun _ => ?_) (fun h => absurd rfl (of_decide_eq_false h))
  refine lw_one lk_1824 rfl ?_
  refine lw_br (c := mj_c .ne k 0) (off := 15) (t := 1841) (r := []) lk_1826 rfl rfl rfl rfl rfl (fun _ => ?_) (fun h => ?_)
  · exact lw_one lk_1841 rfl lw_rf
  have hk : k = 0 := Classical.byContradiction (fun q => by have := of_decide_eq_false h; exact this q)
  refine lw_one lk_1829 rfl ?_
  refine lw_one lk_1830 rfl ?_
  refine lw_lal lk_1831 o3 (by decide) ?_
  refine lw_one lk_1832 rfl ?_
  refine lw_one lk_1834 rfl ?_
  refine lw_one lk_1835 rfl ?_
  refine lw_br (c := mj_c .eq (lg_cmp (M2.2.2.1 194 0) b.toInt64) 0) (off := 5) (t := 1841) (r := []) lk_1836 rfl rfl rfl rfl rfl (fun _ => ?_) (fun h => absurd (by rw [hc hk]; exact lw_cmp _) (of_decide_eq_false h))
  exact lw_one lk_1841 rfl lw_rf
set_option maxRecDepth 20000 in
theorem lc_23 {l : Launch} {d L : Nat} {xs : Nat → Int32} {M M1 M2 : mj_M} {i : Int32} {k : Int32} {b : Int32} (h1 : vp_in (i + Int32.ofInt 1) L) (h2 : vp_in (i + Int32.ofInt 2) L) (h3 : vp_in (i + Int32.ofInt 3) L) (h4 : vp_in (i + Int32.ofInt 4) L) (h5 : vp_in (i + Int32.ofInt 5) L) (h6 : vp_in (i + (Int8.ofInt 6).toInt32) L) (hw : mw_Met l mj_AW ic_Ns vwCl ic_ty ic_X il_ask ih_ask d [.ref 0, .int (xs (i + Int32.ofInt 1).toNatClampNeg), .int (xs (i + Int32.ofInt 2).toNatClampNeg), .int (xs (i + Int32.ofInt 3).toNatClampNeg), .int (xs (i + Int32.ofInt 4).toNatClampNeg), .int (xs (i + Int32.ofInt 5).toNatClampNeg), .int (xs (i + (Int8.ofInt 6).toInt32).toNatClampNeg), .ref 194] M (some (.int k)) M1) (he : mj_ext M M1) (hM1 : mj_wM M1) (hm : mj_R ic_P d 12110 (.ref 124 :: [.int (xs (i + Int32.ofInt 1).toNatClampNeg), .int (xs (i + Int32.ofInt 2).toNatClampNeg), .int (xs (i + Int32.ofInt 3).toNatClampNeg), .int (xs (i + Int32.ofInt 4).toNatClampNeg), .int (xs (i + Int32.ofInt 5).toNatClampNeg), .int (xs (i + (Int8.ofInt 6).toInt32).toNatClampNeg)]) M1 (some (.int b)) M2) (ht : mj_R ic_P d 12003 (.ref 124 :: []) M2 (some (.int k)) M2) (hc : k = 0 → M2.2.2.1 194 0 = b.toInt64) (o0 : M.1[0]? = some (11, 17)) (o1 : M1.1[124]? = some (12, 195)) (o2 : M2.1[124]? = some (12, 195)) (o3 : M2.1[194]? = some (101, 1)) : lw_T l d L xs (1844, [(4, .int i), (0, .ref 4000000), (1, .ref 0), (2, .ref 124), (3, .ref 194)], [], M) (3275, [(6, .int b), (5, .int k), (4, .int i), (0, .ref 4000000), (1, .ref 0), (2, .ref 124), (3, .ref 194)], [], M2) 1 := by
  refine lw_one lk_1844 rfl ?_
  refine lw_one lk_1845 rfl ?_
  refine lw_one lk_1846 rfl ?_
  refine lw_one lk_1848 rfl ?_
  refine lw_one lk_1849 rfl ?_
  refine lw_ld lk_1850 h1 ?_
  refine lw_one lk_1851 rfl ?_
  refine lw_one lk_1852 rfl ?_
  refine lw_one lk_1854 rfl ?_
  refine lw_one lk_1855 rfl ?_
  refine lw_ld lk_1856 h2 ?_
  refine lw_one lk_1857 rfl ?_
  refine lw_one lk_1858 rfl ?_
  refine lw_one lk_1860 rfl ?_
  refine lw_one lk_1861 rfl ?_
  refine lw_ld lk_1862 h3 ?_
  refine lw_one lk_1863 rfl ?_
  refine lw_one lk_1864 rfl ?_
  refine lw_one lk_1866 rfl ?_
  refine lw_one lk_1867 rfl ?_
  refine lw_ld lk_1868 h4 ?_
  refine lw_one lk_1869 rfl ?_
  refine lw_one lk_1870 rfl ?_
  refine lw_one lk_1872 rfl ?_
  refine lw_one lk_1873 rfl ?_
  refine lw_ld lk_1874 h5 ?_
  refine lw_one lk_1875 rfl ?_
  refine lw_one lk_1876 rfl ?_
  refine lw_one lk_1878 rfl ?_
  refine lw_one lk_1880 rfl ?_
  refine lw_ld lk_1881 h6 ?_
  refine lw_one lk_1882 rfl ?_
  refine lw_wr (e := 0) (vs := [.ref 0, .int (xs (i + Int32.ofInt 1).toNatClampNeg), .int (xs (i + Int32.ofInt 2).toNatClampNeg), .int (xs (i + Int32.ofInt 3).toNatClampNeg), .int (xs (i + Int32.ofInt 4).toNatClampNeg), .int (xs (i + Int32.ofInt 5).toNatClampNeg), .int (xs (i + (Int8.ofInt 6).toInt32).toNatClampNeg), .ref 194]) (rest := []) lk_1883 rfl rfl (by decide) hw he hM1 ?_
  refine lw_one lk_1886 rfl ?_
  refine lw_one lk_1888 rfl ?_
  refine lw_one lk_1889 rfl ?_
  refine lw_one lk_1890 rfl ?_
  refine lw_one lk_1892 rfl ?_
  refine lw_one lk_1893 rfl ?_
  refine lw_ld lk_1894 h1 ?_
  refine lw_one lk_1895 rfl ?_
  refine lw_one lk_1896 rfl ?_
  refine lw_one lk_1898 rfl ?_
  refine lw_one lk_1899 rfl ?_
  refine lw_ld lk_1900 h2 ?_
  refine lw_one lk_1901 rfl ?_
  refine lw_one lk_1902 rfl ?_
  refine lw_one lk_1904 rfl ?_
  refine lw_one lk_1905 rfl ?_
  refine lw_ld lk_1906 h3 ?_
  refine lw_one lk_1907 rfl ?_
  refine lw_one lk_1908 rfl ?_
  refine lw_one lk_1910 rfl ?_
  refine lw_one lk_1911 rfl ?_
  refine lw_ld lk_1912 h4 ?_
  refine lw_one lk_1913 rfl ?_
  refine lw_one lk_1914 rfl ?_
  refine lw_one lk_1916 rfl ?_
  refine lw_one lk_1917 rfl ?_
  refine lw_ld lk_1918 h5 ?_
  refine lw_one lk_1919 rfl ?_
  refine lw_one lk_1920 rfl ?_
  refine lw_one lk_1922 rfl ?_
  refine lw_one lk_1924 rfl ?_
  refine lw_ld lk_1925 h6 ?_
  refine lw_cv (vs := [.int (xs (i + Int32.ofInt 1).toNatClampNeg), .int (xs (i + Int32.ofInt 2).toNatClampNeg), .int (xs (i + Int32.ofInt 3).toNatClampNeg), .int (xs (i + Int32.ofInt 4).toNatClampNeg), .int (xs (i + Int32.ofInt 5).toNatClampNeg), .int (xs (i + (Int8.ofInt 6).toInt32).toNatClampNeg)]) (rest := []) lk_1926 rfl rfl (by decide) o1 (Nat.le_of_ble_eq_true rfl) hm ?_
  refine lw_one lk_1929 rfl ?_
  refine lw_one lk_1931 rfl ?_
  refine lw_cv (vs := []) (rest := []) lk_1932 rfl rfl (by decide) o2 (Nat.le_of_ble_eq_true rfl) ht ?_
  refine lw_one lk_1935 rfl ?_
  refine lw_br (c := mj_c .eq k k) (off := 5) (t := 1942) (r := []) lk_1937 rfl rfl rfl rfl rfl (fun _ => ?_) (fun h => absurd rfl (of_decide_eq_false h))
  refine lw_one lk_1942 rfl ?_
  refine lw_br (c := mj_c .ne k 0) (off := 15) (t := 1959) (r := []) lk_1944 rfl rfl rfl rfl rfl (fun _ => ?_) (fun h => ?_)
  · exact lw_one lk_1959 rfl lw_rf
  have hk : k = 0 := Classical.byContradiction (fun q => by have := of_decide_eq_false h; exact this q)
  refine lw_one lk_1947 rfl ?_
  refine lw_one lk_1948 rfl ?_
  refine lw_lal lk_1949 o3 (by decide) ?_
  refine lw_one lk_1950 rfl ?_
  refine lw_one lk_1952 rfl ?_
  refine lw_one lk_1953 rfl ?_
  refine lw_br (c := mj_c .eq (lg_cmp (M2.2.2.1 194 0) b.toInt64) 0) (off := 5) (t := 1959) (r := []) lk_1954 rfl rfl rfl rfl rfl (fun _ => ?_) (fun h => absurd (by rw [hc hk]; exact lw_cmp _) (of_decide_eq_false h))
  exact lw_one lk_1959 rfl lw_rf
set_option maxRecDepth 20000 in
theorem lc_24 {l : Launch} {d L : Nat} {xs : Nat → Int32} {M M1 M2 : mj_M} {i : Int32} {k : Int32} {b : Int32} (h1 : vp_in (i + Int32.ofInt 1) L) (hw : mw_Met l mj_AW ic_Ns vwCl ic_ty ic_X il_byteOf ih_byteOf d [.ref 0, .int (xs (i + Int32.ofInt 1).toNatClampNeg), .ref 194] M (some (.int k)) M1) (he : mj_ext M M1) (hM1 : mj_wM M1) (hm : mj_R ic_P d 12111 (.ref 124 :: [.int (xs (i + Int32.ofInt 1).toNatClampNeg)]) M1 (some (.int b)) M2) (ht : mj_R ic_P d 12003 (.ref 124 :: []) M2 (some (.int k)) M2) (hc : k = 0 → M2.2.2.1 194 0 = b.toInt64) (o0 : M.1[0]? = some (11, 17)) (o1 : M1.1[124]? = some (12, 195)) (o2 : M2.1[124]? = some (12, 195)) (o3 : M2.1[194]? = some (101, 1)) : lw_T l d L xs (1962, [(4, .int i), (0, .ref 4000000), (1, .ref 0), (2, .ref 124), (3, .ref 194)], [], M) (3275, [(6, .int b), (5, .int k), (4, .int i), (0, .ref 4000000), (1, .ref 0), (2, .ref 124), (3, .ref 194)], [], M2) 1 := by
  refine lw_one lk_1962 rfl ?_
  refine lw_one lk_1963 rfl ?_
  refine lw_one lk_1964 rfl ?_
  refine lw_one lk_1966 rfl ?_
  refine lw_one lk_1967 rfl ?_
  refine lw_ld lk_1968 h1 ?_
  refine lw_one lk_1969 rfl ?_
  refine lw_wr (e := 0) (vs := [.ref 0, .int (xs (i + Int32.ofInt 1).toNatClampNeg), .ref 194]) (rest := []) lk_1970 rfl rfl (by decide) hw he hM1 ?_
  refine lw_one lk_1973 rfl ?_
  refine lw_one lk_1975 rfl ?_
  refine lw_one lk_1976 rfl ?_
  refine lw_one lk_1977 rfl ?_
  refine lw_one lk_1979 rfl ?_
  refine lw_one lk_1980 rfl ?_
  refine lw_ld lk_1981 h1 ?_
  refine lw_cv (vs := [.int (xs (i + Int32.ofInt 1).toNatClampNeg)]) (rest := []) lk_1982 rfl rfl (by decide) o1 (Nat.le_of_ble_eq_true rfl) hm ?_
  refine lw_one lk_1985 rfl ?_
  refine lw_one lk_1987 rfl ?_
  refine lw_cv (vs := []) (rest := []) lk_1988 rfl rfl (by decide) o2 (Nat.le_of_ble_eq_true rfl) ht ?_
  refine lw_one lk_1991 rfl ?_
  refine lw_br (c := mj_c .eq k k) (off := 5) (t := 1998) (r := []) lk_1993 rfl rfl rfl rfl rfl (fun _ => ?_) (fun h => absurd rfl (of_decide_eq_false h))
  refine lw_one lk_1998 rfl ?_
  refine lw_br (c := mj_c .ne k 0) (off := 15) (t := 2015) (r := []) lk_2000 rfl rfl rfl rfl rfl (fun _ => ?_) (fun h => ?_)
  · exact lw_one lk_2015 rfl lw_rf
  have hk : k = 0 := Classical.byContradiction (fun q => by have := of_decide_eq_false h; exact this q)
  refine lw_one lk_2003 rfl ?_
  refine lw_one lk_2004 rfl ?_
  refine lw_lal lk_2005 o3 (by decide) ?_
  refine lw_one lk_2006 rfl ?_
  refine lw_one lk_2008 rfl ?_
  refine lw_one lk_2009 rfl ?_
  refine lw_br (c := mj_c .eq (lg_cmp (M2.2.2.1 194 0) b.toInt64) 0) (off := 5) (t := 2015) (r := []) lk_2010 rfl rfl rfl rfl rfl (fun _ => ?_) (fun h => absurd (by rw [hc hk]; exact lw_cmp _) (of_decide_eq_false h))
  exact lw_one lk_2015 rfl lw_rf
set_option maxRecDepth 20000 in
theorem lc_25 {l : Launch} {d L : Nat} {xs : Nat → Int32} {M M1 M2 : mj_M} {i : Int32} {k : Int32}  (hx : mj_R ic_P d 11032 (.ref 0 :: []) M (some (.int k)) M1) (hm : mj_R ic_P d 12112 (.ref 124 :: []) M1 (some (.int k)) M2) (o0 : M.1[0]? = some (11, 17)) (o1 : M1.1[124]? = some (12, 195)) (o2 : M2.1[124]? = some (12, 195)) (o3 : M2.1[194]? = some (101, 1)) : lw_T l d L xs (2018, [(4, .int i), (0, .ref 4000000), (1, .ref 0), (2, .ref 124), (3, .ref 194)], [], M) (3275, [(4, .int i), (0, .ref 4000000), (1, .ref 0), (2, .ref 124), (3, .ref 194)], [], M2) 0 := by
  refine lw_one lk_2018 rfl ?_
  refine lw_cv (vs := []) (rest := []) lk_2019 rfl rfl (by decide) o0 (Nat.le_of_ble_eq_true rfl) hx ?_
  refine lw_one lk_2022 rfl ?_
  refine lw_cv (vs := []) (rest := [.int k]) lk_2023 rfl rfl (by decide) o1 (Nat.le_of_ble_eq_true rfl) hm ?_
  refine lw_br (c := mj_c .eq k k) (off := 1249) (t := 3275) (r := []) lk_2026 rfl rfl rfl rfl rfl (fun _ => ?_) (fun h => absurd rfl (of_decide_eq_false h))
  exact lw_rf
set_option maxRecDepth 20000 in
theorem lc_26 {l : Launch} {d L : Nat} {xs : Nat → Int32} {M M1 M2 : mj_M} {i : Int32} {k : Int32} {b : Int64} (h1 : vp_in (i + Int32.ofInt 1) L) (hw : mw_Met l mj_AW ic_Ns vwCl ic_ty ic_X il_about ih_about d [.ref 0, .int (xs (i + Int32.ofInt 1).toNatClampNeg), .ref 194] M (some (.int k)) M1) (he : mj_ext M M1) (hM1 : mj_wM M1) (hm : mj_R ic_P d 12113 (.ref 124 :: [.int (xs (i + Int32.ofInt 1).toNatClampNeg)]) M1 (some (.long b)) M2) (ht : mj_R ic_P d 12003 (.ref 124 :: []) M2 (some (.int k)) M2) (hc : k = 0 → M2.2.2.1 194 0 = b) (o0 : M.1[0]? = some (11, 17)) (o1 : M1.1[124]? = some (12, 195)) (o2 : M2.1[124]? = some (12, 195)) (o3 : M2.1[194]? = some (101, 1)) : lw_T l d L xs (2031, [(4, .int i), (0, .ref 4000000), (1, .ref 0), (2, .ref 124), (3, .ref 194)], [], M) (3275, [(6, .long b), (5, .int k), (4, .int i), (0, .ref 4000000), (1, .ref 0), (2, .ref 124), (3, .ref 194)], [], M2) 1 := by
  refine lw_one lk_2031 rfl ?_
  refine lw_one lk_2032 rfl ?_
  refine lw_one lk_2033 rfl ?_
  refine lw_one lk_2035 rfl ?_
  refine lw_one lk_2036 rfl ?_
  refine lw_ld lk_2037 h1 ?_
  refine lw_one lk_2038 rfl ?_
  refine lw_wr (e := 0) (vs := [.ref 0, .int (xs (i + Int32.ofInt 1).toNatClampNeg), .ref 194]) (rest := []) lk_2039 rfl rfl (by decide) hw he hM1 ?_
  refine lw_one lk_2042 rfl ?_
  refine lw_one lk_2044 rfl ?_
  refine lw_one lk_2045 rfl ?_
  refine lw_one lk_2046 rfl ?_
  refine lw_one lk_2048 rfl ?_
  refine lw_one lk_2049 rfl ?_
  refine lw_ld lk_2050 h1 ?_
  refine lw_cv (vs := [.int (xs (i + Int32.ofInt 1).toNatClampNeg)]) (rest := []) lk_2051 rfl rfl (by decide) o1 (Nat.le_of_ble_eq_true rfl) hm ?_
  refine lw_one lk_2054 rfl ?_
  refine lw_one lk_2056 rfl ?_
  refine lw_cv (vs := []) (rest := []) lk_2057 rfl rfl (by decide) o2 (Nat.le_of_ble_eq_true rfl) ht ?_
  refine lw_one lk_2060 rfl ?_
  refine lw_br (c := mj_c .eq k k) (off := 5) (t := 2067) (r := []) lk_2062 rfl rfl rfl rfl rfl (fun _ => ?_) (fun h => absurd rfl (of_decide_eq_false h))
  refine lw_one lk_2067 rfl ?_
  refine lw_br (c := mj_c .ne k 0) (off := 14) (t := 2083) (r := []) lk_2069 rfl rfl rfl rfl rfl (fun _ => ?_) (fun h => ?_)
  · exact lw_one lk_2083 rfl lw_rf
  have hk : k = 0 := Classical.byContradiction (fun q => by have := of_decide_eq_false h; exact this q)
  refine lw_one lk_2072 rfl ?_
  refine lw_one lk_2073 rfl ?_
  refine lw_lal lk_2074 o3 (by decide) ?_
  refine lw_one lk_2075 rfl ?_
  refine lw_one lk_2077 rfl ?_
  refine lw_br (c := mj_c .eq (lg_cmp (M2.2.2.1 194 0) b) 0) (off := 5) (t := 2083) (r := []) lk_2078 rfl rfl rfl rfl rfl (fun _ => ?_) (fun h => absurd (by rw [hc hk]; exact lw_cmp _) (of_decide_eq_false h))
  exact lw_one lk_2083 rfl lw_rf
set_option maxRecDepth 20000 in
theorem lc_27 {l : Launch} {d L : Nat} {xs : Nat → Int32} {M M1 M2 : mj_M} {i : Int32} {k : Int32} {b : Int32} (h1 : vp_in (i + Int32.ofInt 1) L) (h2 : vp_in (i + Int32.ofInt 2) L) (hw : mw_Met l mj_AW ic_Ns vwCl ic_ty ic_X il_channel ih_channel d [.ref 0, .int (xs (i + Int32.ofInt 1).toNatClampNeg), .int (xs (i + Int32.ofInt 2).toNatClampNeg), .ref 194] M (some (.int k)) M1) (he : mj_ext M M1) (hM1 : mj_wM M1) (hm : mj_R ic_P d 12118 (.ref 124 :: [.int (xs (i + Int32.ofInt 1).toNatClampNeg), .int (xs (i + Int32.ofInt 2).toNatClampNeg)]) M1 (some (.int b)) M2) (ht : mj_R ic_P d 12003 (.ref 124 :: []) M2 (some (.int k)) M2) (hc : k = 0 → M2.2.2.1 194 0 = b.toInt64) (o0 : M.1[0]? = some (11, 17)) (o1 : M1.1[124]? = some (12, 195)) (o2 : M2.1[124]? = some (12, 195)) (o3 : M2.1[194]? = some (101, 1)) : lw_T l d L xs (2086, [(4, .int i), (0, .ref 4000000), (1, .ref 0), (2, .ref 124), (3, .ref 194)], [], M) (3275, [(6, .int b), (5, .int k), (4, .int i), (0, .ref 4000000), (1, .ref 0), (2, .ref 124), (3, .ref 194)], [], M2) 1 := by
  refine lw_one lk_2086 rfl ?_
  refine lw_one lk_2087 rfl ?_
  refine lw_one lk_2088 rfl ?_
  refine lw_one lk_2090 rfl ?_
  refine lw_one lk_2091 rfl ?_
  refine lw_ld lk_2092 h1 ?_
  refine lw_one lk_2093 rfl ?_
  refine lw_one lk_2094 rfl ?_
  refine lw_one lk_2096 rfl ?_
  refine lw_one lk_2097 rfl ?_
  refine lw_ld lk_2098 h2 ?_
  refine lw_one lk_2099 rfl ?_
  refine lw_wr (e := 0) (vs := [.ref 0, .int (xs (i + Int32.ofInt 1).toNatClampNeg), .int (xs (i + Int32.ofInt 2).toNatClampNeg), .ref 194]) (rest := []) lk_2100 rfl rfl (by decide) hw he hM1 ?_
  refine lw_one lk_2103 rfl ?_
  refine lw_one lk_2105 rfl ?_
  refine lw_one lk_2106 rfl ?_
  refine lw_one lk_2107 rfl ?_
  refine lw_one lk_2109 rfl ?_
  refine lw_one lk_2110 rfl ?_
  refine lw_ld lk_2111 h1 ?_
  refine lw_one lk_2112 rfl ?_
  refine lw_one lk_2113 rfl ?_
  refine lw_one lk_2115 rfl ?_
  refine lw_one lk_2116 rfl ?_
  refine lw_ld lk_2117 h2 ?_
  refine lw_cv (vs := [.int (xs (i + Int32.ofInt 1).toNatClampNeg), .int (xs (i + Int32.ofInt 2).toNatClampNeg)]) (rest := []) lk_2118 rfl rfl (by decide) o1 (Nat.le_of_ble_eq_true rfl) hm ?_
  refine lw_one lk_2121 rfl ?_
  refine lw_one lk_2123 rfl ?_
  refine lw_cv (vs := []) (rest := []) lk_2124 rfl rfl (by decide) o2 (Nat.le_of_ble_eq_true rfl) ht ?_
  refine lw_one lk_2127 rfl ?_
  refine lw_br (c := mj_c .eq k k) (off := 5) (t := 2134) (r := []) lk_2129 rfl rfl rfl rfl rfl (fun _ => ?_) (fun h => absurd rfl (of_decide_eq_false h))
  refine lw_one lk_2134 rfl ?_
  refine lw_br (c := mj_c .ne k 0) (off := 15) (t := 2151) (r := []) lk_2136 rfl rfl rfl rfl rfl (fun _ => ?_) (fun h => ?_)
  · exact lw_one lk_2151 rfl lw_rf
  have hk : k = 0 := Classical.byContradiction (fun q => by have := of_decide_eq_false h; exact this q)
  refine lw_one lk_2139 rfl ?_
  refine lw_one lk_2140 rfl ?_
  refine lw_lal lk_2141 o3 (by decide) ?_
  refine lw_one lk_2142 rfl ?_
  refine lw_one lk_2144 rfl ?_
  refine lw_one lk_2145 rfl ?_
  refine lw_br (c := mj_c .eq (lg_cmp (M2.2.2.1 194 0) b.toInt64) 0) (off := 5) (t := 2151) (r := []) lk_2146 rfl rfl rfl rfl rfl (fun _ => ?_) (fun h => absurd (by rw [hc hk]; exact lw_cmp _) (of_decide_eq_false h))
  exact lw_one lk_2151 rfl lw_rf
set_option maxRecDepth 20000 in
theorem lc_28 {l : Launch} {d L : Nat} {xs : Nat → Int32} {M M1 M2 : mj_M} {i : Int32} {k : Int32} {b : Int32} (h1 : vp_in (i + Int32.ofInt 1) L) (h2 : vp_in (i + Int32.ofInt 2) L) (hw : mw_Met l mj_AW ic_Ns vwCl ic_ty ic_X il_cylinder ih_cylinder d [.ref 0, .int (xs (i + Int32.ofInt 1).toNatClampNeg), .int (xs (i + Int32.ofInt 2).toNatClampNeg), .ref 194] M (some (.int k)) M1) (he : mj_ext M M1) (hM1 : mj_wM M1) (hm : mj_R ic_P d 12119 (.ref 124 :: [.int (xs (i + Int32.ofInt 1).toNatClampNeg), .int (xs (i + Int32.ofInt 2).toNatClampNeg)]) M1 (some (.int b)) M2) (ht : mj_R ic_P d 12003 (.ref 124 :: []) M2 (some (.int k)) M2) (hc : k = 0 → M2.2.2.1 194 0 = b.toInt64) (o0 : M.1[0]? = some (11, 17)) (o1 : M1.1[124]? = some (12, 195)) (o2 : M2.1[124]? = some (12, 195)) (o3 : M2.1[194]? = some (101, 1)) : lw_T l d L xs (2154, [(4, .int i), (0, .ref 4000000), (1, .ref 0), (2, .ref 124), (3, .ref 194)], [], M) (3275, [(6, .int b), (5, .int k), (4, .int i), (0, .ref 4000000), (1, .ref 0), (2, .ref 124), (3, .ref 194)], [], M2) 1 := by
  refine lw_one lk_2154 rfl ?_
  refine lw_one lk_2155 rfl ?_
  refine lw_one lk_2156 rfl ?_
  refine lw_one lk_2158 rfl ?_
  refine lw_one lk_2159 rfl ?_
  refine lw_ld lk_2160 h1 ?_
  refine lw_one lk_2161 rfl ?_
  refine lw_one lk_2162 rfl ?_
  refine lw_one lk_2164 rfl ?_
  refine lw_one lk_2165 rfl ?_
  refine lw_ld lk_2166 h2 ?_
  refine lw_one lk_2167 rfl ?_
  refine lw_wr (e := 0) (vs := [.ref 0, .int (xs (i + Int32.ofInt 1).toNatClampNeg), .int (xs (i + Int32.ofInt 2).toNatClampNeg), .ref 194]) (rest := []) lk_2168 rfl rfl (by decide) hw he hM1 ?_
  refine lw_one lk_2171 rfl ?_
  refine lw_one lk_2173 rfl ?_
  refine lw_one lk_2174 rfl ?_
  refine lw_one lk_2175 rfl ?_
  refine lw_one lk_2177 rfl ?_
  refine lw_one lk_2178 rfl ?_
  refine lw_ld lk_2179 h1 ?_
  refine lw_one lk_2180 rfl ?_
  refine lw_one lk_2181 rfl ?_
  refine lw_one lk_2183 rfl ?_
  refine lw_one lk_2184 rfl ?_
  refine lw_ld lk_2185 h2 ?_
  refine lw_cv (vs := [.int (xs (i + Int32.ofInt 1).toNatClampNeg), .int (xs (i + Int32.ofInt 2).toNatClampNeg)]) (rest := []) lk_2186 rfl rfl (by decide) o1 (Nat.le_of_ble_eq_true rfl) hm ?_
  refine lw_one lk_2189 rfl ?_
  refine lw_one lk_2191 rfl ?_
  refine lw_cv (vs := []) (rest := []) lk_2192 rfl rfl (by decide) o2 (Nat.le_of_ble_eq_true rfl) ht ?_
  refine lw_one lk_2195 rfl ?_
  refine lw_br (c := mj_c .eq k k) (off := 5) (t := 2202) (r := []) lk_2197 rfl rfl rfl rfl rfl (fun _ => ?_) (fun h => absurd rfl (of_decide_eq_false h))
  refine lw_one lk_2202 rfl ?_
  refine lw_br (c := mj_c .ne k 0) (off := 15) (t := 2219) (r := []) lk_2204 rfl rfl rfl rfl rfl (fun _ => ?_) (fun h => ?_)
  · exact lw_one lk_2219 rfl lw_rf
  have hk : k = 0 := Classical.byContradiction (fun q => by have := of_decide_eq_false h; exact this q)
  refine lw_one lk_2207 rfl ?_
  refine lw_one lk_2208 rfl ?_
  refine lw_lal lk_2209 o3 (by decide) ?_
  refine lw_one lk_2210 rfl ?_
  refine lw_one lk_2212 rfl ?_
  refine lw_one lk_2213 rfl ?_
  refine lw_br (c := mj_c .eq (lg_cmp (M2.2.2.1 194 0) b.toInt64) 0) (off := 5) (t := 2219) (r := []) lk_2214 rfl rfl rfl rfl rfl (fun _ => ?_) (fun h => absurd (by rw [hc hk]; exact lw_cmp _) (of_decide_eq_false h))
  exact lw_one lk_2219 rfl lw_rf
set_option maxRecDepth 20000 in
theorem lc_29 {l : Launch} {d L : Nat} {xs : Nat → Int32} {M M1 M2 : mj_M} {i : Int32} {k : Int32} {b : Int64} (h1 : vp_in (i + Int32.ofInt 1) L) (h2 : vp_in (i + Int32.ofInt 2) L) (hw : mw_Met l mj_AW ic_Ns vwCl ic_ty ic_X il_edge ih_edge d [.ref 0, .int (xs (i + Int32.ofInt 1).toNatClampNeg), .int (xs (i + Int32.ofInt 2).toNatClampNeg), .ref 194] M (some (.int k)) M1) (he : mj_ext M M1) (hM1 : mj_wM M1) (hm : mj_R ic_P d 12120 (.ref 124 :: [.int (xs (i + Int32.ofInt 1).toNatClampNeg), .int (xs (i + Int32.ofInt 2).toNatClampNeg)]) M1 (some (.long b)) M2) (ht : mj_R ic_P d 12003 (.ref 124 :: []) M2 (some (.int k)) M2) (hc : k = 0 → M2.2.2.1 194 0 = b) (o0 : M.1[0]? = some (11, 17)) (o1 : M1.1[124]? = some (12, 195)) (o2 : M2.1[124]? = some (12, 195)) (o3 : M2.1[194]? = some (101, 1)) : lw_T l d L xs (2222, [(4, .int i), (0, .ref 4000000), (1, .ref 0), (2, .ref 124), (3, .ref 194)], [], M) (3275, [(6, .long b), (5, .int k), (4, .int i), (0, .ref 4000000), (1, .ref 0), (2, .ref 124), (3, .ref 194)], [], M2) 1 := by
  refine lw_one lk_2222 rfl ?_
  refine lw_one lk_2223 rfl ?_
  refine lw_one lk_2224 rfl ?_
  refine lw_one lk_2226 rfl ?_
  refine lw_one lk_2227 rfl ?_
  refine lw_ld lk_2228 h1 ?_
  refine lw_one lk_2229 rfl ?_
  refine lw_one lk_2230 rfl ?_
  refine lw_one lk_2232 rfl ?_
  refine lw_one lk_2233 rfl ?_
  refine lw_ld lk_2234 h2 ?_
  refine lw_one lk_2235 rfl ?_
  refine lw_wr (e := 0) (vs := [.ref 0, .int (xs (i + Int32.ofInt 1).toNatClampNeg), .int (xs (i + Int32.ofInt 2).toNatClampNeg), .ref 194]) (rest := []) lk_2236 rfl rfl (by decide) hw he hM1 ?_
  refine lw_one lk_2239 rfl ?_
  refine lw_one lk_2241 rfl ?_
  refine lw_one lk_2242 rfl ?_
  refine lw_one lk_2243 rfl ?_
  refine lw_one lk_2245 rfl ?_
  refine lw_one lk_2246 rfl ?_
  refine lw_ld lk_2247 h1 ?_
  refine lw_one lk_2248 rfl ?_
  refine lw_one lk_2249 rfl ?_
  refine lw_one lk_2251 rfl ?_
  refine lw_one lk_2252 rfl ?_
  refine lw_ld lk_2253 h2 ?_
  refine lw_cv (vs := [.int (xs (i + Int32.ofInt 1).toNatClampNeg), .int (xs (i + Int32.ofInt 2).toNatClampNeg)]) (rest := []) lk_2254 rfl rfl (by decide) o1 (Nat.le_of_ble_eq_true rfl) hm ?_
  refine lw_one lk_2257 rfl ?_
  refine lw_one lk_2259 rfl ?_
  refine lw_cv (vs := []) (rest := []) lk_2260 rfl rfl (by decide) o2 (Nat.le_of_ble_eq_true rfl) ht ?_
  refine lw_one lk_2263 rfl ?_
  refine lw_br (c := mj_c .eq k k) (off := 5) (t := 2270) (r := []) lk_2265 rfl rfl rfl rfl rfl (fun _ => ?_) (fun h => absurd rfl (of_decide_eq_false h))
  refine lw_one lk_2270 rfl ?_
  refine lw_br (c := mj_c .ne k 0) (off := 14) (t := 2286) (r := []) lk_2272 rfl rfl rfl rfl rfl (fun _ => ?_) (fun h => ?_)
  · exact lw_one lk_2286 rfl lw_rf
  have hk : k = 0 := Classical.byContradiction (fun q => by have := of_decide_eq_false h; exact this q)
  refine lw_one lk_2275 rfl ?_
  refine lw_one lk_2276 rfl ?_
  refine lw_lal lk_2277 o3 (by decide) ?_
  refine lw_one lk_2278 rfl ?_
  refine lw_one lk_2280 rfl ?_
  refine lw_br (c := mj_c .eq (lg_cmp (M2.2.2.1 194 0) b) 0) (off := 5) (t := 2286) (r := []) lk_2281 rfl rfl rfl rfl rfl (fun _ => ?_) (fun h => absurd (by rw [hc hk]; exact lw_cmp _) (of_decide_eq_false h))
  exact lw_one lk_2286 rfl lw_rf
set_option maxRecDepth 20000 in
theorem lc_30 {l : Launch} {d L : Nat} {xs : Nat → Int32} {M M1 M2 : mj_M} {i : Int32} {k : Int32} {b : Int32} (h1 : vp_in (i + Int32.ofInt 1) L) (h2 : vp_in (i + Int32.ofInt 2) L) (hw : mw_Met l mj_AW ic_Ns vwCl ic_ty ic_X il_trouble ih_trouble d [.ref 0, .int (xs (i + Int32.ofInt 1).toNatClampNeg), .int (xs (i + Int32.ofInt 2).toNatClampNeg), .ref 194] M (some (.int k)) M1) (he : mj_ext M M1) (hM1 : mj_wM M1) (hm : mj_R ic_P d 12121 (.ref 124 :: [.int (xs (i + Int32.ofInt 1).toNatClampNeg), .int (xs (i + Int32.ofInt 2).toNatClampNeg)]) M1 (some (.int b)) M2) (ht : mj_R ic_P d 12003 (.ref 124 :: []) M2 (some (.int k)) M2) (hc : k = 0 → M2.2.2.1 194 0 = b.toInt64) (o0 : M.1[0]? = some (11, 17)) (o1 : M1.1[124]? = some (12, 195)) (o2 : M2.1[124]? = some (12, 195)) (o3 : M2.1[194]? = some (101, 1)) : lw_T l d L xs (2289, [(4, .int i), (0, .ref 4000000), (1, .ref 0), (2, .ref 124), (3, .ref 194)], [], M) (3275, [(6, .int b), (5, .int k), (4, .int i), (0, .ref 4000000), (1, .ref 0), (2, .ref 124), (3, .ref 194)], [], M2) 1 := by
  refine lw_one lk_2289 rfl ?_
  refine lw_one lk_2290 rfl ?_
  refine lw_one lk_2291 rfl ?_
  refine lw_one lk_2293 rfl ?_
  refine lw_one lk_2294 rfl ?_
  refine lw_ld lk_2295 h1 ?_
  refine lw_one lk_2296 rfl ?_
  refine lw_one lk_2297 rfl ?_
  refine lw_one lk_2299 rfl ?_
  refine lw_one lk_2300 rfl ?_
  refine lw_ld lk_2301 h2 ?_
  refine lw_one lk_2302 rfl ?_
  refine lw_wr (e := 0) (vs := [.ref 0, .int (xs (i + Int32.ofInt 1).toNatClampNeg), .int (xs (i + Int32.ofInt 2).toNatClampNeg), .ref 194]) (rest := []) lk_2303 rfl rfl (by decide) hw he hM1 ?_
  refine lw_one lk_2306 rfl ?_
  refine lw_one lk_2308 rfl ?_
  refine lw_one lk_2309 rfl ?_
  refine lw_one lk_2310 rfl ?_
  refine lw_one lk_2312 rfl ?_
  refine lw_one lk_2313 rfl ?_
  refine lw_ld lk_2314 h1 ?_
  refine lw_one lk_2315 rfl ?_
  refine lw_one lk_2316 rfl ?_
  refine lw_one lk_2318 rfl ?_
  refine lw_one lk_2319 rfl ?_
  refine lw_ld lk_2320 h2 ?_
  refine lw_cv (vs := [.int (xs (i + Int32.ofInt 1).toNatClampNeg), .int (xs (i + Int32.ofInt 2).toNatClampNeg)]) (rest := []) lk_2321 rfl rfl (by decide) o1 (Nat.le_of_ble_eq_true rfl) hm ?_
  refine lw_one lk_2324 rfl ?_
  refine lw_one lk_2326 rfl ?_
  refine lw_cv (vs := []) (rest := []) lk_2327 rfl rfl (by decide) o2 (Nat.le_of_ble_eq_true rfl) ht ?_
  refine lw_one lk_2330 rfl ?_
  refine lw_br (c := mj_c .eq k k) (off := 5) (t := 2337) (r := []) lk_2332 rfl rfl rfl rfl rfl (fun _ => ?_) (fun h => absurd rfl (of_decide_eq_false h))
  refine lw_one lk_2337 rfl ?_
  refine lw_br (c := mj_c .ne k 0) (off := 15) (t := 2354) (r := []) lk_2339 rfl rfl rfl rfl rfl (fun _ => ?_) (fun h => ?_)
  · exact lw_one lk_2354 rfl lw_rf
  have hk : k = 0 := Classical.byContradiction (fun q => by have := of_decide_eq_false h; exact this q)
  refine lw_one lk_2342 rfl ?_
  refine lw_one lk_2343 rfl ?_
  refine lw_lal lk_2344 o3 (by decide) ?_
  refine lw_one lk_2345 rfl ?_
  refine lw_one lk_2347 rfl ?_
  refine lw_one lk_2348 rfl ?_
  refine lw_br (c := mj_c .eq (lg_cmp (M2.2.2.1 194 0) b.toInt64) 0) (off := 5) (t := 2354) (r := []) lk_2349 rfl rfl rfl rfl rfl (fun _ => ?_) (fun h => absurd (by rw [hc hk]; exact lw_cmp _) (of_decide_eq_false h))
  exact lw_one lk_2354 rfl lw_rf
set_option maxRecDepth 20000 in
theorem lc_31 {l : Launch} {d L : Nat} {xs : Nat → Int32} {M M1 M2 : mj_M} {i : Int32} {k : Int32} {b : Int32} (h1 : vp_in (i + Int32.ofInt 1) L) (hw : mw_Met l mj_AW ic_Ns vwCl ic_ty ic_X il_frame ih_frame d [.ref 0, .int (xs (i + Int32.ofInt 1).toNatClampNeg), .ref 194] M (some (.int k)) M1) (he : mj_ext M M1) (hM1 : mj_wM M1) (hm : mj_R ic_P d 12122 (.ref 124 :: [.int (xs (i + Int32.ofInt 1).toNatClampNeg)]) M1 (some (.int b)) M2) (ht : mj_R ic_P d 12003 (.ref 124 :: []) M2 (some (.int k)) M2) (hc : k = 0 → M2.2.2.1 194 0 = b.toInt64) (o0 : M.1[0]? = some (11, 17)) (o1 : M1.1[124]? = some (12, 195)) (o2 : M2.1[124]? = some (12, 195)) (o3 : M2.1[194]? = some (101, 1)) : lw_T l d L xs (2357, [(4, .int i), (0, .ref 4000000), (1, .ref 0), (2, .ref 124), (3, .ref 194)], [], M) (3275, [(6, .int b), (5, .int k), (4, .int i), (0, .ref 4000000), (1, .ref 0), (2, .ref 124), (3, .ref 194)], [], M2) 1 := by
  refine lw_one lk_2357 rfl ?_
  refine lw_one lk_2358 rfl ?_
  refine lw_one lk_2359 rfl ?_
  refine lw_one lk_2361 rfl ?_
  refine lw_one lk_2362 rfl ?_
  refine lw_ld lk_2363 h1 ?_
  refine lw_one lk_2364 rfl ?_
  refine lw_wr (e := 0) (vs := [.ref 0, .int (xs (i + Int32.ofInt 1).toNatClampNeg), .ref 194]) (rest := []) lk_2365 rfl rfl (by decide) hw he hM1 ?_
  refine lw_one lk_2368 rfl ?_
  refine lw_one lk_2370 rfl ?_
  refine lw_one lk_2371 rfl ?_
  refine lw_one lk_2372 rfl ?_
  refine lw_one lk_2374 rfl ?_
  refine lw_one lk_2375 rfl ?_
  refine lw_ld lk_2376 h1 ?_
  refine lw_cv (vs := [.int (xs (i + Int32.ofInt 1).toNatClampNeg)]) (rest := []) lk_2377 rfl rfl (by decide) o1 (Nat.le_of_ble_eq_true rfl) hm ?_
  refine lw_one lk_2380 rfl ?_
  refine lw_one lk_2382 rfl ?_
  refine lw_cv (vs := []) (rest := []) lk_2383 rfl rfl (by decide) o2 (Nat.le_of_ble_eq_true rfl) ht ?_
  refine lw_one lk_2386 rfl ?_
  refine lw_br (c := mj_c .eq k k) (off := 5) (t := 2393) (r := []) lk_2388 rfl rfl rfl rfl rfl (fun _ => ?_) (fun h => absurd rfl (of_decide_eq_false h))
  refine lw_one lk_2393 rfl ?_
  refine lw_br (c := mj_c .ne k 0) (off := 15) (t := 2410) (r := []) lk_2395 rfl rfl rfl rfl rfl (fun _ => ?_) (fun h => ?_)
  · exact lw_one lk_2410 rfl lw_rf
  have hk : k = 0 := Classical.byContradiction (fun q => by have := of_decide_eq_false h; exact this q)
  refine lw_one lk_2398 rfl ?_
  refine lw_one lk_2399 rfl ?_
  refine lw_lal lk_2400 o3 (by decide) ?_
  refine lw_one lk_2401 rfl ?_
  refine lw_one lk_2403 rfl ?_
  refine lw_one lk_2404 rfl ?_
  refine lw_br (c := mj_c .eq (lg_cmp (M2.2.2.1 194 0) b.toInt64) 0) (off := 5) (t := 2410) (r := []) lk_2405 rfl rfl rfl rfl rfl (fun _ => ?_) (fun h => absurd (by rw [hc hk]; exact lw_cmp _) (of_decide_eq_false h))
  exact lw_one lk_2410 rfl lw_rf
set_option maxRecDepth 20000 in
theorem lc_32 {l : Launch} {d L : Nat} {xs : Nat → Int32} {M M1 M2 : mj_M} {i : Int32} {k : Int32} {b : Int32} (h1 : vp_in (i + Int32.ofInt 1) L) (h2 : vp_in (i + Int32.ofInt 2) L) (hw : mw_Met l mj_AW ic_Ns vwCl ic_ty ic_X il_car ih_car d [.ref 0, .int (xs (i + Int32.ofInt 1).toNatClampNeg), .int (xs (i + Int32.ofInt 2).toNatClampNeg), .ref 194] M (some (.int k)) M1) (he : mj_ext M M1) (hM1 : mj_wM M1) (hm : mj_R ic_P d 12129 (.ref 124 :: [.int (xs (i + Int32.ofInt 1).toNatClampNeg), .int (xs (i + Int32.ofInt 2).toNatClampNeg)]) M1 (some (.int b)) M2) (ht : mj_R ic_P d 12003 (.ref 124 :: []) M2 (some (.int k)) M2) (hc : k = 0 → M2.2.2.1 194 0 = b.toInt64) (o0 : M.1[0]? = some (11, 17)) (o1 : M1.1[124]? = some (12, 195)) (o2 : M2.1[124]? = some (12, 195)) (o3 : M2.1[194]? = some (101, 1)) : lw_T l d L xs (2413, [(4, .int i), (0, .ref 4000000), (1, .ref 0), (2, .ref 124), (3, .ref 194)], [], M) (3275, [(6, .int b), (5, .int k), (4, .int i), (0, .ref 4000000), (1, .ref 0), (2, .ref 124), (3, .ref 194)], [], M2) 1 := by
  refine lw_one lk_2413 rfl ?_
  refine lw_one lk_2414 rfl ?_
  refine lw_one lk_2415 rfl ?_
  refine lw_one lk_2417 rfl ?_
  refine lw_one lk_2418 rfl ?_
  refine lw_ld lk_2419 h1 ?_
  refine lw_one lk_2420 rfl ?_
  refine lw_one lk_2421 rfl ?_
  refine lw_one lk_2423 rfl ?_
  refine lw_one lk_2424 rfl ?_
  refine lw_ld lk_2425 h2 ?_
  refine lw_one lk_2426 rfl ?_
  refine lw_wr (e := 0) (vs := [.ref 0, .int (xs (i + Int32.ofInt 1).toNatClampNeg), .int (xs (i + Int32.ofInt 2).toNatClampNeg), .ref 194]) (rest := []) lk_2427 rfl rfl (by decide) hw he hM1 ?_
  refine lw_one lk_2430 rfl ?_
  refine lw_one lk_2432 rfl ?_
  refine lw_one lk_2433 rfl ?_
  refine lw_one lk_2434 rfl ?_
  refine lw_one lk_2436 rfl ?_
  refine lw_one lk_2437 rfl ?_
  refine lw_ld lk_2438 h1 ?_
  refine lw_one lk_2439 rfl ?_
  refine lw_one lk_2440 rfl ?_
  refine lw_one lk_2442 rfl ?_
  refine lw_one lk_2443 rfl ?_
  refine lw_ld lk_2444 h2 ?_
  refine lw_cv (vs := [.int (xs (i + Int32.ofInt 1).toNatClampNeg), .int (xs (i + Int32.ofInt 2).toNatClampNeg)]) (rest := []) lk_2445 rfl rfl (by decide) o1 (Nat.le_of_ble_eq_true rfl) hm ?_
  refine lw_one lk_2448 rfl ?_
  refine lw_one lk_2450 rfl ?_
  refine lw_cv (vs := []) (rest := []) lk_2451 rfl rfl (by decide) o2 (Nat.le_of_ble_eq_true rfl) ht ?_
  refine lw_one lk_2454 rfl ?_
  refine lw_br (c := mj_c .eq k k) (off := 5) (t := 2461) (r := []) lk_2456 rfl rfl rfl rfl rfl (fun _ => ?_) (fun h => absurd rfl (of_decide_eq_false h))
  refine lw_one lk_2461 rfl ?_
  refine lw_br (c := mj_c .ne k 0) (off := 15) (t := 2478) (r := []) lk_2463 rfl rfl rfl rfl rfl (fun _ => ?_) (fun h => ?_)
  · exact lw_one lk_2478 rfl lw_rf
  have hk : k = 0 := Classical.byContradiction (fun q => by have := of_decide_eq_false h; exact this q)
  refine lw_one lk_2466 rfl ?_
  refine lw_one lk_2467 rfl ?_
  refine lw_lal lk_2468 o3 (by decide) ?_
  refine lw_one lk_2469 rfl ?_
  refine lw_one lk_2471 rfl ?_
  refine lw_one lk_2472 rfl ?_
  refine lw_br (c := mj_c .eq (lg_cmp (M2.2.2.1 194 0) b.toInt64) 0) (off := 5) (t := 2478) (r := []) lk_2473 rfl rfl rfl rfl rfl (fun _ => ?_) (fun h => absurd (by rw [hc hk]; exact lw_cmp _) (of_decide_eq_false h))
  exact lw_one lk_2478 rfl lw_rf
set_option maxRecDepth 20000 in
theorem lc_33 {l : Launch} {d L : Nat} {xs : Nat → Int32} {M M1 M2 : mj_M} {i : Int32} {k : Int32} {b : Int32} (h1 : vp_in (i + Int32.ofInt 1) L) (h2 : vp_in (i + Int32.ofInt 2) L) (hw : mw_Met l mj_AW ic_Ns vwCl ic_ty ic_X il_brake ih_brake d [.ref 0, .int (xs (i + Int32.ofInt 1).toNatClampNeg), .int (if (xs (i + Int32.ofInt 2).toNatClampNeg) = 0 then 0 else 1), .ref 194] M (some (.int k)) M1) (he : mj_ext M M1) (hM1 : mj_wM M1) (hm : mj_R ic_P d 12130 (.ref 124 :: [.int (xs (i + Int32.ofInt 1).toNatClampNeg), .int (if (xs (i + Int32.ofInt 2).toNatClampNeg) = 0 then 0 else 1)]) M1 (some (.int b)) M2) (ht : mj_R ic_P d 12003 (.ref 124 :: []) M2 (some (.int k)) M2) (hc : k = 0 → M2.2.2.1 194 0 = (if b = 0 then 0 else 1)) (o0 : M.1[0]? = some (11, 17)) (o1 : M1.1[124]? = some (12, 195)) (o2 : M2.1[124]? = some (12, 195)) (o3 : M2.1[194]? = some (101, 1)) : lw_T l d L xs (2481, [(4, .int i), (0, .ref 4000000), (1, .ref 0), (2, .ref 124), (3, .ref 194)], [], M) (3275, [(6, .int b), (5, .int k), (4, .int i), (0, .ref 4000000), (1, .ref 0), (2, .ref 124), (3, .ref 194)], [], M2) 1 := by
  refine lw_one lk_2481 rfl ?_
  refine lw_one lk_2482 rfl ?_
  refine lw_one lk_2483 rfl ?_
  refine lw_one lk_2485 rfl ?_
  refine lw_one lk_2486 rfl ?_
  refine lw_ld lk_2487 h1 ?_
  refine lw_one lk_2488 rfl ?_
  refine lw_one lk_2489 rfl ?_
  refine lw_one lk_2491 rfl ?_
  refine lw_one lk_2492 rfl ?_
  refine lw_ld lk_2493 h2 ?_
  refine lw_bool lk_2494 lk_2497 lk_2498 lk_2501 ?_
  refine lw_one lk_2502 rfl ?_
  refine lw_wr (e := 0) (vs := [.ref 0, .int (xs (i + Int32.ofInt 1).toNatClampNeg), .int (if (xs (i + Int32.ofInt 2).toNatClampNeg) = 0 then 0 else 1), .ref 194]) (rest := []) lk_2503 rfl rfl (by decide) hw he hM1 ?_
  refine lw_one lk_2506 rfl ?_
  refine lw_one lk_2508 rfl ?_
  refine lw_one lk_2509 rfl ?_
  refine lw_one lk_2510 rfl ?_
  refine lw_one lk_2512 rfl ?_
  refine lw_one lk_2513 rfl ?_
  refine lw_ld lk_2514 h1 ?_
  refine lw_one lk_2515 rfl ?_
  refine lw_one lk_2516 rfl ?_
  refine lw_one lk_2518 rfl ?_
  refine lw_one lk_2519 rfl ?_
  refine lw_ld lk_2520 h2 ?_
  refine lw_bool lk_2521 lk_2524 lk_2525 lk_2528 ?_
  refine lw_cv (vs := [.int (xs (i + Int32.ofInt 1).toNatClampNeg), .int (if (xs (i + Int32.ofInt 2).toNatClampNeg) = 0 then 0 else 1)]) (rest := []) lk_2529 rfl rfl (by decide) o1 (Nat.le_of_ble_eq_true rfl) hm ?_
  refine lw_one lk_2532 rfl ?_
  refine lw_one lk_2534 rfl ?_
  refine lw_cv (vs := []) (rest := []) lk_2535 rfl rfl (by decide) o2 (Nat.le_of_ble_eq_true rfl) ht ?_
  refine lw_one lk_2538 rfl ?_
  refine lw_br (c := mj_c .eq k k) (off := 5) (t := 2545) (r := []) lk_2540 rfl rfl rfl rfl rfl (fun _ => ?_) (fun h => absurd rfl (of_decide_eq_false h))
  refine lw_one lk_2545 rfl ?_
  refine lw_br (c := mj_c .ne k 0) (off := 22) (t := 2569) (r := []) lk_2547 rfl rfl rfl rfl rfl (fun _ => ?_) (fun h => ?_)
  · exact lw_one lk_2569 rfl lw_rf
  have hk : k = 0 := Classical.byContradiction (fun q => by have := of_decide_eq_false h; exact this q)
  refine lw_one lk_2550 rfl ?_
  refine lw_one lk_2551 rfl ?_
  refine lw_lal lk_2552 o3 (by decide) ?_
  refine lw_one lk_2553 rfl ?_
  have key : lw_T l d L xs (2563, [(6, .int b), (5, .int k), (4, .int i), (0, .ref 4000000), (1, .ref 0), (2, .ref 124), (3, .ref 194)], [.long (if b = 0 then 0 else 1), .long (M2.2.2.1 194 0)], M2) (3275, [(6, .int b), (5, .int k), (4, .int i), (0, .ref 4000000), (1, .ref 0), (2, .ref 124), (3, .ref 194)], [], M2) 0 := by
    refine lw_one lk_2563 rfl ?_
    refine lw_br (c := mj_c .eq (lg_cmp (M2.2.2.1 194 0) (if b = 0 then 0 else 1)) 0) (off := 5) (t := 2569) (r := []) lk_2564 rfl rfl rfl rfl rfl (fun _ => ?_) (fun h => absurd (by rw [hc hk]; exact lw_cmp _) (of_decide_eq_false h))
    exact lw_one lk_2569 rfl lw_rf
  · refine lw_br (c := mj_c .eq b 0) (off := 7) (t := 2562) (r := [.long (M2.2.2.1 194 0)]) lk_2555 rfl rfl rfl rfl rfl (fun h => ?_) (fun h => ?_)
    · rw [if_pos (of_decide_eq_true h)] at key; exact lw_one lk_2562 rfl key
    · rw [if_neg (of_decide_eq_false h)] at key; exact lw_one lk_2558 rfl (lw_one lk_2559 rfl key)
set_option maxRecDepth 20000 in
theorem lc_34 {l : Launch} {d L : Nat} {xs : Nat → Int32} {M M1 M2 : mj_M} {i : Int32} {k : Int32} {b : Int32} (h1 : vp_in (i + Int32.ofInt 1) L) (hw : mw_Met l mj_AW ic_Ns vwCl ic_ty ic_X il_press ih_press d [.ref 0, .int (xs (i + Int32.ofInt 1).toNatClampNeg), .ref 194] M (some (.int k)) M1) (he : mj_ext M M1) (hM1 : mj_wM M1) (hm : mj_R ic_P d 12131 (.ref 124 :: [.int (xs (i + Int32.ofInt 1).toNatClampNeg)]) M1 (some (.int b)) M2) (ht : mj_R ic_P d 12003 (.ref 124 :: []) M2 (some (.int k)) M2) (hc : k = 0 → M2.2.2.1 194 0 = b.toInt64) (o0 : M.1[0]? = some (11, 17)) (o1 : M1.1[124]? = some (12, 195)) (o2 : M2.1[124]? = some (12, 195)) (o3 : M2.1[194]? = some (101, 1)) : lw_T l d L xs (2572, [(4, .int i), (0, .ref 4000000), (1, .ref 0), (2, .ref 124), (3, .ref 194)], [], M) (3275, [(6, .int b), (5, .int k), (4, .int i), (0, .ref 4000000), (1, .ref 0), (2, .ref 124), (3, .ref 194)], [], M2) 1 := by
  refine lw_one lk_2572 rfl ?_
  refine lw_one lk_2573 rfl ?_
  refine lw_one lk_2574 rfl ?_
  refine lw_one lk_2576 rfl ?_
  refine lw_one lk_2577 rfl ?_
  refine lw_ld lk_2578 h1 ?_
  refine lw_one lk_2579 rfl ?_
  refine lw_wr (e := 0) (vs := [.ref 0, .int (xs (i + Int32.ofInt 1).toNatClampNeg), .ref 194]) (rest := []) lk_2580 rfl rfl (by decide) hw he hM1 ?_
  refine lw_one lk_2583 rfl ?_
  refine lw_one lk_2585 rfl ?_
  refine lw_one lk_2586 rfl ?_
  refine lw_one lk_2587 rfl ?_
  refine lw_one lk_2589 rfl ?_
  refine lw_one lk_2590 rfl ?_
  refine lw_ld lk_2591 h1 ?_
  refine lw_cv (vs := [.int (xs (i + Int32.ofInt 1).toNatClampNeg)]) (rest := []) lk_2592 rfl rfl (by decide) o1 (Nat.le_of_ble_eq_true rfl) hm ?_
  refine lw_one lk_2595 rfl ?_
  refine lw_one lk_2597 rfl ?_
  refine lw_cv (vs := []) (rest := []) lk_2598 rfl rfl (by decide) o2 (Nat.le_of_ble_eq_true rfl) ht ?_
  refine lw_one lk_2601 rfl ?_
  refine lw_br (c := mj_c .eq k k) (off := 5) (t := 2608) (r := []) lk_2603 rfl rfl rfl rfl rfl (fun _ => ?_) (fun h => absurd rfl (of_decide_eq_false h))
  refine lw_one lk_2608 rfl ?_
  refine lw_br (c := mj_c .ne k 0) (off := 15) (t := 2625) (r := []) lk_2610 rfl rfl rfl rfl rfl (fun _ => ?_) (fun h => ?_)
  · exact lw_one lk_2625 rfl lw_rf
  have hk : k = 0 := Classical.byContradiction (fun q => by have := of_decide_eq_false h; exact this q)
  refine lw_one lk_2613 rfl ?_
  refine lw_one lk_2614 rfl ?_
  refine lw_lal lk_2615 o3 (by decide) ?_
  refine lw_one lk_2616 rfl ?_
  refine lw_one lk_2618 rfl ?_
  refine lw_one lk_2619 rfl ?_
  refine lw_br (c := mj_c .eq (lg_cmp (M2.2.2.1 194 0) b.toInt64) 0) (off := 5) (t := 2625) (r := []) lk_2620 rfl rfl rfl rfl rfl (fun _ => ?_) (fun h => absurd (by rw [hc hk]; exact lw_cmp _) (of_decide_eq_false h))
  exact lw_one lk_2625 rfl lw_rf
set_option maxRecDepth 20000 in
theorem lc_35 {l : Launch} {d L : Nat} {xs : Nat → Int32} {M M1 M2 : mj_M} {i : Int32} {k : Int32} {b : Int32} (h1 : vp_in (i + Int32.ofInt 1) L) (h2 : vp_in (i + Int32.ofInt 2) L) (h3 : vp_in (i + Int32.ofInt 3) L) (hw : mw_Met l mj_AW ic_Ns vwCl ic_ty ic_X il_frameComes ih_frameComes d [.ref 0, .int (xs (i + Int32.ofInt 1).toNatClampNeg), .int (xs (i + Int32.ofInt 2).toNatClampNeg), .int (xs (i + Int32.ofInt 3).toNatClampNeg), .ref 194] M (some (.int k)) M1) (he : mj_ext M M1) (hM1 : mj_wM M1) (hm : mj_R ic_P d 12141 (.ref 124 :: [.int (xs (i + Int32.ofInt 1).toNatClampNeg), .int (xs (i + Int32.ofInt 2).toNatClampNeg), .int (xs (i + Int32.ofInt 3).toNatClampNeg)]) M1 (some (.int b)) M2) (ht : mj_R ic_P d 12003 (.ref 124 :: []) M2 (some (.int k)) M2) (hc : k = 0 → M2.2.2.1 194 0 = (if b = 0 then 0 else 1)) (o0 : M.1[0]? = some (11, 17)) (o1 : M1.1[124]? = some (12, 195)) (o2 : M2.1[124]? = some (12, 195)) (o3 : M2.1[194]? = some (101, 1)) : lw_T l d L xs (2628, [(4, .int i), (0, .ref 4000000), (1, .ref 0), (2, .ref 124), (3, .ref 194)], [], M) (3275, [(6, .int b), (5, .int k), (4, .int i), (0, .ref 4000000), (1, .ref 0), (2, .ref 124), (3, .ref 194)], [], M2) 1 := by
  refine lw_one lk_2628 rfl ?_
  refine lw_one lk_2629 rfl ?_
  refine lw_one lk_2630 rfl ?_
  refine lw_one lk_2632 rfl ?_
  refine lw_one lk_2633 rfl ?_
  refine lw_ld lk_2634 h1 ?_
  refine lw_one lk_2635 rfl ?_
  refine lw_one lk_2636 rfl ?_
  refine lw_one lk_2638 rfl ?_
  refine lw_one lk_2639 rfl ?_
  refine lw_ld lk_2640 h2 ?_
  refine lw_one lk_2641 rfl ?_
  refine lw_one lk_2642 rfl ?_
  refine lw_one lk_2644 rfl ?_
  refine lw_one lk_2645 rfl ?_
  refine lw_ld lk_2646 h3 ?_
  refine lw_one lk_2647 rfl ?_
  refine lw_wr (e := 0) (vs := [.ref 0, .int (xs (i + Int32.ofInt 1).toNatClampNeg), .int (xs (i + Int32.ofInt 2).toNatClampNeg), .int (xs (i + Int32.ofInt 3).toNatClampNeg), .ref 194]) (rest := []) lk_2648 rfl rfl (by decide) hw he hM1 ?_
  refine lw_one lk_2651 rfl ?_
  refine lw_one lk_2653 rfl ?_
  refine lw_one lk_2654 rfl ?_
  refine lw_one lk_2655 rfl ?_
  refine lw_one lk_2657 rfl ?_
  refine lw_one lk_2658 rfl ?_
  refine lw_ld lk_2659 h1 ?_
  refine lw_one lk_2660 rfl ?_
  refine lw_one lk_2661 rfl ?_
  refine lw_one lk_2663 rfl ?_
  refine lw_one lk_2664 rfl ?_
  refine lw_ld lk_2665 h2 ?_
  refine lw_one lk_2666 rfl ?_
  refine lw_one lk_2667 rfl ?_
  refine lw_one lk_2669 rfl ?_
  refine lw_one lk_2670 rfl ?_
  refine lw_ld lk_2671 h3 ?_
  refine lw_cv (vs := [.int (xs (i + Int32.ofInt 1).toNatClampNeg), .int (xs (i + Int32.ofInt 2).toNatClampNeg), .int (xs (i + Int32.ofInt 3).toNatClampNeg)]) (rest := []) lk_2672 rfl rfl (by decide) o1 (Nat.le_of_ble_eq_true rfl) hm ?_
  refine lw_one lk_2675 rfl ?_
  refine lw_one lk_2677 rfl ?_
  refine lw_cv (vs := []) (rest := []) lk_2678 rfl rfl (by decide) o2 (Nat.le_of_ble_eq_true rfl) ht ?_
  refine lw_one lk_2681 rfl ?_
  refine lw_br (c := mj_c .eq k k) (off := 5) (t := 2688) (r := []) lk_2683 rfl rfl rfl rfl rfl (fun _ => ?_) (fun h => absurd rfl (of_decide_eq_false h))
  refine lw_one lk_2688 rfl ?_
  refine lw_br (c := mj_c .ne k 0) (off := 22) (t := 2712) (r := []) lk_2690 rfl rfl rfl rfl rfl (fun _ => ?_) (fun h => ?_)
  · exact lw_one lk_2712 rfl lw_rf
  have hk : k = 0 := Classical.byContradiction (fun q => by have := of_decide_eq_false h; exact this q)
  refine lw_one lk_2693 rfl ?_
  refine lw_one lk_2694 rfl ?_
  refine lw_lal lk_2695 o3 (by decide) ?_
  refine lw_one lk_2696 rfl ?_
  have key : lw_T l d L xs (2706, [(6, .int b), (5, .int k), (4, .int i), (0, .ref 4000000), (1, .ref 0), (2, .ref 124), (3, .ref 194)], [.long (if b = 0 then 0 else 1), .long (M2.2.2.1 194 0)], M2) (3275, [(6, .int b), (5, .int k), (4, .int i), (0, .ref 4000000), (1, .ref 0), (2, .ref 124), (3, .ref 194)], [], M2) 0 := by
    refine lw_one lk_2706 rfl ?_
    refine lw_br (c := mj_c .eq (lg_cmp (M2.2.2.1 194 0) (if b = 0 then 0 else 1)) 0) (off := 5) (t := 2712) (r := []) lk_2707 rfl rfl rfl rfl rfl (fun _ => ?_) (fun h => absurd (by rw [hc hk]; exact lw_cmp _) (of_decide_eq_false h))
    exact lw_one lk_2712 rfl lw_rf
  · refine lw_br (c := mj_c .eq b 0) (off := 7) (t := 2705) (r := [.long (M2.2.2.1 194 0)]) lk_2698 rfl rfl rfl rfl rfl (fun h => ?_) (fun h => ?_)
    · rw [if_pos (of_decide_eq_true h)] at key; exact lw_one lk_2705 rfl key
    · rw [if_neg (of_decide_eq_false h)] at key; exact lw_one lk_2701 rfl (lw_one lk_2702 rfl key)
set_option maxRecDepth 20000 in
theorem lc_36 {l : Launch} {d L : Nat} {xs : Nat → Int32} {M M1 M2 : mj_M} {i : Int32} {k : Int32} {b : Int32} (h1 : vp_in (i + Int32.ofInt 1) L) (h2 : vp_in (i + Int32.ofInt 2) L) (hw : mw_Met l mj_AW ic_Ns vwCl ic_ty ic_X il_sent ih_sent d [.ref 0, .int (xs (i + Int32.ofInt 1).toNatClampNeg), .int (xs (i + Int32.ofInt 2).toNatClampNeg), .ref 194] M (some (.int k)) M1) (he : mj_ext M M1) (hM1 : mj_wM M1) (hm : mj_R ic_P d 12142 (.ref 124 :: [.int (xs (i + Int32.ofInt 1).toNatClampNeg), .int (xs (i + Int32.ofInt 2).toNatClampNeg)]) M1 (some (.int b)) M2) (ht : mj_R ic_P d 12003 (.ref 124 :: []) M2 (some (.int k)) M2) (hc : k = 0 → M2.2.2.1 194 0 = b.toInt64) (o0 : M.1[0]? = some (11, 17)) (o1 : M1.1[124]? = some (12, 195)) (o2 : M2.1[124]? = some (12, 195)) (o3 : M2.1[194]? = some (101, 1)) : lw_T l d L xs (2715, [(4, .int i), (0, .ref 4000000), (1, .ref 0), (2, .ref 124), (3, .ref 194)], [], M) (3275, [(6, .int b), (5, .int k), (4, .int i), (0, .ref 4000000), (1, .ref 0), (2, .ref 124), (3, .ref 194)], [], M2) 1 := by
  refine lw_one lk_2715 rfl ?_
  refine lw_one lk_2716 rfl ?_
  refine lw_one lk_2717 rfl ?_
  refine lw_one lk_2719 rfl ?_
  refine lw_one lk_2720 rfl ?_
  refine lw_ld lk_2721 h1 ?_
  refine lw_one lk_2722 rfl ?_
  refine lw_one lk_2723 rfl ?_
  refine lw_one lk_2725 rfl ?_
  refine lw_one lk_2726 rfl ?_
  refine lw_ld lk_2727 h2 ?_
  refine lw_one lk_2728 rfl ?_
  refine lw_wr (e := 0) (vs := [.ref 0, .int (xs (i + Int32.ofInt 1).toNatClampNeg), .int (xs (i + Int32.ofInt 2).toNatClampNeg), .ref 194]) (rest := []) lk_2729 rfl rfl (by decide) hw he hM1 ?_
  refine lw_one lk_2732 rfl ?_
  refine lw_one lk_2734 rfl ?_
  refine lw_one lk_2735 rfl ?_
  refine lw_one lk_2736 rfl ?_
  refine lw_one lk_2738 rfl ?_
  refine lw_one lk_2739 rfl ?_
  refine lw_ld lk_2740 h1 ?_
  refine lw_one lk_2741 rfl ?_
  refine lw_one lk_2742 rfl ?_
  refine lw_one lk_2744 rfl ?_
  refine lw_one lk_2745 rfl ?_
  refine lw_ld lk_2746 h2 ?_
  refine lw_cv (vs := [.int (xs (i + Int32.ofInt 1).toNatClampNeg), .int (xs (i + Int32.ofInt 2).toNatClampNeg)]) (rest := []) lk_2747 rfl rfl (by decide) o1 (Nat.le_of_ble_eq_true rfl) hm ?_
  refine lw_one lk_2750 rfl ?_
  refine lw_one lk_2752 rfl ?_
  refine lw_cv (vs := []) (rest := []) lk_2753 rfl rfl (by decide) o2 (Nat.le_of_ble_eq_true rfl) ht ?_
  refine lw_one lk_2756 rfl ?_
  refine lw_br (c := mj_c .eq k k) (off := 5) (t := 2763) (r := []) lk_2758 rfl rfl rfl rfl rfl (fun _ => ?_) (fun h => absurd rfl (of_decide_eq_false h))
  refine lw_one lk_2763 rfl ?_
  refine lw_br (c := mj_c .ne k 0) (off := 15) (t := 2780) (r := []) lk_2765 rfl rfl rfl rfl rfl (fun _ => ?_) (fun h => ?_)
  · exact lw_one lk_2780 rfl lw_rf
  have hk : k = 0 := Classical.byContradiction (fun q => by have := of_decide_eq_false h; exact this q)
  refine lw_one lk_2768 rfl ?_
  refine lw_one lk_2769 rfl ?_
  refine lw_lal lk_2770 o3 (by decide) ?_
  refine lw_one lk_2771 rfl ?_
  refine lw_one lk_2773 rfl ?_
  refine lw_one lk_2774 rfl ?_
  refine lw_br (c := mj_c .eq (lg_cmp (M2.2.2.1 194 0) b.toInt64) 0) (off := 5) (t := 2780) (r := []) lk_2775 rfl rfl rfl rfl rfl (fun _ => ?_) (fun h => absurd (by rw [hc hk]; exact lw_cmp _) (of_decide_eq_false h))
  exact lw_one lk_2780 rfl lw_rf
set_option maxRecDepth 20000 in
theorem lc_37 {l : Launch} {d L : Nat} {xs : Nat → Int32} {M M1 M2 : mj_M} {i : Int32} {k : Int32} {b : Int32} (h1 : vp_in (i + Int32.ofInt 1) L) (hw : mw_Met l mj_AW ic_Ns vwCl ic_ty ic_X il_noise ih_noise d [.ref 0, .int (xs (i + Int32.ofInt 1).toNatClampNeg), .ref 194] M (some (.int k)) M1) (he : mj_ext M M1) (hM1 : mj_wM M1) (hm : mj_R ic_P d 12143 (.ref 124 :: [.int (xs (i + Int32.ofInt 1).toNatClampNeg)]) M1 (some (.int b)) M2) (ht : mj_R ic_P d 12003 (.ref 124 :: []) M2 (some (.int k)) M2) (hc : k = 0 → M2.2.2.1 194 0 = b.toInt64) (o0 : M.1[0]? = some (11, 17)) (o1 : M1.1[124]? = some (12, 195)) (o2 : M2.1[124]? = some (12, 195)) (o3 : M2.1[194]? = some (101, 1)) : lw_T l d L xs (2783, [(4, .int i), (0, .ref 4000000), (1, .ref 0), (2, .ref 124), (3, .ref 194)], [], M) (3275, [(6, .int b), (5, .int k), (4, .int i), (0, .ref 4000000), (1, .ref 0), (2, .ref 124), (3, .ref 194)], [], M2) 1 := by
  refine lw_one lk_2783 rfl ?_
  refine lw_one lk_2784 rfl ?_
  refine lw_one lk_2785 rfl ?_
  refine lw_one lk_2787 rfl ?_
  refine lw_one lk_2788 rfl ?_
  refine lw_ld lk_2789 h1 ?_
  refine lw_one lk_2790 rfl ?_
  refine lw_wr (e := 0) (vs := [.ref 0, .int (xs (i + Int32.ofInt 1).toNatClampNeg), .ref 194]) (rest := []) lk_2791 rfl rfl (by decide) hw he hM1 ?_
  refine lw_one lk_2794 rfl ?_
  refine lw_one lk_2796 rfl ?_
  refine lw_one lk_2797 rfl ?_
  refine lw_one lk_2798 rfl ?_
  refine lw_one lk_2800 rfl ?_
  refine lw_one lk_2801 rfl ?_
  refine lw_ld lk_2802 h1 ?_
  refine lw_cv (vs := [.int (xs (i + Int32.ofInt 1).toNatClampNeg)]) (rest := []) lk_2803 rfl rfl (by decide) o1 (Nat.le_of_ble_eq_true rfl) hm ?_
  refine lw_one lk_2806 rfl ?_
  refine lw_one lk_2808 rfl ?_
  refine lw_cv (vs := []) (rest := []) lk_2809 rfl rfl (by decide) o2 (Nat.le_of_ble_eq_true rfl) ht ?_
  refine lw_one lk_2812 rfl ?_
  refine lw_br (c := mj_c .eq k k) (off := 5) (t := 2819) (r := []) lk_2814 rfl rfl rfl rfl rfl (fun _ => ?_) (fun h => absurd rfl (of_decide_eq_false h))
  refine lw_one lk_2819 rfl ?_
  refine lw_br (c := mj_c .ne k 0) (off := 15) (t := 2836) (r := []) lk_2821 rfl rfl rfl rfl rfl (fun _ => ?_) (fun h => ?_)
  · exact lw_one lk_2836 rfl lw_rf
  have hk : k = 0 := Classical.byContradiction (fun q => by have := of_decide_eq_false h; exact this q)
  refine lw_one lk_2824 rfl ?_
  refine lw_one lk_2825 rfl ?_
  refine lw_lal lk_2826 o3 (by decide) ?_
  refine lw_one lk_2827 rfl ?_
  refine lw_one lk_2829 rfl ?_
  refine lw_one lk_2830 rfl ?_
  refine lw_br (c := mj_c .eq (lg_cmp (M2.2.2.1 194 0) b.toInt64) 0) (off := 5) (t := 2836) (r := []) lk_2831 rfl rfl rfl rfl rfl (fun _ => ?_) (fun h => absurd (by rw [hc hk]; exact lw_cmp _) (of_decide_eq_false h))
  exact lw_one lk_2836 rfl lw_rf
set_option maxRecDepth 20000 in
theorem lc_38 {l : Launch} {d L : Nat} {xs : Nat → Int32} {M M1 M2 : mj_M} {i : Int32} {k : Int32} {b : Int32} (h1 : vp_in (i + Int32.ofInt 1) L) (hw : mw_Met l mj_AW ic_Ns vwCl ic_ty ic_X il_lock ih_lock d [.ref 0, .int (xs (i + Int32.ofInt 1).toNatClampNeg), .ref 194] M (some (.int k)) M1) (he : mj_ext M M1) (hM1 : mj_wM M1) (hm : mj_R ic_P d 12144 (.ref 124 :: [.int (xs (i + Int32.ofInt 1).toNatClampNeg)]) M1 (some (.int b)) M2) (ht : mj_R ic_P d 12003 (.ref 124 :: []) M2 (some (.int k)) M2) (hc : k = 0 → M2.2.2.1 194 0 = b.toInt64) (o0 : M.1[0]? = some (11, 17)) (o1 : M1.1[124]? = some (12, 195)) (o2 : M2.1[124]? = some (12, 195)) (o3 : M2.1[194]? = some (101, 1)) : lw_T l d L xs (2839, [(4, .int i), (0, .ref 4000000), (1, .ref 0), (2, .ref 124), (3, .ref 194)], [], M) (3275, [(6, .int b), (5, .int k), (4, .int i), (0, .ref 4000000), (1, .ref 0), (2, .ref 124), (3, .ref 194)], [], M2) 1 := by
  refine lw_one lk_2839 rfl ?_
  refine lw_one lk_2840 rfl ?_
  refine lw_one lk_2841 rfl ?_
  refine lw_one lk_2843 rfl ?_
  refine lw_one lk_2844 rfl ?_
  refine lw_ld lk_2845 h1 ?_
  refine lw_one lk_2846 rfl ?_
  refine lw_wr (e := 0) (vs := [.ref 0, .int (xs (i + Int32.ofInt 1).toNatClampNeg), .ref 194]) (rest := []) lk_2847 rfl rfl (by decide) hw he hM1 ?_
  refine lw_one lk_2850 rfl ?_
  refine lw_one lk_2852 rfl ?_
  refine lw_one lk_2853 rfl ?_
  refine lw_one lk_2854 rfl ?_
  refine lw_one lk_2856 rfl ?_
  refine lw_one lk_2857 rfl ?_
  refine lw_ld lk_2858 h1 ?_
  refine lw_cv (vs := [.int (xs (i + Int32.ofInt 1).toNatClampNeg)]) (rest := []) lk_2859 rfl rfl (by decide) o1 (Nat.le_of_ble_eq_true rfl) hm ?_
  refine lw_one lk_2862 rfl ?_
  refine lw_one lk_2864 rfl ?_
  refine lw_cv (vs := []) (rest := []) lk_2865 rfl rfl (by decide) o2 (Nat.le_of_ble_eq_true rfl) ht ?_
  refine lw_one lk_2868 rfl ?_
  refine lw_br (c := mj_c .eq k k) (off := 5) (t := 2875) (r := []) lk_2870 rfl rfl rfl rfl rfl (fun _ => ?_) (fun h => absurd rfl (of_decide_eq_false h))
  refine lw_one lk_2875 rfl ?_
  refine lw_br (c := mj_c .ne k 0) (off := 15) (t := 2892) (r := []) lk_2877 rfl rfl rfl rfl rfl (fun _ => ?_) (fun h => ?_)
  · exact lw_one lk_2892 rfl lw_rf
  have hk : k = 0 := Classical.byContradiction (fun q => by have := of_decide_eq_false h; exact this q)
  refine lw_one lk_2880 rfl ?_
  refine lw_one lk_2881 rfl ?_
  refine lw_lal lk_2882 o3 (by decide) ?_
  refine lw_one lk_2883 rfl ?_
  refine lw_one lk_2885 rfl ?_
  refine lw_one lk_2886 rfl ?_
  refine lw_br (c := mj_c .eq (lg_cmp (M2.2.2.1 194 0) b.toInt64) 0) (off := 5) (t := 2892) (r := []) lk_2887 rfl rfl rfl rfl rfl (fun _ => ?_) (fun h => absurd (by rw [hc hk]; exact lw_cmp _) (of_decide_eq_false h))
  exact lw_one lk_2892 rfl lw_rf
set_option maxRecDepth 20000 in
theorem lc_39 {l : Launch} {d L : Nat} {xs : Nat → Int32} {M M1 M2 : mj_M} {i : Int32} {k : Int32} {b : Int32} (h1 : vp_in (i + Int32.ofInt 1) L) (h2 : vp_in (i + Int32.ofInt 2) L) (hw : mw_Met l mj_AW ic_Ns vwCl ic_ty ic_X il_page ih_page d [.ref 0, .int (xs (i + Int32.ofInt 1).toNatClampNeg), .int (xs (i + Int32.ofInt 2).toNatClampNeg), .ref 194] M (some (.int k)) M1) (he : mj_ext M M1) (hM1 : mj_wM M1) (hm : mj_R ic_P d 12146 (.ref 124 :: [.int (xs (i + Int32.ofInt 1).toNatClampNeg), .int (xs (i + Int32.ofInt 2).toNatClampNeg)]) M1 (some (.int b)) M2) (ht : mj_R ic_P d 12003 (.ref 124 :: []) M2 (some (.int k)) M2) (hc : k = 0 → M2.2.2.1 194 0 = b.toInt64) (o0 : M.1[0]? = some (11, 17)) (o1 : M1.1[124]? = some (12, 195)) (o2 : M2.1[124]? = some (12, 195)) (o3 : M2.1[194]? = some (101, 1)) : lw_T l d L xs (2895, [(4, .int i), (0, .ref 4000000), (1, .ref 0), (2, .ref 124), (3, .ref 194)], [], M) (3275, [(6, .int b), (5, .int k), (4, .int i), (0, .ref 4000000), (1, .ref 0), (2, .ref 124), (3, .ref 194)], [], M2) 1 := by
  refine lw_one lk_2895 rfl ?_
  refine lw_one lk_2896 rfl ?_
  refine lw_one lk_2897 rfl ?_
  refine lw_one lk_2899 rfl ?_
  refine lw_one lk_2900 rfl ?_
  refine lw_ld lk_2901 h1 ?_
  refine lw_one lk_2902 rfl ?_
  refine lw_one lk_2903 rfl ?_
  refine lw_one lk_2905 rfl ?_
  refine lw_one lk_2906 rfl ?_
  refine lw_ld lk_2907 h2 ?_
  refine lw_one lk_2908 rfl ?_
  refine lw_wr (e := 0) (vs := [.ref 0, .int (xs (i + Int32.ofInt 1).toNatClampNeg), .int (xs (i + Int32.ofInt 2).toNatClampNeg), .ref 194]) (rest := []) lk_2909 rfl rfl (by decide) hw he hM1 ?_
  refine lw_one lk_2912 rfl ?_
  refine lw_one lk_2914 rfl ?_
  refine lw_one lk_2915 rfl ?_
  refine lw_one lk_2916 rfl ?_
  refine lw_one lk_2918 rfl ?_
  refine lw_one lk_2919 rfl ?_
  refine lw_ld lk_2920 h1 ?_
  refine lw_one lk_2921 rfl ?_
  refine lw_one lk_2922 rfl ?_
  refine lw_one lk_2924 rfl ?_
  refine lw_one lk_2925 rfl ?_
  refine lw_ld lk_2926 h2 ?_
  refine lw_cv (vs := [.int (xs (i + Int32.ofInt 1).toNatClampNeg), .int (xs (i + Int32.ofInt 2).toNatClampNeg)]) (rest := []) lk_2927 rfl rfl (by decide) o1 (Nat.le_of_ble_eq_true rfl) hm ?_
  refine lw_one lk_2930 rfl ?_
  refine lw_one lk_2932 rfl ?_
  refine lw_cv (vs := []) (rest := []) lk_2933 rfl rfl (by decide) o2 (Nat.le_of_ble_eq_true rfl) ht ?_
  refine lw_one lk_2936 rfl ?_
  refine lw_br (c := mj_c .eq k k) (off := 5) (t := 2943) (r := []) lk_2938 rfl rfl rfl rfl rfl (fun _ => ?_) (fun h => absurd rfl (of_decide_eq_false h))
  refine lw_one lk_2943 rfl ?_
  refine lw_br (c := mj_c .ne k 0) (off := 15) (t := 2960) (r := []) lk_2945 rfl rfl rfl rfl rfl (fun _ => ?_) (fun h => ?_)
  · exact lw_one lk_2960 rfl lw_rf
  have hk : k = 0 := Classical.byContradiction (fun q => by have := of_decide_eq_false h; exact this q)
  refine lw_one lk_2948 rfl ?_
  refine lw_one lk_2949 rfl ?_
  refine lw_lal lk_2950 o3 (by decide) ?_
  refine lw_one lk_2951 rfl ?_
  refine lw_one lk_2953 rfl ?_
  refine lw_one lk_2954 rfl ?_
  refine lw_br (c := mj_c .eq (lg_cmp (M2.2.2.1 194 0) b.toInt64) 0) (off := 5) (t := 2960) (r := []) lk_2955 rfl rfl rfl rfl rfl (fun _ => ?_) (fun h => absurd (by rw [hc hk]; exact lw_cmp _) (of_decide_eq_false h))
  exact lw_one lk_2960 rfl lw_rf
set_option maxRecDepth 20000 in
theorem lc_40 {l : Launch} {d L : Nat} {xs : Nat → Int32} {M M1 M2 : mj_M} {i : Int32} {k : Int32} {b : Int32} (h1 : vp_in (i + Int32.ofInt 1) L) (h2 : vp_in (i + Int32.ofInt 2) L) (h3 : vp_in (i + Int32.ofInt 3) L) (hw : mw_Met l mj_AW ic_Ns vwCl ic_ty ic_X il_tear ih_tear d [.ref 0, .int (xs (i + Int32.ofInt 1).toNatClampNeg), .int (xs (i + Int32.ofInt 2).toNatClampNeg), .int (xs (i + Int32.ofInt 3).toNatClampNeg), .ref 194] M (some (.int k)) M1) (he : mj_ext M M1) (hM1 : mj_wM M1) (hm : mj_R ic_P d 12147 (.ref 124 :: [.int (xs (i + Int32.ofInt 1).toNatClampNeg), .int (xs (i + Int32.ofInt 2).toNatClampNeg), .int (xs (i + Int32.ofInt 3).toNatClampNeg)]) M1 (some (.int b)) M2) (ht : mj_R ic_P d 12003 (.ref 124 :: []) M2 (some (.int k)) M2) (hc : k = 0 → M2.2.2.1 194 0 = b.toInt64) (o0 : M.1[0]? = some (11, 17)) (o1 : M1.1[124]? = some (12, 195)) (o2 : M2.1[124]? = some (12, 195)) (o3 : M2.1[194]? = some (101, 1)) : lw_T l d L xs (2963, [(4, .int i), (0, .ref 4000000), (1, .ref 0), (2, .ref 124), (3, .ref 194)], [], M) (3275, [(6, .int b), (5, .int k), (4, .int i), (0, .ref 4000000), (1, .ref 0), (2, .ref 124), (3, .ref 194)], [], M2) 1 := by
  refine lw_one lk_2963 rfl ?_
  refine lw_one lk_2964 rfl ?_
  refine lw_one lk_2965 rfl ?_
  refine lw_one lk_2967 rfl ?_
  refine lw_one lk_2968 rfl ?_
  refine lw_ld lk_2969 h1 ?_
  refine lw_one lk_2970 rfl ?_
  refine lw_one lk_2971 rfl ?_
  refine lw_one lk_2973 rfl ?_
  refine lw_one lk_2974 rfl ?_
  refine lw_ld lk_2975 h2 ?_
  refine lw_one lk_2976 rfl ?_
  refine lw_one lk_2977 rfl ?_
  refine lw_one lk_2979 rfl ?_
  refine lw_one lk_2980 rfl ?_
  refine lw_ld lk_2981 h3 ?_
  refine lw_one lk_2982 rfl ?_
  refine lw_wr (e := 0) (vs := [.ref 0, .int (xs (i + Int32.ofInt 1).toNatClampNeg), .int (xs (i + Int32.ofInt 2).toNatClampNeg), .int (xs (i + Int32.ofInt 3).toNatClampNeg), .ref 194]) (rest := []) lk_2983 rfl rfl (by decide) hw he hM1 ?_
  refine lw_one lk_2986 rfl ?_
  refine lw_one lk_2988 rfl ?_
  refine lw_one lk_2989 rfl ?_
  refine lw_one lk_2990 rfl ?_
  refine lw_one lk_2992 rfl ?_
  refine lw_one lk_2993 rfl ?_
  refine lw_ld lk_2994 h1 ?_
  refine lw_one lk_2995 rfl ?_
  refine lw_one lk_2996 rfl ?_
  refine lw_one lk_2998 rfl ?_
  refine lw_one lk_2999 rfl ?_
  refine lw_ld lk_3000 h2 ?_
  refine lw_one lk_3001 rfl ?_
  refine lw_one lk_3002 rfl ?_
  refine lw_one lk_3004 rfl ?_
  refine lw_one lk_3005 rfl ?_
  refine lw_ld lk_3006 h3 ?_
  refine lw_cv (vs := [.int (xs (i + Int32.ofInt 1).toNatClampNeg), .int (xs (i + Int32.ofInt 2).toNatClampNeg), .int (xs (i + Int32.ofInt 3).toNatClampNeg)]) (rest := []) lk_3007 rfl rfl (by decide) o1 (Nat.le_of_ble_eq_true rfl) hm ?_
  refine lw_one lk_3010 rfl ?_
  refine lw_one lk_3012 rfl ?_
  refine lw_cv (vs := []) (rest := []) lk_3013 rfl rfl (by decide) o2 (Nat.le_of_ble_eq_true rfl) ht ?_
  refine lw_one lk_3016 rfl ?_
  refine lw_br (c := mj_c .eq k k) (off := 5) (t := 3023) (r := []) lk_3018 rfl rfl rfl rfl rfl (fun _ => ?_) (fun h => absurd rfl (of_decide_eq_false h))
  refine lw_one lk_3023 rfl ?_
  refine lw_br (c := mj_c .ne k 0) (off := 15) (t := 3040) (r := []) lk_3025 rfl rfl rfl rfl rfl (fun _ => ?_) (fun h => ?_)
  · exact lw_one lk_3040 rfl lw_rf
  have hk : k = 0 := Classical.byContradiction (fun q => by have := of_decide_eq_false h; exact this q)
  refine lw_one lk_3028 rfl ?_
  refine lw_one lk_3029 rfl ?_
  refine lw_lal lk_3030 o3 (by decide) ?_
  refine lw_one lk_3031 rfl ?_
  refine lw_one lk_3033 rfl ?_
  refine lw_one lk_3034 rfl ?_
  refine lw_br (c := mj_c .eq (lg_cmp (M2.2.2.1 194 0) b.toInt64) 0) (off := 5) (t := 3040) (r := []) lk_3035 rfl rfl rfl rfl rfl (fun _ => ?_) (fun h => absurd (by rw [hc hk]; exact lw_cmp _) (of_decide_eq_false h))
  exact lw_one lk_3040 rfl lw_rf
set_option maxRecDepth 20000 in
theorem lc_41 {l : Launch} {d L : Nat} {xs : Nat → Int32} {M M1 M2 : mj_M} {i : Int32} {k : Int32} (h1 : vp_in (i + Int32.ofInt 1) L) (hx : mj_R ic_P d 11036 (.ref 0 :: [.int (xs (i + Int32.ofInt 1).toNatClampNeg)]) M (some (.int k)) M1) (hm : mj_R ic_P d 12151 (.ref 124 :: [.int (xs (i + Int32.ofInt 1).toNatClampNeg)]) M1 (some (.int k)) M2) (o0 : M.1[0]? = some (11, 17)) (o1 : M1.1[124]? = some (12, 195)) (o2 : M2.1[124]? = some (12, 195)) (o3 : M2.1[194]? = some (101, 1)) : lw_T l d L xs (3043, [(4, .int i), (0, .ref 4000000), (1, .ref 0), (2, .ref 124), (3, .ref 194)], [], M) (3275, [(4, .int i), (0, .ref 4000000), (1, .ref 0), (2, .ref 124), (3, .ref 194)], [], M2) 0 := by
  refine lw_one lk_3043 rfl ?_
  refine lw_one lk_3044 rfl ?_
  refine lw_one lk_3045 rfl ?_
  refine lw_one lk_3047 rfl ?_
  refine lw_one lk_3048 rfl ?_
  refine lw_ld lk_3049 h1 ?_
  refine lw_cv (vs := [.int (xs (i + Int32.ofInt 1).toNatClampNeg)]) (rest := []) lk_3050 rfl rfl (by decide) o0 (Nat.le_of_ble_eq_true rfl) hx ?_
  refine lw_one lk_3053 rfl ?_
  refine lw_one lk_3054 rfl ?_
  refine lw_one lk_3055 rfl ?_
  refine lw_one lk_3057 rfl ?_
  refine lw_one lk_3058 rfl ?_
  refine lw_ld lk_3059 h1 ?_
  refine lw_cv (vs := [.int (xs (i + Int32.ofInt 1).toNatClampNeg)]) (rest := [.int k]) lk_3060 rfl rfl (by decide) o1 (Nat.le_of_ble_eq_true rfl) hm ?_
  refine lw_br (c := mj_c .eq k k) (off := 212) (t := 3275) (r := []) lk_3063 rfl rfl rfl rfl rfl (fun _ => ?_) (fun h => absurd rfl (of_decide_eq_false h))
  exact lw_rf
set_option maxRecDepth 20000 in
theorem lc_42 {l : Launch} {d L : Nat} {xs : Nat → Int32} {M M1 M2 : mj_M} {i : Int32} {k : Int32}  (hx : mj_R ic_P d 11037 (.ref 0 :: []) M (some (.int k)) M1) (hm : mj_R ic_P d 12162 (.ref 124 :: []) M1 (some (.int k)) M2) (o0 : M.1[0]? = some (11, 17)) (o1 : M1.1[124]? = some (12, 195)) (o2 : M2.1[124]? = some (12, 195)) (o3 : M2.1[194]? = some (101, 1)) : lw_T l d L xs (3068, [(4, .int i), (0, .ref 4000000), (1, .ref 0), (2, .ref 124), (3, .ref 194)], [], M) (3275, [(4, .int i), (0, .ref 4000000), (1, .ref 0), (2, .ref 124), (3, .ref 194)], [], M2) 0 := by
  refine lw_one lk_3068 rfl ?_
  refine lw_cv (vs := []) (rest := []) lk_3069 rfl rfl (by decide) o0 (Nat.le_of_ble_eq_true rfl) hx ?_
  refine lw_one lk_3072 rfl ?_
  refine lw_cv (vs := []) (rest := [.int k]) lk_3073 rfl rfl (by decide) o1 (Nat.le_of_ble_eq_true rfl) hm ?_
  refine lw_br (c := mj_c .eq k k) (off := 199) (t := 3275) (r := []) lk_3076 rfl rfl rfl rfl rfl (fun _ => ?_) (fun h => absurd rfl (of_decide_eq_false h))
  exact lw_rf
set_option maxRecDepth 20000 in
theorem lc_43 {l : Launch} {d L : Nat} {xs : Nat → Int32} {M M1 M2 : mj_M} {i : Int32} {k : Int32} (h1 : vp_in (i + Int32.ofInt 1) L) (h2 : vp_in (i + Int32.ofInt 2) L) (h3 : vp_in (i + Int32.ofInt 3) L) (h4 : vp_in (i + Int32.ofInt 4) L) (hw : mw_Met l mj_AW ic_Ns vwCl ic_ty ic_X il_record ih_record d [.ref 0, .int (xs (i + Int32.ofInt 1).toNatClampNeg), .int (xs (i + Int32.ofInt 2).toNatClampNeg), .int (xs (i + Int32.ofInt 3).toNatClampNeg), .int (xs (i + Int32.ofInt 4).toNatClampNeg)] M (some (.int k)) M1) (he : mj_ext M M1) (hM1 : mj_wM M1) (hm : mj_R ic_P d 12166 (.ref 124 :: [.int (xs (i + Int32.ofInt 1).toNatClampNeg), .int (xs (i + Int32.ofInt 2).toNatClampNeg), .int (xs (i + Int32.ofInt 3).toNatClampNeg), .int (xs (i + Int32.ofInt 4).toNatClampNeg)]) M1 none M2) (ht : mj_R ic_P d 12003 (.ref 124 :: []) M2 (some (.int k)) M2) (o0 : M.1[0]? = some (11, 17)) (o1 : M1.1[124]? = some (12, 195)) (o2 : M2.1[124]? = some (12, 195)) (o3 : M2.1[194]? = some (101, 1)) : lw_T l d L xs (3081, [(4, .int i), (0, .ref 4000000), (1, .ref 0), (2, .ref 124), (3, .ref 194)], [], M) (3275, [(5, .int k), (4, .int i), (0, .ref 4000000), (1, .ref 0), (2, .ref 124), (3, .ref 194)], [], M2) 1 := by
  refine lw_one lk_3081 rfl ?_
  refine lw_one lk_3082 rfl ?_
  refine lw_one lk_3083 rfl ?_
  refine lw_one lk_3085 rfl ?_
  refine lw_one lk_3086 rfl ?_
  refine lw_ld lk_3087 h1 ?_
  refine lw_one lk_3088 rfl ?_
  refine lw_one lk_3089 rfl ?_
  refine lw_one lk_3091 rfl ?_
  refine lw_one lk_3092 rfl ?_
  refine lw_ld lk_3093 h2 ?_
  refine lw_one lk_3094 rfl ?_
  refine lw_one lk_3095 rfl ?_
  refine lw_one lk_3097 rfl ?_
  refine lw_one lk_3098 rfl ?_
  refine lw_ld lk_3099 h3 ?_
  refine lw_one lk_3100 rfl ?_
  refine lw_one lk_3101 rfl ?_
  refine lw_one lk_3103 rfl ?_
  refine lw_one lk_3104 rfl ?_
  refine lw_ld lk_3105 h4 ?_
  refine lw_wr (e := 0) (vs := [.ref 0, .int (xs (i + Int32.ofInt 1).toNatClampNeg), .int (xs (i + Int32.ofInt 2).toNatClampNeg), .int (xs (i + Int32.ofInt 3).toNatClampNeg), .int (xs (i + Int32.ofInt 4).toNatClampNeg)]) (rest := []) lk_3106 rfl rfl (by decide) hw he hM1 ?_
  refine lw_one lk_3109 rfl ?_
  refine lw_one lk_3111 rfl ?_
  refine lw_one lk_3112 rfl ?_
  refine lw_one lk_3113 rfl ?_
  refine lw_one lk_3115 rfl ?_
  refine lw_one lk_3116 rfl ?_
  refine lw_ld lk_3117 h1 ?_
  refine lw_one lk_3118 rfl ?_
  refine lw_one lk_3119 rfl ?_
  refine lw_one lk_3121 rfl ?_
  refine lw_one lk_3122 rfl ?_
  refine lw_ld lk_3123 h2 ?_
  refine lw_one lk_3124 rfl ?_
  refine lw_one lk_3125 rfl ?_
  refine lw_one lk_3127 rfl ?_
  refine lw_one lk_3128 rfl ?_
  refine lw_ld lk_3129 h3 ?_
  refine lw_one lk_3130 rfl ?_
  refine lw_one lk_3131 rfl ?_
  refine lw_one lk_3133 rfl ?_
  refine lw_one lk_3134 rfl ?_
  refine lw_ld lk_3135 h4 ?_
  refine lw_cv (vs := [.int (xs (i + Int32.ofInt 1).toNatClampNeg), .int (xs (i + Int32.ofInt 2).toNatClampNeg), .int (xs (i + Int32.ofInt 3).toNatClampNeg), .int (xs (i + Int32.ofInt 4).toNatClampNeg)]) (rest := []) lk_3136 rfl rfl (by decide) o1 (Nat.le_of_ble_eq_true rfl) hm ?_
  refine lw_one lk_3139 rfl ?_
  refine lw_cv (vs := []) (rest := []) lk_3140 rfl rfl (by decide) o2 (Nat.le_of_ble_eq_true rfl) ht ?_
  refine lw_one lk_3143 rfl ?_
  refine lw_br (c := mj_c .eq k k) (off := 5) (t := 3150) (r := []) lk_3145 rfl rfl rfl rfl rfl (fun _ => ?_) (fun h => absurd rfl (of_decide_eq_false h))
  exact lw_one lk_3150 rfl lw_rf
set_option maxRecDepth 20000 in
theorem lc_44 {l : Launch} {d L : Nat} {xs : Nat → Int32} {M M1 M2 : mj_M} {i : Int32} {k : Int32} {b : Int64} (h1 : vp_in (i + Int32.ofInt 1) L) (h2 : vp_in (i + Int32.ofInt 2) L) (hw : mw_Met l mj_AW ic_Ns vwCl ic_ty ic_X il_row ih_row d [.ref 0, .int (xs (i + Int32.ofInt 1).toNatClampNeg), .int (xs (i + Int32.ofInt 2).toNatClampNeg), .ref 194] M (some (.int k)) M1) (he : mj_ext M M1) (hM1 : mj_wM M1) (hm : mj_R ic_P d 12169 (.ref 124 :: [.int (xs (i + Int32.ofInt 1).toNatClampNeg), .int (xs (i + Int32.ofInt 2).toNatClampNeg)]) M1 (some (.long b)) M2) (ht : mj_R ic_P d 12003 (.ref 124 :: []) M2 (some (.int k)) M2) (hc : k = 0 → M2.2.2.1 194 0 = b) (o0 : M.1[0]? = some (11, 17)) (o1 : M1.1[124]? = some (12, 195)) (o2 : M2.1[124]? = some (12, 195)) (o3 : M2.1[194]? = some (101, 1)) : lw_T l d L xs (3153, [(4, .int i), (0, .ref 4000000), (1, .ref 0), (2, .ref 124), (3, .ref 194)], [], M) (3275, [(6, .long b), (5, .int k), (4, .int i), (0, .ref 4000000), (1, .ref 0), (2, .ref 124), (3, .ref 194)], [], M2) 1 := by
  refine lw_one lk_3153 rfl ?_
  refine lw_one lk_3154 rfl ?_
  refine lw_one lk_3155 rfl ?_
  refine lw_one lk_3157 rfl ?_
  refine lw_one lk_3158 rfl ?_
  refine lw_ld lk_3159 h1 ?_
  refine lw_one lk_3160 rfl ?_
  refine lw_one lk_3161 rfl ?_
  refine lw_one lk_3163 rfl ?_
  refine lw_one lk_3164 rfl ?_
  refine lw_ld lk_3165 h2 ?_
  refine lw_one lk_3166 rfl ?_
  refine lw_wr (e := 0) (vs := [.ref 0, .int (xs (i + Int32.ofInt 1).toNatClampNeg), .int (xs (i + Int32.ofInt 2).toNatClampNeg), .ref 194]) (rest := []) lk_3167 rfl rfl (by decide) hw he hM1 ?_
  refine lw_one lk_3170 rfl ?_
  refine lw_one lk_3172 rfl ?_
  refine lw_one lk_3173 rfl ?_
  refine lw_one lk_3174 rfl ?_
  refine lw_one lk_3176 rfl ?_
  refine lw_one lk_3177 rfl ?_
  refine lw_ld lk_3178 h1 ?_
  refine lw_one lk_3179 rfl ?_
  refine lw_one lk_3180 rfl ?_
  refine lw_one lk_3182 rfl ?_
  refine lw_one lk_3183 rfl ?_
  refine lw_ld lk_3184 h2 ?_
  refine lw_cv (vs := [.int (xs (i + Int32.ofInt 1).toNatClampNeg), .int (xs (i + Int32.ofInt 2).toNatClampNeg)]) (rest := []) lk_3185 rfl rfl (by decide) o1 (Nat.le_of_ble_eq_true rfl) hm ?_
  refine lw_one lk_3188 rfl ?_
  refine lw_one lk_3190 rfl ?_
  refine lw_cv (vs := []) (rest := []) lk_3191 rfl rfl (by decide) o2 (Nat.le_of_ble_eq_true rfl) ht ?_
  refine lw_one lk_3194 rfl ?_
  refine lw_br (c := mj_c .eq k k) (off := 5) (t := 3201) (r := []) lk_3196 rfl rfl rfl rfl rfl (fun _ => ?_) (fun h => absurd rfl (of_decide_eq_false h))
  refine lw_one lk_3201 rfl ?_
  refine lw_br (c := mj_c .ne k 0) (off := 14) (t := 3217) (r := []) lk_3203 rfl rfl rfl rfl rfl (fun _ => ?_) (fun h => ?_)
  · exact lw_one lk_3217 rfl lw_rf
  have hk : k = 0 := Classical.byContradiction (fun q => by have := of_decide_eq_false h; exact this q)
  refine lw_one lk_3206 rfl ?_
  refine lw_one lk_3207 rfl ?_
  refine lw_lal lk_3208 o3 (by decide) ?_
  refine lw_one lk_3209 rfl ?_
  refine lw_one lk_3211 rfl ?_
  refine lw_br (c := mj_c .eq (lg_cmp (M2.2.2.1 194 0) b) 0) (off := 5) (t := 3217) (r := []) lk_3212 rfl rfl rfl rfl rfl (fun _ => ?_) (fun h => absurd (by rw [hc hk]; exact lw_cmp _) (of_decide_eq_false h))
  exact lw_one lk_3217 rfl lw_rf
set_option maxRecDepth 20000 in
theorem lc_45 {l : Launch} {d L : Nat} {xs : Nat → Int32} {M M1 M2 : mj_M} {i : Int32} {k : Int32} {b : Int64} (h1 : vp_in (i + Int32.ofInt 1) L) (hw : mw_Met l mj_AW ic_Ns vwCl ic_ty ic_X il_comes ih_comes d [.ref 0, .int (xs (i + Int32.ofInt 1).toNatClampNeg), .ref 194] M (some (.int k)) M1) (he : mj_ext M M1) (hM1 : mj_wM M1) (hm : mj_R ic_P d 12123 (.ref 124 :: [.int (xs (i + Int32.ofInt 1).toNatClampNeg)]) M1 (some (.long b)) M2) (ht : mj_R ic_P d 12003 (.ref 124 :: []) M2 (some (.int k)) M2) (hc : k = 0 → M2.2.2.1 194 0 = b) (o0 : M.1[0]? = some (11, 17)) (o1 : M1.1[124]? = some (12, 195)) (o2 : M2.1[124]? = some (12, 195)) (o3 : M2.1[194]? = some (101, 1)) : lw_T l d L xs (3220, [(4, .int i), (0, .ref 4000000), (1, .ref 0), (2, .ref 124), (3, .ref 194)], [], M) (3275, [(6, .long b), (5, .int k), (4, .int i), (0, .ref 4000000), (1, .ref 0), (2, .ref 124), (3, .ref 194)], [], M2) 1 := by
  refine lw_one lk_3220 rfl ?_
  refine lw_one lk_3221 rfl ?_
  refine lw_one lk_3222 rfl ?_
  refine lw_one lk_3224 rfl ?_
  refine lw_one lk_3225 rfl ?_
  refine lw_ld lk_3226 h1 ?_
  refine lw_one lk_3227 rfl ?_
  refine lw_wr (e := 0) (vs := [.ref 0, .int (xs (i + Int32.ofInt 1).toNatClampNeg), .ref 194]) (rest := []) lk_3228 rfl rfl (by decide) hw he hM1 ?_
  refine lw_one lk_3231 rfl ?_
  refine lw_one lk_3233 rfl ?_
  refine lw_one lk_3234 rfl ?_
  refine lw_one lk_3235 rfl ?_
  refine lw_one lk_3237 rfl ?_
  refine lw_one lk_3238 rfl ?_
  refine lw_ld lk_3239 h1 ?_
  refine lw_cv (vs := [.int (xs (i + Int32.ofInt 1).toNatClampNeg)]) (rest := []) lk_3240 rfl rfl (by decide) o1 (Nat.le_of_ble_eq_true rfl) hm ?_
  refine lw_one lk_3243 rfl ?_
  refine lw_one lk_3245 rfl ?_
  refine lw_cv (vs := []) (rest := []) lk_3246 rfl rfl (by decide) o2 (Nat.le_of_ble_eq_true rfl) ht ?_
  refine lw_one lk_3249 rfl ?_
  refine lw_br (c := mj_c .eq k k) (off := 5) (t := 3256) (r := []) lk_3251 rfl rfl rfl rfl rfl (fun _ => ?_) (fun h => absurd rfl (of_decide_eq_false h))
  refine lw_one lk_3256 rfl ?_
  refine lw_br (c := mj_c .ne k 0) (off := 14) (t := 3272) (r := []) lk_3258 rfl rfl rfl rfl rfl (fun _ => ?_) (fun h => ?_)
  · exact lw_one lk_3272 rfl lw_rf
  have hk : k = 0 := Classical.byContradiction (fun q => by have := of_decide_eq_false h; exact this q)
  refine lw_one lk_3261 rfl ?_
  refine lw_one lk_3262 rfl ?_
  refine lw_lal lk_3263 o3 (by decide) ?_
  refine lw_one lk_3264 rfl ?_
  refine lw_one lk_3266 rfl ?_
  refine lw_br (c := mj_c .eq (lg_cmp (M2.2.2.1 194 0) b) 0) (off := 5) (t := 3272) (r := []) lk_3267 rfl rfl rfl rfl rfl (fun _ => ?_) (fun h => absurd (by rw [hc hk]; exact lw_cmp _) (of_decide_eq_false h))
  exact lw_one lk_3272 rfl lw_rf
