section LWX
variable {p : Program} {l : Launch} {e : Env} {s : State} {m : MethodId} {below : List Frame} {meth : Method} {c : Code} {D : va_G} {ad : Nat → Nat → Nat → Nat} {cid : Nat → Nat → Nat → ClassId} {b L : Nat} {xs : Nat → Int32} {nc ns : Nat} {σC σM : Mem} {i : Nat}
theorem lw_c0 (F : LF p s m meth c D ad cid b L xs) (hroom : nc ≤ 600000 ∧ ns ≤ 7302250) (hi : i + 9 ≤ L) (hR : Rel σC σM) (next : ∀ σC' σM' : Mem, Rel σC' σM' → LJ p l e s m below meth c D ad cid b nc ns (lsL ad b i) 2197 [] σC' σM') : LJ p l e s m below meth c D ad cid b nc ns (lsL ad b i) 232 [] σC σM := by
  obtain ⟨r, σC', σM', hC, hM, hR'⟩ := st_status hR 
  refine lw_aload 1 F dL_232 rfl rfl ?_
  refine lw_callC (As := []) (σC' := σC') F (c11_status σC  r σC' hC) rfl (by decide) mk_11_status w_779 w_780 w_778 rfl rfl (Nat.le_of_ble_eq_true rfl) dL_233 ?_ hroom
  refine lw_aload 2 F dL_236 rfl rfl ?_
  refine lw_callM (As := []) (σM' := σM') F (c12_status σM  r σM' hM) rfl (by decide) mk_12_status w_1643 w_1644 w_1642 rfl rfl (Nat.le_of_ble_eq_true rfl) dL_237 ?_ hroom
  exact lw_eqI F dL_240 rfl (next _ _ hR')
theorem lw_c1 (F : LF p s m meth c D ad cid b L xs) (hroom : nc ≤ 600000 ∧ ns ≤ 7302250) (hi : i + 9 ≤ L) (hR : Rel σC σM) (next : ∀ σC' σM' : Mem, Rel σC' σM' → LJ p l e s m below meth c D ad cid b nc ns (lsL ad b i) 2197 [] σC' σM') : LJ p l e s m below meth c D ad cid b nc ns (lsL ad b i) 245 [] σC σM := by
  obtain ⟨r, σC', σM', hC, hM, hR'⟩ := st_top hR 
  refine lw_aload 1 F dL_245 rfl rfl ?_
  refine lw_callC (As := []) (σC' := σC') F (c11_top σC  r σC' hC) rfl (by decide) mk_11_top w_783 w_784 w_782 rfl rfl (Nat.le_of_ble_eq_true rfl) dL_246 ?_ hroom
  refine lw_aload 2 F dL_249 rfl rfl ?_
  refine lw_callM (As := []) (σM' := σM') F (c12_top σM  r σM' hM) rfl (by decide) mk_12_top w_1647 w_1648 w_1646 rfl rfl (Nat.le_of_ble_eq_true rfl) dL_250 ?_ hroom
  exact lw_eqL F dL_253 dL_254 rfl (next _ _ hR')
theorem lw_c2 (F : LF p s m meth c D ad cid b L xs) (hroom : nc ≤ 600000 ∧ ns ≤ 7302250) (hi : i + 9 ≤ L) (hR : Rel σC σM) (next : ∀ σC' σM' : Mem, Rel σC' σM' → LJ p l e s m below meth c D ad cid b nc ns (lsL ad b i) 2197 [] σC' σM') : LJ p l e s m below meth c D ad cid b nc ns (lsL ad b i) 259 [] σC σM := by
  obtain ⟨r, σC', σM', hC, hM, hR'⟩ := st_bottom hR 
  refine lw_aload 1 F dL_259 rfl rfl ?_
  refine lw_callC (As := []) (σC' := σC') F (c11_bottom σC  r σC' hC) rfl (by decide) mk_11_bottom w_787 w_788 w_786 rfl rfl (Nat.le_of_ble_eq_true rfl) dL_260 ?_ hroom
  refine lw_aload 2 F dL_263 rfl rfl ?_
  refine lw_callM (As := []) (σM' := σM') F (c12_bottom σM  r σM' hM) rfl (by decide) mk_12_bottom w_1651 w_1652 w_1650 rfl rfl (Nat.le_of_ble_eq_true rfl) dL_264 ?_ hroom
  exact lw_eqL F dL_267 dL_268 rfl (next _ _ hR')
theorem lw_c3 (F : LF p s m meth c D ad cid b L xs) (hroom : nc ≤ 600000 ∧ ns ≤ 7302250) (hi : i + 9 ≤ L) (hR : Rel σC σM) (next : ∀ σC' σM' : Mem, Rel σC' σM' → LJ p l e s m below meth c D ad cid b nc ns (lsL ad b i) 2197 [] σC' σM') : LJ p l e s m below meth c D ad cid b nc ns (lsL ad b i) 273 [] σC σM := by
  obtain ⟨r, σC', σM', hC, hM, hR'⟩ := st_tray hR (xs (i + 1)) (xs (i + 2)) (xs (i + 3))
  refine lw_aload 1 F dL_273 rfl rfl ?_
  refine lw_argC (k := 1) F dL_274 dL_275 dL_276 dL_277 dL_278 rfl (by omega) ?_
  refine lw_argC (k := 2) F dL_279 dL_280 dL_281 dL_282 dL_283 rfl (by omega) ?_
  refine lw_argC (k := 3) F dL_284 dL_285 dL_286 dL_287 dL_288 rfl (by omega) ?_
  refine lw_callC (As := [.int (xs (i + 1)), .int (xs (i + 2)), .int (xs (i + 3))]) (σC' := σC') F (c11_tray σC (xs (i + 1)) (xs (i + 2)) (xs (i + 3)) r σC' hC) rfl (by decide) mk_11_tray w_791 w_792 w_790 rfl rfl (Nat.le_of_ble_eq_true rfl) dL_289 ?_ hroom
  refine lw_aload 2 F dL_292 rfl rfl ?_
  refine lw_argC (k := 1) F dL_293 dL_294 dL_295 dL_296 dL_297 rfl (by omega) ?_
  refine lw_argC (k := 2) F dL_298 dL_299 dL_300 dL_301 dL_302 rfl (by omega) ?_
  refine lw_argC (k := 3) F dL_303 dL_304 dL_305 dL_306 dL_307 rfl (by omega) ?_
  refine lw_callM (As := [.int (xs (i + 1)), .int (xs (i + 2)), .int (xs (i + 3))]) (σM' := σM') F (c12_tray σM (xs (i + 1)) (xs (i + 2)) (xs (i + 3)) r σM' hM) rfl (by decide) mk_12_tray w_1655 w_1656 w_1654 rfl rfl (Nat.le_of_ble_eq_true rfl) dL_308 ?_ hroom
  exact lw_eqI F dL_311 rfl (next _ _ hR')
theorem lw_c4 (F : LF p s m meth c D ad cid b L xs) (hroom : nc ≤ 600000 ∧ ns ≤ 7302250) (hi : i + 9 ≤ L) (hR : Rel σC σM) (next : ∀ σC' σM' : Mem, Rel σC' σM' → LJ p l e s m below meth c D ad cid b nc ns (lsL ad b i) 2197 [] σC' σM') : LJ p l e s m below meth c D ad cid b nc ns (lsL ad b i) 316 [] σC σM := by
  obtain ⟨r, σC', σM', hC, hM, hR'⟩ := st_write hR (xs (i + 1)) (xs (i + 2)) (((xs (i + 3)).toInt64 <<< ((32 : Int32).toInt64 &&& 63)) ||| ((xs (i + 4)).toInt64 &&& 4294967295))
  refine lw_aload 1 F dL_316 rfl rfl ?_
  refine lw_argC (k := 1) F dL_317 dL_318 dL_319 dL_320 dL_321 rfl (by omega) ?_
  refine lw_argC (k := 2) F dL_322 dL_323 dL_324 dL_325 dL_326 rfl (by omega) ?_
  refine lw_argC (k := 3) F dL_327 dL_328 dL_329 dL_330 dL_331 rfl (by omega) ?_
  refine lw_two (k := 4) (v := 32) (y := 0) F (by omega) w_2242 rfl (by decide) dL_332 dL_333 dL_335 dL_336 dL_337 dL_338 dL_339 dL_340 dL_341 dL_342 dL_345 dL_346 ?_
  refine lw_callC (As := [.int (xs (i + 1)), .int (xs (i + 2)), .long (((xs (i + 3)).toInt64 <<< ((32 : Int32).toInt64 &&& 63)) ||| ((xs (i + 4)).toInt64 &&& 4294967295))]) (σC' := σC') F (c11_write σC (xs (i + 1)) (xs (i + 2)) (((xs (i + 3)).toInt64 <<< ((32 : Int32).toInt64 &&& 63)) ||| ((xs (i + 4)).toInt64 &&& 4294967295)) r σC' hC) rfl (by decide) mk_11_write w_816 w_817 w_815 rfl rfl (Nat.le_of_ble_eq_true rfl) dL_347 ?_ hroom
  refine lw_aload 2 F dL_350 rfl rfl ?_
  refine lw_argC (k := 1) F dL_351 dL_352 dL_353 dL_354 dL_355 rfl (by omega) ?_
  refine lw_argC (k := 2) F dL_356 dL_357 dL_358 dL_359 dL_360 rfl (by omega) ?_
  refine lw_argC (k := 3) F dL_361 dL_362 dL_363 dL_364 dL_365 rfl (by omega) ?_
  refine lw_two (k := 4) (v := 32) (y := 0) F (by omega) w_2242 rfl (by decide) dL_366 dL_367 dL_369 dL_370 dL_371 dL_372 dL_373 dL_374 dL_375 dL_376 dL_379 dL_380 ?_
  refine lw_callM (As := [.int (xs (i + 1)), .int (xs (i + 2)), .long (((xs (i + 3)).toInt64 <<< ((32 : Int32).toInt64 &&& 63)) ||| ((xs (i + 4)).toInt64 &&& 4294967295))]) (σM' := σM') F (c12_write σM (xs (i + 1)) (xs (i + 2)) (((xs (i + 3)).toInt64 <<< ((32 : Int32).toInt64 &&& 63)) ||| ((xs (i + 4)).toInt64 &&& 4294967295)) r σM' hM) rfl (by decide) mk_12_write w_1663 w_1664 w_1662 rfl rfl (Nat.le_of_ble_eq_true rfl) dL_381 ?_ hroom
  exact lw_eqI F dL_384 rfl (next _ _ hR')
theorem lw_c5 (F : LF p s m meth c D ad cid b L xs) (hroom : nc ≤ 600000 ∧ ns ≤ 7302250) (hi : i + 9 ≤ L) (hR : Rel σC σM) (next : ∀ σC' σM' : Mem, Rel σC' σM' → LJ p l e s m below meth c D ad cid b nc ns (lsL ad b i) 2197 [] σC' σM') : LJ p l e s m below meth c D ad cid b nc ns (lsL ad b i) 389 [] σC σM := by
  obtain ⟨r, σC', σM', hC, hM, hR'⟩ := st_read hR (xs (i + 1)) (xs (i + 2))
  refine lw_aload 1 F dL_389 rfl rfl ?_
  refine lw_argC (k := 1) F dL_390 dL_391 dL_392 dL_393 dL_394 rfl (by omega) ?_
  refine lw_argC (k := 2) F dL_395 dL_396 dL_397 dL_398 dL_399 rfl (by omega) ?_
  refine lw_callC (As := [.int (xs (i + 1)), .int (xs (i + 2))]) (σC' := σC') F (c11_read σC (xs (i + 1)) (xs (i + 2)) r σC' hC) rfl (by decide) mk_11_read w_833 w_834 w_832 rfl rfl (Nat.le_of_ble_eq_true rfl) dL_400 ?_ hroom
  refine lw_aload 2 F dL_403 rfl rfl ?_
  refine lw_argC (k := 1) F dL_404 dL_405 dL_406 dL_407 dL_408 rfl (by omega) ?_
  refine lw_argC (k := 2) F dL_409 dL_410 dL_411 dL_412 dL_413 rfl (by omega) ?_
  refine lw_callM (As := [.int (xs (i + 1)), .int (xs (i + 2))]) (σM' := σM') F (c12_read σM (xs (i + 1)) (xs (i + 2)) r σM' hM) rfl (by decide) mk_12_read w_1678 w_1679 w_1677 rfl rfl (Nat.le_of_ble_eq_true rfl) dL_414 ?_ hroom
  exact lw_eqL F dL_417 dL_418 rfl (next _ _ hR')
theorem lw_c6 (F : LF p s m meth c D ad cid b L xs) (hroom : nc ≤ 600000 ∧ ns ≤ 7302250) (hi : i + 9 ≤ L) (hR : Rel σC σM) (next : ∀ σC' σM' : Mem, Rel σC' σM' → LJ p l e s m below meth c D ad cid b nc ns (lsL ad b i) 2197 [] σC' σM') : LJ p l e s m below meth c D ad cid b nc ns (lsL ad b i) 423 [] σC σM := by
  obtain ⟨r, σC', σM', hC, hM, hR'⟩ := st_pour hR (xs (i + 1)) (xs (i + 2)) (xs (i + 3)) (xs (i + 4)) (xs (i + 5))
  refine lw_aload 1 F dL_423 rfl rfl ?_
  refine lw_argC (k := 1) F dL_424 dL_425 dL_426 dL_427 dL_428 rfl (by omega) ?_
  refine lw_argC (k := 2) F dL_429 dL_430 dL_431 dL_432 dL_433 rfl (by omega) ?_
  refine lw_argC (k := 3) F dL_434 dL_435 dL_436 dL_437 dL_438 rfl (by omega) ?_
  refine lw_argC (k := 4) F dL_439 dL_440 dL_441 dL_442 dL_443 rfl (by omega) ?_
  refine lw_argC (k := 5) F dL_444 dL_445 dL_446 dL_447 dL_448 rfl (by omega) ?_
  refine lw_callC (As := [.int (xs (i + 1)), .int (xs (i + 2)), .int (xs (i + 3)), .int (xs (i + 4)), .int (xs (i + 5))]) (σC' := σC') F (c11_pour σC (xs (i + 1)) (xs (i + 2)) (xs (i + 3)) (xs (i + 4)) (xs (i + 5)) r σC' hC) rfl (by decide) mk_11_pour w_841 w_842 w_840 rfl rfl (Nat.le_of_ble_eq_true rfl) dL_449 ?_ hroom
  refine lw_aload 2 F dL_452 rfl rfl ?_
  refine lw_argC (k := 1) F dL_453 dL_454 dL_455 dL_456 dL_457 rfl (by omega) ?_
  refine lw_argC (k := 2) F dL_458 dL_459 dL_460 dL_461 dL_462 rfl (by omega) ?_
  refine lw_argC (k := 3) F dL_463 dL_464 dL_465 dL_466 dL_467 rfl (by omega) ?_
  refine lw_argC (k := 4) F dL_468 dL_469 dL_470 dL_471 dL_472 rfl (by omega) ?_
  refine lw_argC (k := 5) F dL_473 dL_474 dL_475 dL_476 dL_477 rfl (by omega) ?_
  refine lw_callM (As := [.int (xs (i + 1)), .int (xs (i + 2)), .int (xs (i + 3)), .int (xs (i + 4)), .int (xs (i + 5))]) (σM' := σM') F (c12_pour σM (xs (i + 1)) (xs (i + 2)) (xs (i + 3)) (xs (i + 4)) (xs (i + 5)) r σM' hM) rfl (by decide) mk_12_pour w_1683 w_1684 w_1682 rfl rfl (Nat.le_of_ble_eq_true rfl) dL_478 ?_ hroom
  exact lw_eqI F dL_481 rfl (next _ _ hR')
theorem lw_c7 (F : LF p s m meth c D ad cid b L xs) (hroom : nc ≤ 600000 ∧ ns ≤ 7302250) (hi : i + 9 ≤ L) (hR : Rel σC σM) (next : ∀ σC' σM' : Mem, Rel σC' σM' → LJ p l e s m below meth c D ad cid b nc ns (lsL ad b i) 2197 [] σC' σM') : LJ p l e s m below meth c D ad cid b nc ns (lsL ad b i) 486 [] σC σM := by
  obtain ⟨r, σC', σM', hC, hM, hR'⟩ := st_feed hR (xs (i + 1)) (xs (i + 2)) (xs (i + 3)) (xs (i + 4)) (xs (i + 5))
  refine lw_aload 1 F dL_486 rfl rfl ?_
  refine lw_argC (k := 1) F dL_487 dL_488 dL_489 dL_490 dL_491 rfl (by omega) ?_
  refine lw_argC (k := 2) F dL_492 dL_493 dL_494 dL_495 dL_496 rfl (by omega) ?_
  refine lw_argC (k := 3) F dL_497 dL_498 dL_499 dL_500 dL_501 rfl (by omega) ?_
  refine lw_argC (k := 4) F dL_502 dL_503 dL_504 dL_505 dL_506 rfl (by omega) ?_
  refine lw_argC (k := 5) F dL_507 dL_508 dL_509 dL_510 dL_511 rfl (by omega) ?_
  refine lw_callC (As := [.int (xs (i + 1)), .int (xs (i + 2)), .int (xs (i + 3)), .int (xs (i + 4)), .int (xs (i + 5))]) (σC' := σC') F (c11_feed σC (xs (i + 1)) (xs (i + 2)) (xs (i + 3)) (xs (i + 4)) (xs (i + 5)) r σC' hC) rfl (by decide) mk_11_feed w_848 w_849 w_847 rfl rfl (Nat.le_of_ble_eq_true rfl) dL_512 ?_ hroom
  refine lw_aload 2 F dL_515 rfl rfl ?_
  refine lw_argC (k := 1) F dL_516 dL_517 dL_518 dL_519 dL_520 rfl (by omega) ?_
  refine lw_argC (k := 2) F dL_521 dL_522 dL_523 dL_524 dL_525 rfl (by omega) ?_
  refine lw_argC (k := 3) F dL_526 dL_527 dL_528 dL_529 dL_530 rfl (by omega) ?_
  refine lw_argC (k := 4) F dL_531 dL_532 dL_533 dL_534 dL_535 rfl (by omega) ?_
  refine lw_argC (k := 5) F dL_536 dL_537 dL_538 dL_539 dL_540 rfl (by omega) ?_
  refine lw_callM (As := [.int (xs (i + 1)), .int (xs (i + 2)), .int (xs (i + 3)), .int (xs (i + 4)), .int (xs (i + 5))]) (σM' := σM') F (c12_feed σM (xs (i + 1)) (xs (i + 2)) (xs (i + 3)) (xs (i + 4)) (xs (i + 5)) r σM' hM) rfl (by decide) mk_12_feed w_1687 w_1688 w_1686 rfl rfl (Nat.le_of_ble_eq_true rfl) dL_541 ?_ hroom
  exact lw_eqI F dL_544 rfl (next _ _ hR')
theorem lw_c8 (F : LF p s m meth c D ad cid b L xs) (hroom : nc ≤ 600000 ∧ ns ≤ 7302250) (hi : i + 9 ≤ L) (hR : Rel σC σM) (next : ∀ σC' σM' : Mem, Rel σC' σM' → LJ p l e s m below meth c D ad cid b nc ns (lsL ad b i) 2197 [] σC' σM') : LJ p l e s m below meth c D ad cid b nc ns (lsL ad b i) 549 [] σC σM := by
  obtain ⟨r, σC', σM', hC, hM, hR'⟩ := st_tent hR (xs (i + 1))
  refine lw_aload 1 F dL_549 rfl rfl ?_
  refine lw_argC (k := 1) F dL_550 dL_551 dL_552 dL_553 dL_554 rfl (by omega) ?_
  refine lw_callC (As := [.int (xs (i + 1))]) (σC' := σC') F (c11_tent σC (xs (i + 1)) r σC' hC) rfl (by decide) mk_11_tent w_856 w_857 w_855 rfl rfl (Nat.le_of_ble_eq_true rfl) dL_555 ?_ hroom
  refine lw_aload 2 F dL_558 rfl rfl ?_
  refine lw_argC (k := 1) F dL_559 dL_560 dL_561 dL_562 dL_563 rfl (by omega) ?_
  refine lw_callM (As := [.int (xs (i + 1))]) (σM' := σM') F (c12_tent σM (xs (i + 1)) r σM' hM) rfl (by decide) mk_12_tent w_1699 w_1700 w_1698 rfl rfl (Nat.le_of_ble_eq_true rfl) dL_564 ?_ hroom
  exact lw_eqI F dL_567 rfl (next _ _ hR')
theorem lw_c9 (F : LF p s m meth c D ad cid b L xs) (hroom : nc ≤ 600000 ∧ ns ≤ 7302250) (hi : i + 9 ≤ L) (hR : Rel σC σM) (next : ∀ σC' σM' : Mem, Rel σC' σM' → LJ p l e s m below meth c D ad cid b nc ns (lsL ad b i) 2197 [] σC' σM') : LJ p l e s m below meth c D ad cid b nc ns (lsL ad b i) 572 [] σC σM := by
  obtain ⟨r, σC', σM', hC, hM, hR'⟩ := st_round hR (xs (i + 1))
  refine lw_aload 1 F dL_572 rfl rfl ?_
  refine lw_argC (k := 1) F dL_573 dL_574 dL_575 dL_576 dL_577 rfl (by omega) ?_
  refine lw_callC (As := [.int (xs (i + 1))]) (σC' := σC') F (c11_round σC (xs (i + 1)) r σC' hC) rfl (by decide) mk_11_round w_978 w_979 w_977 rfl rfl (Nat.le_of_ble_eq_true rfl) dL_578 ?_ hroom
  refine lw_aload 2 F dL_581 rfl rfl ?_
  refine lw_argC (k := 1) F dL_582 dL_583 dL_584 dL_585 dL_586 rfl (by omega) ?_
  refine lw_callM (As := [.int (xs (i + 1))]) (σM' := σM') F (c12_round σM (xs (i + 1)) r σM' hM) rfl (by decide) mk_12_round w_1891 w_1892 w_1890 rfl rfl (Nat.le_of_ble_eq_true rfl) dL_587 ?_ hroom
  exact lw_eqI F dL_590 rfl (next _ _ hR')
theorem lw_c10 (F : LF p s m meth c D ad cid b L xs) (hroom : nc ≤ 600000 ∧ ns ≤ 7302250) (hi : i + 9 ≤ L) (hR : Rel σC σM) (next : ∀ σC' σM' : Mem, Rel σC' σM' → LJ p l e s m below meth c D ad cid b nc ns (lsL ad b i) 2197 [] σC' σM') : LJ p l e s m below meth c D ad cid b nc ns (lsL ad b i) 595 [] σC σM := by
  obtain ⟨r, σC', σM', hC, hM, hR'⟩ := st_fault hR (xs (i + 1))
  refine lw_aload 1 F dL_595 rfl rfl ?_
  refine lw_argC (k := 1) F dL_596 dL_597 dL_598 dL_599 dL_600 rfl (by omega) ?_
  refine lw_callC (As := [.int (xs (i + 1))]) (σC' := σC') F (c11_fault σC (xs (i + 1)) r σC' hC) rfl (by decide) mk_11_fault w_1030 w_1031 w_1029 rfl rfl (Nat.le_of_ble_eq_true rfl) dL_601 ?_ hroom
  refine lw_aload 2 F dL_604 rfl rfl ?_
  refine lw_argC (k := 1) F dL_605 dL_606 dL_607 dL_608 dL_609 rfl (by omega) ?_
  refine lw_callM (As := [.int (xs (i + 1))]) (σM' := σM') F (c12_fault σM (xs (i + 1)) r σM' hM) rfl (by decide) mk_12_fault w_1695 w_1696 w_1694 rfl rfl (Nat.le_of_ble_eq_true rfl) dL_610 ?_ hroom
  exact lw_eqI F dL_613 rfl (next _ _ hR')
theorem lw_c11 (F : LF p s m meth c D ad cid b L xs) (hroom : nc ≤ 600000 ∧ ns ≤ 7302250) (hi : i + 9 ≤ L) (hR : Rel σC σM) (next : ∀ σC' σM' : Mem, Rel σC' σM' → LJ p l e s m below meth c D ad cid b nc ns (lsL ad b i) 2197 [] σC' σM') : LJ p l e s m below meth c D ad cid b nc ns (lsL ad b i) 618 [] σC σM := by
  obtain ⟨r, σC', σM', hC, hM, hR'⟩ := st_many hR (xs (i + 1))
  refine lw_aload 1 F dL_618 rfl rfl ?_
  refine lw_argC (k := 1) F dL_619 dL_620 dL_621 dL_622 dL_623 rfl (by omega) ?_
  refine lw_callC (As := [.int (xs (i + 1))]) (σC' := σC') F (c11_many σC (xs (i + 1)) r σC' hC) rfl (by decide) mk_11_many w_1034 w_1035 w_1033 rfl rfl (Nat.le_of_ble_eq_true rfl) dL_624 ?_ hroom
  refine lw_aload 2 F dL_627 rfl rfl ?_
  refine lw_argC (k := 1) F dL_628 dL_629 dL_630 dL_631 dL_632 rfl (by omega) ?_
  refine lw_callM (As := [.int (xs (i + 1))]) (σM' := σM') F (c12_many σM (xs (i + 1)) r σM' hM) rfl (by decide) mk_12_many w_1915 w_1916 w_1914 rfl rfl (Nat.le_of_ble_eq_true rfl) dL_633 ?_ hroom
  exact lw_eqI F dL_636 rfl (next _ _ hR')
theorem lw_c12 (F : LF p s m meth c D ad cid b L xs) (hroom : nc ≤ 600000 ∧ ns ≤ 7302250) (hi : i + 9 ≤ L) (hR : Rel σC σM) (next : ∀ σC' σM' : Mem, Rel σC' σM' → LJ p l e s m below meth c D ad cid b nc ns (lsL ad b i) 2197 [] σC' σM') : LJ p l e s m below meth c D ad cid b nc ns (lsL ad b i) 641 [] σC σM := by
  obtain ⟨r, σC', σM', hC, hM, hR'⟩ := st_ring hR (xs (i + 1)) (xs (i + 2))
  refine lw_aload 1 F dL_641 rfl rfl ?_
  refine lw_argC (k := 1) F dL_642 dL_643 dL_644 dL_645 dL_646 rfl (by omega) ?_
  refine lw_argC (k := 2) F dL_647 dL_648 dL_649 dL_650 dL_651 rfl (by omega) ?_
  refine lw_callC (As := [.int (xs (i + 1)), .int (xs (i + 2))]) (σC' := σC') F (c11_ring σC (xs (i + 1)) (xs (i + 2)) r σC' hC) rfl (by decide) mk_11_ring w_1038 w_1039 w_1037 rfl rfl (Nat.le_of_ble_eq_true rfl) dL_652 ?_ hroom
  refine lw_aload 2 F dL_655 rfl rfl ?_
  refine lw_argC (k := 1) F dL_656 dL_657 dL_658 dL_659 dL_660 rfl (by omega) ?_
  refine lw_argC (k := 2) F dL_661 dL_662 dL_663 dL_664 dL_665 rfl (by omega) ?_
  refine lw_callM (As := [.int (xs (i + 1)), .int (xs (i + 2))]) (σM' := σM') F (c12_ring σM (xs (i + 1)) (xs (i + 2)) r σM' hM) rfl (by decide) mk_12_ring w_1924 w_1925 w_1923 rfl rfl (Nat.le_of_ble_eq_true rfl) dL_666 ?_ hroom
  exact lw_eqI F dL_669 rfl (next _ _ hR')
theorem lw_c13 (F : LF p s m meth c D ad cid b L xs) (hroom : nc ≤ 600000 ∧ ns ≤ 7302250) (hi : i + 9 ≤ L) (hR : Rel σC σM) (next : ∀ σC' σM' : Mem, Rel σC' σM' → LJ p l e s m below meth c D ad cid b nc ns (lsL ad b i) 2197 [] σC' σM') : LJ p l e s m below meth c D ad cid b nc ns (lsL ad b i) 674 [] σC σM := by
  obtain ⟨r, σC', σM', hC, hM, hR'⟩ := st_pea hR (xs (i + 1)) (xs (i + 2))
  refine lw_aload 1 F dL_674 rfl rfl ?_
  refine lw_argC (k := 1) F dL_675 dL_676 dL_677 dL_678 dL_679 rfl (by omega) ?_
  refine lw_argC (k := 2) F dL_680 dL_681 dL_682 dL_683 dL_684 rfl (by omega) ?_
  refine lw_callC (As := [.int (xs (i + 1)), .int (xs (i + 2))]) (σC' := σC') F (c11_pea σC (xs (i + 1)) (xs (i + 2)) r σC' hC) rfl (by decide) mk_11_pea w_1042 w_1043 w_1041 rfl rfl (Nat.le_of_ble_eq_true rfl) dL_685 ?_ hroom
  refine lw_aload 2 F dL_688 rfl rfl ?_
  refine lw_argC (k := 1) F dL_689 dL_690 dL_691 dL_692 dL_693 rfl (by omega) ?_
  refine lw_argC (k := 2) F dL_694 dL_695 dL_696 dL_697 dL_698 rfl (by omega) ?_
  refine lw_callM (As := [.int (xs (i + 1)), .int (xs (i + 2))]) (σM' := σM') F (c12_pea σM (xs (i + 1)) (xs (i + 2)) r σM' hM) rfl (by decide) mk_12_pea w_1928 w_1929 w_1927 rfl rfl (Nat.le_of_ble_eq_true rfl) dL_699 ?_ hroom
  exact lw_eqI F dL_702 rfl (next _ _ hR')
theorem lw_c14 (F : LF p s m meth c D ad cid b L xs) (hroom : nc ≤ 600000 ∧ ns ≤ 7302250) (hi : i + 9 ≤ L) (hR : Rel σC σM) (next : ∀ σC' σM' : Mem, Rel σC' σM' → LJ p l e s m below meth c D ad cid b nc ns (lsL ad b i) 2197 [] σC' σM') : LJ p l e s m below meth c D ad cid b nc ns (lsL ad b i) 707 [] σC σM := by
  obtain ⟨r, σC', σM', hC, hM, hR'⟩ := st_shooter hR (xs (i + 1)) (xs (i + 2))
  refine lw_aload 1 F dL_707 rfl rfl ?_
  refine lw_argC (k := 1) F dL_708 dL_709 dL_710 dL_711 dL_712 rfl (by omega) ?_
  refine lw_argC (k := 2) F dL_713 dL_714 dL_715 dL_716 dL_717 rfl (by omega) ?_
  refine lw_callC (As := [.int (xs (i + 1)), .int (xs (i + 2))]) (σC' := σC') F (c11_shooter σC (xs (i + 1)) (xs (i + 2)) r σC' hC) rfl (by decide) mk_11_shooter w_1059 w_1060 w_1058 rfl rfl (Nat.le_of_ble_eq_true rfl) dL_718 ?_ hroom
  refine lw_aload 2 F dL_721 rfl rfl ?_
  refine lw_argC (k := 1) F dL_722 dL_723 dL_724 dL_725 dL_726 rfl (by omega) ?_
  refine lw_argC (k := 2) F dL_727 dL_728 dL_729 dL_730 dL_731 rfl (by omega) ?_
  refine lw_callM (As := [.int (xs (i + 1)), .int (xs (i + 2))]) (σM' := σM') F (c12_shooter σM (xs (i + 1)) (xs (i + 2)) r σM' hM) rfl (by decide) mk_12_shooter w_1940 w_1941 w_1939 rfl rfl (Nat.le_of_ble_eq_true rfl) dL_732 ?_ hroom
  exact lw_eqI F dL_735 rfl (next _ _ hR')
theorem lw_c15 (F : LF p s m meth c D ad cid b L xs) (hroom : nc ≤ 600000 ∧ ns ≤ 7302250) (hi : i + 9 ≤ L) (hR : Rel σC σM) (next : ∀ σC' σM' : Mem, Rel σC' σM' → LJ p l e s m below meth c D ad cid b nc ns (lsL ad b i) 2197 [] σC' σM') : LJ p l e s m below meth c D ad cid b nc ns (lsL ad b i) 740 [] σC σM := by
  obtain ⟨r, σC', σM', hC, hM, hR'⟩ := st_pace hR (xs (i + 1)) (xs (i + 2)) (xs (i + 3))
  refine lw_aload 1 F dL_740 rfl rfl ?_
  refine lw_argC (k := 1) F dL_741 dL_742 dL_743 dL_744 dL_745 rfl (by omega) ?_
  refine lw_argC (k := 2) F dL_746 dL_747 dL_748 dL_749 dL_750 rfl (by omega) ?_
  refine lw_argC (k := 3) F dL_751 dL_752 dL_753 dL_754 dL_755 rfl (by omega) ?_
  refine lw_callC (As := [.int (xs (i + 1)), .int (xs (i + 2)), .int (xs (i + 3))]) (σC' := σC') F (c11_pace σC (xs (i + 1)) (xs (i + 2)) (xs (i + 3)) r σC' hC) rfl (by decide) mk_11_pace w_1071 w_1072 w_1070 rfl rfl (Nat.le_of_ble_eq_true rfl) dL_756 ?_ hroom
  refine lw_aload 2 F dL_759 rfl rfl ?_
  refine lw_argC (k := 1) F dL_760 dL_761 dL_762 dL_763 dL_764 rfl (by omega) ?_
  refine lw_argC (k := 2) F dL_765 dL_766 dL_767 dL_768 dL_769 rfl (by omega) ?_
  refine lw_argC (k := 3) F dL_770 dL_771 dL_772 dL_773 dL_774 rfl (by omega) ?_
  refine lw_callM (As := [.int (xs (i + 1)), .int (xs (i + 2)), .int (xs (i + 3))]) (σM' := σM') F (c12_pace σM (xs (i + 1)) (xs (i + 2)) (xs (i + 3)) r σM' hM) rfl (by decide) mk_12_pace w_1959 w_1960 w_1958 rfl rfl (Nat.le_of_ble_eq_true rfl) dL_775 ?_ hroom
  exact lw_eqI F dL_778 rfl (next _ _ hR')
theorem lw_c16 (F : LF p s m meth c D ad cid b L xs) (hroom : nc ≤ 600000 ∧ ns ≤ 7302250) (hi : i + 9 ≤ L) (hR : Rel σC σM) (next : ∀ σC' σM' : Mem, Rel σC' σM' → LJ p l e s m below meth c D ad cid b nc ns (lsL ad b i) 2197 [] σC' σM') : LJ p l e s m below meth c D ad cid b nc ns (lsL ad b i) 783 [] σC σM := by
  obtain ⟨r, σC', σM', hC, hM, hR'⟩ := st_flight hR (xs (i + 1)) (xs (i + 2)) (xs (i + 3)) (xs (i + 4))
  refine lw_aload 1 F dL_783 rfl rfl ?_
  refine lw_argC (k := 1) F dL_784 dL_785 dL_786 dL_787 dL_788 rfl (by omega) ?_
  refine lw_argC (k := 2) F dL_789 dL_790 dL_791 dL_792 dL_793 rfl (by omega) ?_
  refine lw_argC (k := 3) F dL_794 dL_795 dL_796 dL_797 dL_798 rfl (by omega) ?_
  refine lw_argC (k := 4) F dL_799 dL_800 dL_801 dL_802 dL_803 rfl (by omega) ?_
  refine lw_callC (As := [.int (xs (i + 1)), .int (xs (i + 2)), .int (xs (i + 3)), .int (xs (i + 4))]) (σC' := σC') F (c11_flight σC (xs (i + 1)) (xs (i + 2)) (xs (i + 3)) (xs (i + 4)) r σC' hC) rfl (by decide) mk_11_flight w_1100 w_1101 w_1099 rfl rfl (Nat.le_of_ble_eq_true rfl) dL_804 ?_ hroom
  refine lw_aload 2 F dL_807 rfl rfl ?_
  refine lw_argC (k := 1) F dL_808 dL_809 dL_810 dL_811 dL_812 rfl (by omega) ?_
  refine lw_argC (k := 2) F dL_813 dL_814 dL_815 dL_816 dL_817 rfl (by omega) ?_
  refine lw_argC (k := 3) F dL_818 dL_819 dL_820 dL_821 dL_822 rfl (by omega) ?_
  refine lw_argC (k := 4) F dL_823 dL_824 dL_825 dL_826 dL_827 rfl (by omega) ?_
  refine lw_callM (As := [.int (xs (i + 1)), .int (xs (i + 2)), .int (xs (i + 3)), .int (xs (i + 4))]) (σM' := σM') F (c12_flight σM (xs (i + 1)) (xs (i + 2)) (xs (i + 3)) (xs (i + 4)) r σM' hM) rfl (by decide) mk_12_flight w_1978 w_1979 w_1977 rfl rfl (Nat.le_of_ble_eq_true rfl) dL_828 ?_ hroom
  exact lw_eqI F dL_831 rfl (next _ _ hR')
theorem lw_c17 (F : LF p s m meth c D ad cid b L xs) (hroom : nc ≤ 600000 ∧ ns ≤ 7302250) (hi : i + 9 ≤ L) (hR : Rel σC σM) (next : ∀ σC' σM' : Mem, Rel σC' σM' → LJ p l e s m below meth c D ad cid b nc ns (lsL ad b i) 2197 [] σC' σM') : LJ p l e s m below meth c D ad cid b nc ns (lsL ad b i) 836 [] σC σM := by
  obtain ⟨r, σC', σM', hC, hM, hR'⟩ := st_becomes hR (xs (i + 1)) (xs (i + 2)) (xs (i + 3))
  refine lw_aload 1 F dL_836 rfl rfl ?_
  refine lw_argC (k := 1) F dL_837 dL_838 dL_839 dL_840 dL_841 rfl (by omega) ?_
  refine lw_argC (k := 2) F dL_842 dL_843 dL_844 dL_845 dL_846 rfl (by omega) ?_
  refine lw_argC (k := 3) F dL_847 dL_848 dL_849 dL_850 dL_851 rfl (by omega) ?_
  refine lw_callC (As := [.int (xs (i + 1)), .int (xs (i + 2)), .int (xs (i + 3))]) (σC' := σC') F (c11_becomes σC (xs (i + 1)) (xs (i + 2)) (xs (i + 3)) r σC' hC) rfl (by decide) mk_11_becomes w_1104 w_1105 w_1103 rfl rfl (Nat.le_of_ble_eq_true rfl) dL_852 ?_ hroom
  refine lw_aload 2 F dL_855 rfl rfl ?_
  refine lw_argC (k := 1) F dL_856 dL_857 dL_858 dL_859 dL_860 rfl (by omega) ?_
  refine lw_argC (k := 2) F dL_861 dL_862 dL_863 dL_864 dL_865 rfl (by omega) ?_
  refine lw_argC (k := 3) F dL_866 dL_867 dL_868 dL_869 dL_870 rfl (by omega) ?_
  refine lw_callM (As := [.int (xs (i + 1)), .int (xs (i + 2)), .int (xs (i + 3))]) (σM' := σM') F (c12_becomes σM (xs (i + 1)) (xs (i + 2)) (xs (i + 3)) r σM' hM) rfl (by decide) mk_12_becomes w_1988 w_1989 w_1987 rfl rfl (Nat.le_of_ble_eq_true rfl) dL_871 ?_ hroom
  exact lw_eqI F dL_874 rfl (next _ _ hR')
theorem lw_c18 (F : LF p s m meth c D ad cid b L xs) (hroom : nc ≤ 600000 ∧ ns ≤ 7302250) (hi : i + 9 ≤ L) (hR : Rel σC σM) (next : ∀ σC' σM' : Mem, Rel σC' σM' → LJ p l e s m below meth c D ad cid b nc ns (lsL ad b i) 2197 [] σC' σM') : LJ p l e s m below meth c D ad cid b nc ns (lsL ad b i) 879 [] σC σM := by
  obtain ⟨r, σC', σM', hC, hM, hR'⟩ := st_strikes hR (xs (i + 1)) (xs (i + 2)) (xs (i + 3)) (xs (i + 4)) (xs (i + 5)) (xs (i + 6)) (xs (i + 7))
  refine lw_aload 1 F dL_879 rfl rfl ?_
  refine lw_argC (k := 1) F dL_880 dL_881 dL_882 dL_883 dL_884 rfl (by omega) ?_
  refine lw_argC (k := 2) F dL_885 dL_886 dL_887 dL_888 dL_889 rfl (by omega) ?_
  refine lw_argC (k := 3) F dL_890 dL_891 dL_892 dL_893 dL_894 rfl (by omega) ?_
  refine lw_argC (k := 4) F dL_895 dL_896 dL_897 dL_898 dL_899 rfl (by omega) ?_
  refine lw_argC (k := 5) F dL_900 dL_901 dL_902 dL_903 dL_904 rfl (by omega) ?_
  refine lw_argB (k := 6) F dL_905 dL_906 dL_907 dL_909 dL_910 rfl (by omega) ?_
  refine lw_argB (k := 7) F dL_911 dL_912 dL_913 dL_915 dL_916 rfl (by omega) ?_
  refine lw_callC (As := [.int (xs (i + 1)), .int (xs (i + 2)), .int (xs (i + 3)), .int (xs (i + 4)), .int (xs (i + 5)), .int (xs (i + 6)), .int (xs (i + 7))]) (σC' := σC') F (c11_strikes σC (xs (i + 1)) (xs (i + 2)) (xs (i + 3)) (xs (i + 4)) (xs (i + 5)) (xs (i + 6)) (xs (i + 7)) r σC' hC) rfl (by decide) mk_11_strikes w_1108 w_1109 w_1107 rfl rfl (Nat.le_of_ble_eq_true rfl) dL_917 ?_ hroom
  refine lw_aload 2 F dL_920 rfl rfl ?_
  refine lw_argC (k := 1) F dL_921 dL_922 dL_923 dL_924 dL_925 rfl (by omega) ?_
  refine lw_argC (k := 2) F dL_926 dL_927 dL_928 dL_929 dL_930 rfl (by omega) ?_
  refine lw_argC (k := 3) F dL_931 dL_932 dL_933 dL_934 dL_935 rfl (by omega) ?_
  refine lw_argC (k := 4) F dL_936 dL_937 dL_938 dL_939 dL_940 rfl (by omega) ?_
  refine lw_argC (k := 5) F dL_941 dL_942 dL_943 dL_944 dL_945 rfl (by omega) ?_
  refine lw_argB (k := 6) F dL_946 dL_947 dL_948 dL_950 dL_951 rfl (by omega) ?_
  refine lw_argB (k := 7) F dL_952 dL_953 dL_954 dL_956 dL_957 rfl (by omega) ?_
  refine lw_callM (As := [.int (xs (i + 1)), .int (xs (i + 2)), .int (xs (i + 3)), .int (xs (i + 4)), .int (xs (i + 5)), .int (xs (i + 6)), .int (xs (i + 7))]) (σM' := σM') F (c12_strikes σM (xs (i + 1)) (xs (i + 2)) (xs (i + 3)) (xs (i + 4)) (xs (i + 5)) (xs (i + 6)) (xs (i + 7)) r σM' hM) rfl (by decide) mk_12_strikes w_1992 w_1993 w_1991 rfl rfl (Nat.le_of_ble_eq_true rfl) dL_958 ?_ hroom
  exact lw_eqI F dL_961 rfl (next _ _ hR')
theorem lw_c19 (F : LF p s m meth c D ad cid b L xs) (hroom : nc ≤ 600000 ∧ ns ≤ 7302250) (hi : i + 9 ≤ L) (hR : Rel σC σM) (next : ∀ σC' σM' : Mem, Rel σC' σM' → LJ p l e s m below meth c D ad cid b nc ns (lsL ad b i) 2197 [] σC' σM') : LJ p l e s m below meth c D ad cid b nc ns (lsL ad b i) 966 [] σC σM := by
  obtain ⟨r, σC', σM', hC, hM, hR'⟩ := st_points hR (xs (i + 1)) (xs (i + 2))
  refine lw_aload 1 F dL_966 rfl rfl ?_
  refine lw_argC (k := 1) F dL_967 dL_968 dL_969 dL_970 dL_971 rfl (by omega) ?_
  refine lw_argC (k := 2) F dL_972 dL_973 dL_974 dL_975 dL_976 rfl (by omega) ?_
  refine lw_callC (As := [.int (xs (i + 1)), .int (xs (i + 2))]) (σC' := σC') F (c11_points σC (xs (i + 1)) (xs (i + 2)) r σC' hC) rfl (by decide) mk_11_points w_1124 w_1125 w_1123 rfl rfl (Nat.le_of_ble_eq_true rfl) dL_977 ?_ hroom
  refine lw_aload 2 F dL_980 rfl rfl ?_
  refine lw_argC (k := 1) F dL_981 dL_982 dL_983 dL_984 dL_985 rfl (by omega) ?_
  refine lw_argC (k := 2) F dL_986 dL_987 dL_988 dL_989 dL_990 rfl (by omega) ?_
  refine lw_callM (As := [.int (xs (i + 1)), .int (xs (i + 2))]) (σM' := σM') F (c12_points σM (xs (i + 1)) (xs (i + 2)) r σM' hM) rfl (by decide) mk_12_points w_2009 w_2010 w_2008 rfl rfl (Nat.le_of_ble_eq_true rfl) dL_991 ?_ hroom
  exact lw_eqI F dL_994 rfl (next _ _ hR')
theorem lw_c20 (F : LF p s m meth c D ad cid b L xs) (hroom : nc ≤ 600000 ∧ ns ≤ 7302250) (hi : i + 9 ≤ L) (hR : Rel σC σM) (next : ∀ σC' σM' : Mem, Rel σC' σM' → LJ p l e s m below meth c D ad cid b nc ns (lsL ad b i) 2197 [] σC' σM') : LJ p l e s m below meth c D ad cid b nc ns (lsL ad b i) 999 [] σC σM := by
  obtain ⟨r, σC', σM', hC, hM, hR'⟩ := st_ringAt hR (xs (i + 1)) (xs (i + 2))
  refine lw_aload 1 F dL_999 rfl rfl ?_
  refine lw_argC (k := 1) F dL_1000 dL_1001 dL_1002 dL_1003 dL_1004 rfl (by omega) ?_
  refine lw_argC (k := 2) F dL_1005 dL_1006 dL_1007 dL_1008 dL_1009 rfl (by omega) ?_
  refine lw_callC (As := [.int (xs (i + 1)), .int (xs (i + 2))]) (σC' := σC') F (c11_ringAt σC (xs (i + 1)) (xs (i + 2)) r σC' hC) rfl (by decide) mk_11_ringAt w_1136 w_1137 w_1135 rfl rfl (Nat.le_of_ble_eq_true rfl) dL_1010 ?_ hroom
  refine lw_aload 2 F dL_1013 rfl rfl ?_
  refine lw_argC (k := 1) F dL_1014 dL_1015 dL_1016 dL_1017 dL_1018 rfl (by omega) ?_
  refine lw_argC (k := 2) F dL_1019 dL_1020 dL_1021 dL_1022 dL_1023 rfl (by omega) ?_
  refine lw_callM (As := [.int (xs (i + 1)), .int (xs (i + 2))]) (σM' := σM') F (c12_ringAt σM (xs (i + 1)) (xs (i + 2)) r σM' hM) rfl (by decide) mk_12_ringAt w_2026 w_2027 w_2025 rfl rfl (Nat.le_of_ble_eq_true rfl) dL_1024 ?_ hroom
  exact lw_eqI F dL_1027 rfl (next _ _ hR')
theorem lw_c21 (F : LF p s m meth c D ad cid b L xs) (hroom : nc ≤ 600000 ∧ ns ≤ 7302250) (hi : i + 9 ≤ L) (hR : Rel σC σM) (next : ∀ σC' σM' : Mem, Rel σC' σM' → LJ p l e s m below meth c D ad cid b nc ns (lsL ad b i) 2197 [] σC' σM') : LJ p l e s m below meth c D ad cid b nc ns (lsL ad b i) 1032 [] σC σM := by
  obtain ⟨r, σC', σM', hC, hM, hR'⟩ := st_hand hR (xs (i + 1)) (xs (i + 2))
  refine lw_aload 1 F dL_1032 rfl rfl ?_
  refine lw_argC (k := 1) F dL_1033 dL_1034 dL_1035 dL_1036 dL_1037 rfl (by omega) ?_
  refine lw_argC (k := 2) F dL_1038 dL_1039 dL_1040 dL_1041 dL_1042 rfl (by omega) ?_
  refine lw_callC (As := [.int (xs (i + 1)), .int (xs (i + 2))]) (σC' := σC') F (c11_hand σC (xs (i + 1)) (xs (i + 2)) r σC' hC) rfl (by decide) mk_11_hand w_1141 w_1142 w_1140 rfl rfl (Nat.le_of_ble_eq_true rfl) dL_1043 ?_ hroom
  refine lw_aload 2 F dL_1046 rfl rfl ?_
  refine lw_argC (k := 1) F dL_1047 dL_1048 dL_1049 dL_1050 dL_1051 rfl (by omega) ?_
  refine lw_argC (k := 2) F dL_1052 dL_1053 dL_1054 dL_1055 dL_1056 rfl (by omega) ?_
  refine lw_callM (As := [.int (xs (i + 1)), .int (xs (i + 2))]) (σM' := σM') F (c12_hand σM (xs (i + 1)) (xs (i + 2)) r σM' hM) rfl (by decide) mk_12_hand w_2030 w_2031 w_2029 rfl rfl (Nat.le_of_ble_eq_true rfl) dL_1057 ?_ hroom
  exact lw_eqI F dL_1060 rfl (next _ _ hR')
theorem lw_c22 (F : LF p s m meth c D ad cid b L xs) (hroom : nc ≤ 600000 ∧ ns ≤ 7302250) (hi : i + 9 ≤ L) (hR : Rel σC σM) (next : ∀ σC' σM' : Mem, Rel σC' σM' → LJ p l e s m below meth c D ad cid b nc ns (lsL ad b i) 2197 [] σC' σM') : LJ p l e s m below meth c D ad cid b nc ns (lsL ad b i) 1065 [] σC σM := by
  obtain ⟨r, σC', σM', hC, hM, hR'⟩ := st_odds hR (xs (i + 1)) (xs (i + 2)) (xs (i + 3)) (xs (i + 4)) (xs (i + 5)) (xs (i + 6)) (xs (i + 7))
  refine lw_aload 1 F dL_1065 rfl rfl ?_
  refine lw_argC (k := 1) F dL_1066 dL_1067 dL_1068 dL_1069 dL_1070 rfl (by omega) ?_
  refine lw_argC (k := 2) F dL_1071 dL_1072 dL_1073 dL_1074 dL_1075 rfl (by omega) ?_
  refine lw_argC (k := 3) F dL_1076 dL_1077 dL_1078 dL_1079 dL_1080 rfl (by omega) ?_
  refine lw_argC (k := 4) F dL_1081 dL_1082 dL_1083 dL_1084 dL_1085 rfl (by omega) ?_
  refine lw_argC (k := 5) F dL_1086 dL_1087 dL_1088 dL_1089 dL_1090 rfl (by omega) ?_
  refine lw_argB (k := 6) F dL_1091 dL_1092 dL_1093 dL_1095 dL_1096 rfl (by omega) ?_
  refine lw_argB (k := 7) F dL_1097 dL_1098 dL_1099 dL_1101 dL_1102 rfl (by omega) ?_
  refine lw_callC (As := [.int (xs (i + 1)), .int (xs (i + 2)), .int (xs (i + 3)), .int (xs (i + 4)), .int (xs (i + 5)), .int (xs (i + 6)), .int (xs (i + 7))]) (σC' := σC') F (c11_odds σC (xs (i + 1)) (xs (i + 2)) (xs (i + 3)) (xs (i + 4)) (xs (i + 5)) (xs (i + 6)) (xs (i + 7)) r σC' hC) rfl (by decide) mk_11_odds w_1150 w_1151 w_1149 rfl rfl (Nat.le_of_ble_eq_true rfl) dL_1103 ?_ hroom
  refine lw_aload 2 F dL_1106 rfl rfl ?_
  refine lw_argC (k := 1) F dL_1107 dL_1108 dL_1109 dL_1110 dL_1111 rfl (by omega) ?_
  refine lw_argC (k := 2) F dL_1112 dL_1113 dL_1114 dL_1115 dL_1116 rfl (by omega) ?_
  refine lw_argC (k := 3) F dL_1117 dL_1118 dL_1119 dL_1120 dL_1121 rfl (by omega) ?_
  refine lw_argC (k := 4) F dL_1122 dL_1123 dL_1124 dL_1125 dL_1126 rfl (by omega) ?_
  refine lw_argC (k := 5) F dL_1127 dL_1128 dL_1129 dL_1130 dL_1131 rfl (by omega) ?_
  refine lw_argB (k := 6) F dL_1132 dL_1133 dL_1134 dL_1136 dL_1137 rfl (by omega) ?_
  refine lw_argB (k := 7) F dL_1138 dL_1139 dL_1140 dL_1142 dL_1143 rfl (by omega) ?_
  refine lw_callM (As := [.int (xs (i + 1)), .int (xs (i + 2)), .int (xs (i + 3)), .int (xs (i + 4)), .int (xs (i + 5)), .int (xs (i + 6)), .int (xs (i + 7))]) (σM' := σM') F (c12_odds σM (xs (i + 1)) (xs (i + 2)) (xs (i + 3)) (xs (i + 4)) (xs (i + 5)) (xs (i + 6)) (xs (i + 7)) r σM' hM) rfl (by decide) mk_12_odds w_2039 w_2040 w_2038 rfl rfl (Nat.le_of_ble_eq_true rfl) dL_1144 ?_ hroom
  exact lw_eqI F dL_1147 rfl (next _ _ hR')
end LWX
