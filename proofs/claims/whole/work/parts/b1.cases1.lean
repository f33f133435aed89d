/-! THE LAW'S CASES 0 to 13 -/
set_option maxRecDepth 20000 in
set_option maxHeartbeats 4000000 in
theorem case_0 {p : Program} {l : Launch} {e : Env} {s : State} {m : MethodId} {args : Array Value} {below : List Frame} {meth : Method} {c : Code} {H : Heap} {locs : List Loc} {cells slots B k b L : Nat} {Q : State → Prop} {ls : Array Slot} {g : GP} {M : Mem} {xs : Nat → Int32} (hst0 : l.stackTraces = false) (X : CX g l p s m args meth c RL cL_law 9) (hX : va_X b L xs s (gH g)) (hbl : b < gN g) (hk : 5 * k + 5 ≤ L) (hL2 : L ≤ 2560) (hH : HR g M H) (hL : LK g s H locs) (hG : GI B M) (hB : B + 600 ≤ 2 ^ 20) (hf : cells + 1 ≤ 603072 ∧ slots + 6 ≤ 7198826) (hl : lv_has ls 9 (LVl g b k))
    (kk : ∀ H1 locs1 M1 ls1, HR g M1 H1 → LK g s H1 locs1 → GI (B + 600) M1 → lv_has ls1 9 (LVl g b k) → W p l e room_1 s m args below meth c H1 locs1 (cells + 1) (slots + 6) Q (F0 m 2994 ls1 [])) : W p l e room_1 s m args below meth c H locs cells slots Q (F0 m 280 ls []) := by
  have hx := X.1
  have hb := X.2.1
  obtain ⟨k9, M1, b9, M2, e1, e2, e3, e4, hG2⟩ := call_addSection hG (((xs (5 * k + 1)).toUInt32 % 65536).toInt32) (xs (5 * k + 2)) (xs (5 * k + 3))
  refine lv_aload_n hx hb dL_law_280 rfl (lv_at hl 2 rfl) ?_
  refine w_ar (jn := 1) X hH hX hbl hk hL2 hl 1 rfl 0 rfl (by decide) rfl dL_law_281 dL_law_282 dL_law_284 dL_law_285 dL_law_286 ?_
  refine lv_i2c hx hb dL_law_287 rfl ?_
  refine w_ar (jn := 2) X hH hX hbl hk hL2 hl 1 rfl 0 rfl (by decide) rfl dL_law_288 dL_law_289 dL_law_291 dL_law_292 dL_law_293 ?_
  refine w_ar (jn := 3) X hH hX hbl hk hL2 hl 1 rfl 0 rfl (by decide) rfl dL_law_294 dL_law_295 dL_law_297 dL_law_298 dL_law_299 ?_
  refine lv_aload_n hx hb dL_law_300 rfl (lv_at hl 4 rfl) ?_
  refine w_call X hH hL hl.1 (co_L_addSection g l hst0 1 (((xs (5 * k + 1)).toUInt32 % 65536).toInt32) (xs (5 * k + 2)) (xs (5 * k + 3)) 213 M (by decide) (by decide) k9 M1 e1) ok_L_addSection U650 rfl rfl ⟨(Nat.le_of_ble_eq_true rfl), (Nat.le_of_ble_eq_true rfl)⟩ hf (Nat.zero_le _) dL_law_301 (fun H locs hH hL => ?_)
  refine lv_istore (lv' := (6, .int k9) :: LVl g b k) hx hb dL_law_304 hl (by decide) rfl (fun ls hl => ?_)
  refine lv_aload_n hx hb dL_law_306 rfl (lv_at hl 4 rfl) ?_
  refine w_ar (jn := 1) X hH hX hbl hk hL2 hl 2 rfl 1 rfl (by decide) rfl dL_law_307 dL_law_308 dL_law_310 dL_law_311 dL_law_312 ?_
  refine lv_i2c hx hb dL_law_313 rfl ?_
  refine w_ar (jn := 2) X hH hX hbl hk hL2 hl 2 rfl 1 rfl (by decide) rfl dL_law_314 dL_law_315 dL_law_317 dL_law_318 dL_law_319 ?_
  refine w_ar (jn := 3) X hH hX hbl hk hL2 hl 2 rfl 1 rfl (by decide) rfl dL_law_320 dL_law_321 dL_law_323 dL_law_324 dL_law_325 ?_
  refine my_done hL (my_runV X hH hl.1 (co_X9_addSection g l hst0 204 (((xs (5 * k + 1)).toUInt32 % 65536).toInt32) (xs (5 * k + 2)) (xs (5 * k + 3)) M1 (by decide) b9 M2 e2) ok_X9_addSection U1342 (show tyT 204 = 9 by decide) rfl (by decide) rfl rfl rfl ⟨(Nat.le_of_ble_eq_true rfl), (Nat.le_of_ble_eq_true rfl)⟩ hf (Nat.zero_le _) dL_law_326) (fun H locs hH hL => ?_)
  refine lv_istore (lv' := (7, .int b9) :: (6, .int k9) :: LVl g b k) hx hb dL_law_329 hl (by decide) rfl (fun ls hl => ?_)
  refine w_thr (v := k9) hst0 X hH hL hl ⟨(Nat.le_of_ble_eq_true rfl), (Nat.le_of_ble_eq_true rfl)⟩ hf 5 rfl 1 rfl e3 U1274 dL_law_331 dL_law_332 dL_law_335 dL_law_337 (fun H locs hH hL => ?_) (Nat.zero_le _)
  refine w_cmpI (tg := 2994) (o2 := 2635) X hH hl 6 rfl 1 rfl 0 rfl e4 dL_law_342 dL_law_344 dL_law_347 dL_law_348 dL_law_349 dL_law_350 dL_law_352 dL_law_353 dL_law_354 dL_law_359 (by decide) ?_
  exact kk H locs M2 ls hH hL (hG2.up (by omega)) (lv_sub hl [2, 3, 4, 5, 6, 7] rfl)
set_option maxRecDepth 20000 in
set_option maxHeartbeats 4000000 in
theorem case_1 {p : Program} {l : Launch} {e : Env} {s : State} {m : MethodId} {args : Array Value} {below : List Frame} {meth : Method} {c : Code} {H : Heap} {locs : List Loc} {cells slots B k b L : Nat} {Q : State → Prop} {ls : Array Slot} {g : GP} {M : Mem} {xs : Nat → Int32} (hst0 : l.stackTraces = false) (X : CX g l p s m args meth c RL cL_law 9) (hX : va_X b L xs s (gH g)) (hbl : b < gN g) (hk : 5 * k + 5 ≤ L) (hL2 : L ≤ 2560) (hH : HR g M H) (hL : LK g s H locs) (hG : GI B M) (hB : B + 600 ≤ 2 ^ 20) (hf : cells + 1 ≤ 603072 ∧ slots + 6 ≤ 7198826) (hl : lv_has ls 9 (LVl g b k))
    (kk : ∀ H1 locs1 M1 ls1, HR g M1 H1 → LK g s H1 locs1 → GI (B + 600) M1 → lv_has ls1 9 (LVl g b k) → W p l e room_1 s m args below meth c H1 locs1 (cells + 1) (slots + 6) Q (F0 m 2994 ls1 [])) : W p l e room_1 s m args below meth c H locs cells slots Q (F0 m 362 ls []) := by
  have hx := X.1
  have hb := X.2.1
  obtain ⟨k9, M1, b9, M2, e1, e2, e3, e4, hG2⟩ := call_removeSection hG (xs (5 * k + 1))
  refine lv_aload_n hx hb dL_law_362 rfl (lv_at hl 2 rfl) ?_
  refine w_ar (jn := 1) X hH hX hbl hk hL2 hl 1 rfl 0 rfl (by decide) rfl dL_law_363 dL_law_364 dL_law_366 dL_law_367 dL_law_368 ?_
  refine lv_aload_n hx hb dL_law_369 rfl (lv_at hl 4 rfl) ?_
  refine w_call X hH hL hl.1 (co_L_removeSection g l hst0 1 (xs (5 * k + 1)) 213 M (by decide) (by decide) k9 M1 e1) ok_L_removeSection U670 rfl rfl ⟨(Nat.le_of_ble_eq_true rfl), (Nat.le_of_ble_eq_true rfl)⟩ hf (Nat.zero_le _) dL_law_370 (fun H locs hH hL => ?_)
  refine lv_istore (lv' := (6, .int k9) :: LVl g b k) hx hb dL_law_373 hl (by decide) rfl (fun ls hl => ?_)
  refine lv_aload_n hx hb dL_law_375 rfl (lv_at hl 4 rfl) ?_
  refine w_ar (jn := 1) X hH hX hbl hk hL2 hl 2 rfl 1 rfl (by decide) rfl dL_law_376 dL_law_377 dL_law_379 dL_law_380 dL_law_381 ?_
  refine my_done hL (my_runV X hH hl.1 (co_X9_removeSection g l hst0 204 (xs (5 * k + 1)) M1 (by decide) b9 M2 e2) ok_X9_removeSection U1380 (show tyT 204 = 9 by decide) rfl (by decide) rfl rfl rfl ⟨(Nat.le_of_ble_eq_true rfl), (Nat.le_of_ble_eq_true rfl)⟩ hf (Nat.zero_le _) dL_law_382) (fun H locs hH hL => ?_)
  refine lv_istore (lv' := (7, .int b9) :: (6, .int k9) :: LVl g b k) hx hb dL_law_385 hl (by decide) rfl (fun ls hl => ?_)
  refine w_thr (v := k9) hst0 X hH hL hl ⟨(Nat.le_of_ble_eq_true rfl), (Nat.le_of_ble_eq_true rfl)⟩ hf 5 rfl 1 rfl e3 U1274 dL_law_387 dL_law_388 dL_law_391 dL_law_393 (fun H locs hH hL => ?_) (Nat.zero_le _)
  refine w_cmpI (tg := 2994) (o2 := 2579) X hH hl 6 rfl 1 rfl 0 rfl e4 dL_law_398 dL_law_400 dL_law_403 dL_law_404 dL_law_405 dL_law_406 dL_law_408 dL_law_409 dL_law_410 dL_law_415 (by decide) ?_
  exact kk H locs M2 ls hH hL (hG2.up (by omega)) (lv_sub hl [2, 3, 4, 5, 6, 7] rfl)
set_option maxRecDepth 20000 in
set_option maxHeartbeats 4000000 in
theorem case_2 {p : Program} {l : Launch} {e : Env} {s : State} {m : MethodId} {args : Array Value} {below : List Frame} {meth : Method} {c : Code} {H : Heap} {locs : List Loc} {cells slots B k b L : Nat} {Q : State → Prop} {ls : Array Slot} {g : GP} {M : Mem} {xs : Nat → Int32} (hst0 : l.stackTraces = false) (X : CX g l p s m args meth c RL cL_law 9) (hX : va_X b L xs s (gH g)) (hbl : b < gN g) (hk : 5 * k + 5 ≤ L) (hL2 : L ≤ 2560) (hH : HR g M H) (hL : LK g s H locs) (hG : GI B M) (hB : B + 600 ≤ 2 ^ 20) (hf : cells + 1 ≤ 603072 ∧ slots + 6 ≤ 7198826) (hl : lv_has ls 9 (LVl g b k))
    (kk : ∀ H1 locs1 M1 ls1, HR g M1 H1 → LK g s H1 locs1 → GI (B + 600) M1 → lv_has ls1 9 (LVl g b k) → W p l e room_1 s m args below meth c H1 locs1 (cells + 1) (slots + 6) Q (F0 m 2994 ls1 [])) : W p l e room_1 s m args below meth c H locs cells slots Q (F0 m 418 ls []) := by
  have hx := X.1
  have hb := X.2.1
  obtain ⟨k9, M1, b9, M2, e1, e2, e3, e4, hG2⟩ := call_setNote hG (xs (5 * k + 1)) (xs (5 * k + 2)) (xs (5 * k + 3)) (xs (5 * k + 4))
  refine lv_aload_n hx hb dL_law_418 rfl (lv_at hl 2 rfl) ?_
  refine w_ar (jn := 1) X hH hX hbl hk hL2 hl 1 rfl 0 rfl (by decide) rfl dL_law_419 dL_law_420 dL_law_422 dL_law_423 dL_law_424 ?_
  refine w_ar (jn := 2) X hH hX hbl hk hL2 hl 1 rfl 0 rfl (by decide) rfl dL_law_425 dL_law_426 dL_law_428 dL_law_429 dL_law_430 ?_
  refine w_ar (jn := 3) X hH hX hbl hk hL2 hl 1 rfl 0 rfl (by decide) rfl dL_law_431 dL_law_432 dL_law_434 dL_law_435 dL_law_436 ?_
  refine w_ar (jn := 4) X hH hX hbl hk hL2 hl 1 rfl 0 rfl (by decide) rfl dL_law_437 dL_law_438 dL_law_440 dL_law_441 dL_law_442 ?_
  refine lv_aload_n hx hb dL_law_443 rfl (lv_at hl 4 rfl) ?_
  refine w_call X hH hL hl.1 (co_L_setNote g l hst0 1 (xs (5 * k + 1)) (xs (5 * k + 2)) (xs (5 * k + 3)) (xs (5 * k + 4)) 213 M (by decide) (by decide) k9 M1 e1) ok_L_setNote U703 rfl rfl ⟨(Nat.le_of_ble_eq_true rfl), (Nat.le_of_ble_eq_true rfl)⟩ hf (Nat.zero_le _) dL_law_444 (fun H locs hH hL => ?_)
  refine lv_istore (lv' := (6, .int k9) :: LVl g b k) hx hb dL_law_447 hl (by decide) rfl (fun ls hl => ?_)
  refine lv_aload_n hx hb dL_law_449 rfl (lv_at hl 4 rfl) ?_
  refine w_ar (jn := 1) X hH hX hbl hk hL2 hl 2 rfl 1 rfl (by decide) rfl dL_law_450 dL_law_451 dL_law_453 dL_law_454 dL_law_455 ?_
  refine w_ar (jn := 2) X hH hX hbl hk hL2 hl 2 rfl 1 rfl (by decide) rfl dL_law_456 dL_law_457 dL_law_459 dL_law_460 dL_law_461 ?_
  refine w_ar (jn := 3) X hH hX hbl hk hL2 hl 2 rfl 1 rfl (by decide) rfl dL_law_462 dL_law_463 dL_law_465 dL_law_466 dL_law_467 ?_
  refine w_ar (jn := 4) X hH hX hbl hk hL2 hl 2 rfl 1 rfl (by decide) rfl dL_law_468 dL_law_469 dL_law_471 dL_law_472 dL_law_473 ?_
  refine my_done hL (my_runV X hH hl.1 (co_X9_setNote g l hst0 204 (xs (5 * k + 1)) (xs (5 * k + 2)) (xs (5 * k + 3)) (xs (5 * k + 4)) M1 (by decide) b9 M2 e2) ok_X9_setNote U1392 (show tyT 204 = 9 by decide) rfl (by decide) rfl rfl rfl ⟨(Nat.le_of_ble_eq_true rfl), (Nat.le_of_ble_eq_true rfl)⟩ hf (Nat.zero_le _) dL_law_474) (fun H locs hH hL => ?_)
  refine lv_istore (lv' := (7, .int b9) :: (6, .int k9) :: LVl g b k) hx hb dL_law_477 hl (by decide) rfl (fun ls hl => ?_)
  refine w_thr (v := k9) hst0 X hH hL hl ⟨(Nat.le_of_ble_eq_true rfl), (Nat.le_of_ble_eq_true rfl)⟩ hf 5 rfl 1 rfl e3 U1274 dL_law_479 dL_law_480 dL_law_483 dL_law_485 (fun H locs hH hL => ?_) (Nat.zero_le _)
  refine w_cmpI (tg := 2994) (o2 := 2487) X hH hl 6 rfl 1 rfl 0 rfl e4 dL_law_490 dL_law_492 dL_law_495 dL_law_496 dL_law_497 dL_law_498 dL_law_500 dL_law_501 dL_law_502 dL_law_507 (by decide) ?_
  exact kk H locs M2 ls hH hL (hG2.up (by omega)) (lv_sub hl [2, 3, 4, 5, 6, 7] rfl)
set_option maxRecDepth 20000 in
set_option maxHeartbeats 4000000 in
theorem case_3 {p : Program} {l : Launch} {e : Env} {s : State} {m : MethodId} {args : Array Value} {below : List Frame} {meth : Method} {c : Code} {H : Heap} {locs : List Loc} {cells slots B k b L : Nat} {Q : State → Prop} {ls : Array Slot} {g : GP} {M : Mem} {xs : Nat → Int32} (hst0 : l.stackTraces = false) (X : CX g l p s m args meth c RL cL_law 9) (hX : va_X b L xs s (gH g)) (hbl : b < gN g) (hk : 5 * k + 5 ≤ L) (hL2 : L ≤ 2560) (hH : HR g M H) (hL : LK g s H locs) (hG : GI B M) (hB : B + 600 ≤ 2 ^ 20) (hf : cells + 1 ≤ 603072 ∧ slots + 6 ≤ 7198826) (hl : lv_has ls 9 (LVl g b k))
    (kk : ∀ H1 locs1 M1 ls1, HR g M1 H1 → LK g s H1 locs1 → GI (B + 600) M1 → lv_has ls1 9 (LVl g b k) → W p l e room_1 s m args below meth c H1 locs1 (cells + 1) (slots + 6) Q (F0 m 2994 ls1 [])) : W p l e room_1 s m args below meth c H locs cells slots Q (F0 m 510 ls []) := by
  have hx := X.1
  have hb := X.2.1
  by_cases hq : xs (5 * k + 3) = 0
  · obtain ⟨k9, M1, b9, M2, e1, e2, e3, e4, hG2⟩ := call_setMasked hG (xs (5 * k + 1)) (xs (5 * k + 2)) (o := 0) (by decide)
    refine lv_aload_n hx hb dL_law_510 rfl (lv_at hl 2 rfl) ?_
    refine w_ar (jn := 1) X hH hX hbl hk hL2 hl 1 rfl 0 rfl (by decide) rfl dL_law_511 dL_law_512 dL_law_514 dL_law_515 dL_law_516 ?_
    refine w_ar (jn := 2) X hH hX hbl hk hL2 hl 1 rfl 0 rfl (by decide) rfl dL_law_517 dL_law_518 dL_law_520 dL_law_521 dL_law_522 ?_
    refine w_ar (jn := 3) X hH hX hbl hk hL2 hl 1 rfl 0 rfl (by decide) rfl dL_law_523 dL_law_524 dL_law_526 dL_law_527 dL_law_528 ?_
    refine lv_if_eq (tgt := 536) hx hb dL_law_529 (by decide) (fun _ => ?_) (fun h => absurd hq h)
    refine lv_iconst (v := nI 0) hx hb dL_law_536 (by decide) ?_
    refine lv_aload_n hx hb dL_law_537 rfl (lv_at hl 4 rfl) ?_
    refine w_call X hH hL hl.1 (co_L_setMasked g l hst0 1 (xs (5 * k + 1)) (xs (5 * k + 2)) (nI 0) 213 M (by decide) (by decide) k9 M1 e1) ok_L_setMasked U720 rfl rfl ⟨(Nat.le_of_ble_eq_true rfl), (Nat.le_of_ble_eq_true rfl)⟩ hf (Nat.zero_le _) dL_law_538 (fun H locs hH hL => ?_)
    refine lv_istore (lv' := (6, .int k9) :: LVl g b k) hx hb dL_law_541 hl (by decide) rfl (fun ls hl => ?_)
    refine lv_aload_n hx hb dL_law_543 rfl (lv_at hl 4 rfl) ?_
    refine w_ar (jn := 1) X hH hX hbl hk hL2 hl 2 rfl 1 rfl (by decide) rfl dL_law_544 dL_law_545 dL_law_547 dL_law_548 dL_law_549 ?_
    refine w_ar (jn := 2) X hH hX hbl hk hL2 hl 2 rfl 1 rfl (by decide) rfl dL_law_550 dL_law_551 dL_law_553 dL_law_554 dL_law_555 ?_
    refine w_ar (jn := 3) X hH hX hbl hk hL2 hl 2 rfl 1 rfl (by decide) rfl dL_law_556 dL_law_557 dL_law_559 dL_law_560 dL_law_561 ?_
    refine lv_if_eq (tgt := 569) hx hb dL_law_562 (by decide) (fun _ => ?_) (fun h => absurd hq h)
    refine lv_iconst (v := nI 0) hx hb dL_law_569 (by decide) ?_
    refine my_done hL (my_runV X hH hl.1 (co_X9_setMasked g l hst0 204 (xs (5 * k + 1)) (xs (5 * k + 2)) (nI 0) M1 (by decide) b9 M2 e2) ok_X9_setMasked U1420 (show tyT 204 = 9 by decide) rfl (by decide) rfl rfl rfl ⟨(Nat.le_of_ble_eq_true rfl), (Nat.le_of_ble_eq_true rfl)⟩ hf (Nat.zero_le _) dL_law_570) (fun H locs hH hL => ?_)
    refine lv_istore (lv' := (7, .int b9) :: (6, .int k9) :: LVl g b k) hx hb dL_law_573 hl (by decide) rfl (fun ls hl => ?_)
    refine w_thr (v := k9) hst0 X hH hL hl ⟨(Nat.le_of_ble_eq_true rfl), (Nat.le_of_ble_eq_true rfl)⟩ hf 5 rfl 1 rfl e3 U1274 dL_law_575 dL_law_576 dL_law_579 dL_law_581 (fun H locs hH hL => ?_) (Nat.zero_le _)
    refine w_cmpZ (tg := 2994) (o2 := 2384) X hH hl 6 rfl 1 rfl 0 rfl e4 (oa_setMasked _ _ _ _ _ _ _ e2) dL_law_586 dL_law_588 dL_law_591 dL_law_592 dL_law_593 dL_law_594 dL_law_596 dL_law_599 dL_law_600 dL_law_603 dL_law_604 dL_law_605 dL_law_610 (by decide) ?_
    exact kk H locs M2 ls hH hL (hG2.up (by omega)) (lv_sub hl [2, 3, 4, 5, 6, 7] rfl)
  · obtain ⟨k9, M1, b9, M2, e1, e2, e3, e4, hG2⟩ := call_setMasked hG (xs (5 * k + 1)) (xs (5 * k + 2)) (o := 1) (by decide)
    refine lv_aload_n hx hb dL_law_510 rfl (lv_at hl 2 rfl) ?_
    refine w_ar (jn := 1) X hH hX hbl hk hL2 hl 1 rfl 0 rfl (by decide) rfl dL_law_511 dL_law_512 dL_law_514 dL_law_515 dL_law_516 ?_
    refine w_ar (jn := 2) X hH hX hbl hk hL2 hl 1 rfl 0 rfl (by decide) rfl dL_law_517 dL_law_518 dL_law_520 dL_law_521 dL_law_522 ?_
    refine w_ar (jn := 3) X hH hX hbl hk hL2 hl 1 rfl 0 rfl (by decide) rfl dL_law_523 dL_law_524 dL_law_526 dL_law_527 dL_law_528 ?_
    refine lv_if_eq (tgt := 536) hx hb dL_law_529 (by decide) (fun h => absurd h hq) (fun _ => ?_)
    refine lv_iconst (v := nI 1) hx hb dL_law_532 (by decide) ?_
    refine lv_goto (tgt := 537) hx hb dL_law_533 (by decide) ?_
    refine lv_aload_n hx hb dL_law_537 rfl (lv_at hl 4 rfl) ?_
    refine w_call X hH hL hl.1 (co_L_setMasked g l hst0 1 (xs (5 * k + 1)) (xs (5 * k + 2)) (nI 1) 213 M (by decide) (by decide) k9 M1 e1) ok_L_setMasked U720 rfl rfl ⟨(Nat.le_of_ble_eq_true rfl), (Nat.le_of_ble_eq_true rfl)⟩ hf (Nat.zero_le _) dL_law_538 (fun H locs hH hL => ?_)
    refine lv_istore (lv' := (6, .int k9) :: LVl g b k) hx hb dL_law_541 hl (by decide) rfl (fun ls hl => ?_)
    refine lv_aload_n hx hb dL_law_543 rfl (lv_at hl 4 rfl) ?_
    refine w_ar (jn := 1) X hH hX hbl hk hL2 hl 2 rfl 1 rfl (by decide) rfl dL_law_544 dL_law_545 dL_law_547 dL_law_548 dL_law_549 ?_
    refine w_ar (jn := 2) X hH hX hbl hk hL2 hl 2 rfl 1 rfl (by decide) rfl dL_law_550 dL_law_551 dL_law_553 dL_law_554 dL_law_555 ?_
    refine w_ar (jn := 3) X hH hX hbl hk hL2 hl 2 rfl 1 rfl (by decide) rfl dL_law_556 dL_law_557 dL_law_559 dL_law_560 dL_law_561 ?_
    refine lv_if_eq (tgt := 569) hx hb dL_law_562 (by decide) (fun h => absurd h hq) (fun _ => ?_)
    refine lv_iconst (v := nI 1) hx hb dL_law_565 (by decide) ?_
    refine lv_goto (tgt := 570) hx hb dL_law_566 (by decide) ?_
    refine my_done hL (my_runV X hH hl.1 (co_X9_setMasked g l hst0 204 (xs (5 * k + 1)) (xs (5 * k + 2)) (nI 1) M1 (by decide) b9 M2 e2) ok_X9_setMasked U1420 (show tyT 204 = 9 by decide) rfl (by decide) rfl rfl rfl ⟨(Nat.le_of_ble_eq_true rfl), (Nat.le_of_ble_eq_true rfl)⟩ hf (Nat.zero_le _) dL_law_570) (fun H locs hH hL => ?_)
    refine lv_istore (lv' := (7, .int b9) :: (6, .int k9) :: LVl g b k) hx hb dL_law_573 hl (by decide) rfl (fun ls hl => ?_)
    refine w_thr (v := k9) hst0 X hH hL hl ⟨(Nat.le_of_ble_eq_true rfl), (Nat.le_of_ble_eq_true rfl)⟩ hf 5 rfl 1 rfl e3 U1274 dL_law_575 dL_law_576 dL_law_579 dL_law_581 (fun H locs hH hL => ?_) (Nat.zero_le _)
    refine w_cmpZ (tg := 2994) (o2 := 2384) X hH hl 6 rfl 1 rfl 0 rfl e4 (oa_setMasked _ _ _ _ _ _ _ e2) dL_law_586 dL_law_588 dL_law_591 dL_law_592 dL_law_593 dL_law_594 dL_law_596 dL_law_599 dL_law_600 dL_law_603 dL_law_604 dL_law_605 dL_law_610 (by decide) ?_
    exact kk H locs M2 ls hH hL (hG2.up (by omega)) (lv_sub hl [2, 3, 4, 5, 6, 7] rfl)
set_option maxRecDepth 20000 in
set_option maxHeartbeats 4000000 in
theorem case_4 {p : Program} {l : Launch} {e : Env} {s : State} {m : MethodId} {args : Array Value} {below : List Frame} {meth : Method} {c : Code} {H : Heap} {locs : List Loc} {cells slots B k b L : Nat} {Q : State → Prop} {ls : Array Slot} {g : GP} {M : Mem} {xs : Nat → Int32} (hst0 : l.stackTraces = false) (X : CX g l p s m args meth c RL cL_law 9) (hX : va_X b L xs s (gH g)) (hbl : b < gN g) (hk : 5 * k + 5 ≤ L) (hL2 : L ≤ 2560) (hH : HR g M H) (hL : LK g s H locs) (hG : GI B M) (hB : B + 600 ≤ 2 ^ 20) (hf : cells + 1 ≤ 603072 ∧ slots + 6 ≤ 7198826) (hl : lv_has ls 9 (LVl g b k))
    (kk : ∀ H1 locs1 M1 ls1, HR g M1 H1 → LK g s H1 locs1 → GI (B + 600) M1 → lv_has ls1 9 (LVl g b k) → W p l e room_1 s m args below meth c H1 locs1 (cells + 1) (slots + 6) Q (F0 m 2994 ls1 [])) : W p l e room_1 s m args below meth c H locs cells slots Q (F0 m 613 ls []) := by
  have hx := X.1
  have hb := X.2.1
  obtain ⟨k9, M1, b9, M2, e1, e2, e3, e4, hG2⟩ := call_transpose hG (xs (5 * k + 1))
  refine lv_aload_n hx hb dL_law_613 rfl (lv_at hl 2 rfl) ?_
  refine w_ar (jn := 1) X hH hX hbl hk hL2 hl 1 rfl 0 rfl (by decide) rfl dL_law_614 dL_law_615 dL_law_617 dL_law_618 dL_law_619 ?_
  refine lv_aload_n hx hb dL_law_620 rfl (lv_at hl 4 rfl) ?_
  refine w_call X hH hL hl.1 (co_L_transpose g l hst0 1 (xs (5 * k + 1)) 213 M (by decide) (by decide) k9 M1 e1) ok_L_transpose U738 rfl rfl ⟨(Nat.le_of_ble_eq_true rfl), (Nat.le_of_ble_eq_true rfl)⟩ hf (Nat.zero_le _) dL_law_621 (fun H locs hH hL => ?_)
  refine lv_istore (lv' := (6, .int k9) :: LVl g b k) hx hb dL_law_624 hl (by decide) rfl (fun ls hl => ?_)
  refine lv_aload_n hx hb dL_law_626 rfl (lv_at hl 4 rfl) ?_
  refine w_ar (jn := 1) X hH hX hbl hk hL2 hl 2 rfl 1 rfl (by decide) rfl dL_law_627 dL_law_628 dL_law_630 dL_law_631 dL_law_632 ?_
  refine my_done hL (my_runV X hH hl.1 (co_X9_transpose g l hst0 204 (xs (5 * k + 1)) M1 (by decide) b9 M2 e2) ok_X9_transpose U1436 (show tyT 204 = 9 by decide) rfl (by decide) rfl rfl rfl ⟨(Nat.le_of_ble_eq_true rfl), (Nat.le_of_ble_eq_true rfl)⟩ hf (Nat.zero_le _) dL_law_633) (fun H locs hH hL => ?_)
  refine lv_istore (lv' := (7, .int b9) :: (6, .int k9) :: LVl g b k) hx hb dL_law_636 hl (by decide) rfl (fun ls hl => ?_)
  refine w_thr (v := k9) hst0 X hH hL hl ⟨(Nat.le_of_ble_eq_true rfl), (Nat.le_of_ble_eq_true rfl)⟩ hf 5 rfl 1 rfl e3 U1274 dL_law_638 dL_law_639 dL_law_642 dL_law_644 (fun H locs hH hL => ?_) (Nat.zero_le _)
  refine w_cmpI (tg := 2994) (o2 := 2328) X hH hl 6 rfl 1 rfl 0 rfl e4 dL_law_649 dL_law_651 dL_law_654 dL_law_655 dL_law_656 dL_law_657 dL_law_659 dL_law_660 dL_law_661 dL_law_666 (by decide) ?_
  exact kk H locs M2 ls hH hL (hG2.up (by omega)) (lv_sub hl [2, 3, 4, 5, 6, 7] rfl)
set_option maxRecDepth 20000 in
set_option maxHeartbeats 4000000 in
theorem case_5 {p : Program} {l : Launch} {e : Env} {s : State} {m : MethodId} {args : Array Value} {below : List Frame} {meth : Method} {c : Code} {H : Heap} {locs : List Loc} {cells slots B k b L : Nat} {Q : State → Prop} {ls : Array Slot} {g : GP} {M : Mem} {xs : Nat → Int32} (hst0 : l.stackTraces = false) (X : CX g l p s m args meth c RL cL_law 9) (hX : va_X b L xs s (gH g)) (hbl : b < gN g) (hk : 5 * k + 5 ≤ L) (hL2 : L ≤ 2560) (hH : HR g M H) (hL : LK g s H locs) (hG : GI B M) (hB : B + 600 ≤ 2 ^ 20) (hf : cells + 1 ≤ 603072 ∧ slots + 6 ≤ 7198826) (hl : lv_has ls 9 (LVl g b k))
    (kk : ∀ H1 locs1 M1 ls1, HR g M1 H1 → LK g s H1 locs1 → GI (B + 600) M1 → lv_has ls1 9 (LVl g b k) → W p l e room_1 s m args below meth c H1 locs1 (cells + 1) (slots + 6) Q (F0 m 2994 ls1 [])) : W p l e room_1 s m args below meth c H locs cells slots Q (F0 m 669 ls []) := by
  have hx := X.1
  have hb := X.2.1
  obtain ⟨k9, M1, b9, M2, e1, e2, e3, e4, hG2⟩ := call_reverse hG (xs (5 * k + 1))
  refine lv_aload_n hx hb dL_law_669 rfl (lv_at hl 2 rfl) ?_
  refine w_ar (jn := 1) X hH hX hbl hk hL2 hl 1 rfl 0 rfl (by decide) rfl dL_law_670 dL_law_671 dL_law_673 dL_law_674 dL_law_675 ?_
  refine lv_aload_n hx hb dL_law_676 rfl (lv_at hl 4 rfl) ?_
  refine w_call X hH hL hl.1 (co_L_reverse g l hst0 1 (xs (5 * k + 1)) 213 M (by decide) (by decide) k9 M1 e1) ok_L_reverse U750 rfl rfl ⟨(Nat.le_of_ble_eq_true rfl), (Nat.le_of_ble_eq_true rfl)⟩ hf (Nat.zero_le _) dL_law_677 (fun H locs hH hL => ?_)
  refine lv_istore (lv' := (6, .int k9) :: LVl g b k) hx hb dL_law_680 hl (by decide) rfl (fun ls hl => ?_)
  refine lv_aload_n hx hb dL_law_682 rfl (lv_at hl 4 rfl) ?_
  refine w_ar (jn := 1) X hH hX hbl hk hL2 hl 2 rfl 1 rfl (by decide) rfl dL_law_683 dL_law_684 dL_law_686 dL_law_687 dL_law_688 ?_
  refine my_done hL (my_runV X hH hl.1 (co_X9_reverse g l hst0 204 (xs (5 * k + 1)) M1 (by decide) b9 M2 e2) ok_X9_reverse U1444 (show tyT 204 = 9 by decide) rfl (by decide) rfl rfl rfl ⟨(Nat.le_of_ble_eq_true rfl), (Nat.le_of_ble_eq_true rfl)⟩ hf (Nat.zero_le _) dL_law_689) (fun H locs hH hL => ?_)
  refine lv_istore (lv' := (7, .int b9) :: (6, .int k9) :: LVl g b k) hx hb dL_law_692 hl (by decide) rfl (fun ls hl => ?_)
  refine w_thr (v := k9) hst0 X hH hL hl ⟨(Nat.le_of_ble_eq_true rfl), (Nat.le_of_ble_eq_true rfl)⟩ hf 5 rfl 1 rfl e3 U1274 dL_law_694 dL_law_695 dL_law_698 dL_law_700 (fun H locs hH hL => ?_) (Nat.zero_le _)
  refine w_cmpI (tg := 2994) (o2 := 2272) X hH hl 6 rfl 1 rfl 0 rfl e4 dL_law_705 dL_law_707 dL_law_710 dL_law_711 dL_law_712 dL_law_713 dL_law_715 dL_law_716 dL_law_717 dL_law_722 (by decide) ?_
  exact kk H locs M2 ls hH hL (hG2.up (by omega)) (lv_sub hl [2, 3, 4, 5, 6, 7] rfl)
set_option maxRecDepth 20000 in
set_option maxHeartbeats 4000000 in
theorem case_6 {p : Program} {l : Launch} {e : Env} {s : State} {m : MethodId} {args : Array Value} {below : List Frame} {meth : Method} {c : Code} {H : Heap} {locs : List Loc} {cells slots B k b L : Nat} {Q : State → Prop} {ls : Array Slot} {g : GP} {M : Mem} {xs : Nat → Int32} (hst0 : l.stackTraces = false) (X : CX g l p s m args meth c RL cL_law 9) (hX : va_X b L xs s (gH g)) (hbl : b < gN g) (hk : 5 * k + 5 ≤ L) (hL2 : L ≤ 2560) (hH : HR g M H) (hL : LK g s H locs) (hG : GI B M) (hB : B + 600 ≤ 2 ^ 20) (hf : cells + 1 ≤ 603072 ∧ slots + 6 ≤ 7198826) (hl : lv_has ls 9 (LVl g b k))
    (kk : ∀ H1 locs1 M1 ls1, HR g M1 H1 → LK g s H1 locs1 → GI (B + 600) M1 → lv_has ls1 9 (LVl g b k) → W p l e room_1 s m args below meth c H1 locs1 (cells + 1) (slots + 6) Q (F0 m 2994 ls1 [])) : W p l e room_1 s m args below meth c H locs cells slots Q (F0 m 725 ls []) := by
  have hx := X.1
  have hb := X.2.1
  obtain ⟨k9, M1, b9, M2, e1, e2, e3, e4, hG2⟩ := call_raise hG (xs (5 * k + 1)) (xs (5 * k + 2))
  refine lv_aload_n hx hb dL_law_725 rfl (lv_at hl 2 rfl) ?_
  refine w_ar (jn := 1) X hH hX hbl hk hL2 hl 1 rfl 0 rfl (by decide) rfl dL_law_726 dL_law_727 dL_law_729 dL_law_730 dL_law_731 ?_
  refine w_ar (jn := 2) X hH hX hbl hk hL2 hl 1 rfl 0 rfl (by decide) rfl dL_law_732 dL_law_733 dL_law_735 dL_law_736 dL_law_737 ?_
  refine lv_aload_n hx hb dL_law_738 rfl (lv_at hl 4 rfl) ?_
  refine w_call X hH hL hl.1 (co_L_raise g l hst0 1 (xs (5 * k + 1)) (xs (5 * k + 2)) 213 M (by decide) (by decide) k9 M1 e1) ok_L_raise U766 rfl rfl ⟨(Nat.le_of_ble_eq_true rfl), (Nat.le_of_ble_eq_true rfl)⟩ hf (Nat.zero_le _) dL_law_739 (fun H locs hH hL => ?_)
  refine lv_istore (lv' := (6, .int k9) :: LVl g b k) hx hb dL_law_742 hl (by decide) rfl (fun ls hl => ?_)
  refine lv_aload_n hx hb dL_law_744 rfl (lv_at hl 4 rfl) ?_
  refine w_ar (jn := 1) X hH hX hbl hk hL2 hl 2 rfl 1 rfl (by decide) rfl dL_law_745 dL_law_746 dL_law_748 dL_law_749 dL_law_750 ?_
  refine w_ar (jn := 2) X hH hX hbl hk hL2 hl 2 rfl 1 rfl (by decide) rfl dL_law_751 dL_law_752 dL_law_754 dL_law_755 dL_law_756 ?_
  refine my_done hL (my_runV X hH hl.1 (co_X9_raise g l hst0 204 (xs (5 * k + 1)) (xs (5 * k + 2)) M1 (by decide) b9 M2 e2) ok_X9_raise U1452 (show tyT 204 = 9 by decide) rfl (by decide) rfl rfl rfl ⟨(Nat.le_of_ble_eq_true rfl), (Nat.le_of_ble_eq_true rfl)⟩ hf (Nat.zero_le _) dL_law_757) (fun H locs hH hL => ?_)
  refine lv_istore (lv' := (7, .int b9) :: (6, .int k9) :: LVl g b k) hx hb dL_law_760 hl (by decide) rfl (fun ls hl => ?_)
  refine w_thr (v := k9) hst0 X hH hL hl ⟨(Nat.le_of_ble_eq_true rfl), (Nat.le_of_ble_eq_true rfl)⟩ hf 5 rfl 1 rfl e3 U1274 dL_law_762 dL_law_763 dL_law_766 dL_law_768 (fun H locs hH hL => ?_) (Nat.zero_le _)
  refine w_cmpI (tg := 2994) (o2 := 2204) X hH hl 6 rfl 1 rfl 0 rfl e4 dL_law_773 dL_law_775 dL_law_778 dL_law_779 dL_law_780 dL_law_781 dL_law_783 dL_law_784 dL_law_785 dL_law_790 (by decide) ?_
  exact kk H locs M2 ls hH hL (hG2.up (by omega)) (lv_sub hl [2, 3, 4, 5, 6, 7] rfl)
set_option maxRecDepth 20000 in
set_option maxHeartbeats 4000000 in
theorem case_7 {p : Program} {l : Launch} {e : Env} {s : State} {m : MethodId} {args : Array Value} {below : List Frame} {meth : Method} {c : Code} {H : Heap} {locs : List Loc} {cells slots B k b L : Nat} {Q : State → Prop} {ls : Array Slot} {g : GP} {M : Mem} {xs : Nat → Int32} (hst0 : l.stackTraces = false) (X : CX g l p s m args meth c RL cL_law 9) (hX : va_X b L xs s (gH g)) (hbl : b < gN g) (hk : 5 * k + 5 ≤ L) (hL2 : L ≤ 2560) (hH : HR g M H) (hL : LK g s H locs) (hG : GI B M) (hB : B + 600 ≤ 2 ^ 20) (hf : cells + 1 ≤ 603072 ∧ slots + 6 ≤ 7198826) (hl : lv_has ls 9 (LVl g b k))
    (kk : ∀ H1 locs1 M1 ls1, HR g M1 H1 → LK g s H1 locs1 → GI (B + 600) M1 → lv_has ls1 9 (LVl g b k) → W p l e room_1 s m args below meth c H1 locs1 (cells + 1) (slots + 6) Q (F0 m 2994 ls1 [])) : W p l e room_1 s m args below meth c H locs cells slots Q (F0 m 793 ls []) := by
  have hx := X.1
  have hb := X.2.1
  obtain ⟨k9, M1, b9, M2, e1, e2, e3, e4, hG2⟩ := call_setTempo hG (xs (5 * k + 1))
  refine lv_aload_n hx hb dL_law_793 rfl (lv_at hl 2 rfl) ?_
  refine w_ar (jn := 1) X hH hX hbl hk hL2 hl 1 rfl 0 rfl (by decide) rfl dL_law_794 dL_law_795 dL_law_797 dL_law_798 dL_law_799 ?_
  refine lv_aload_n hx hb dL_law_800 rfl (lv_at hl 4 rfl) ?_
  refine w_call X hH hL hl.1 (co_L_setTempo g l hst0 1 (xs (5 * k + 1)) 213 M (by decide) (by decide) k9 M1 e1) ok_L_setTempo U786 rfl rfl ⟨(Nat.le_of_ble_eq_true rfl), (Nat.le_of_ble_eq_true rfl)⟩ hf (Nat.zero_le _) dL_law_801 (fun H locs hH hL => ?_)
  refine lv_istore (lv' := (6, .int k9) :: LVl g b k) hx hb dL_law_804 hl (by decide) rfl (fun ls hl => ?_)
  refine lv_aload_n hx hb dL_law_806 rfl (lv_at hl 4 rfl) ?_
  refine w_ar (jn := 1) X hH hX hbl hk hL2 hl 2 rfl 1 rfl (by decide) rfl dL_law_807 dL_law_808 dL_law_810 dL_law_811 dL_law_812 ?_
  refine my_done hL (my_runV X hH hl.1 (co_X9_setTempo g l hst0 204 (xs (5 * k + 1)) M1 (by decide) b9 M2 e2) ok_X9_setTempo U1464 (show tyT 204 = 9 by decide) rfl (by decide) rfl rfl rfl ⟨(Nat.le_of_ble_eq_true rfl), (Nat.le_of_ble_eq_true rfl)⟩ hf (Nat.zero_le _) dL_law_813) (fun H locs hH hL => ?_)
  refine lv_istore (lv' := (7, .int b9) :: (6, .int k9) :: LVl g b k) hx hb dL_law_816 hl (by decide) rfl (fun ls hl => ?_)
  refine w_thr (v := k9) hst0 X hH hL hl ⟨(Nat.le_of_ble_eq_true rfl), (Nat.le_of_ble_eq_true rfl)⟩ hf 5 rfl 1 rfl e3 U1274 dL_law_818 dL_law_819 dL_law_822 dL_law_824 (fun H locs hH hL => ?_) (Nat.zero_le _)
  refine w_cmpI (tg := 2994) (o2 := 2148) X hH hl 6 rfl 1 rfl 0 rfl e4 dL_law_829 dL_law_831 dL_law_834 dL_law_835 dL_law_836 dL_law_837 dL_law_839 dL_law_840 dL_law_841 dL_law_846 (by decide) ?_
  exact kk H locs M2 ls hH hL (hG2.up (by omega)) (lv_sub hl [2, 3, 4, 5, 6, 7] rfl)
set_option maxRecDepth 20000 in
set_option maxHeartbeats 4000000 in
theorem case_8 {p : Program} {l : Launch} {e : Env} {s : State} {m : MethodId} {args : Array Value} {below : List Frame} {meth : Method} {c : Code} {H : Heap} {locs : List Loc} {cells slots B k b L : Nat} {Q : State → Prop} {ls : Array Slot} {g : GP} {M : Mem} {xs : Nat → Int32} (hst0 : l.stackTraces = false) (X : CX g l p s m args meth c RL cL_law 9) (hX : va_X b L xs s (gH g)) (hbl : b < gN g) (hk : 5 * k + 5 ≤ L) (hL2 : L ≤ 2560) (hH : HR g M H) (hL : LK g s H locs) (hG : GI B M) (hB : B + 600 ≤ 2 ^ 20) (hf : cells + 1 ≤ 603072 ∧ slots + 6 ≤ 7198826) (hl : lv_has ls 9 (LVl g b k))
    (kk : ∀ H1 locs1 M1 ls1, HR g M1 H1 → LK g s H1 locs1 → GI (B + 600) M1 → lv_has ls1 9 (LVl g b k) → W p l e room_1 s m args below meth c H1 locs1 (cells + 1) (slots + 6) Q (F0 m 2994 ls1 [])) : W p l e room_1 s m args below meth c H locs cells slots Q (F0 m 849 ls []) := by
  have hx := X.1
  have hb := X.2.1
  obtain ⟨k9, M1, b9, M2, e1, e2, e3, e4, hG2⟩ := call_setLimit hG (xs (5 * k + 1))
  refine lv_aload_n hx hb dL_law_849 rfl (lv_at hl 2 rfl) ?_
  refine w_ar (jn := 1) X hH hX hbl hk hL2 hl 1 rfl 0 rfl (by decide) rfl dL_law_850 dL_law_851 dL_law_853 dL_law_854 dL_law_855 ?_
  refine lv_aload_n hx hb dL_law_856 rfl (lv_at hl 4 rfl) ?_
  refine w_call X hH hL hl.1 (co_L_setLimit g l hst0 1 (xs (5 * k + 1)) 213 M (by decide) (by decide) k9 M1 e1) ok_L_setLimit U797 rfl rfl ⟨(Nat.le_of_ble_eq_true rfl), (Nat.le_of_ble_eq_true rfl)⟩ hf (Nat.zero_le _) dL_law_857 (fun H locs hH hL => ?_)
  refine lv_istore (lv' := (6, .int k9) :: LVl g b k) hx hb dL_law_860 hl (by decide) rfl (fun ls hl => ?_)
  refine lv_aload_n hx hb dL_law_862 rfl (lv_at hl 4 rfl) ?_
  refine w_ar (jn := 1) X hH hX hbl hk hL2 hl 2 rfl 1 rfl (by decide) rfl dL_law_863 dL_law_864 dL_law_866 dL_law_867 dL_law_868 ?_
  refine my_done hL (my_runV X hH hl.1 (co_X9_setLimit g l hst0 204 (xs (5 * k + 1)) M1 (by decide) b9 M2 e2) ok_X9_setLimit U1475 (show tyT 204 = 9 by decide) rfl (by decide) rfl rfl rfl ⟨(Nat.le_of_ble_eq_true rfl), (Nat.le_of_ble_eq_true rfl)⟩ hf (Nat.zero_le _) dL_law_869) (fun H locs hH hL => ?_)
  refine lv_istore (lv' := (7, .int b9) :: (6, .int k9) :: LVl g b k) hx hb dL_law_872 hl (by decide) rfl (fun ls hl => ?_)
  refine w_thr (v := k9) hst0 X hH hL hl ⟨(Nat.le_of_ble_eq_true rfl), (Nat.le_of_ble_eq_true rfl)⟩ hf 5 rfl 1 rfl e3 U1274 dL_law_874 dL_law_875 dL_law_878 dL_law_880 (fun H locs hH hL => ?_) (Nat.zero_le _)
  refine w_cmpI (tg := 2994) (o2 := 2092) X hH hl 6 rfl 1 rfl 0 rfl e4 dL_law_885 dL_law_887 dL_law_890 dL_law_891 dL_law_892 dL_law_893 dL_law_895 dL_law_896 dL_law_897 dL_law_902 (by decide) ?_
  exact kk H locs M2 ls hH hL (hG2.up (by omega)) (lv_sub hl [2, 3, 4, 5, 6, 7] rfl)
set_option maxRecDepth 20000 in
set_option maxHeartbeats 4000000 in
theorem case_9 {p : Program} {l : Launch} {e : Env} {s : State} {m : MethodId} {args : Array Value} {below : List Frame} {meth : Method} {c : Code} {H : Heap} {locs : List Loc} {cells slots B k b L : Nat} {Q : State → Prop} {ls : Array Slot} {g : GP} {M : Mem} {xs : Nat → Int32} (hst0 : l.stackTraces = false) (X : CX g l p s m args meth c RL cL_law 9) (hX : va_X b L xs s (gH g)) (hbl : b < gN g) (hk : 5 * k + 5 ≤ L) (hL2 : L ≤ 2560) (hH : HR g M H) (hL : LK g s H locs) (hG : GI B M) (hB : B + 600 ≤ 2 ^ 20) (hf : cells + 1 ≤ 603072 ∧ slots + 6 ≤ 7198826) (hl : lv_has ls 9 (LVl g b k))
    (kk : ∀ H1 locs1 M1 ls1, HR g M1 H1 → LK g s H1 locs1 → GI (B + 600) M1 → lv_has ls1 9 (LVl g b k) → W p l e room_1 s m args below meth c H1 locs1 (cells + 1) (slots + 6) Q (F0 m 2994 ls1 [])) : W p l e room_1 s m args below meth c H locs cells slots Q (F0 m 905 ls []) := by
  have hx := X.1
  have hb := X.2.1
  obtain ⟨v, M1, M2, e1, e2, hG2⟩ := call_conductWave hG (by omega)
  refine w_askI (tg := 2994) X hH hL hl 2 rfl 3 rfl (co_X8_conductWave g l hst0 1 M (by decide) (.inl v) M1 e1) ok_X8_conductWave rfl U310 (co_X9_conductWave g l hst0 204 M1 (by decide) v M2 e2) ok_X9_conductWave rfl U1482 ⟨(Nat.le_of_ble_eq_true rfl), (Nat.le_of_ble_eq_true rfl)⟩ ⟨(Nat.le_of_ble_eq_true rfl), (Nat.le_of_ble_eq_true rfl)⟩ ⟨by show cells ≤ 603072; omega, by show slots ≤ 7198826; omega⟩ dL_law_905 dL_law_906 dL_law_909 dL_law_910 dL_law_913 (by decide) (fun H locs hH hL => ?_)
  exact W.widen (k := cells + 1) (n := slots + 6) (by omega) (by omega) (kk H locs M2 ls hH hL (hG2.up (by omega)) hl)
set_option maxRecDepth 20000 in
set_option maxHeartbeats 4000000 in
theorem case_10 {p : Program} {l : Launch} {e : Env} {s : State} {m : MethodId} {args : Array Value} {below : List Frame} {meth : Method} {c : Code} {H : Heap} {locs : List Loc} {cells slots B k b L : Nat} {Q : State → Prop} {ls : Array Slot} {g : GP} {M : Mem} {xs : Nat → Int32} (hst0 : l.stackTraces = false) (X : CX g l p s m args meth c RL cL_law 9) (hX : va_X b L xs s (gH g)) (hbl : b < gN g) (hk : 5 * k + 5 ≤ L) (hL2 : L ≤ 2560) (hH : HR g M H) (hL : LK g s H locs) (hG : GI B M) (hB : B + 600 ≤ 2 ^ 20) (hf : cells + 1 ≤ 603072 ∧ slots + 6 ≤ 7198826) (hl : lv_has ls 9 (LVl g b k))
    (kk : ∀ H1 locs1 M1 ls1, HR g M1 H1 → LK g s H1 locs1 → GI (B + 600) M1 → lv_has ls1 9 (LVl g b k) → W p l e room_1 s m args below meth c H1 locs1 (cells + 1) (slots + 6) Q (F0 m 2994 ls1 [])) : W p l e room_1 s m args below meth c H locs cells slots Q (F0 m 918 ls []) := by
  have hx := X.1
  have hb := X.2.1
  obtain ⟨k9, M1, b9, M2, e1, e2, e3, e4, hG2⟩ := call_conductBeats hG (by omega) (xs (5 * k + 1))
  refine lv_aload_n hx hb dL_law_918 rfl (lv_at hl 2 rfl) ?_
  refine w_ar (jn := 1) X hH hX hbl hk hL2 hl 1 rfl 0 rfl (by decide) rfl dL_law_919 dL_law_920 dL_law_922 dL_law_923 dL_law_924 ?_
  refine lv_aload_n hx hb dL_law_925 rfl (lv_at hl 4 rfl) ?_
  refine w_call X hH hL hl.1 (co_L_conductBeats g l hst0 1 (xs (5 * k + 1)) 213 M (by decide) (by decide) k9 M1 e1) ok_L_conductBeats U808 rfl rfl ⟨(Nat.le_of_ble_eq_true rfl), (Nat.le_of_ble_eq_true rfl)⟩ hf (Nat.zero_le _) dL_law_926 (fun H locs hH hL => ?_)
  refine lv_istore (lv' := (6, .int k9) :: LVl g b k) hx hb dL_law_929 hl (by decide) rfl (fun ls hl => ?_)
  refine lv_aload_n hx hb dL_law_931 rfl (lv_at hl 4 rfl) ?_
  refine w_ar (jn := 1) X hH hX hbl hk hL2 hl 2 rfl 1 rfl (by decide) rfl dL_law_932 dL_law_933 dL_law_935 dL_law_936 dL_law_937 ?_
  refine my_done hL (my_runV X hH hl.1 (co_X9_conductBeats g l hst0 204 (xs (5 * k + 1)) M1 (by decide) b9 M2 e2) ok_X9_conductBeats U1525 (show tyT 204 = 9 by decide) rfl (by decide) rfl rfl rfl ⟨(Nat.le_of_ble_eq_true rfl), (Nat.le_of_ble_eq_true rfl)⟩ hf (Nat.zero_le _) dL_law_938) (fun H locs hH hL => ?_)
  refine lv_istore (lv' := (7, .int b9) :: (6, .int k9) :: LVl g b k) hx hb dL_law_941 hl (by decide) rfl (fun ls hl => ?_)
  refine w_thr (v := k9) hst0 X hH hL hl ⟨(Nat.le_of_ble_eq_true rfl), (Nat.le_of_ble_eq_true rfl)⟩ hf 5 rfl 1 rfl e3 U1274 dL_law_943 dL_law_944 dL_law_947 dL_law_949 (fun H locs hH hL => ?_) (Nat.zero_le _)
  refine w_cmpI (tg := 2994) (o2 := 2023) X hH hl 6 rfl 1 rfl 0 rfl e4 dL_law_954 dL_law_956 dL_law_959 dL_law_960 dL_law_961 dL_law_962 dL_law_964 dL_law_965 dL_law_966 dL_law_971 (by decide) ?_
  exact kk H locs M2 ls hH hL (hG2.up (by omega)) (lv_sub hl [2, 3, 4, 5, 6, 7] rfl)
set_option maxRecDepth 20000 in
set_option maxHeartbeats 4000000 in
theorem case_11 {p : Program} {l : Launch} {e : Env} {s : State} {m : MethodId} {args : Array Value} {below : List Frame} {meth : Method} {c : Code} {H : Heap} {locs : List Loc} {cells slots B k b L : Nat} {Q : State → Prop} {ls : Array Slot} {g : GP} {M : Mem} {xs : Nat → Int32} (hst0 : l.stackTraces = false) (X : CX g l p s m args meth c RL cL_law 9) (hX : va_X b L xs s (gH g)) (hbl : b < gN g) (hk : 5 * k + 5 ≤ L) (hL2 : L ≤ 2560) (hH : HR g M H) (hL : LK g s H locs) (hG : GI B M) (hB : B + 600 ≤ 2 ^ 20) (hf : cells + 1 ≤ 603072 ∧ slots + 6 ≤ 7198826) (hl : lv_has ls 9 (LVl g b k))
    (kk : ∀ H1 locs1 M1 ls1, HR g M1 H1 → LK g s H1 locs1 → GI (B + 600) M1 → lv_has ls1 9 (LVl g b k) → W p l e room_1 s m args below meth c H1 locs1 (cells + 1) (slots + 6) Q (F0 m 2994 ls1 [])) : W p l e room_1 s m args below meth c H locs cells slots Q (F0 m 974 ls []) := by
  have hx := X.1
  have hb := X.2.1
  obtain ⟨v, M2, e1, e2, hG2⟩ := call_beatCount hG
  refine w_askI (tg := 2994) X hH hL hl 2 rfl 3 rfl (co_X8_beatCount g l hst0 1 M (by decide) v e1) ok_X8_beatCount rfl U510 (co_X9_beatCount g l hst0 204 M (by decide) v M2 e2) ok_X9_beatCount rfl U1532 ⟨(Nat.le_of_ble_eq_true rfl), (Nat.le_of_ble_eq_true rfl)⟩ ⟨(Nat.le_of_ble_eq_true rfl), (Nat.le_of_ble_eq_true rfl)⟩ ⟨by show cells ≤ 603072; omega, by show slots ≤ 7198826; omega⟩ dL_law_974 dL_law_975 dL_law_978 dL_law_979 dL_law_982 (by decide) (fun H locs hH hL => ?_)
  exact W.widen (k := cells + 1) (n := slots + 6) (by omega) (by omega) (kk H locs M2 ls hH hL (hG2.up (by omega)) hl)
set_option maxRecDepth 20000 in
set_option maxHeartbeats 4000000 in
theorem case_12 {p : Program} {l : Launch} {e : Env} {s : State} {m : MethodId} {args : Array Value} {below : List Frame} {meth : Method} {c : Code} {H : Heap} {locs : List Loc} {cells slots B k b L : Nat} {Q : State → Prop} {ls : Array Slot} {g : GP} {M : Mem} {xs : Nat → Int32} (hst0 : l.stackTraces = false) (X : CX g l p s m args meth c RL cL_law 9) (hX : va_X b L xs s (gH g)) (hbl : b < gN g) (hk : 5 * k + 5 ≤ L) (hL2 : L ≤ 2560) (hH : HR g M H) (hL : LK g s H locs) (hG : GI B M) (hB : B + 600 ≤ 2 ^ 20) (hf : cells + 1 ≤ 603072 ∧ slots + 6 ≤ 7198826) (hl : lv_has ls 9 (LVl g b k))
    (kk : ∀ H1 locs1 M1 ls1, HR g M1 H1 → LK g s H1 locs1 → GI (B + 600) M1 → lv_has ls1 9 (LVl g b k) → W p l e room_1 s m args below meth c H1 locs1 (cells + 1) (slots + 6) Q (F0 m 2994 ls1 [])) : W p l e room_1 s m args below meth c H locs cells slots Q (F0 m 987 ls []) := by
  have hx := X.1
  have hb := X.2.1
  obtain ⟨v, M2, e1, e2, hG2⟩ := call_sectionCount hG
  refine w_askI (tg := 2994) X hH hL hl 2 rfl 3 rfl (co_X8_sectionCount g l hst0 1 M (by decide) v e1) ok_X8_sectionCount rfl U514 (co_X9_sectionCount g l hst0 204 M (by decide) v M2 e2) ok_X9_sectionCount rfl U1540 ⟨(Nat.le_of_ble_eq_true rfl), (Nat.le_of_ble_eq_true rfl)⟩ ⟨(Nat.le_of_ble_eq_true rfl), (Nat.le_of_ble_eq_true rfl)⟩ ⟨by show cells ≤ 603072; omega, by show slots ≤ 7198826; omega⟩ dL_law_987 dL_law_988 dL_law_991 dL_law_992 dL_law_995 (by decide) (fun H locs hH hL => ?_)
  exact W.widen (k := cells + 1) (n := slots + 6) (by omega) (by omega) (kk H locs M2 ls hH hL (hG2.up (by omega)) hl)
set_option maxRecDepth 20000 in
set_option maxHeartbeats 4000000 in
theorem case_13 {p : Program} {l : Launch} {e : Env} {s : State} {m : MethodId} {args : Array Value} {below : List Frame} {meth : Method} {c : Code} {H : Heap} {locs : List Loc} {cells slots B k b L : Nat} {Q : State → Prop} {ls : Array Slot} {g : GP} {M : Mem} {xs : Nat → Int32} (hst0 : l.stackTraces = false) (X : CX g l p s m args meth c RL cL_law 9) (hX : va_X b L xs s (gH g)) (hbl : b < gN g) (hk : 5 * k + 5 ≤ L) (hL2 : L ≤ 2560) (hH : HR g M H) (hL : LK g s H locs) (hG : GI B M) (hB : B + 600 ≤ 2 ^ 20) (hf : cells + 1 ≤ 603072 ∧ slots + 6 ≤ 7198826) (hl : lv_has ls 9 (LVl g b k))
    (kk : ∀ H1 locs1 M1 ls1, HR g M1 H1 → LK g s H1 locs1 → GI (B + 600) M1 → lv_has ls1 9 (LVl g b k) → W p l e room_1 s m args below meth c H1 locs1 (cells + 1) (slots + 6) Q (F0 m 2994 ls1 [])) : W p l e room_1 s m args below meth c H locs cells slots Q (F0 m 1000 ls []) := by
  have hx := X.1
  have hb := X.2.1
  obtain ⟨v, M2, e1, e2, hG2⟩ := call_tempo hG
  refine w_askI (tg := 2994) X hH hL hl 2 rfl 3 rfl (co_X8_tempo g l hst0 1 M (by decide) v e1) ok_X8_tempo rfl U518 (co_X9_tempo g l hst0 204 M (by decide) v M2 e2) ok_X9_tempo rfl U1544 ⟨(Nat.le_of_ble_eq_true rfl), (Nat.le_of_ble_eq_true rfl)⟩ ⟨(Nat.le_of_ble_eq_true rfl), (Nat.le_of_ble_eq_true rfl)⟩ ⟨by show cells ≤ 603072; omega, by show slots ≤ 7198826; omega⟩ dL_law_1000 dL_law_1001 dL_law_1004 dL_law_1005 dL_law_1008 (by decide) (fun H locs hH hL => ?_)
  exact W.widen (k := cells + 1) (n := slots + 6) (by omega) (by omega) (kk H locs M2 ls hH hL (hG2.up (by omega)) hl)
