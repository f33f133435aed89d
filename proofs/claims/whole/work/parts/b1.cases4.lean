/-! THE LAW'S CASES 42 to 54 -/
set_option maxRecDepth 20000 in
set_option maxHeartbeats 4000000 in
theorem case_42 {p : Program} {l : Launch} {e : Env} {s : State} {m : MethodId} {args : Array Value} {below : List Frame} {meth : Method} {c : Code} {H : Heap} {locs : List Loc} {cells slots B k b L : Nat} {Q : State → Prop} {ls : Array Slot} {g : GP} {M : Mem} {xs : Nat → Int32} (hst0 : l.stackTraces = false) (X : CX g l p s m args meth c RL cL_law 9) (hX : va_X b L xs s (gH g)) (hbl : b < gN g) (hk : 5 * k + 5 ≤ L) (hL2 : L ≤ 2560) (hH : HR g M H) (hL : LK g s H locs) (hG : GI B M) (hB : B + 600 ≤ 2 ^ 20) (hf : cells + 1 ≤ 603072 ∧ slots + 6 ≤ 7198826) (hl : lv_has ls 9 (LVl g b k))
    (kk : ∀ H1 locs1 M1 ls1, HR g M1 H1 → LK g s H1 locs1 → GI (B + 600) M1 → lv_has ls1 9 (LVl g b k) → W p l e room_1 s m args below meth c H1 locs1 (cells + 1) (slots + 6) Q (F0 m 2994 ls1 [])) : W p l e room_1 s m args below meth c H locs cells slots Q (F0 m 2379 ls []) := by
  have hx := X.1
  have hb := X.2.1
  obtain ⟨k9, M1, b9, M2, e1, e2, e3, e4, hG2⟩ := call_meanTotal hG (by omega) 
  refine lv_aload_n hx hb dL_law_2379 rfl (lv_at hl 2 rfl) ?_
  refine lv_aload hx hb dL_law_2380 (lv_at hl 5 rfl) ?_
  refine w_call X hH hL hl.1 (co_L_meanTotal g l hst0 1  214 M (by decide) (by decide) k9 M1 e1) ok_L_meanTotal U1011 rfl rfl ⟨(Nat.le_of_ble_eq_true rfl), (Nat.le_of_ble_eq_true rfl)⟩ hf (Nat.zero_le _) dL_law_2382 (fun H locs hH hL => ?_)
  refine lv_istore (lv' := (6, .int k9) :: LVl g b k) hx hb dL_law_2385 hl (by decide) rfl (fun ls hl => ?_)
  refine lv_aload_n hx hb dL_law_2387 rfl (lv_at hl 4 rfl) ?_
  refine my_done hL (my_runV X hH hl.1 (co_X9_meanTotal g l hst0 204  M1 (by decide) b9 M2 e2) ok_X9_meanTotal U1697 (show tyT 204 = 9 by decide) rfl (by decide) rfl rfl rfl ⟨(Nat.le_of_ble_eq_true rfl), (Nat.le_of_ble_eq_true rfl)⟩ hf (Nat.zero_le _) dL_law_2388) (fun H locs hH hL => ?_)
  refine lv_dstore (lv' := (7, .double b9) :: (6, .int k9) :: LVl g b k) hx hb dL_law_2391 hl (by decide) rfl (fun ls hl => ?_)
  refine w_thr (v := k9) hst0 X hH hL hl ⟨(Nat.le_of_ble_eq_true rfl), (Nat.le_of_ble_eq_true rfl)⟩ hf 5 rfl 1 rfl e3 U1274 dL_law_2393 dL_law_2394 dL_law_2397 dL_law_2399 (fun H locs hH hL => ?_) (Nat.zero_le _)
  refine w_cmpD (tg := 2994) X hH hl 7 rfl 1 rfl 0 rfl e4 dL_law_2404 dL_law_2406 dL_law_2409 dL_law_2411 dL_law_2412 dL_law_2413 dL_law_2415 dL_law_2416 dL_law_2441 (by decide) ?_
  exact kk H locs M2 ls hH hL (hG2.up (by omega)) (lv_sub hl [2, 3, 4, 5, 6, 7] rfl)
set_option maxRecDepth 20000 in
set_option maxHeartbeats 4000000 in
theorem case_43 {p : Program} {l : Launch} {e : Env} {s : State} {m : MethodId} {args : Array Value} {below : List Frame} {meth : Method} {c : Code} {H : Heap} {locs : List Loc} {cells slots B k b L : Nat} {Q : State → Prop} {ls : Array Slot} {g : GP} {M : Mem} {xs : Nat → Int32} (hst0 : l.stackTraces = false) (X : CX g l p s m args meth c RL cL_law 9) (hX : va_X b L xs s (gH g)) (hbl : b < gN g) (hk : 5 * k + 5 ≤ L) (hL2 : L ≤ 2560) (hH : HR g M H) (hL : LK g s H locs) (hG : GI B M) (hB : B + 600 ≤ 2 ^ 20) (hf : cells + 1 ≤ 603072 ∧ slots + 6 ≤ 7198826) (hl : lv_has ls 9 (LVl g b k))
    (kk : ∀ H1 locs1 M1 ls1, HR g M1 H1 → LK g s H1 locs1 → GI (B + 600) M1 → lv_has ls1 9 (LVl g b k) → W p l e room_1 s m args below meth c H1 locs1 (cells + 1) (slots + 6) Q (F0 m 2994 ls1 [])) : W p l e room_1 s m args below meth c H locs cells slots Q (F0 m 2444 ls []) := by
  have hx := X.1
  have hb := X.2.1
  obtain ⟨k9, M1, b9, M2, e1, e2, e3, e4, hG2⟩ := call_maskedShare hG (xs (5 * k + 1))
  refine lv_aload_n hx hb dL_law_2444 rfl (lv_at hl 2 rfl) ?_
  refine w_ar (jn := 1) X hH hX hbl hk hL2 hl 1 rfl 0 rfl (by decide) rfl dL_law_2445 dL_law_2446 dL_law_2448 dL_law_2449 dL_law_2450 ?_
  refine lv_aload hx hb dL_law_2451 (lv_at hl 5 rfl) ?_
  refine w_call X hH hL hl.1 (co_L_maskedShare g l hst0 1 (xs (5 * k + 1)) 214 M (by decide) (by decide) k9 M1 e1) ok_L_maskedShare U1034 rfl rfl ⟨(Nat.le_of_ble_eq_true rfl), (Nat.le_of_ble_eq_true rfl)⟩ hf (Nat.zero_le _) dL_law_2453 (fun H locs hH hL => ?_)
  refine lv_istore (lv' := (6, .int k9) :: LVl g b k) hx hb dL_law_2456 hl (by decide) rfl (fun ls hl => ?_)
  refine lv_aload_n hx hb dL_law_2458 rfl (lv_at hl 4 rfl) ?_
  refine w_ar (jn := 1) X hH hX hbl hk hL2 hl 2 rfl 1 rfl (by decide) rfl dL_law_2459 dL_law_2460 dL_law_2462 dL_law_2463 dL_law_2464 ?_
  refine my_done hL (my_runV X hH hl.1 (co_X9_maskedShare g l hst0 204 (xs (5 * k + 1)) M1 (by decide) b9 M2 e2) ok_X9_maskedShare U1701 (show tyT 204 = 9 by decide) rfl (by decide) rfl rfl rfl ⟨(Nat.le_of_ble_eq_true rfl), (Nat.le_of_ble_eq_true rfl)⟩ hf (Nat.zero_le _) dL_law_2465) (fun H locs hH hL => ?_)
  refine lv_fstore (lv' := (7, .float b9) :: (6, .int k9) :: LVl g b k) hx hb dL_law_2468 hl (by decide) rfl (fun ls hl => ?_)
  refine w_thr (v := k9) hst0 X hH hL hl ⟨(Nat.le_of_ble_eq_true rfl), (Nat.le_of_ble_eq_true rfl)⟩ hf 5 rfl 1 rfl e3 U1274 dL_law_2470 dL_law_2471 dL_law_2474 dL_law_2476 (fun H locs hH hL => ?_) (Nat.zero_le _)
  refine w_cmpF (tg := 2994) X hH hl 7 rfl 1 rfl 0 rfl e4 dL_law_2481 dL_law_2483 dL_law_2486 dL_law_2488 dL_law_2489 dL_law_2490 dL_law_2492 dL_law_2493 dL_law_2494 dL_law_2519 (by decide) ?_
  exact kk H locs M2 ls hH hL (hG2.up (by omega)) (lv_sub hl [2, 3, 4, 5, 6, 7] rfl)
set_option maxRecDepth 20000 in
set_option maxHeartbeats 4000000 in
theorem case_44 {p : Program} {l : Launch} {e : Env} {s : State} {m : MethodId} {args : Array Value} {below : List Frame} {meth : Method} {c : Code} {H : Heap} {locs : List Loc} {cells slots B k b L : Nat} {Q : State → Prop} {ls : Array Slot} {g : GP} {M : Mem} {xs : Nat → Int32} (hst0 : l.stackTraces = false) (X : CX g l p s m args meth c RL cL_law 9) (hX : va_X b L xs s (gH g)) (hbl : b < gN g) (hk : 5 * k + 5 ≤ L) (hL2 : L ≤ 2560) (hH : HR g M H) (hL : LK g s H locs) (hG : GI B M) (hB : B + 600 ≤ 2 ^ 20) (hf : cells + 1 ≤ 603072 ∧ slots + 6 ≤ 7198826) (hl : lv_has ls 9 (LVl g b k))
    (kk : ∀ H1 locs1 M1 ls1, HR g M1 H1 → LK g s H1 locs1 → GI (B + 600) M1 → lv_has ls1 9 (LVl g b k) → W p l e room_1 s m args below meth c H1 locs1 (cells + 1) (slots + 6) Q (F0 m 2994 ls1 [])) : W p l e room_1 s m args below meth c H locs cells slots Q (F0 m 2522 ls []) := by
  have hx := X.1
  have hb := X.2.1
  obtain ⟨v, M1, M2, e1, e2, hG2⟩ := call_isConsistent hG (by omega)
  refine w_askI (tg := 2994) X hH hL hl 2 rfl 3 rfl (co_X8_isConsistent g l hst0 1 M (by decide) (.inl v) M1 e1) ok_X8_isConsistent rfl U593 (co_X9_isConsistent g l hst0 204 M1 (by decide) v M2 e2) ok_X9_isConsistent rfl U1705 ⟨(Nat.le_of_ble_eq_true rfl), (Nat.le_of_ble_eq_true rfl)⟩ ⟨(Nat.le_of_ble_eq_true rfl), (Nat.le_of_ble_eq_true rfl)⟩ ⟨by show cells ≤ 603072; omega, by show slots ≤ 7198826; omega⟩ dL_law_2522 dL_law_2523 dL_law_2526 dL_law_2527 dL_law_2530 (by decide) (fun H locs hH hL => ?_)
  exact W.widen (k := cells + 1) (n := slots + 6) (by omega) (by omega) (kk H locs M2 ls hH hL (hG2.up (by omega)) hl)
set_option maxRecDepth 20000 in
set_option maxHeartbeats 4000000 in
theorem case_45 {p : Program} {l : Launch} {e : Env} {s : State} {m : MethodId} {args : Array Value} {below : List Frame} {meth : Method} {c : Code} {H : Heap} {locs : List Loc} {cells slots B k b L : Nat} {Q : State → Prop} {ls : Array Slot} {g : GP} {M : Mem} {xs : Nat → Int32} (hst0 : l.stackTraces = false) (X : CX g l p s m args meth c RL cL_law 9) (hX : va_X b L xs s (gH g)) (hbl : b < gN g) (hk : 5 * k + 5 ≤ L) (hL2 : L ≤ 2560) (hH : HR g M H) (hL : LK g s H locs) (hG : GI B M) (hB : B + 600 ≤ 2 ^ 20) (hf : cells + 1 ≤ 603072 ∧ slots + 6 ≤ 7198826) (hl : lv_has ls 9 (LVl g b k))
    (kk : ∀ H1 locs1 M1 ls1, HR g M1 H1 → LK g s H1 locs1 → GI (B + 600) M1 → lv_has ls1 9 (LVl g b k) → W p l e room_1 s m args below meth c H1 locs1 (cells + 1) (slots + 6) Q (F0 m 2994 ls1 [])) : W p l e room_1 s m args below meth c H locs cells slots Q (F0 m 2535 ls []) := by
  have hx := X.1
  have hb := X.2.1
  obtain ⟨k9, M1, b9, M2, e1, e2, e3, e4, hG2⟩ := call_renderScore hG (xs (5 * k + 1))
  refine lv_aload_n hx hb dL_law_2535 rfl (lv_at hl 2 rfl) ?_
  refine w_ar (jn := 1) X hH hX hbl hk hL2 hl 1 rfl 0 rfl (by decide) rfl dL_law_2536 dL_law_2537 dL_law_2539 dL_law_2540 dL_law_2541 ?_
  refine lv_aload_n hx hb dL_law_2542 rfl (lv_at hl 4 rfl) ?_
  refine w_call X hH hL hl.1 (co_L_renderScore g l hst0 1 (xs (5 * k + 1)) 213 M (by decide) (by decide) k9 M1 e1) ok_L_renderScore U1045 rfl rfl ⟨(Nat.le_of_ble_eq_true rfl), (Nat.le_of_ble_eq_true rfl)⟩ hf (Nat.zero_le _) dL_law_2543 (fun H locs hH hL => ?_)
  refine lv_istore (lv' := (6, .int k9) :: LVl g b k) hx hb dL_law_2546 hl (by decide) rfl (fun ls hl => ?_)
  refine lv_aload_n hx hb dL_law_2548 rfl (lv_at hl 4 rfl) ?_
  refine w_ar (jn := 1) X hH hX hbl hk hL2 hl 2 rfl 1 rfl (by decide) rfl dL_law_2549 dL_law_2550 dL_law_2552 dL_law_2553 dL_law_2554 ?_
  refine my_done hL (my_runV X hH hl.1 (co_X9_renderScore g l hst0 204 (xs (5 * k + 1)) M1 (by decide) b9 M2 e2) ok_X9_renderScore U1709 (show tyT 204 = 9 by decide) rfl (by decide) rfl rfl rfl ⟨(Nat.le_of_ble_eq_true rfl), (Nat.le_of_ble_eq_true rfl)⟩ hf (Nat.zero_le _) dL_law_2555) (fun H locs hH hL => ?_)
  refine lv_istore (lv' := (7, .int b9) :: (6, .int k9) :: LVl g b k) hx hb dL_law_2558 hl (by decide) rfl (fun ls hl => ?_)
  refine w_thr (v := k9) hst0 X hH hL hl ⟨(Nat.le_of_ble_eq_true rfl), (Nat.le_of_ble_eq_true rfl)⟩ hf 5 rfl 1 rfl e3 U1274 dL_law_2560 dL_law_2561 dL_law_2564 dL_law_2566 (fun H locs hH hL => ?_) (Nat.zero_le _)
  refine w_cmpI (tg := 2994) (o2 := 406) X hH hl 6 rfl 1 rfl 0 rfl e4 dL_law_2571 dL_law_2573 dL_law_2576 dL_law_2577 dL_law_2578 dL_law_2579 dL_law_2581 dL_law_2582 dL_law_2583 dL_law_2588 (by decide) ?_
  exact kk H locs M2 ls hH hL (hG2.up (by omega)) (lv_sub hl [2, 3, 4, 5, 6, 7] rfl)
set_option maxRecDepth 20000 in
set_option maxHeartbeats 4000000 in
theorem case_46 {p : Program} {l : Launch} {e : Env} {s : State} {m : MethodId} {args : Array Value} {below : List Frame} {meth : Method} {c : Code} {H : Heap} {locs : List Loc} {cells slots B k b L : Nat} {Q : State → Prop} {ls : Array Slot} {g : GP} {M : Mem} {xs : Nat → Int32} (hst0 : l.stackTraces = false) (X : CX g l p s m args meth c RL cL_law 9) (hX : va_X b L xs s (gH g)) (hbl : b < gN g) (hk : 5 * k + 5 ≤ L) (hL2 : L ≤ 2560) (hH : HR g M H) (hL : LK g s H locs) (hG : GI B M) (hB : B + 600 ≤ 2 ^ 20) (hf : cells + 1 ≤ 603072 ∧ slots + 6 ≤ 7198826) (hl : lv_has ls 9 (LVl g b k))
    (kk : ∀ H1 locs1 M1 ls1, HR g M1 H1 → LK g s H1 locs1 → GI (B + 600) M1 → lv_has ls1 9 (LVl g b k) → W p l e room_1 s m args below meth c H1 locs1 (cells + 1) (slots + 6) Q (F0 m 2994 ls1 [])) : W p l e room_1 s m args below meth c H locs cells slots Q (F0 m 2591 ls []) := by
  have hx := X.1
  have hb := X.2.1
  obtain ⟨k9, M1, b9, M2, e1, e2, e3, e4, hG2⟩ := call_renderMask hG (xs (5 * k + 1))
  refine lv_aload_n hx hb dL_law_2591 rfl (lv_at hl 2 rfl) ?_
  refine w_ar (jn := 1) X hH hX hbl hk hL2 hl 1 rfl 0 rfl (by decide) rfl dL_law_2592 dL_law_2593 dL_law_2595 dL_law_2596 dL_law_2597 ?_
  refine lv_aload_n hx hb dL_law_2598 rfl (lv_at hl 4 rfl) ?_
  refine w_call X hH hL hl.1 (co_L_renderMask g l hst0 1 (xs (5 * k + 1)) 213 M (by decide) (by decide) k9 M1 e1) ok_L_renderMask U1063 rfl rfl ⟨(Nat.le_of_ble_eq_true rfl), (Nat.le_of_ble_eq_true rfl)⟩ hf (Nat.zero_le _) dL_law_2599 (fun H locs hH hL => ?_)
  refine lv_istore (lv' := (6, .int k9) :: LVl g b k) hx hb dL_law_2602 hl (by decide) rfl (fun ls hl => ?_)
  refine lv_aload_n hx hb dL_law_2604 rfl (lv_at hl 4 rfl) ?_
  refine w_ar (jn := 1) X hH hX hbl hk hL2 hl 2 rfl 1 rfl (by decide) rfl dL_law_2605 dL_law_2606 dL_law_2608 dL_law_2609 dL_law_2610 ?_
  refine my_done hL (my_runV X hH hl.1 (co_X9_renderMask g l hst0 204 (xs (5 * k + 1)) M1 (by decide) b9 M2 e2) ok_X9_renderMask U1717 (show tyT 204 = 9 by decide) rfl (by decide) rfl rfl rfl ⟨(Nat.le_of_ble_eq_true rfl), (Nat.le_of_ble_eq_true rfl)⟩ hf (Nat.zero_le _) dL_law_2611) (fun H locs hH hL => ?_)
  refine lv_istore (lv' := (7, .int b9) :: (6, .int k9) :: LVl g b k) hx hb dL_law_2614 hl (by decide) rfl (fun ls hl => ?_)
  refine w_thr (v := k9) hst0 X hH hL hl ⟨(Nat.le_of_ble_eq_true rfl), (Nat.le_of_ble_eq_true rfl)⟩ hf 5 rfl 1 rfl e3 U1274 dL_law_2616 dL_law_2617 dL_law_2620 dL_law_2622 (fun H locs hH hL => ?_) (Nat.zero_le _)
  refine w_cmpI (tg := 2994) (o2 := 350) X hH hl 6 rfl 1 rfl 0 rfl e4 dL_law_2627 dL_law_2629 dL_law_2632 dL_law_2633 dL_law_2634 dL_law_2635 dL_law_2637 dL_law_2638 dL_law_2639 dL_law_2644 (by decide) ?_
  exact kk H locs M2 ls hH hL (hG2.up (by omega)) (lv_sub hl [2, 3, 4, 5, 6, 7] rfl)
set_option maxRecDepth 20000 in
set_option maxHeartbeats 4000000 in
theorem case_47 {p : Program} {l : Launch} {e : Env} {s : State} {m : MethodId} {args : Array Value} {below : List Frame} {meth : Method} {c : Code} {H : Heap} {locs : List Loc} {cells slots B k b L : Nat} {Q : State → Prop} {ls : Array Slot} {g : GP} {M : Mem} {xs : Nat → Int32} (hst0 : l.stackTraces = false) (X : CX g l p s m args meth c RL cL_law 9) (hX : va_X b L xs s (gH g)) (hbl : b < gN g) (hk : 5 * k + 5 ≤ L) (hL2 : L ≤ 2560) (hH : HR g M H) (hL : LK g s H locs) (hG : GI B M) (hB : B + 600 ≤ 2 ^ 20) (hf : cells + 1 ≤ 603072 ∧ slots + 6 ≤ 7198826) (hl : lv_has ls 9 (LVl g b k))
    (kk : ∀ H1 locs1 M1 ls1, HR g M1 H1 → LK g s H1 locs1 → GI (B + 600) M1 → lv_has ls1 9 (LVl g b k) → W p l e room_1 s m args below meth c H1 locs1 (cells + 1) (slots + 6) Q (F0 m 2994 ls1 [])) : W p l e room_1 s m args below meth c H locs cells slots Q (F0 m 2647 ls []) := by
  have hx := X.1
  have hb := X.2.1
  obtain ⟨k9, M1, b9, M2, e1, e2, e3, e4, hG2⟩ := call_outputAt hG (xs (5 * k + 1))
  refine lv_aload_n hx hb dL_law_2647 rfl (lv_at hl 2 rfl) ?_
  refine w_ar (jn := 1) X hH hX hbl hk hL2 hl 1 rfl 0 rfl (by decide) rfl dL_law_2648 dL_law_2649 dL_law_2651 dL_law_2652 dL_law_2653 ?_
  refine lv_aload_n hx hb dL_law_2654 rfl (lv_at hl 4 rfl) ?_
  refine w_call X hH hL hl.1 (co_L_outputAt g l hst0 1 (xs (5 * k + 1)) 213 M (by decide) (by decide) k9 M1 e1) ok_L_outputAt U1070 rfl rfl ⟨(Nat.le_of_ble_eq_true rfl), (Nat.le_of_ble_eq_true rfl)⟩ hf (Nat.zero_le _) dL_law_2655 (fun H locs hH hL => ?_)
  refine lv_istore (lv' := (6, .int k9) :: LVl g b k) hx hb dL_law_2658 hl (by decide) rfl (fun ls hl => ?_)
  refine lv_aload_n hx hb dL_law_2660 rfl (lv_at hl 4 rfl) ?_
  refine w_ar (jn := 1) X hH hX hbl hk hL2 hl 2 rfl 1 rfl (by decide) rfl dL_law_2661 dL_law_2662 dL_law_2664 dL_law_2665 dL_law_2666 ?_
  refine my_done hL (my_runV X hH hl.1 (co_X9_outputAt g l hst0 204 (xs (5 * k + 1)) M1 (by decide) b9 M2 e2) ok_X9_outputAt U1721 (show tyT 204 = 9 by decide) rfl (by decide) rfl rfl rfl ⟨(Nat.le_of_ble_eq_true rfl), (Nat.le_of_ble_eq_true rfl)⟩ hf (Nat.zero_le _) dL_law_2667) (fun H locs hH hL => ?_)
  refine lv_istore (lv' := (7, .int b9) :: (6, .int k9) :: LVl g b k) hx hb dL_law_2670 hl (by decide) rfl (fun ls hl => ?_)
  refine w_thr (v := k9) hst0 X hH hL hl ⟨(Nat.le_of_ble_eq_true rfl), (Nat.le_of_ble_eq_true rfl)⟩ hf 5 rfl 1 rfl e3 U1274 dL_law_2672 dL_law_2673 dL_law_2676 dL_law_2678 (fun H locs hH hL => ?_) (Nat.zero_le _)
  refine w_cmpI (tg := 2994) (o2 := 294) X hH hl 6 rfl 1 rfl 0 rfl e4 dL_law_2683 dL_law_2685 dL_law_2688 dL_law_2689 dL_law_2690 dL_law_2691 dL_law_2693 dL_law_2694 dL_law_2695 dL_law_2700 (by decide) ?_
  exact kk H locs M2 ls hH hL (hG2.up (by omega)) (lv_sub hl [2, 3, 4, 5, 6, 7] rfl)
set_option maxRecDepth 20000 in
set_option maxHeartbeats 4000000 in
theorem case_48 {p : Program} {l : Launch} {e : Env} {s : State} {m : MethodId} {args : Array Value} {below : List Frame} {meth : Method} {c : Code} {H : Heap} {locs : List Loc} {cells slots B k b L : Nat} {Q : State → Prop} {ls : Array Slot} {g : GP} {M : Mem} {xs : Nat → Int32} (hst0 : l.stackTraces = false) (X : CX g l p s m args meth c RL cL_law 9) (hX : va_X b L xs s (gH g)) (hbl : b < gN g) (hk : 5 * k + 5 ≤ L) (hL2 : L ≤ 2560) (hH : HR g M H) (hL : LK g s H locs) (hG : GI B M) (hB : B + 600 ≤ 2 ^ 20) (hf : cells + 1 ≤ 603072 ∧ slots + 6 ≤ 7198826) (hl : lv_has ls 9 (LVl g b k))
    (kk : ∀ H1 locs1 M1 ls1, HR g M1 H1 → LK g s H1 locs1 → GI (B + 600) M1 → lv_has ls1 9 (LVl g b k) → W p l e room_1 s m args below meth c H1 locs1 (cells + 1) (slots + 6) Q (F0 m 2994 ls1 [])) : W p l e room_1 s m args below meth c H locs cells slots Q (F0 m 2703 ls []) := by
  have hx := X.1
  have hb := X.2.1
  obtain ⟨k9, M1, b9, M2, e1, e2, e3, e4, hG2⟩ := call_type hG (((xs (5 * k + 1)).toUInt32 % 65536).toInt32)
  refine lv_aload_n hx hb dL_law_2703 rfl (lv_at hl 2 rfl) ?_
  refine w_ar (jn := 1) X hH hX hbl hk hL2 hl 1 rfl 0 rfl (by decide) rfl dL_law_2704 dL_law_2705 dL_law_2707 dL_law_2708 dL_law_2709 ?_
  refine lv_i2c hx hb dL_law_2710 rfl ?_
  refine lv_aload_n hx hb dL_law_2711 rfl (lv_at hl 4 rfl) ?_
  refine w_call X hH hL hl.1 (co_L_type g l hst0 1 (((xs (5 * k + 1)).toUInt32 % 65536).toInt32) 213 M (by decide) (by decide) k9 M1 e1) ok_L_type U1086 rfl rfl ⟨(Nat.le_of_ble_eq_true rfl), (Nat.le_of_ble_eq_true rfl)⟩ hf (Nat.zero_le _) dL_law_2712 (fun H locs hH hL => ?_)
  refine lv_istore (lv' := (6, .int k9) :: LVl g b k) hx hb dL_law_2715 hl (by decide) rfl (fun ls hl => ?_)
  refine lv_aload_n hx hb dL_law_2717 rfl (lv_at hl 4 rfl) ?_
  refine w_ar (jn := 1) X hH hX hbl hk hL2 hl 2 rfl 1 rfl (by decide) rfl dL_law_2718 dL_law_2719 dL_law_2721 dL_law_2722 dL_law_2723 ?_
  refine lv_i2c hx hb dL_law_2724 rfl ?_
  refine my_done hL (my_runV X hH hl.1 (co_X9_type g l hst0 204 (((xs (5 * k + 1)).toUInt32 % 65536).toInt32) M1 (by decide) b9 M2 e2) ok_X9_type U1725 (show tyT 204 = 9 by decide) rfl (by decide) rfl rfl rfl ⟨(Nat.le_of_ble_eq_true rfl), (Nat.le_of_ble_eq_true rfl)⟩ hf (Nat.zero_le _) dL_law_2725) (fun H locs hH hL => ?_)
  refine lv_istore (lv' := (7, .int b9) :: (6, .int k9) :: LVl g b k) hx hb dL_law_2728 hl (by decide) rfl (fun ls hl => ?_)
  refine w_thr (v := k9) hst0 X hH hL hl ⟨(Nat.le_of_ble_eq_true rfl), (Nat.le_of_ble_eq_true rfl)⟩ hf 5 rfl 1 rfl e3 U1274 dL_law_2730 dL_law_2731 dL_law_2734 dL_law_2736 (fun H locs hH hL => ?_) (Nat.zero_le _)
  refine w_cmpI (tg := 2994) (o2 := 236) X hH hl 6 rfl 1 rfl 0 rfl e4 dL_law_2741 dL_law_2743 dL_law_2746 dL_law_2747 dL_law_2748 dL_law_2749 dL_law_2751 dL_law_2752 dL_law_2753 dL_law_2758 (by decide) ?_
  exact kk H locs M2 ls hH hL (hG2.up (by omega)) (lv_sub hl [2, 3, 4, 5, 6, 7] rfl)
set_option maxRecDepth 20000 in
set_option maxHeartbeats 4000000 in
theorem case_49 {p : Program} {l : Launch} {e : Env} {s : State} {m : MethodId} {args : Array Value} {below : List Frame} {meth : Method} {c : Code} {H : Heap} {locs : List Loc} {cells slots B k b L : Nat} {Q : State → Prop} {ls : Array Slot} {g : GP} {M : Mem} {xs : Nat → Int32} (hst0 : l.stackTraces = false) (X : CX g l p s m args meth c RL cL_law 9) (hX : va_X b L xs s (gH g)) (hbl : b < gN g) (hk : 5 * k + 5 ≤ L) (hL2 : L ≤ 2560) (hH : HR g M H) (hL : LK g s H locs) (hG : GI B M) (hB : B + 600 ≤ 2 ^ 20) (hf : cells + 1 ≤ 603072 ∧ slots + 6 ≤ 7198826) (hl : lv_has ls 9 (LVl g b k))
    (kk : ∀ H1 locs1 M1 ls1, HR g M1 H1 → LK g s H1 locs1 → GI (B + 600) M1 → lv_has ls1 9 (LVl g b k) → W p l e room_1 s m args below meth c H1 locs1 (cells + 1) (slots + 6) Q (F0 m 2994 ls1 [])) : W p l e room_1 s m args below meth c H locs cells slots Q (F0 m 2761 ls []) := by
  have hx := X.1
  have hb := X.2.1
  obtain ⟨k9, M1, b9, M2, e1, e2, e3, e4, hG2⟩ := call_runScript hG (by omega) 
  refine lv_aload_n hx hb dL_law_2761 rfl (lv_at hl 2 rfl) ?_
  refine lv_aload_n hx hb dL_law_2762 rfl (lv_at hl 4 rfl) ?_
  refine w_call X hH hL hl.1 (co_L_runScript g l hst0 1  213 M (by decide) (by decide) k9 M1 e1) ok_L_runScript U1099 rfl rfl ⟨(Nat.le_of_ble_eq_true rfl), (Nat.le_of_ble_eq_true rfl)⟩ hf (Nat.zero_le _) dL_law_2763 (fun H locs hH hL => ?_)
  refine lv_istore (lv' := (6, .int k9) :: LVl g b k) hx hb dL_law_2766 hl (by decide) rfl (fun ls hl => ?_)
  refine lv_aload_n hx hb dL_law_2768 rfl (lv_at hl 4 rfl) ?_
  refine my_done hL (my_runV X hH hl.1 (co_X9_runScript g l hst0 204  M1 (by decide) b9 M2 e2) ok_X9_runScript U1729 (show tyT 204 = 9 by decide) rfl (by decide) rfl rfl rfl ⟨(Nat.le_of_ble_eq_true rfl), (Nat.le_of_ble_eq_true rfl)⟩ hf (Nat.zero_le _) dL_law_2769) (fun H locs hH hL => ?_)
  refine lv_istore (lv' := (7, .int b9) :: (6, .int k9) :: LVl g b k) hx hb dL_law_2772 hl (by decide) rfl (fun ls hl => ?_)
  refine w_thr (v := k9) hst0 X hH hL hl ⟨(Nat.le_of_ble_eq_true rfl), (Nat.le_of_ble_eq_true rfl)⟩ hf 5 rfl 1 rfl e3 U1274 dL_law_2774 dL_law_2775 dL_law_2778 dL_law_2780 (fun H locs hH hL => ?_) (Nat.zero_le _)
  refine w_cmpI (tg := 2994) (o2 := 192) X hH hl 6 rfl 1 rfl 0 rfl e4 dL_law_2785 dL_law_2787 dL_law_2790 dL_law_2791 dL_law_2792 dL_law_2793 dL_law_2795 dL_law_2796 dL_law_2797 dL_law_2802 (by decide) ?_
  exact kk H locs M2 ls hH hL (hG2.up (by omega)) (lv_sub hl [2, 3, 4, 5, 6, 7] rfl)
set_option maxRecDepth 20000 in
set_option maxHeartbeats 4000000 in
theorem case_50 {p : Program} {l : Launch} {e : Env} {s : State} {m : MethodId} {args : Array Value} {below : List Frame} {meth : Method} {c : Code} {H : Heap} {locs : List Loc} {cells slots B k b L : Nat} {Q : State → Prop} {ls : Array Slot} {g : GP} {M : Mem} {xs : Nat → Int32} (hst0 : l.stackTraces = false) (X : CX g l p s m args meth c RL cL_law 9) (hX : va_X b L xs s (gH g)) (hbl : b < gN g) (hk : 5 * k + 5 ≤ L) (hL2 : L ≤ 2560) (hH : HR g M H) (hL : LK g s H locs) (hG : GI B M) (hB : B + 600 ≤ 2 ^ 20) (hf : cells + 1 ≤ 603072 ∧ slots + 6 ≤ 7198826) (hl : lv_has ls 9 (LVl g b k))
    (kk : ∀ H1 locs1 M1 ls1, HR g M1 H1 → LK g s H1 locs1 → GI (B + 600) M1 → lv_has ls1 9 (LVl g b k) → W p l e room_1 s m args below meth c H1 locs1 (cells + 1) (slots + 6) Q (F0 m 2994 ls1 [])) : W p l e room_1 s m args below meth c H locs cells slots Q (F0 m 2805 ls []) := by
  have hx := X.1
  have hb := X.2.1
  obtain ⟨k9, M1, b9, M2, e1, e2, e3, e4, hG2⟩ := call_errorPosition hG 
  refine lv_aload_n hx hb dL_law_2805 rfl (lv_at hl 2 rfl) ?_
  refine lv_aload_n hx hb dL_law_2806 rfl (lv_at hl 4 rfl) ?_
  refine w_call X hH hL hl.1 (co_L_errorPosition g l hst0 1  213 M (by decide) (by decide) k9 M1 e1) ok_L_errorPosition U1233 rfl rfl ⟨(Nat.le_of_ble_eq_true rfl), (Nat.le_of_ble_eq_true rfl)⟩ hf (Nat.zero_le _) dL_law_2807 (fun H locs hH hL => ?_)
  refine lv_istore (lv' := (6, .int k9) :: LVl g b k) hx hb dL_law_2810 hl (by decide) rfl (fun ls hl => ?_)
  refine lv_aload_n hx hb dL_law_2812 rfl (lv_at hl 4 rfl) ?_
  refine my_done hL (my_runV X hH hl.1 (co_X9_errorPosition g l hst0 204  M1 (by decide) b9 M2 e2) ok_X9_errorPosition U1805 (show tyT 204 = 9 by decide) rfl (by decide) rfl rfl rfl ⟨(Nat.le_of_ble_eq_true rfl), (Nat.le_of_ble_eq_true rfl)⟩ hf (Nat.zero_le _) dL_law_2813) (fun H locs hH hL => ?_)
  refine lv_istore (lv' := (7, .int b9) :: (6, .int k9) :: LVl g b k) hx hb dL_law_2816 hl (by decide) rfl (fun ls hl => ?_)
  refine w_thr (v := k9) hst0 X hH hL hl ⟨(Nat.le_of_ble_eq_true rfl), (Nat.le_of_ble_eq_true rfl)⟩ hf 5 rfl 1 rfl e3 U1274 dL_law_2818 dL_law_2819 dL_law_2822 dL_law_2824 (fun H locs hH hL => ?_) (Nat.zero_le _)
  refine w_cmpI (tg := 2994) (o2 := 148) X hH hl 6 rfl 1 rfl 0 rfl e4 dL_law_2829 dL_law_2831 dL_law_2834 dL_law_2835 dL_law_2836 dL_law_2837 dL_law_2839 dL_law_2840 dL_law_2841 dL_law_2846 (by decide) ?_
  exact kk H locs M2 ls hH hL (hG2.up (by omega)) (lv_sub hl [2, 3, 4, 5, 6, 7] rfl)
set_option maxRecDepth 20000 in
set_option maxHeartbeats 4000000 in
theorem case_51 {p : Program} {l : Launch} {e : Env} {s : State} {m : MethodId} {args : Array Value} {below : List Frame} {meth : Method} {c : Code} {H : Heap} {locs : List Loc} {cells slots B k b L : Nat} {Q : State → Prop} {ls : Array Slot} {g : GP} {M : Mem} {xs : Nat → Int32} (hst0 : l.stackTraces = false) (X : CX g l p s m args meth c RL cL_law 9) (hX : va_X b L xs s (gH g)) (hbl : b < gN g) (hk : 5 * k + 5 ≤ L) (hL2 : L ≤ 2560) (hH : HR g M H) (hL : LK g s H locs) (hG : GI B M) (hB : B + 600 ≤ 2 ^ 20) (hf : cells + 1 ≤ 603072 ∧ slots + 6 ≤ 7198826) (hl : lv_has ls 9 (LVl g b k))
    (kk : ∀ H1 locs1 M1 ls1, HR g M1 H1 → LK g s H1 locs1 → GI (B + 600) M1 → lv_has ls1 9 (LVl g b k) → W p l e room_1 s m args below meth c H1 locs1 (cells + 1) (slots + 6) Q (F0 m 2994 ls1 [])) : W p l e room_1 s m args below meth c H locs cells slots Q (F0 m 2849 ls []) := by
  have hx := X.1
  have hb := X.2.1
  obtain ⟨k9, M1, b9, M2, e1, e2, e3, e4, hG2⟩ := call_failedCommand hG 
  refine lv_aload_n hx hb dL_law_2849 rfl (lv_at hl 2 rfl) ?_
  refine lv_aload_n hx hb dL_law_2850 rfl (lv_at hl 4 rfl) ?_
  refine w_call X hH hL hl.1 (co_L_failedCommand g l hst0 1  213 M (by decide) (by decide) k9 M1 e1) ok_L_failedCommand U1241 rfl rfl ⟨(Nat.le_of_ble_eq_true rfl), (Nat.le_of_ble_eq_true rfl)⟩ hf (Nat.zero_le _) dL_law_2851 (fun H locs hH hL => ?_)
  refine lv_istore (lv' := (6, .int k9) :: LVl g b k) hx hb dL_law_2854 hl (by decide) rfl (fun ls hl => ?_)
  refine lv_aload_n hx hb dL_law_2856 rfl (lv_at hl 4 rfl) ?_
  refine my_done hL (my_runV X hH hl.1 (co_X9_failedCommand g l hst0 204  M1 (by decide) b9 M2 e2) ok_X9_failedCommand U1809 (show tyT 204 = 9 by decide) rfl (by decide) rfl rfl rfl ⟨(Nat.le_of_ble_eq_true rfl), (Nat.le_of_ble_eq_true rfl)⟩ hf (Nat.zero_le _) dL_law_2857) (fun H locs hH hL => ?_)
  refine lv_istore (lv' := (7, .int b9) :: (6, .int k9) :: LVl g b k) hx hb dL_law_2860 hl (by decide) rfl (fun ls hl => ?_)
  refine w_thr (v := k9) hst0 X hH hL hl ⟨(Nat.le_of_ble_eq_true rfl), (Nat.le_of_ble_eq_true rfl)⟩ hf 5 rfl 1 rfl e3 U1274 dL_law_2862 dL_law_2863 dL_law_2866 dL_law_2868 (fun H locs hH hL => ?_) (Nat.zero_le _)
  refine w_cmpI (tg := 2994) (o2 := 104) X hH hl 6 rfl 1 rfl 0 rfl e4 dL_law_2873 dL_law_2875 dL_law_2878 dL_law_2879 dL_law_2880 dL_law_2881 dL_law_2883 dL_law_2884 dL_law_2885 dL_law_2890 (by decide) ?_
  exact kk H locs M2 ls hH hL (hG2.up (by omega)) (lv_sub hl [2, 3, 4, 5, 6, 7] rfl)
set_option maxRecDepth 20000 in
set_option maxHeartbeats 4000000 in
theorem case_52 {p : Program} {l : Launch} {e : Env} {s : State} {m : MethodId} {args : Array Value} {below : List Frame} {meth : Method} {c : Code} {H : Heap} {locs : List Loc} {cells slots B k b L : Nat} {Q : State → Prop} {ls : Array Slot} {g : GP} {M : Mem} {xs : Nat → Int32} (hst0 : l.stackTraces = false) (X : CX g l p s m args meth c RL cL_law 9) (hX : va_X b L xs s (gH g)) (hbl : b < gN g) (hk : 5 * k + 5 ≤ L) (hL2 : L ≤ 2560) (hH : HR g M H) (hL : LK g s H locs) (hG : GI B M) (hB : B + 600 ≤ 2 ^ 20) (hf : cells + 1 ≤ 603072 ∧ slots + 6 ≤ 7198826) (hl : lv_has ls 9 (LVl g b k))
    (kk : ∀ H1 locs1 M1 ls1, HR g M1 H1 → LK g s H1 locs1 → GI (B + 600) M1 → lv_has ls1 9 (LVl g b k) → W p l e room_1 s m args below meth c H1 locs1 (cells + 1) (slots + 6) Q (F0 m 2994 ls1 [])) : W p l e room_1 s m args below meth c H locs cells slots Q (F0 m 2893 ls []) := by
  have hx := X.1
  have hb := X.2.1
  obtain ⟨k9, M1, b9, M2, e1, e2, e3, e4, hG2⟩ := call_undo hG 
  refine lv_aload_n hx hb dL_law_2893 rfl (lv_at hl 2 rfl) ?_
  refine lv_aload_n hx hb dL_law_2894 rfl (lv_at hl 4 rfl) ?_
  refine w_call X hH hL hl.1 (co_L_undo g l hst0 1  213 M (by decide) (by decide) k9 M1 e1) ok_L_undo U1249 rfl rfl ⟨(Nat.le_of_ble_eq_true rfl), (Nat.le_of_ble_eq_true rfl)⟩ hf (Nat.zero_le _) dL_law_2895 (fun H locs hH hL => ?_)
  refine lv_istore (lv' := (6, .int k9) :: LVl g b k) hx hb dL_law_2898 hl (by decide) rfl (fun ls hl => ?_)
  refine lv_aload_n hx hb dL_law_2900 rfl (lv_at hl 4 rfl) ?_
  refine my_done hL (my_runV X hH hl.1 (co_X9_undo g l hst0 204  M1 (by decide) b9 M2 e2) ok_X9_undo U1813 (show tyT 204 = 9 by decide) rfl (by decide) rfl rfl rfl ⟨(Nat.le_of_ble_eq_true rfl), (Nat.le_of_ble_eq_true rfl)⟩ hf (Nat.zero_le _) dL_law_2901) (fun H locs hH hL => ?_)
  refine lv_istore (lv' := (7, .int b9) :: (6, .int k9) :: LVl g b k) hx hb dL_law_2904 hl (by decide) rfl (fun ls hl => ?_)
  refine w_thr (v := k9) hst0 X hH hL hl ⟨(Nat.le_of_ble_eq_true rfl), (Nat.le_of_ble_eq_true rfl)⟩ hf 5 rfl 1 rfl e3 U1274 dL_law_2906 dL_law_2907 dL_law_2910 dL_law_2912 (fun H locs hH hL => ?_) (Nat.zero_le _)
  refine w_cmpI (tg := 2994) (o2 := 60) X hH hl 6 rfl 1 rfl 0 rfl e4 dL_law_2917 dL_law_2919 dL_law_2922 dL_law_2923 dL_law_2924 dL_law_2925 dL_law_2927 dL_law_2928 dL_law_2929 dL_law_2934 (by decide) ?_
  exact kk H locs M2 ls hH hL (hG2.up (by omega)) (lv_sub hl [2, 3, 4, 5, 6, 7] rfl)
set_option maxRecDepth 20000 in
set_option maxHeartbeats 4000000 in
theorem case_53 {p : Program} {l : Launch} {e : Env} {s : State} {m : MethodId} {args : Array Value} {below : List Frame} {meth : Method} {c : Code} {H : Heap} {locs : List Loc} {cells slots B k b L : Nat} {Q : State → Prop} {ls : Array Slot} {g : GP} {M : Mem} {xs : Nat → Int32} (hst0 : l.stackTraces = false) (X : CX g l p s m args meth c RL cL_law 9) (hX : va_X b L xs s (gH g)) (hbl : b < gN g) (hk : 5 * k + 5 ≤ L) (hL2 : L ≤ 2560) (hH : HR g M H) (hL : LK g s H locs) (hG : GI B M) (hB : B + 600 ≤ 2 ^ 20) (hf : cells + 1 ≤ 603072 ∧ slots + 6 ≤ 7198826) (hl : lv_has ls 9 (LVl g b k))
    (kk : ∀ H1 locs1 M1 ls1, HR g M1 H1 → LK g s H1 locs1 → GI (B + 600) M1 → lv_has ls1 9 (LVl g b k) → W p l e room_1 s m args below meth c H1 locs1 (cells + 1) (slots + 6) Q (F0 m 2994 ls1 [])) : W p l e room_1 s m args below meth c H locs cells slots Q (F0 m 2937 ls []) := by
  have hx := X.1
  have hb := X.2.1
  obtain ⟨v, M1, M2, e1, e2, hG2⟩ := call_save hG
  refine w_askI (tg := 2994) X hH hL hl 2 rfl 3 rfl (co_X8_save g l hst0 1 M (by decide) v M1 e1) ok_X8_save rfl U645 (co_X9_save g l hst0 204 M1 (by decide) v M2 e2) ok_X9_save rfl U1817 ⟨(Nat.le_of_ble_eq_true rfl), (Nat.le_of_ble_eq_true rfl)⟩ ⟨(Nat.le_of_ble_eq_true rfl), (Nat.le_of_ble_eq_true rfl)⟩ ⟨by show cells ≤ 603072; omega, by show slots ≤ 7198826; omega⟩ dL_law_2937 dL_law_2938 dL_law_2941 dL_law_2942 dL_law_2945 (by decide) (fun H locs hH hL => ?_)
  exact W.widen (k := cells + 1) (n := slots + 6) (by omega) (by omega) (kk H locs M2 ls hH hL (hG2.up (by omega)) hl)
set_option maxRecDepth 20000 in
set_option maxHeartbeats 4000000 in
theorem case_54 {p : Program} {l : Launch} {e : Env} {s : State} {m : MethodId} {args : Array Value} {below : List Frame} {meth : Method} {c : Code} {H : Heap} {locs : List Loc} {cells slots B k b L : Nat} {Q : State → Prop} {ls : Array Slot} {g : GP} {M : Mem} {xs : Nat → Int32} (hst0 : l.stackTraces = false) (X : CX g l p s m args meth c RL cL_law 9) (hX : va_X b L xs s (gH g)) (hbl : b < gN g) (hk : 5 * k + 5 ≤ L) (hL2 : L ≤ 2560) (hH : HR g M H) (hL : LK g s H locs) (hG : GI B M) (hB : B + 600 ≤ 2 ^ 20) (hf : cells + 1 ≤ 603072 ∧ slots + 6 ≤ 7198826) (hl : lv_has ls 9 (LVl g b k))
    (kk : ∀ H1 locs1 M1 ls1, HR g M1 H1 → LK g s H1 locs1 → GI (B + 600) M1 → lv_has ls1 9 (LVl g b k) → W p l e room_1 s m args below meth c H1 locs1 (cells + 1) (slots + 6) Q (F0 m 2994 ls1 [])) : W p l e room_1 s m args below meth c H locs cells slots Q (F0 m 2950 ls []) := by
  have hx := X.1
  have hb := X.2.1
  obtain ⟨k9, M1, b9, M2, e1, e2, e3, e4, hG2⟩ := call_restore hG 
  refine lv_aload_n hx hb dL_law_2950 rfl (lv_at hl 2 rfl) ?_
  refine lv_aload_n hx hb dL_law_2951 rfl (lv_at hl 4 rfl) ?_
  refine w_call X hH hL hl.1 (co_L_restore g l hst0 1  213 M (by decide) (by decide) k9 M1 e1) ok_L_restore U1262 rfl rfl ⟨(Nat.le_of_ble_eq_true rfl), (Nat.le_of_ble_eq_true rfl)⟩ hf (Nat.zero_le _) dL_law_2952 (fun H locs hH hL => ?_)
  refine lv_istore (lv' := (6, .int k9) :: LVl g b k) hx hb dL_law_2955 hl (by decide) rfl (fun ls hl => ?_)
  refine lv_aload_n hx hb dL_law_2957 rfl (lv_at hl 4 rfl) ?_
  refine my_done hL (my_runV X hH hl.1 (co_X9_restore g l hst0 204  M1 (by decide) b9 M2 e2) ok_X9_restore U1821 (show tyT 204 = 9 by decide) rfl (by decide) rfl rfl rfl ⟨(Nat.le_of_ble_eq_true rfl), (Nat.le_of_ble_eq_true rfl)⟩ hf (Nat.zero_le _) dL_law_2958) (fun H locs hH hL => ?_)
  refine lv_istore (lv' := (7, .int b9) :: (6, .int k9) :: LVl g b k) hx hb dL_law_2961 hl (by decide) rfl (fun ls hl => ?_)
  refine w_thr (v := k9) hst0 X hH hL hl ⟨(Nat.le_of_ble_eq_true rfl), (Nat.le_of_ble_eq_true rfl)⟩ hf 5 rfl 1 rfl e3 U1274 dL_law_2963 dL_law_2964 dL_law_2967 dL_law_2969 (fun H locs hH hL => ?_) (Nat.zero_le _)
  refine w_cmpI (tg := 2994) (o2 := 3) X hH hl 6 rfl 1 rfl 0 rfl e4 dL_law_2974 dL_law_2976 dL_law_2979 dL_law_2980 dL_law_2981 dL_law_2982 dL_law_2984 dL_law_2985 dL_law_2986 dL_law_2991 (by decide) ?_
  exact kk H locs M2 ls hH hL (hG2.up (by omega)) (lv_sub hl [2, 3, 4, 5, 6, 7] rfl)
