/-! THE LAW'S LOOP -/
theorem and63 (x : Int32) : ∃ j, j < 64 ∧ x &&& 63 = nI j := by
  refine ⟨x.toBitVec.toNat % 64, Nat.mod_lt _ (by decide), ?_⟩
  apply Int32.toBitVec_inj.mp
  apply BitVec.eq_of_toNat_eq
  rw [Int32.toBitVec_and, BitVec.toNat_and]
  have h1 : (63 : Int32).toBitVec.toNat = 2 ^ 6 - 1 := by decide
  rw [h1, Nat.and_two_pow_sub_one_eq_mod]
  have h2 : (nI (x.toBitVec.toNat % 64)).toBitVec.toNat = (x.toBitVec.toNat % 64) % 2 ^ 32 := by
    show (BitVec.ofNat 32 (x.toBitVec.toNat % 64)).toNat = _
    exact BitVec.toNat_ofNat _ _
  rw [h2]
  omega
theorem small_neg : ∀ L, L < 5 → (nI L - 5).toInt < 0 := by decide
section MYLOOP
variable {p : Program} {l : Launch} {e : Env} {s : State} {m : MethodId} {args : Array Value} {below : List Frame} {meth : Method} {c : Code} {b L : Nat} {Q : State → Prop} {g : GP} {xs : Nat → Int32}
theorem law_disp {H : Heap} {locs : List Loc} {cells slots B k : Nat} {ls : Array Slot} {M : Mem} (hst0 : l.stackTraces = false) (X : CX g l p s m args meth c RL cL_law 9) (hX : va_X b L xs s (gH g)) (hbl : b < gN g) (hk : 5 * k + 5 ≤ L) (hL2 : L ≤ 2560) (hH : HR g M H) (hL : LK g s H locs) (hG : GI B M) (hB : B + 600 ≤ 2 ^ 20) (hf : cells + 1 ≤ 603072 ∧ slots + 6 ≤ 7198826) (hl : lv_has ls 9 (LVl g b k))
    (kk : ∀ H1 locs1 M1 ls1, HR g M1 H1 → LK g s H1 locs1 → GI (B + 600) M1 → lv_has ls1 9 (LVl g b k) → W p l e room_1 s m args below meth c H1 locs1 (cells + 1) (slots + 6) Q (F0 m 2994 ls1 [])) (hx : p.tables.exec = Jvm.exec) (hb : c.code = cL_law) : ∀ j, j < 64 → ∀ {x : Int32}, x = nI j → W p l e room_1 s m args below meth c H locs cells slots Q (F0 m 44 ls [.int x])
  | 0, _, _, e => by
    rw [e]
    exact lv_tableIn (x := nI 0) (off := 236) (tgt := 280) hx hb dL_law_44 (by decide) (by decide) (by decide +kernel) (by decide) (case_0 hst0 X hX hbl hk hL2 hH hL hG hB hf hl kk)
  | 1, _, _, e => by
    rw [e]
    exact lv_tableIn (x := nI 1) (off := 318) (tgt := 362) hx hb dL_law_44 (by decide) (by decide) (by decide +kernel) (by decide) (case_1 hst0 X hX hbl hk hL2 hH hL hG hB hf hl kk)
  | 2, _, _, e => by
    rw [e]
    exact lv_tableIn (x := nI 2) (off := 374) (tgt := 418) hx hb dL_law_44 (by decide) (by decide) (by decide +kernel) (by decide) (case_2 hst0 X hX hbl hk hL2 hH hL hG hB hf hl kk)
  | 3, _, _, e => by
    rw [e]
    exact lv_tableIn (x := nI 3) (off := 466) (tgt := 510) hx hb dL_law_44 (by decide) (by decide) (by decide +kernel) (by decide) (case_3 hst0 X hX hbl hk hL2 hH hL hG hB hf hl kk)
  | 4, _, _, e => by
    rw [e]
    exact lv_tableIn (x := nI 4) (off := 569) (tgt := 613) hx hb dL_law_44 (by decide) (by decide) (by decide +kernel) (by decide) (case_4 hst0 X hX hbl hk hL2 hH hL hG hB hf hl kk)
  | 5, _, _, e => by
    rw [e]
    exact lv_tableIn (x := nI 5) (off := 625) (tgt := 669) hx hb dL_law_44 (by decide) (by decide) (by decide +kernel) (by decide) (case_5 hst0 X hX hbl hk hL2 hH hL hG hB hf hl kk)
  | 6, _, _, e => by
    rw [e]
    exact lv_tableIn (x := nI 6) (off := 681) (tgt := 725) hx hb dL_law_44 (by decide) (by decide) (by decide +kernel) (by decide) (case_6 hst0 X hX hbl hk hL2 hH hL hG hB hf hl kk)
  | 7, _, _, e => by
    rw [e]
    exact lv_tableIn (x := nI 7) (off := 749) (tgt := 793) hx hb dL_law_44 (by decide) (by decide) (by decide +kernel) (by decide) (case_7 hst0 X hX hbl hk hL2 hH hL hG hB hf hl kk)
  | 8, _, _, e => by
    rw [e]
    exact lv_tableIn (x := nI 8) (off := 805) (tgt := 849) hx hb dL_law_44 (by decide) (by decide) (by decide +kernel) (by decide) (case_8 hst0 X hX hbl hk hL2 hH hL hG hB hf hl kk)
  | 9, _, _, e => by
    rw [e]
    exact lv_tableIn (x := nI 9) (off := 861) (tgt := 905) hx hb dL_law_44 (by decide) (by decide) (by decide +kernel) (by decide) (case_9 hst0 X hX hbl hk hL2 hH hL hG hB hf hl kk)
  | 10, _, _, e => by
    rw [e]
    exact lv_tableIn (x := nI 10) (off := 874) (tgt := 918) hx hb dL_law_44 (by decide) (by decide) (by decide +kernel) (by decide) (case_10 hst0 X hX hbl hk hL2 hH hL hG hB hf hl kk)
  | 11, _, _, e => by
    rw [e]
    exact lv_tableIn (x := nI 11) (off := 930) (tgt := 974) hx hb dL_law_44 (by decide) (by decide) (by decide +kernel) (by decide) (case_11 hst0 X hX hbl hk hL2 hH hL hG hB hf hl kk)
  | 12, _, _, e => by
    rw [e]
    exact lv_tableIn (x := nI 12) (off := 943) (tgt := 987) hx hb dL_law_44 (by decide) (by decide) (by decide +kernel) (by decide) (case_12 hst0 X hX hbl hk hL2 hH hL hG hB hf hl kk)
  | 13, _, _, e => by
    rw [e]
    exact lv_tableIn (x := nI 13) (off := 956) (tgt := 1000) hx hb dL_law_44 (by decide) (by decide) (by decide +kernel) (by decide) (case_13 hst0 X hX hbl hk hL2 hH hL hG hB hf hl kk)
  | 14, _, _, e => by
    rw [e]
    exact lv_tableIn (x := nI 14) (off := 969) (tgt := 1013) hx hb dL_law_44 (by decide) (by decide) (by decide +kernel) (by decide) (case_14 hst0 X hX hbl hk hL2 hH hL hG hB hf hl kk)
  | 15, _, _, e => by
    rw [e]
    exact lv_tableIn (x := nI 15) (off := 982) (tgt := 1026) hx hb dL_law_44 (by decide) (by decide) (by decide +kernel) (by decide) (case_15 hst0 X hX hbl hk hL2 hH hL hG hB hf hl kk)
  | 16, _, _, e => by
    rw [e]
    exact lv_tableIn (x := nI 16) (off := 1038) (tgt := 1082) hx hb dL_law_44 (by decide) (by decide) (by decide +kernel) (by decide) (case_16 hst0 X hX hbl hk hL2 hH hL hG hB hf hl kk)
  | 17, _, _, e => by
    rw [e]
    exact lv_tableIn (x := nI 17) (off := 1094) (tgt := 1138) hx hb dL_law_44 (by decide) (by decide) (by decide +kernel) (by decide) (case_17 hst0 X hX hbl hk hL2 hH hL hG hB hf hl kk)
  | 18, _, _, e => by
    rw [e]
    exact lv_tableIn (x := nI 18) (off := 1150) (tgt := 1194) hx hb dL_law_44 (by decide) (by decide) (by decide +kernel) (by decide) (case_18 hst0 X hX hbl hk hL2 hH hL hG hB hf hl kk)
  | 19, _, _, e => by
    rw [e]
    exact lv_tableIn (x := nI 19) (off := 1230) (tgt := 1274) hx hb dL_law_44 (by decide) (by decide) (by decide +kernel) (by decide) (case_19 hst0 X hX hbl hk hL2 hH hL hG hB hf hl kk)
  | 20, _, _, e => by
    rw [e]
    exact lv_tableIn (x := nI 20) (off := 1305) (tgt := 1349) hx hb dL_law_44 (by decide) (by decide) (by decide +kernel) (by decide) (case_20 hst0 X hX hbl hk hL2 hH hL hG hB hf hl kk)
  | 21, _, _, e => by
    rw [e]
    exact lv_tableIn (x := nI 21) (off := 1361) (tgt := 1405) hx hb dL_law_44 (by decide) (by decide) (by decide +kernel) (by decide) (case_21 hst0 X hX hbl hk hL2 hH hL hG hB hf hl kk)
  | 22, _, _, e => by
    rw [e]
    exact lv_tableIn (x := nI 22) (off := 1417) (tgt := 1461) hx hb dL_law_44 (by decide) (by decide) (by decide +kernel) (by decide) (case_22 hst0 X hX hbl hk hL2 hH hL hG hB hf hl kk)
  | 23, _, _, e => by
    rw [e]
    exact lv_tableIn (x := nI 23) (off := 1480) (tgt := 1524) hx hb dL_law_44 (by decide) (by decide) (by decide +kernel) (by decide) (case_23 hst0 X hX hbl hk hL2 hH hL hG hB hf hl kk)
  | 24, _, _, e => by
    rw [e]
    exact lv_tableIn (x := nI 24) (off := 1555) (tgt := 1599) hx hb dL_law_44 (by decide) (by decide) (by decide +kernel) (by decide) (case_24 hst0 X hX hbl hk hL2 hH hL hG hB hf hl kk)
  | 25, _, _, e => by
    rw [e]
    exact lv_tableIn (x := nI 25) (off := 1625) (tgt := 1669) hx hb dL_law_44 (by decide) (by decide) (by decide +kernel) (by decide) (case_25 hst0 X hX hbl hk hL2 hH hL hG hB hf hl kk)
  | 26, _, _, e => by
    rw [e]
    exact lv_tableIn (x := nI 26) (off := 1693) (tgt := 1737) hx hb dL_law_44 (by decide) (by decide) (by decide +kernel) (by decide) (case_26 hst0 X hX hbl hk hL2 hH hL hG hB hf hl kk)
  | 27, _, _, e => by
    rw [e]
    exact lv_tableIn (x := nI 27) (off := 1761) (tgt := 1805) hx hb dL_law_44 (by decide) (by decide) (by decide +kernel) (by decide) (case_27 hst0 X hX hbl hk hL2 hH hL hG hB hf hl kk)
  | 28, _, _, e => by
    rw [e]
    exact lv_tableIn (x := nI 28) (off := 1817) (tgt := 1861) hx hb dL_law_44 (by decide) (by decide) (by decide +kernel) (by decide) (case_28 hst0 X hX hbl hk hL2 hH hL hG hB hf hl kk)
  | 29, _, _, e => by
    rw [e]
    exact lv_tableIn (x := nI 29) (off := 1830) (tgt := 1874) hx hb dL_law_44 (by decide) (by decide) (by decide +kernel) (by decide) (case_29 hst0 X hX hbl hk hL2 hH hL hG hB hf hl kk)
  | 30, _, _, e => by
    rw [e]
    exact lv_tableIn (x := nI 30) (off := 1843) (tgt := 1887) hx hb dL_law_44 (by decide) (by decide) (by decide +kernel) (by decide) (case_30 hst0 X hX hbl hk hL2 hH hL hG hB hf hl kk)
  | 31, _, _, e => by
    rw [e]
    exact lv_tableIn (x := nI 31) (off := 1856) (tgt := 1900) hx hb dL_law_44 (by decide) (by decide) (by decide +kernel) (by decide) (case_31 hst0 X hX hbl hk hL2 hH hL hG hB hf hl kk)
  | 32, _, _, e => by
    rw [e]
    exact lv_tableIn (x := nI 32) (off := 1900) (tgt := 1944) hx hb dL_law_44 (by decide) (by decide) (by decide +kernel) (by decide) (case_32 hst0 X hX hbl hk hL2 hH hL hG hB hf hl kk)
  | 33, _, _, e => by
    rw [e]
    exact lv_tableIn (x := nI 33) (off := 1956) (tgt := 2000) hx hb dL_law_44 (by decide) (by decide) (by decide +kernel) (by decide) (case_33 hst0 X hX hbl hk hL2 hH hL hG hB hf hl kk)
  | 34, _, _, e => by
    rw [e]
    exact lv_tableIn (x := nI 34) (off := 1969) (tgt := 2013) hx hb dL_law_44 (by decide) (by decide) (by decide +kernel) (by decide) (case_34 hst0 X hX hbl hk hL2 hH hL hG hB hf hl kk)
  | 35, _, _, e => by
    rw [e]
    exact lv_tableIn (x := nI 35) (off := 2025) (tgt := 2069) hx hb dL_law_44 (by decide) (by decide) (by decide +kernel) (by decide) (case_35 hst0 X hX hbl hk hL2 hH hL hG hB hf hl kk)
  | 36, _, _, e => by
    rw [e]
    exact lv_tableIn (x := nI 36) (off := 2039) (tgt := 2083) hx hb dL_law_44 (by decide) (by decide) (by decide +kernel) (by decide) (case_36 hst0 X hX hbl hk hL2 hH hL hG hB hf hl kk)
  | 37, _, _, e => by
    rw [e]
    exact lv_tableIn (x := nI 37) (off := 2053) (tgt := 2097) hx hb dL_law_44 (by decide) (by decide) (by decide +kernel) (by decide) (case_37 hst0 X hX hbl hk hL2 hH hL hG hB hf hl kk)
  | 38, _, _, e => by
    rw [e]
    exact lv_tableIn (x := nI 38) (off := 2123) (tgt := 2167) hx hb dL_law_44 (by decide) (by decide) (by decide +kernel) (by decide) (case_38 hst0 X hX hbl hk hL2 hH hL hG hB hf hl kk)
  | 39, _, _, e => by
    rw [e]
    exact lv_tableIn (x := nI 39) (off := 2167) (tgt := 2211) hx hb dL_law_44 (by decide) (by decide) (by decide +kernel) (by decide) (case_39 hst0 X hX hbl hk hL2 hH hL hG hB hf hl kk)
  | 40, _, _, e => by
    rw [e]
    exact lv_tableIn (x := nI 40) (off := 2223) (tgt := 2267) hx hb dL_law_44 (by decide) (by decide) (by decide +kernel) (by decide) (case_40 hst0 X hX hbl hk hL2 hH hL hG hB hf hl kk)
  | 41, _, _, e => by
    rw [e]
    exact lv_tableIn (x := nI 41) (off := 2279) (tgt := 2323) hx hb dL_law_44 (by decide) (by decide) (by decide +kernel) (by decide) (case_41 hst0 X hX hbl hk hL2 hH hL hG hB hf hl kk)
  | 42, _, _, e => by
    rw [e]
    exact lv_tableIn (x := nI 42) (off := 2335) (tgt := 2379) hx hb dL_law_44 (by decide) (by decide) (by decide +kernel) (by decide) (case_42 hst0 X hX hbl hk hL2 hH hL hG hB hf hl kk)
  | 43, _, _, e => by
    rw [e]
    exact lv_tableIn (x := nI 43) (off := 2400) (tgt := 2444) hx hb dL_law_44 (by decide) (by decide) (by decide +kernel) (by decide) (case_43 hst0 X hX hbl hk hL2 hH hL hG hB hf hl kk)
  | 44, _, _, e => by
    rw [e]
    exact lv_tableIn (x := nI 44) (off := 2478) (tgt := 2522) hx hb dL_law_44 (by decide) (by decide) (by decide +kernel) (by decide) (case_44 hst0 X hX hbl hk hL2 hH hL hG hB hf hl kk)
  | 45, _, _, e => by
    rw [e]
    exact lv_tableIn (x := nI 45) (off := 2491) (tgt := 2535) hx hb dL_law_44 (by decide) (by decide) (by decide +kernel) (by decide) (case_45 hst0 X hX hbl hk hL2 hH hL hG hB hf hl kk)
  | 46, _, _, e => by
    rw [e]
    exact lv_tableIn (x := nI 46) (off := 2547) (tgt := 2591) hx hb dL_law_44 (by decide) (by decide) (by decide +kernel) (by decide) (case_46 hst0 X hX hbl hk hL2 hH hL hG hB hf hl kk)
  | 47, _, _, e => by
    rw [e]
    exact lv_tableIn (x := nI 47) (off := 2603) (tgt := 2647) hx hb dL_law_44 (by decide) (by decide) (by decide +kernel) (by decide) (case_47 hst0 X hX hbl hk hL2 hH hL hG hB hf hl kk)
  | 48, _, _, e => by
    rw [e]
    exact lv_tableIn (x := nI 48) (off := 2659) (tgt := 2703) hx hb dL_law_44 (by decide) (by decide) (by decide +kernel) (by decide) (case_48 hst0 X hX hbl hk hL2 hH hL hG hB hf hl kk)
  | 49, _, _, e => by
    rw [e]
    exact lv_tableIn (x := nI 49) (off := 2717) (tgt := 2761) hx hb dL_law_44 (by decide) (by decide) (by decide +kernel) (by decide) (case_49 hst0 X hX hbl hk hL2 hH hL hG hB hf hl kk)
  | 50, _, _, e => by
    rw [e]
    exact lv_tableIn (x := nI 50) (off := 2761) (tgt := 2805) hx hb dL_law_44 (by decide) (by decide) (by decide +kernel) (by decide) (case_50 hst0 X hX hbl hk hL2 hH hL hG hB hf hl kk)
  | 51, _, _, e => by
    rw [e]
    exact lv_tableIn (x := nI 51) (off := 2805) (tgt := 2849) hx hb dL_law_44 (by decide) (by decide) (by decide +kernel) (by decide) (case_51 hst0 X hX hbl hk hL2 hH hL hG hB hf hl kk)
  | 52, _, _, e => by
    rw [e]
    exact lv_tableIn (x := nI 52) (off := 2849) (tgt := 2893) hx hb dL_law_44 (by decide) (by decide) (by decide +kernel) (by decide) (case_52 hst0 X hX hbl hk hL2 hH hL hG hB hf hl kk)
  | 53, _, _, e => by
    rw [e]
    exact lv_tableIn (x := nI 53) (off := 2893) (tgt := 2937) hx hb dL_law_44 (by decide) (by decide) (by decide +kernel) (by decide) (case_53 hst0 X hX hbl hk hL2 hH hL hG hB hf hl kk)
  | 54, _, _, e => by
    rw [e]
    exact lv_tableIn (x := nI 54) (off := 2906) (tgt := 2950) hx hb dL_law_44 (by decide) (by decide) (by decide +kernel) (by decide) (case_54 hst0 X hX hbl hk hL2 hH hL hG hB hf hl kk)
  | j + 55, hj, _, e => by
    rw [e]
    have h9 : (nI (j + 55)).toInt = ((j + 55 : Nat) : Int) := nI_toInt (by omega)
    exact lv_tableOut (tgt := 2994) hx hb dL_law_44 (Or.inr (by rw [h9]; omega)) (by decide) (W.widen (k := cells + 1) (n := slots + 6) (by omega) (by omega) (kk H locs M ls hH hL (hG.up (by omega)) hl))
theorem law_loop (hst0 : l.stackTraces = false) (X : CX g l p s m args meth c RL cL_law 9) (hX : va_X b L xs s (gH g)) (hbl : b < gN g) (hL2 : L ≤ 2560)
    (kend : ∀ H1 locs1 cells slots ls1, LK g s H1 locs1 → cells ≤ 1000 → slots ≤ 20000 → W p l e room_1 s m args below meth c H1 locs1 cells slots Q (F0 m 3000 ls1 [])) : ∀ n k H locs ls M, n + k = 513 → HR g M H → LK g s H locs → GI (600 * k) M → lv_has ls 9 (LVl g b k) → 5 * k ≤ 2560 → W p l e room_1 s m args below meth c H locs (214 + k) (6855 + 6 * k) Q (F0 m 28 ls [])
  | 0, k, H, locs, ls, M, hn, hH, hL, hG, hl, hk5 => by omega
  | n + 1, k, H, locs, ls, M, hn, hH, hL, hG, hl, hk5 => by
    have hx := X.1
    have hb := X.2.1
    refine lv_iload hx hb dL_law_28 (lv_at hl 0 rfl) ?_
    refine lv_aload_n hx hb dL_law_30 rfl (lv_at hl 1 rfl) ?_
    obtain ⟨scr, h1, h2, h3, h4, h6⟩ := id hX
    refine W.alen (n := nI L) hx hb (by rw [hH.1.1 b hbl]; exact h1) h2 (by rw [h4] <;> rfl) rfl rfl dL_law_31 ?_
    show W p l e room_1 s m args below meth c H locs (214 + k) (6855 + 6 * k) Q (F0 m 32 ls [.int (nI L), .int (nI (5 * k))])
    refine lv_iconst (v := 5) hx hb dL_law_32 (by decide) ?_
    refine lv_isub hx hb dL_law_33 ?_
    refine lv_icmp_gt (tgt := 3000) hx hb dL_law_34 (by decide) (fun _ => kend H locs _ _ ls hL (by omega) (by omega)) (fun hlt => ?_)
    have hk : 5 * k + 5 ≤ L := by
      rw [Int32.lt_iff_toInt_lt] at hlt
      have e1 : (nI (5 * k)).toInt = ((5 * k : Nat) : Int) := nI_toInt (by omega)
      rw [e1] at hlt
      rcases Nat.lt_or_ge L 5 with z | z
      · exfalso
        have e2 : (nI L - 5).toInt < 0 := small_neg L z
        omega
      · have e3 : nI L - 5 = nI (L - 5) := by
          rw [show (5 : Int32) = nI 5 from rfl]
          exact nI_sub z
        rw [e3, nI_toInt (by omega)] at hlt
        omega
    refine lv_aload_n hx hb dL_law_37 rfl (lv_at hl 1 rfl) ?_
    refine lv_iload hx hb dL_law_38 (lv_at hl 0 rfl) ?_
    refine W.iald (v := .int (xs (5 * k))) hx hb (by rw [hH.1.1 b hbl]; exact h1) h2 h3 (by rw [h4]; exact nI_in (by omega) (by omega)) (by rw [nI_clamp (by omega)]; exact h6 _ (by omega)) rfl rfl dL_law_40 ?_
    show W p l e room_1 s m args below meth c H locs (214 + k) (6855 + 6 * k) Q (F0 m 41 ls [.int (xs (5 * k))])
    refine lv_bipush (v := 63) hx hb dL_law_41 (by decide) ?_
    refine lv_iand hx hb dL_law_43 ?_
    obtain ⟨j, hj, ej⟩ := and63 (xs (5 * k))
    refine law_disp hst0 X hX hbl hk hL2 hH hL hG (by omega) ⟨by omega, by omega⟩ hl (fun H1 locs1 M1 ls1 hH1 hL1 hG1 hl1 => ?_) hx hb j hj ej
    refine lv_iinc (v := nI (5 * (k + 1))) (lv' := LVl g b (k + 1)) hx hb dL_law_2994 hl1 (k := 0) rfl (by rw [show Int32.ofInt 5 = nI 5 from rfl, nI_add]; exact congrArg nI (by omega)) (by decide) rfl (fun ls2 hl2 => ?_)
    refine lv_goto (tgt := 28) hx hb dL_law_2997 (by decide) ?_
    exact law_loop hst0 X hX hbl hL2 kend n (k + 1) H1 locs1 ls2 M1 (by omega) hH1 hL1 (hG1.up (by omega)) hl2 (by omega)
end MYLOOP
