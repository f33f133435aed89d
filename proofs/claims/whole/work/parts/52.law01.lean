set_option maxRecDepth 20000 in
set_option maxHeartbeats 4000000 in
theorem co_L_addSection (g : GP) (l : Launch) (hst : l.stackTraces = false) (q1_ : Nat) (p2_ : Int32) (p3_ : Int32) (p4_ : Int32) (q5_ : Nat) (M : Mem) (t_q1_ : tyT q1_ = 8) (t_q5_ : tyT q5_ = 27) (v : Int32) (M' : Mem) (hF : F_L_addSection q1_ p2_ p3_ p4_ q5_ M = some (v, M')) : COW g l yL_addSection cL_addSection 6 [(0, 12, 15, 13), (0, 12, 19, 15)] 8 244 [.ref (adr g q1_), .int p2_, .int p3_, .int p4_, .ref (adr g q5_)] M v M' := by
  refine COW_of hst (by decide) (Nat.le_of_ble_eq_true rfl) ?_
  intro p e s m below meth c ls X hr htb hH hL hl
  have hx := X.1
  have hb := X.2.1
  have hts := X.2.2.2.2.1
  refine q_out hF ?_
  rw [F_L_addSection]
  replace hl : lv_has ls 6 [(0, .ref (adr g q1_)), (1, .int p2_), (2, .int p3_), (3, .int p4_), (4, .ref (adr g q5_))] := hl
  refine lv_aload hx hb dL_addSection_0 (lv_at hl 4 rfl) ?_
  refine lv_iconst (v := 0) hx hb dL_addSection_2 (by decide) ?_
  refine lv_aload_n hx hb dL_addSection_3 rfl (lv_at hl 0 rfl) ?_
  refine lv_iload_n hx hb dL_addSection_4 rfl (lv_at hl 1 rfl) ?_
  refine lv_iload_n hx hb dL_addSection_5 rfl (lv_at hl 2 rfl) ?_
  refine lv_iload_n hx hb dL_addSection_6 rfl (lv_at hl 3 rfl) ?_
  refine q_bw (fun v2 M3 e1 => ?_) (fun E4 M3 e1 => ?_)
  · refine my_doneI hL (my_runV X hH hl.1 (co_X8_addSection g l hst q1_ p2_ p3_ p4_ M t_q1_ (.inl v2) M3 e1) ok_X8_addSection W655 t_q1_ rfl (by decide) rfl rfl rfl ⟨Nat.le_of_ble_eq_true rfl, Nat.le_of_ble_eq_true rfl⟩ ⟨Nat.zero_le _, Nat.zero_le _⟩ (Nat.le_of_ble_eq_true rfl) dL_addSection_7) (fun H locs hH hL => ?_)
    refine lv_i2l hx hb dL_addSection_10 rfl ?_
    refine q_chk (fun hb5 => ?_)
    refine q_lt (fun M6 e_M6 => ?_)
    refine m_ls X hH hL t_q5_ hb5 dL_addSection_11 e_M6 (fun H locs hH hL => ?_)
    refine lv_goto (tgt := 23) hx hb dL_addSection_12 (by decide) ?_
    refine lv_iconst (v := 0) hx hb dL_addSection_23 (by decide) ?_
    exact q_endW (m_iretW X hr hH hL (Nat.zero_le _) (Nat.zero_le _) dL_addSection_24)
  · by_cases c7 : E4 = "java/lang/IllegalArgumentException"
    · refine q_pos c7 (q_ret (fun hq => ?_))
      subst c7
      cases hq
      refine my_caught X hL (my_runV X hH hl.1 (co_X8_addSection g l hst q1_ p2_ p3_ p4_ M t_q1_ (.inr "java/lang/IllegalArgumentException") M' e1) ok_X8_addSection W655 t_q1_ rfl (by decide) rfl rfl rfl ⟨Nat.le_of_ble_eq_true rfl, Nat.le_of_ble_eq_true rfl⟩ ⟨Nat.le_of_ble_eq_true rfl, Nat.le_of_ble_eq_true rfl⟩ (Nat.le_of_ble_eq_true rfl) dL_addSection_7) [] ⟨0, 12, 15, 13⟩ [⟨0, 12, 19, 15⟩] htb np0 rfl (by decide) W653 (by decide +kernel) (fun H locs q hH hL => ?_)
      refine lv_astore hx hb dL_addSection_15 hl (by decide) rfl (fun ls hl => ?_)
      refine lv_iconst (v := 1) hx hb dL_addSection_17 (by decide) ?_
      exact m_iretW X hr hH hL (by decide) (by decide) dL_addSection_18
    refine q_neg c7 ?_
    by_cases c8 : E4 = "java/lang/IllegalStateException"
    · refine q_pos c8 (q_ret (fun hq => ?_))
      subst c8
      cases hq
      refine my_caught X hL (my_runV X hH hl.1 (co_X8_addSection g l hst q1_ p2_ p3_ p4_ M t_q1_ (.inr "java/lang/IllegalStateException") M' e1) ok_X8_addSection W655 t_q1_ rfl (by decide) rfl rfl rfl ⟨Nat.le_of_ble_eq_true rfl, Nat.le_of_ble_eq_true rfl⟩ ⟨Nat.le_of_ble_eq_true rfl, Nat.le_of_ble_eq_true rfl⟩ (Nat.le_of_ble_eq_true rfl) dL_addSection_7) [⟨0, 12, 15, 13⟩] ⟨0, 12, 19, 15⟩ [] htb (np1 (by decide) W653 (by decide +kernel) np0) rfl (by decide) W654 (by decide +kernel) (fun H locs q hH hL => ?_)
      refine lv_astore hx hb dL_addSection_19 hl (by decide) rfl (fun ls hl => ?_)
      refine lv_iconst (v := 2) hx hb dL_addSection_21 (by decide) ?_
      exact m_iretW X hr hH hL (by decide) (by decide) dL_addSection_22
    refine q_neg c8 ?_
    exact q_none

set_option maxRecDepth 20000 in
set_option maxHeartbeats 4000000 in
theorem co_L_removeSection (g : GP) (l : Launch) (hst : l.stackTraces = false) (q1_ : Nat) (p2_ : Int32) (q3_ : Nat) (M : Mem) (t_q1_ : tyT q1_ = 8) (t_q3_ : tyT q3_ = 27) (v : Int32) (M' : Mem) (hF : F_L_removeSection q1_ p2_ q3_ M = some (v, M')) : COW g l yL_removeSection cL_removeSection 4 [(0, 9, 12, 21)] 8 242 [.ref (adr g q1_), .int p2_, .ref (adr g q3_)] M v M' := by
  refine COW_of hst (by decide) (Nat.le_of_ble_eq_true rfl) ?_
  intro p e s m below meth c ls X hr htb hH hL hl
  have hx := X.1
  have hb := X.2.1
  have hts := X.2.2.2.2.1
  refine q_out hF ?_
  rw [F_L_removeSection]
  replace hl : lv_has ls 4 [(0, .ref (adr g q1_)), (1, .int p2_), (2, .ref (adr g q3_))] := hl
  refine lv_aload_n hx hb dL_removeSection_0 rfl (lv_at hl 2 rfl) ?_
  refine lv_iconst (v := 0) hx hb dL_removeSection_1 (by decide) ?_
  refine lv_aload_n hx hb dL_removeSection_2 rfl (lv_at hl 0 rfl) ?_
  refine lv_iload_n hx hb dL_removeSection_3 rfl (lv_at hl 1 rfl) ?_
  refine q_bw (fun v2 M3 e1 => ?_) (fun E4 M3 e1 => ?_)
  · refine my_doneI hL (my_runV X hH hl.1 (co_X8_removeSection g l hst q1_ p2_ M t_q1_ (.inl v2) M3 e1) ok_X8_removeSection W694 t_q1_ rfl (by decide) rfl rfl rfl ⟨Nat.le_of_ble_eq_true rfl, Nat.le_of_ble_eq_true rfl⟩ ⟨Nat.zero_le _, Nat.zero_le _⟩ (Nat.le_of_ble_eq_true rfl) dL_removeSection_4) (fun H locs hH hL => ?_)
    refine lv_i2l hx hb dL_removeSection_7 rfl ?_
    refine q_chk (fun hb5 => ?_)
    refine q_lt (fun M6 e_M6 => ?_)
    refine m_ls X hH hL t_q3_ hb5 dL_removeSection_8 e_M6 (fun H locs hH hL => ?_)
    refine lv_goto (tgt := 15) hx hb dL_removeSection_9 (by decide) ?_
    refine lv_iconst (v := 0) hx hb dL_removeSection_15 (by decide) ?_
    exact q_endW (m_iretW X hr hH hL (Nat.zero_le _) (Nat.zero_le _) dL_removeSection_16)
  · by_cases c7 : E4 = "java/lang/IndexOutOfBoundsException"
    · refine q_pos c7 (q_ret (fun hq => ?_))
      subst c7
      cases hq
      refine my_caught X hL (my_runV X hH hl.1 (co_X8_removeSection g l hst q1_ p2_ M t_q1_ (.inr "java/lang/IndexOutOfBoundsException") M' e1) ok_X8_removeSection W694 t_q1_ rfl (by decide) rfl rfl rfl ⟨Nat.le_of_ble_eq_true rfl, Nat.le_of_ble_eq_true rfl⟩ ⟨Nat.le_of_ble_eq_true rfl, Nat.le_of_ble_eq_true rfl⟩ (Nat.le_of_ble_eq_true rfl) dL_removeSection_4) [] ⟨0, 9, 12, 21⟩ [] htb np0 rfl (by decide) W673 (by decide +kernel) (fun H locs q hH hL => ?_)
      refine lv_astore_n hx hb dL_removeSection_12 rfl hl (by decide) rfl (fun ls hl => ?_)
      refine lv_iconst (v := 1) hx hb dL_removeSection_13 (by decide) ?_
      exact m_iretW X hr hH hL (by decide) (by decide) dL_removeSection_14
    refine q_neg c7 ?_
    exact q_none

set_option maxRecDepth 20000 in
set_option maxHeartbeats 4000000 in
theorem co_L_setNote (g : GP) (l : Launch) (hst : l.stackTraces = false) (q1_ : Nat) (p2_ : Int32) (p3_ : Int32) (p4_ : Int32) (p5_ : Int32) (q6_ : Nat) (M : Mem) (t_q1_ : tyT q1_ = 8) (t_q6_ : tyT q6_ = 27) (v : Int32) (M' : Mem) (hF : F_L_setNote q1_ p2_ p3_ p4_ p5_ q6_ M = some (v, M')) : COW g l yL_setNote cL_setNote 7 [(0, 14, 17, 21), (0, 14, 21, 13)] 8 245 [.ref (adr g q1_), .int p2_, .int p3_, .int p4_, .int p5_, .ref (adr g q6_)] M v M' := by
  refine COW_of hst (by decide) (Nat.le_of_ble_eq_true rfl) ?_
  intro p e s m below meth c ls X hr htb hH hL hl
  have hx := X.1
  have hb := X.2.1
  have hts := X.2.2.2.2.1
  refine q_out hF ?_
  rw [F_L_setNote]
  replace hl : lv_has ls 7 [(0, .ref (adr g q1_)), (1, .int p2_), (2, .int p3_), (3, .int p4_), (4, .int p5_), (5, .ref (adr g q6_))] := hl
  refine lv_aload hx hb dL_setNote_0 (lv_at hl 5 rfl) ?_
  refine lv_iconst (v := 0) hx hb dL_setNote_2 (by decide) ?_
  refine lv_aload_n hx hb dL_setNote_3 rfl (lv_at hl 0 rfl) ?_
  refine lv_iload_n hx hb dL_setNote_4 rfl (lv_at hl 1 rfl) ?_
  refine lv_iload_n hx hb dL_setNote_5 rfl (lv_at hl 2 rfl) ?_
  refine lv_iload_n hx hb dL_setNote_6 rfl (lv_at hl 3 rfl) ?_
  refine lv_iload hx hb dL_setNote_7 (lv_at hl 4 rfl) ?_
  refine q_bw (fun v2 M3 e1 => ?_) (fun E4 M3 e1 => ?_)
  · refine my_doneI hL (my_runV X hH hl.1 (co_X8_setNote g l hst q1_ p2_ p3_ p4_ p5_ M t_q1_ (.inl v2) M3 e1) ok_X8_setNote W706 t_q1_ rfl (by decide) rfl rfl rfl ⟨Nat.le_of_ble_eq_true rfl, Nat.le_of_ble_eq_true rfl⟩ ⟨Nat.zero_le _, Nat.zero_le _⟩ (Nat.le_of_ble_eq_true rfl) dL_setNote_9) (fun H locs hH hL => ?_)
    refine lv_i2l hx hb dL_setNote_12 rfl ?_
    refine q_chk (fun hb5 => ?_)
    refine q_lt (fun M6 e_M6 => ?_)
    refine m_ls X hH hL t_q6_ hb5 dL_setNote_13 e_M6 (fun H locs hH hL => ?_)
    refine lv_goto (tgt := 25) hx hb dL_setNote_14 (by decide) ?_
    refine lv_iconst (v := 0) hx hb dL_setNote_25 (by decide) ?_
    exact q_endW (m_iretW X hr hH hL (Nat.zero_le _) (Nat.zero_le _) dL_setNote_26)
  · by_cases c7 : E4 = "java/lang/IndexOutOfBoundsException"
    · refine q_pos c7 (q_ret (fun hq => ?_))
      subst c7
      cases hq
      refine my_caught X hL (my_runV X hH hl.1 (co_X8_setNote g l hst q1_ p2_ p3_ p4_ p5_ M t_q1_ (.inr "java/lang/IndexOutOfBoundsException") M' e1) ok_X8_setNote W706 t_q1_ rfl (by decide) rfl rfl rfl ⟨Nat.le_of_ble_eq_true rfl, Nat.le_of_ble_eq_true rfl⟩ ⟨Nat.le_of_ble_eq_true rfl, Nat.le_of_ble_eq_true rfl⟩ (Nat.le_of_ble_eq_true rfl) dL_setNote_9) [] ⟨0, 14, 17, 21⟩ [⟨0, 14, 21, 13⟩] htb np0 rfl (by decide) W673 (by decide +kernel) (fun H locs q hH hL => ?_)
      refine lv_astore hx hb dL_setNote_17 hl (by decide) rfl (fun ls hl => ?_)
      refine lv_iconst (v := 1) hx hb dL_setNote_19 (by decide) ?_
      exact m_iretW X hr hH hL (by decide) (by decide) dL_setNote_20
    refine q_neg c7 ?_
    by_cases c8 : E4 = "java/lang/IllegalArgumentException"
    · refine q_pos c8 (q_ret (fun hq => ?_))
      subst c8
      cases hq
      refine my_caught X hL (my_runV X hH hl.1 (co_X8_setNote g l hst q1_ p2_ p3_ p4_ p5_ M t_q1_ (.inr "java/lang/IllegalArgumentException") M' e1) ok_X8_setNote W706 t_q1_ rfl (by decide) rfl rfl rfl ⟨Nat.le_of_ble_eq_true rfl, Nat.le_of_ble_eq_true rfl⟩ ⟨Nat.le_of_ble_eq_true rfl, Nat.le_of_ble_eq_true rfl⟩ (Nat.le_of_ble_eq_true rfl) dL_setNote_9) [⟨0, 14, 17, 21⟩] ⟨0, 14, 21, 13⟩ [] htb (np1 (by decide) W673 (by decide +kernel) np0) rfl (by decide) W653 (by decide +kernel) (fun H locs q hH hL => ?_)
      refine lv_astore hx hb dL_setNote_21 hl (by decide) rfl (fun ls hl => ?_)
      refine lv_iconst (v := 2) hx hb dL_setNote_23 (by decide) ?_
      exact m_iretW X hr hH hL (by decide) (by decide) dL_setNote_24
    refine q_neg c8 ?_
    exact q_none

set_option maxRecDepth 20000 in
set_option maxHeartbeats 4000000 in
theorem co_L_setMasked (g : GP) (l : Launch) (hst : l.stackTraces = false) (q1_ : Nat) (p2_ : Int32) (p3_ : Int32) (p4_ : Int32) (q5_ : Nat) (M : Mem) (t_q1_ : tyT q1_ = 8) (t_q5_ : tyT q5_ = 27) (v : Int32) (M' : Mem) (hF : F_L_setMasked q1_ p2_ p3_ p4_ q5_ M = some (v, M')) : COW g l yL_setMasked cL_setMasked 6 [(0, 19, 22, 21), (0, 19, 26, 13)] 8 244 [.ref (adr g q1_), .int p2_, .int p3_, .int p4_, .ref (adr g q5_)] M v M' := by
  refine COW_of hst (by decide) (Nat.le_of_ble_eq_true rfl) ?_
  intro p e s m below meth c ls X hr htb hH hL hl
  have hx := X.1
  have hb := X.2.1
  have hts := X.2.2.2.2.1
  refine q_out hF ?_
  rw [F_L_setMasked]
  replace hl : lv_has ls 6 [(0, .ref (adr g q1_)), (1, .int p2_), (2, .int p3_), (3, .int p4_), (4, .ref (adr g q5_))] := hl
  refine lv_aload hx hb dL_setMasked_0 (lv_at hl 4 rfl) ?_
  refine lv_iconst (v := 0) hx hb dL_setMasked_2 (by decide) ?_
  refine lv_aload_n hx hb dL_setMasked_3 rfl (lv_at hl 0 rfl) ?_
  refine lv_iload_n hx hb dL_setMasked_4 rfl (lv_at hl 1 rfl) ?_
  refine lv_iload_n hx hb dL_setMasked_5 rfl (lv_at hl 2 rfl) ?_
  refine lv_iload_n hx hb dL_setMasked_6 rfl (lv_at hl 3 rfl) ?_
  refine q_bw (fun v2 M3 e1 => ?_) (fun E4 M3 e1 => ?_)
  · refine my_doneI hL (my_runV X hH hl.1 (co_X8_setMasked g l hst q1_ p2_ p3_ p4_ M t_q1_ (.inl v2) M3 e1) ok_X8_setMasked W723 t_q1_ rfl (by decide) rfl rfl rfl ⟨Nat.le_of_ble_eq_true rfl, Nat.le_of_ble_eq_true rfl⟩ ⟨Nat.zero_le _, Nat.zero_le _⟩ (Nat.le_of_ble_eq_true rfl) dL_setMasked_7) (fun H locs hH hL => ?_)
    refine lv_if_eq (tgt := 17) hx hb dL_setMasked_10 (by decide) (fun c5 => q_pos c5 ?_) (fun c5 => q_neg c5 ?_)
    · refine lv_lconst (v := 0) hx hb dL_setMasked_17 (by decide) ?_
      refine q_chk (fun hb6 => ?_)
      refine q_lt (fun M7 e_M7 => ?_)
      refine m_ls X hH hL t_q5_ hb6 dL_setMasked_18 e_M7 (fun H locs hH hL => ?_)
      refine lv_goto (tgt := 30) hx hb dL_setMasked_19 (by decide) ?_
      refine lv_iconst (v := 0) hx hb dL_setMasked_30 (by decide) ?_
      exact q_endW (m_iretW X hr hH hL (Nat.zero_le _) (Nat.zero_le _) dL_setMasked_31)
    · refine lv_lconst (v := 1) hx hb dL_setMasked_13 (by decide) ?_
      refine lv_goto (tgt := 18) hx hb dL_setMasked_14 (by decide) ?_
      refine q_chk (fun hb8 => ?_)
      refine q_lt (fun M9 e_M9 => ?_)
      refine m_ls X hH hL t_q5_ hb8 dL_setMasked_18 e_M9 (fun H locs hH hL => ?_)
      refine lv_goto (tgt := 30) hx hb dL_setMasked_19 (by decide) ?_
      refine lv_iconst (v := 0) hx hb dL_setMasked_30 (by decide) ?_
      exact q_endW (m_iretW X hr hH hL (Nat.zero_le _) (Nat.zero_le _) dL_setMasked_31)
  · by_cases c10 : E4 = "java/lang/IndexOutOfBoundsException"
    · refine q_pos c10 (q_ret (fun hq => ?_))
      subst c10
      cases hq
      refine my_caught X hL (my_runV X hH hl.1 (co_X8_setMasked g l hst q1_ p2_ p3_ p4_ M t_q1_ (.inr "java/lang/IndexOutOfBoundsException") M' e1) ok_X8_setMasked W723 t_q1_ rfl (by decide) rfl rfl rfl ⟨Nat.le_of_ble_eq_true rfl, Nat.le_of_ble_eq_true rfl⟩ ⟨Nat.le_of_ble_eq_true rfl, Nat.le_of_ble_eq_true rfl⟩ (Nat.le_of_ble_eq_true rfl) dL_setMasked_7) [] ⟨0, 19, 22, 21⟩ [⟨0, 19, 26, 13⟩] htb np0 rfl (by decide) W673 (by decide +kernel) (fun H locs q hH hL => ?_)
      refine lv_astore hx hb dL_setMasked_22 hl (by decide) rfl (fun ls hl => ?_)
      refine lv_iconst (v := 1) hx hb dL_setMasked_24 (by decide) ?_
      exact m_iretW X hr hH hL (by decide) (by decide) dL_setMasked_25
    refine q_neg c10 ?_
    by_cases c11 : E4 = "java/lang/IllegalArgumentException"
    · refine q_pos c11 (q_ret (fun hq => ?_))
      subst c11
      cases hq
      refine my_caught X hL (my_runV X hH hl.1 (co_X8_setMasked g l hst q1_ p2_ p3_ p4_ M t_q1_ (.inr "java/lang/IllegalArgumentException") M' e1) ok_X8_setMasked W723 t_q1_ rfl (by decide) rfl rfl rfl ⟨Nat.le_of_ble_eq_true rfl, Nat.le_of_ble_eq_true rfl⟩ ⟨Nat.le_of_ble_eq_true rfl, Nat.le_of_ble_eq_true rfl⟩ (Nat.le_of_ble_eq_true rfl) dL_setMasked_7) [⟨0, 19, 22, 21⟩] ⟨0, 19, 26, 13⟩ [] htb (np1 (by decide) W673 (by decide +kernel) np0) rfl (by decide) W653 (by decide +kernel) (fun H locs q hH hL => ?_)
      refine lv_astore hx hb dL_setMasked_26 hl (by decide) rfl (fun ls hl => ?_)
      refine lv_iconst (v := 2) hx hb dL_setMasked_28 (by decide) ?_
      exact m_iretW X hr hH hL (by decide) (by decide) dL_setMasked_29
    refine q_neg c11 ?_
    exact q_none

set_option maxRecDepth 20000 in
set_option maxHeartbeats 4000000 in
theorem co_L_transpose (g : GP) (l : Launch) (hst : l.stackTraces = false) (q1_ : Nat) (p2_ : Int32) (q3_ : Nat) (M : Mem) (t_q1_ : tyT q1_ = 8) (t_q3_ : tyT q3_ = 27) (v : Int32) (M' : Mem) (hF : F_L_transpose q1_ p2_ q3_ M = some (v, M')) : COW g l yL_transpose cL_transpose 4 [(0, 9, 12, 21)] 8 242 [.ref (adr g q1_), .int p2_, .ref (adr g q3_)] M v M' := by
  refine COW_of hst (by decide) (Nat.le_of_ble_eq_true rfl) ?_
  intro p e s m below meth c ls X hr htb hH hL hl
  have hx := X.1
  have hb := X.2.1
  have hts := X.2.2.2.2.1
  refine q_out hF ?_
  rw [F_L_transpose]
  replace hl : lv_has ls 4 [(0, .ref (adr g q1_)), (1, .int p2_), (2, .ref (adr g q3_))] := hl
  refine lv_aload_n hx hb dL_transpose_0 rfl (lv_at hl 2 rfl) ?_
  refine lv_iconst (v := 0) hx hb dL_transpose_1 (by decide) ?_
  refine lv_aload_n hx hb dL_transpose_2 rfl (lv_at hl 0 rfl) ?_
  refine lv_iload_n hx hb dL_transpose_3 rfl (lv_at hl 1 rfl) ?_
  refine q_bw (fun v2 M3 e1 => ?_) (fun E4 M3 e1 => ?_)
  · refine my_doneI hL (my_runV X hH hl.1 (co_X8_transpose g l hst q1_ p2_ M t_q1_ (.inl v2) M3 e1) ok_X8_transpose W741 t_q1_ rfl (by decide) rfl rfl rfl ⟨Nat.le_of_ble_eq_true rfl, Nat.le_of_ble_eq_true rfl⟩ ⟨Nat.zero_le _, Nat.zero_le _⟩ (Nat.le_of_ble_eq_true rfl) dL_transpose_4) (fun H locs hH hL => ?_)
    refine lv_i2l hx hb dL_transpose_7 rfl ?_
    refine q_chk (fun hb5 => ?_)
    refine q_lt (fun M6 e_M6 => ?_)
    refine m_ls X hH hL t_q3_ hb5 dL_transpose_8 e_M6 (fun H locs hH hL => ?_)
    refine lv_goto (tgt := 15) hx hb dL_transpose_9 (by decide) ?_
    refine lv_iconst (v := 0) hx hb dL_transpose_15 (by decide) ?_
    exact q_endW (m_iretW X hr hH hL (Nat.zero_le _) (Nat.zero_le _) dL_transpose_16)
  · by_cases c7 : E4 = "java/lang/IndexOutOfBoundsException"
    · refine q_pos c7 (q_ret (fun hq => ?_))
      subst c7
      cases hq
      refine my_caught X hL (my_runV X hH hl.1 (co_X8_transpose g l hst q1_ p2_ M t_q1_ (.inr "java/lang/IndexOutOfBoundsException") M' e1) ok_X8_transpose W741 t_q1_ rfl (by decide) rfl rfl rfl ⟨Nat.le_of_ble_eq_true rfl, Nat.le_of_ble_eq_true rfl⟩ ⟨Nat.le_of_ble_eq_true rfl, Nat.le_of_ble_eq_true rfl⟩ (Nat.le_of_ble_eq_true rfl) dL_transpose_4) [] ⟨0, 9, 12, 21⟩ [] htb np0 rfl (by decide) W673 (by decide +kernel) (fun H locs q hH hL => ?_)
      refine lv_astore_n hx hb dL_transpose_12 rfl hl (by decide) rfl (fun ls hl => ?_)
      refine lv_iconst (v := 1) hx hb dL_transpose_13 (by decide) ?_
      exact m_iretW X hr hH hL (by decide) (by decide) dL_transpose_14
    refine q_neg c7 ?_
    exact q_none

set_option maxRecDepth 20000 in
set_option maxHeartbeats 4000000 in
theorem co_L_reverse (g : GP) (l : Launch) (hst : l.stackTraces = false) (q1_ : Nat) (p2_ : Int32) (q3_ : Nat) (M : Mem) (t_q1_ : tyT q1_ = 8) (t_q3_ : tyT q3_ = 27) (v : Int32) (M' : Mem) (hF : F_L_reverse q1_ p2_ q3_ M = some (v, M')) : COW g l yL_reverse cL_reverse 4 [(0, 9, 12, 21)] 8 242 [.ref (adr g q1_), .int p2_, .ref (adr g q3_)] M v M' := by
  refine COW_of hst (by decide) (Nat.le_of_ble_eq_true rfl) ?_
  intro p e s m below meth c ls X hr htb hH hL hl
  have hx := X.1
  have hb := X.2.1
  have hts := X.2.2.2.2.1
  refine q_out hF ?_
  rw [F_L_reverse]
  replace hl : lv_has ls 4 [(0, .ref (adr g q1_)), (1, .int p2_), (2, .ref (adr g q3_))] := hl
  refine lv_aload_n hx hb dL_reverse_0 rfl (lv_at hl 2 rfl) ?_
  refine lv_iconst (v := 0) hx hb dL_reverse_1 (by decide) ?_
  refine lv_aload_n hx hb dL_reverse_2 rfl (lv_at hl 0 rfl) ?_
  refine lv_iload_n hx hb dL_reverse_3 rfl (lv_at hl 1 rfl) ?_
  refine q_bw (fun v2 M3 e1 => ?_) (fun E4 M3 e1 => ?_)
  · refine my_doneI hL (my_runV X hH hl.1 (co_X8_reverse g l hst q1_ p2_ M t_q1_ (.inl v2) M3 e1) ok_X8_reverse W753 t_q1_ rfl (by decide) rfl rfl rfl ⟨Nat.le_of_ble_eq_true rfl, Nat.le_of_ble_eq_true rfl⟩ ⟨Nat.zero_le _, Nat.zero_le _⟩ (Nat.le_of_ble_eq_true rfl) dL_reverse_4) (fun H locs hH hL => ?_)
    refine lv_i2l hx hb dL_reverse_7 rfl ?_
    refine q_chk (fun hb5 => ?_)
    refine q_lt (fun M6 e_M6 => ?_)
    refine m_ls X hH hL t_q3_ hb5 dL_reverse_8 e_M6 (fun H locs hH hL => ?_)
    refine lv_goto (tgt := 15) hx hb dL_reverse_9 (by decide) ?_
    refine lv_iconst (v := 0) hx hb dL_reverse_15 (by decide) ?_
    exact q_endW (m_iretW X hr hH hL (Nat.zero_le _) (Nat.zero_le _) dL_reverse_16)
  · by_cases c7 : E4 = "java/lang/IndexOutOfBoundsException"
    · refine q_pos c7 (q_ret (fun hq => ?_))
      subst c7
      cases hq
      refine my_caught X hL (my_runV X hH hl.1 (co_X8_reverse g l hst q1_ p2_ M t_q1_ (.inr "java/lang/IndexOutOfBoundsException") M' e1) ok_X8_reverse W753 t_q1_ rfl (by decide) rfl rfl rfl ⟨Nat.le_of_ble_eq_true rfl, Nat.le_of_ble_eq_true rfl⟩ ⟨Nat.le_of_ble_eq_true rfl, Nat.le_of_ble_eq_true rfl⟩ (Nat.le_of_ble_eq_true rfl) dL_reverse_4) [] ⟨0, 9, 12, 21⟩ [] htb np0 rfl (by decide) W673 (by decide +kernel) (fun H locs q hH hL => ?_)
      refine lv_astore_n hx hb dL_reverse_12 rfl hl (by decide) rfl (fun ls hl => ?_)
      refine lv_iconst (v := 1) hx hb dL_reverse_13 (by decide) ?_
      exact m_iretW X hr hH hL (by decide) (by decide) dL_reverse_14
    refine q_neg c7 ?_
    exact q_none

set_option maxRecDepth 20000 in
set_option maxHeartbeats 4000000 in
theorem co_L_raise (g : GP) (l : Launch) (hst : l.stackTraces = false) (q1_ : Nat) (p2_ : Int32) (p3_ : Int32) (q4_ : Nat) (M : Mem) (t_q1_ : tyT q1_ = 8) (t_q4_ : tyT q4_ = 27) (v : Int32) (M' : Mem) (hF : F_L_raise q1_ p2_ p3_ q4_ M = some (v, M')) : COW g l yL_raise cL_raise 5 [(0, 10, 13, 21), (0, 10, 17, 13), (0, 10, 21, 41)] 8 243 [.ref (adr g q1_), .int p2_, .int p3_, .ref (adr g q4_)] M v M' := by
  refine COW_of hst (by decide) (Nat.le_of_ble_eq_true rfl) ?_
  intro p e s m below meth c ls X hr htb hH hL hl
  have hx := X.1
  have hb := X.2.1
  have hts := X.2.2.2.2.1
  refine q_out hF ?_
  rw [F_L_raise]
  replace hl : lv_has ls 5 [(0, .ref (adr g q1_)), (1, .int p2_), (2, .int p3_), (3, .ref (adr g q4_))] := hl
  refine lv_aload_n hx hb dL_raise_0 rfl (lv_at hl 3 rfl) ?_
  refine lv_iconst (v := 0) hx hb dL_raise_1 (by decide) ?_
  refine lv_aload_n hx hb dL_raise_2 rfl (lv_at hl 0 rfl) ?_
  refine lv_iload_n hx hb dL_raise_3 rfl (lv_at hl 1 rfl) ?_
  refine lv_iload_n hx hb dL_raise_4 rfl (lv_at hl 2 rfl) ?_
  refine q_bw (fun v2 M3 e1 => ?_) (fun E4 M3 e1 => ?_)
  · refine my_doneI hL (my_runV X hH hl.1 (co_X8_raise g l hst q1_ p2_ p3_ M t_q1_ (.inl v2) M3 e1) ok_X8_raise W770 t_q1_ rfl (by decide) rfl rfl rfl ⟨Nat.le_of_ble_eq_true rfl, Nat.le_of_ble_eq_true rfl⟩ ⟨Nat.zero_le _, Nat.zero_le _⟩ (Nat.le_of_ble_eq_true rfl) dL_raise_5) (fun H locs hH hL => ?_)
    refine lv_i2l hx hb dL_raise_8 rfl ?_
    refine q_chk (fun hb5 => ?_)
    refine q_lt (fun M6 e_M6 => ?_)
    refine m_ls X hH hL t_q4_ hb5 dL_raise_9 e_M6 (fun H locs hH hL => ?_)
    refine lv_goto (tgt := 25) hx hb dL_raise_10 (by decide) ?_
    refine lv_iconst (v := 0) hx hb dL_raise_25 (by decide) ?_
    exact q_endW (m_iretW X hr hH hL (Nat.zero_le _) (Nat.zero_le _) dL_raise_26)
  · by_cases c7 : E4 = "java/lang/IndexOutOfBoundsException"
    · refine q_pos c7 (q_ret (fun hq => ?_))
      subst c7
      cases hq
      refine my_caught X hL (my_runV X hH hl.1 (co_X8_raise g l hst q1_ p2_ p3_ M t_q1_ (.inr "java/lang/IndexOutOfBoundsException") M' e1) ok_X8_raise W770 t_q1_ rfl (by decide) rfl rfl rfl ⟨Nat.le_of_ble_eq_true rfl, Nat.le_of_ble_eq_true rfl⟩ ⟨Nat.le_of_ble_eq_true rfl, Nat.le_of_ble_eq_true rfl⟩ (Nat.le_of_ble_eq_true rfl) dL_raise_5) [] ⟨0, 10, 13, 21⟩ [⟨0, 10, 17, 13⟩, ⟨0, 10, 21, 41⟩] htb np0 rfl (by decide) W673 (by decide +kernel) (fun H locs q hH hL => ?_)
      refine lv_astore hx hb dL_raise_13 hl (by decide) rfl (fun ls hl => ?_)
      refine lv_iconst (v := 1) hx hb dL_raise_15 (by decide) ?_
      exact m_iretW X hr hH hL (by decide) (by decide) dL_raise_16
    refine q_neg c7 ?_
    by_cases c8 : E4 = "java/lang/IllegalArgumentException"
    · refine q_pos c8 (q_ret (fun hq => ?_))
      subst c8
      cases hq
      refine my_caught X hL (my_runV X hH hl.1 (co_X8_raise g l hst q1_ p2_ p3_ M t_q1_ (.inr "java/lang/IllegalArgumentException") M' e1) ok_X8_raise W770 t_q1_ rfl (by decide) rfl rfl rfl ⟨Nat.le_of_ble_eq_true rfl, Nat.le_of_ble_eq_true rfl⟩ ⟨Nat.le_of_ble_eq_true rfl, Nat.le_of_ble_eq_true rfl⟩ (Nat.le_of_ble_eq_true rfl) dL_raise_5) [⟨0, 10, 13, 21⟩] ⟨0, 10, 17, 13⟩ [⟨0, 10, 21, 41⟩] htb (np1 (by decide) W673 (by decide +kernel) np0) rfl (by decide) W653 (by decide +kernel) (fun H locs q hH hL => ?_)
      refine lv_astore hx hb dL_raise_17 hl (by decide) rfl (fun ls hl => ?_)
      refine lv_iconst (v := 2) hx hb dL_raise_19 (by decide) ?_
      exact m_iretW X hr hH hL (by decide) (by decide) dL_raise_20
    refine q_neg c8 ?_
    by_cases c9 : E4 = "java/lang/UnsupportedOperationException"
    · refine q_pos c9 (q_ret (fun hq => ?_))
      subst c9
      cases hq
      refine my_caught X hL (my_runV X hH hl.1 (co_X8_raise g l hst q1_ p2_ p3_ M t_q1_ (.inr "java/lang/UnsupportedOperationException") M' e1) ok_X8_raise W770 t_q1_ rfl (by decide) rfl rfl rfl ⟨Nat.le_of_ble_eq_true rfl, Nat.le_of_ble_eq_true rfl⟩ ⟨Nat.le_of_ble_eq_true rfl, Nat.le_of_ble_eq_true rfl⟩ (Nat.le_of_ble_eq_true rfl) dL_raise_5) [⟨0, 10, 13, 21⟩, ⟨0, 10, 17, 13⟩] ⟨0, 10, 21, 41⟩ [] htb (np1 (by decide) W673 (by decide +kernel) (np1 (by decide) W653 (by decide +kernel) np0)) rfl (by decide) W769 (by decide +kernel) (fun H locs q hH hL => ?_)
      refine lv_astore hx hb dL_raise_21 hl (by decide) rfl (fun ls hl => ?_)
      refine lv_iconst (v := 3) hx hb dL_raise_23 (by decide) ?_
      exact m_iretW X hr hH hL (by decide) (by decide) dL_raise_24
    refine q_neg c9 ?_
    exact q_none

set_option maxRecDepth 20000 in
set_option maxHeartbeats 4000000 in
theorem co_L_setTempo (g : GP) (l : Launch) (hst : l.stackTraces = false) (q1_ : Nat) (p2_ : Int32) (q3_ : Nat) (M : Mem) (t_q1_ : tyT q1_ = 8) (t_q3_ : tyT q3_ = 27) (v : Int32) (M' : Mem) (hF : F_L_setTempo q1_ p2_ q3_ M = some (v, M')) : COW g l yL_setTempo cL_setTempo 4 [(0, 9, 12, 13)] 8 242 [.ref (adr g q1_), .int p2_, .ref (adr g q3_)] M v M' := by
  refine COW_of hst (by decide) (Nat.le_of_ble_eq_true rfl) ?_
  intro p e s m below meth c ls X hr htb hH hL hl
  have hx := X.1
  have hb := X.2.1
  have hts := X.2.2.2.2.1
  refine q_out hF ?_
  rw [F_L_setTempo]
  replace hl : lv_has ls 4 [(0, .ref (adr g q1_)), (1, .int p2_), (2, .ref (adr g q3_))] := hl
  refine lv_aload_n hx hb dL_setTempo_0 rfl (lv_at hl 2 rfl) ?_
  refine lv_iconst (v := 0) hx hb dL_setTempo_1 (by decide) ?_
  refine lv_aload_n hx hb dL_setTempo_2 rfl (lv_at hl 0 rfl) ?_
  refine lv_iload_n hx hb dL_setTempo_3 rfl (lv_at hl 1 rfl) ?_
  refine q_bw (fun v2 M3 e1 => ?_) (fun E4 M3 e1 => ?_)
  · refine my_doneI hL (my_runV X hH hl.1 (co_X8_setTempo g l hst q1_ p2_ M t_q1_ (.inl v2) M3 e1) ok_X8_setTempo W789 t_q1_ rfl (by decide) rfl rfl rfl ⟨Nat.le_of_ble_eq_true rfl, Nat.le_of_ble_eq_true rfl⟩ ⟨Nat.zero_le _, Nat.zero_le _⟩ (Nat.le_of_ble_eq_true rfl) dL_setTempo_4) (fun H locs hH hL => ?_)
    refine lv_i2l hx hb dL_setTempo_7 rfl ?_
    refine q_chk (fun hb5 => ?_)
    refine q_lt (fun M6 e_M6 => ?_)
    refine m_ls X hH hL t_q3_ hb5 dL_setTempo_8 e_M6 (fun H locs hH hL => ?_)
    refine lv_goto (tgt := 15) hx hb dL_setTempo_9 (by decide) ?_
    refine lv_iconst (v := 0) hx hb dL_setTempo_15 (by decide) ?_
    exact q_endW (m_iretW X hr hH hL (Nat.zero_le _) (Nat.zero_le _) dL_setTempo_16)
  · by_cases c7 : E4 = "java/lang/IllegalArgumentException"
    · refine q_pos c7 (q_ret (fun hq => ?_))
      subst c7
      cases hq
      refine my_caught X hL (my_runV X hH hl.1 (co_X8_setTempo g l hst q1_ p2_ M t_q1_ (.inr "java/lang/IllegalArgumentException") M' e1) ok_X8_setTempo W789 t_q1_ rfl (by decide) rfl rfl rfl ⟨Nat.le_of_ble_eq_true rfl, Nat.le_of_ble_eq_true rfl⟩ ⟨Nat.le_of_ble_eq_true rfl, Nat.le_of_ble_eq_true rfl⟩ (Nat.le_of_ble_eq_true rfl) dL_setTempo_4) [] ⟨0, 9, 12, 13⟩ [] htb np0 rfl (by decide) W653 (by decide +kernel) (fun H locs q hH hL => ?_)
      refine lv_astore_n hx hb dL_setTempo_12 rfl hl (by decide) rfl (fun ls hl => ?_)
      refine lv_iconst (v := 1) hx hb dL_setTempo_13 (by decide) ?_
      exact m_iretW X hr hH hL (by decide) (by decide) dL_setTempo_14
    refine q_neg c7 ?_
    exact q_none

set_option maxRecDepth 20000 in
set_option maxHeartbeats 4000000 in
theorem co_L_setLimit (g : GP) (l : Launch) (hst : l.stackTraces = false) (q1_ : Nat) (p2_ : Int32) (q3_ : Nat) (M : Mem) (t_q1_ : tyT q1_ = 8) (t_q3_ : tyT q3_ = 27) (v : Int32) (M' : Mem) (hF : F_L_setLimit q1_ p2_ q3_ M = some (v, M')) : COW g l yL_setLimit cL_setLimit 4 [(0, 9, 12, 13)] 8 242 [.ref (adr g q1_), .int p2_, .ref (adr g q3_)] M v M' := by
  refine COW_of hst (by decide) (Nat.le_of_ble_eq_true rfl) ?_
  intro p e s m below meth c ls X hr htb hH hL hl
  have hx := X.1
  have hb := X.2.1
  have hts := X.2.2.2.2.1
  refine q_out hF ?_
  rw [F_L_setLimit]
  replace hl : lv_has ls 4 [(0, .ref (adr g q1_)), (1, .int p2_), (2, .ref (adr g q3_))] := hl
  refine lv_aload_n hx hb dL_setLimit_0 rfl (lv_at hl 2 rfl) ?_
  refine lv_iconst (v := 0) hx hb dL_setLimit_1 (by decide) ?_
  refine lv_aload_n hx hb dL_setLimit_2 rfl (lv_at hl 0 rfl) ?_
  refine lv_iload_n hx hb dL_setLimit_3 rfl (lv_at hl 1 rfl) ?_
  refine q_bw (fun v2 M3 e1 => ?_) (fun E4 M3 e1 => ?_)
  · refine my_doneI hL (my_runV X hH hl.1 (co_X8_setLimit g l hst q1_ p2_ M t_q1_ (.inl v2) M3 e1) ok_X8_setLimit W800 t_q1_ rfl (by decide) rfl rfl rfl ⟨Nat.le_of_ble_eq_true rfl, Nat.le_of_ble_eq_true rfl⟩ ⟨Nat.zero_le _, Nat.zero_le _⟩ (Nat.le_of_ble_eq_true rfl) dL_setLimit_4) (fun H locs hH hL => ?_)
    refine lv_i2l hx hb dL_setLimit_7 rfl ?_
    refine q_chk (fun hb5 => ?_)
    refine q_lt (fun M6 e_M6 => ?_)
    refine m_ls X hH hL t_q3_ hb5 dL_setLimit_8 e_M6 (fun H locs hH hL => ?_)
    refine lv_goto (tgt := 15) hx hb dL_setLimit_9 (by decide) ?_
    refine lv_iconst (v := 0) hx hb dL_setLimit_15 (by decide) ?_
    exact q_endW (m_iretW X hr hH hL (Nat.zero_le _) (Nat.zero_le _) dL_setLimit_16)
  · by_cases c7 : E4 = "java/lang/IllegalArgumentException"
    · refine q_pos c7 (q_ret (fun hq => ?_))
      subst c7
      cases hq
      refine my_caught X hL (my_runV X hH hl.1 (co_X8_setLimit g l hst q1_ p2_ M t_q1_ (.inr "java/lang/IllegalArgumentException") M' e1) ok_X8_setLimit W800 t_q1_ rfl (by decide) rfl rfl rfl ⟨Nat.le_of_ble_eq_true rfl, Nat.le_of_ble_eq_true rfl⟩ ⟨Nat.le_of_ble_eq_true rfl, Nat.le_of_ble_eq_true rfl⟩ (Nat.le_of_ble_eq_true rfl) dL_setLimit_4) [] ⟨0, 9, 12, 13⟩ [] htb np0 rfl (by decide) W653 (by decide +kernel) (fun H locs q hH hL => ?_)
      refine lv_astore_n hx hb dL_setLimit_12 rfl hl (by decide) rfl (fun ls hl => ?_)
      refine lv_iconst (v := 1) hx hb dL_setLimit_13 (by decide) ?_
      exact m_iretW X hr hH hL (by decide) (by decide) dL_setLimit_14
    refine q_neg c7 ?_
    exact q_none

set_option maxRecDepth 20000 in
set_option maxHeartbeats 4000000 in
theorem co_L_conductBeats (g : GP) (l : Launch) (hst : l.stackTraces = false) (q1_ : Nat) (p2_ : Int32) (q3_ : Nat) (M : Mem) (t_q1_ : tyT q1_ = 8) (t_q3_ : tyT q3_ = 27) (v : Int32) (M' : Mem) (hF : F_L_conductBeats q1_ p2_ q3_ M = some (v, M')) : COW g l yL_conductBeats cL_conductBeats 4 [(0, 9, 12, 13)] 8 242 [.ref (adr g q1_), .int p2_, .ref (adr g q3_)] M v M' := by
  refine COW_of hst (by decide) (Nat.le_of_ble_eq_true rfl) ?_
  intro p e s m below meth c ls X hr htb hH hL hl
  have hx := X.1
  have hb := X.2.1
  have hts := X.2.2.2.2.1
  refine q_out hF ?_
  rw [F_L_conductBeats]
  replace hl : lv_has ls 4 [(0, .ref (adr g q1_)), (1, .int p2_), (2, .ref (adr g q3_))] := hl
  refine lv_aload_n hx hb dL_conductBeats_0 rfl (lv_at hl 2 rfl) ?_
  refine lv_iconst (v := 0) hx hb dL_conductBeats_1 (by decide) ?_
  refine lv_aload_n hx hb dL_conductBeats_2 rfl (lv_at hl 0 rfl) ?_
  refine lv_iload_n hx hb dL_conductBeats_3 rfl (lv_at hl 1 rfl) ?_
  refine q_bw (fun v2 M3 e1 => ?_) (fun E4 M3 e1 => ?_)
  · refine my_doneI hL (my_runV X hH hl.1 (co_X8_conductBeats g l hst q1_ p2_ M t_q1_ (.inl v2) M3 e1) ok_X8_conductBeats W811 t_q1_ rfl (by decide) rfl rfl rfl ⟨Nat.le_of_ble_eq_true rfl, Nat.le_of_ble_eq_true rfl⟩ ⟨Nat.zero_le _, Nat.zero_le _⟩ (Nat.le_of_ble_eq_true rfl) dL_conductBeats_4) (fun H locs hH hL => ?_)
    refine lv_i2l hx hb dL_conductBeats_7 rfl ?_
    refine q_chk (fun hb5 => ?_)
    refine q_lt (fun M6 e_M6 => ?_)
    refine m_ls X hH hL t_q3_ hb5 dL_conductBeats_8 e_M6 (fun H locs hH hL => ?_)
    refine lv_goto (tgt := 15) hx hb dL_conductBeats_9 (by decide) ?_
    refine lv_iconst (v := 0) hx hb dL_conductBeats_15 (by decide) ?_
    exact q_endW (m_iretW X hr hH hL (Nat.zero_le _) (Nat.zero_le _) dL_conductBeats_16)
  · by_cases c7 : E4 = "java/lang/IllegalArgumentException"
    · refine q_pos c7 (q_ret (fun hq => ?_))
      subst c7
      cases hq
      refine my_caught X hL (my_runV X hH hl.1 (co_X8_conductBeats g l hst q1_ p2_ M t_q1_ (.inr "java/lang/IllegalArgumentException") M' e1) ok_X8_conductBeats W811 t_q1_ rfl (by decide) rfl rfl rfl ⟨Nat.le_of_ble_eq_true rfl, Nat.le_of_ble_eq_true rfl⟩ ⟨Nat.le_of_ble_eq_true rfl, Nat.le_of_ble_eq_true rfl⟩ (Nat.le_of_ble_eq_true rfl) dL_conductBeats_4) [] ⟨0, 9, 12, 13⟩ [] htb np0 rfl (by decide) W653 (by decide +kernel) (fun H locs q hH hL => ?_)
      refine lv_astore_n hx hb dL_conductBeats_12 rfl hl (by decide) rfl (fun ls hl => ?_)
      refine lv_iconst (v := 1) hx hb dL_conductBeats_13 (by decide) ?_
      exact m_iretW X hr hH hL (by decide) (by decide) dL_conductBeats_14
    refine q_neg c7 ?_
    exact q_none

set_option maxRecDepth 20000 in
set_option maxHeartbeats 4000000 in
theorem co_L_kind (g : GP) (l : Launch) (hst : l.stackTraces = false) (q1_ : Nat) (p2_ : Int32) (q3_ : Nat) (M : Mem) (t_q1_ : tyT q1_ = 8) (t_q3_ : tyT q3_ = 27) (v : Int32) (M' : Mem) (hF : F_L_kind q1_ p2_ q3_ M = some (v, M')) : COW g l yL_kind cL_kind 4 [(0, 9, 12, 21)] 8 242 [.ref (adr g q1_), .int p2_, .ref (adr g q3_)] M v M' := by
  refine COW_of hst (by decide) (Nat.le_of_ble_eq_true rfl) ?_
  intro p e s m below meth c ls X hr htb hH hL hl
  have hx := X.1
  have hb := X.2.1
  have hts := X.2.2.2.2.1
  refine q_out hF ?_
  rw [F_L_kind]
  replace hl : lv_has ls 4 [(0, .ref (adr g q1_)), (1, .int p2_), (2, .ref (adr g q3_))] := hl
  refine lv_aload_n hx hb dL_kind_0 rfl (lv_at hl 2 rfl) ?_
  refine lv_iconst (v := 0) hx hb dL_kind_1 (by decide) ?_
  refine lv_aload_n hx hb dL_kind_2 rfl (lv_at hl 0 rfl) ?_
  refine lv_iload_n hx hb dL_kind_3 rfl (lv_at hl 1 rfl) ?_
  refine q_bw (fun v2 M3 e1 => ?_) (fun E4 M3 e1 => ?_)
  · refine my_doneI hL (my_runV X hH hl.1 (co_X8_kind g l hst q1_ p2_ M t_q1_ (.inl v2) M3 e1) ok_X8_kind W821 t_q1_ rfl (by decide) rfl rfl rfl ⟨Nat.le_of_ble_eq_true rfl, Nat.le_of_ble_eq_true rfl⟩ ⟨Nat.zero_le _, Nat.zero_le _⟩ (Nat.le_of_ble_eq_true rfl) dL_kind_4) (fun H locs hH hL => ?_)
    refine lv_i2l hx hb dL_kind_7 rfl ?_
    refine q_chk (fun hb5 => ?_)
    refine q_lt (fun M6 e_M6 => ?_)
    refine m_ls X hH hL t_q3_ hb5 dL_kind_8 e_M6 (fun H locs hH hL => ?_)
    refine lv_goto (tgt := 15) hx hb dL_kind_9 (by decide) ?_
    refine lv_iconst (v := 0) hx hb dL_kind_15 (by decide) ?_
    exact q_endW (m_iretW X hr hH hL (Nat.zero_le _) (Nat.zero_le _) dL_kind_16)
  · by_cases c7 : E4 = "java/lang/IndexOutOfBoundsException"
    · refine q_pos c7 (q_ret (fun hq => ?_))
      subst c7
      cases hq
      refine my_caught X hL (my_runV X hH hl.1 (co_X8_kind g l hst q1_ p2_ M t_q1_ (.inr "java/lang/IndexOutOfBoundsException") M' e1) ok_X8_kind W821 t_q1_ rfl (by decide) rfl rfl rfl ⟨Nat.le_of_ble_eq_true rfl, Nat.le_of_ble_eq_true rfl⟩ ⟨Nat.le_of_ble_eq_true rfl, Nat.le_of_ble_eq_true rfl⟩ (Nat.le_of_ble_eq_true rfl) dL_kind_4) [] ⟨0, 9, 12, 21⟩ [] htb np0 rfl (by decide) W673 (by decide +kernel) (fun H locs q hH hL => ?_)
      refine lv_astore_n hx hb dL_kind_12 rfl hl (by decide) rfl (fun ls hl => ?_)
      refine lv_iconst (v := 1) hx hb dL_kind_13 (by decide) ?_
      exact m_iretW X hr hH hL (by decide) (by decide) dL_kind_14
    refine q_neg c7 ?_
    exact q_none

set_option maxRecDepth 20000 in
set_option maxHeartbeats 4000000 in
theorem co_L_rows (g : GP) (l : Launch) (hst : l.stackTraces = false) (q1_ : Nat) (p2_ : Int32) (q3_ : Nat) (M : Mem) (t_q1_ : tyT q1_ = 8) (t_q3_ : tyT q3_ = 27) (v : Int32) (M' : Mem) (hF : F_L_rows q1_ p2_ q3_ M = some (v, M')) : COW g l yL_rows cL_rows 4 [(0, 9, 12, 21)] 8 242 [.ref (adr g q1_), .int p2_, .ref (adr g q3_)] M v M' := by
  refine COW_of hst (by decide) (Nat.le_of_ble_eq_true rfl) ?_
  intro p e s m below meth c ls X hr htb hH hL hl
  have hx := X.1
  have hb := X.2.1
  have hts := X.2.2.2.2.1
  refine q_out hF ?_
  rw [F_L_rows]
  replace hl : lv_has ls 4 [(0, .ref (adr g q1_)), (1, .int p2_), (2, .ref (adr g q3_))] := hl
  refine lv_aload_n hx hb dL_rows_0 rfl (lv_at hl 2 rfl) ?_
  refine lv_iconst (v := 0) hx hb dL_rows_1 (by decide) ?_
  refine lv_aload_n hx hb dL_rows_2 rfl (lv_at hl 0 rfl) ?_
  refine lv_iload_n hx hb dL_rows_3 rfl (lv_at hl 1 rfl) ?_
  refine q_bw (fun v2 M3 e1 => ?_) (fun E4 M3 e1 => ?_)
  · refine my_doneI hL (my_runV X hH hl.1 (co_X8_rows g l hst q1_ p2_ M t_q1_ (.inl v2) M3 e1) ok_X8_rows W828 t_q1_ rfl (by decide) rfl rfl rfl ⟨Nat.le_of_ble_eq_true rfl, Nat.le_of_ble_eq_true rfl⟩ ⟨Nat.zero_le _, Nat.zero_le _⟩ (Nat.le_of_ble_eq_true rfl) dL_rows_4) (fun H locs hH hL => ?_)
    refine lv_i2l hx hb dL_rows_7 rfl ?_
    refine q_chk (fun hb5 => ?_)
    refine q_lt (fun M6 e_M6 => ?_)
    refine m_ls X hH hL t_q3_ hb5 dL_rows_8 e_M6 (fun H locs hH hL => ?_)
    refine lv_goto (tgt := 15) hx hb dL_rows_9 (by decide) ?_
    refine lv_iconst (v := 0) hx hb dL_rows_15 (by decide) ?_
    exact q_endW (m_iretW X hr hH hL (Nat.zero_le _) (Nat.zero_le _) dL_rows_16)
  · by_cases c7 : E4 = "java/lang/IndexOutOfBoundsException"
    · refine q_pos c7 (q_ret (fun hq => ?_))
      subst c7
      cases hq
      refine my_caught X hL (my_runV X hH hl.1 (co_X8_rows g l hst q1_ p2_ M t_q1_ (.inr "java/lang/IndexOutOfBoundsException") M' e1) ok_X8_rows W828 t_q1_ rfl (by decide) rfl rfl rfl ⟨Nat.le_of_ble_eq_true rfl, Nat.le_of_ble_eq_true rfl⟩ ⟨Nat.le_of_ble_eq_true rfl, Nat.le_of_ble_eq_true rfl⟩ (Nat.le_of_ble_eq_true rfl) dL_rows_4) [] ⟨0, 9, 12, 21⟩ [] htb np0 rfl (by decide) W673 (by decide +kernel) (fun H locs q hH hL => ?_)
      refine lv_astore_n hx hb dL_rows_12 rfl hl (by decide) rfl (fun ls hl => ?_)
      refine lv_iconst (v := 1) hx hb dL_rows_13 (by decide) ?_
      exact m_iretW X hr hH hL (by decide) (by decide) dL_rows_14
    refine q_neg c7 ?_
    exact q_none

set_option maxRecDepth 20000 in
set_option maxHeartbeats 4000000 in
theorem co_L_columns (g : GP) (l : Launch) (hst : l.stackTraces = false) (q1_ : Nat) (p2_ : Int32) (q3_ : Nat) (M : Mem) (t_q1_ : tyT q1_ = 8) (t_q3_ : tyT q3_ = 27) (v : Int32) (M' : Mem) (hF : F_L_columns q1_ p2_ q3_ M = some (v, M')) : COW g l yL_columns cL_columns 4 [(0, 9, 12, 21)] 8 242 [.ref (adr g q1_), .int p2_, .ref (adr g q3_)] M v M' := by
  refine COW_of hst (by decide) (Nat.le_of_ble_eq_true rfl) ?_
  intro p e s m below meth c ls X hr htb hH hL hl
  have hx := X.1
  have hb := X.2.1
  have hts := X.2.2.2.2.1
  refine q_out hF ?_
  rw [F_L_columns]
  replace hl : lv_has ls 4 [(0, .ref (adr g q1_)), (1, .int p2_), (2, .ref (adr g q3_))] := hl
  refine lv_aload_n hx hb dL_columns_0 rfl (lv_at hl 2 rfl) ?_
  refine lv_iconst (v := 0) hx hb dL_columns_1 (by decide) ?_
  refine lv_aload_n hx hb dL_columns_2 rfl (lv_at hl 0 rfl) ?_
  refine lv_iload_n hx hb dL_columns_3 rfl (lv_at hl 1 rfl) ?_
  refine q_bw (fun v2 M3 e1 => ?_) (fun E4 M3 e1 => ?_)
  · refine my_doneI hL (my_runV X hH hl.1 (co_X8_columns g l hst q1_ p2_ M t_q1_ (.inl v2) M3 e1) ok_X8_columns W835 t_q1_ rfl (by decide) rfl rfl rfl ⟨Nat.le_of_ble_eq_true rfl, Nat.le_of_ble_eq_true rfl⟩ ⟨Nat.zero_le _, Nat.zero_le _⟩ (Nat.le_of_ble_eq_true rfl) dL_columns_4) (fun H locs hH hL => ?_)
    refine lv_i2l hx hb dL_columns_7 rfl ?_
    refine q_chk (fun hb5 => ?_)
    refine q_lt (fun M6 e_M6 => ?_)
    refine m_ls X hH hL t_q3_ hb5 dL_columns_8 e_M6 (fun H locs hH hL => ?_)
    refine lv_goto (tgt := 15) hx hb dL_columns_9 (by decide) ?_
    refine lv_iconst (v := 0) hx hb dL_columns_15 (by decide) ?_
    exact q_endW (m_iretW X hr hH hL (Nat.zero_le _) (Nat.zero_le _) dL_columns_16)
  · by_cases c7 : E4 = "java/lang/IndexOutOfBoundsException"
    · refine q_pos c7 (q_ret (fun hq => ?_))
      subst c7
      cases hq
      refine my_caught X hL (my_runV X hH hl.1 (co_X8_columns g l hst q1_ p2_ M t_q1_ (.inr "java/lang/IndexOutOfBoundsException") M' e1) ok_X8_columns W835 t_q1_ rfl (by decide) rfl rfl rfl ⟨Nat.le_of_ble_eq_true rfl, Nat.le_of_ble_eq_true rfl⟩ ⟨Nat.le_of_ble_eq_true rfl, Nat.le_of_ble_eq_true rfl⟩ (Nat.le_of_ble_eq_true rfl) dL_columns_4) [] ⟨0, 9, 12, 21⟩ [] htb np0 rfl (by decide) W673 (by decide +kernel) (fun H locs q hH hL => ?_)
      refine lv_astore_n hx hb dL_columns_12 rfl hl (by decide) rfl (fun ls hl => ?_)
      refine lv_iconst (v := 1) hx hb dL_columns_13 (by decide) ?_
      exact m_iretW X hr hH hL (by decide) (by decide) dL_columns_14
    refine q_neg c7 ?_
    exact q_none

set_option maxRecDepth 20000 in
set_option maxHeartbeats 4000000 in
theorem co_L_note (g : GP) (l : Launch) (hst : l.stackTraces = false) (q1_ : Nat) (p2_ : Int32) (p3_ : Int32) (p4_ : Int32) (q5_ : Nat) (M : Mem) (t_q1_ : tyT q1_ = 8) (t_q5_ : tyT q5_ = 27) (v : Int32) (M' : Mem) (hF : F_L_note q1_ p2_ p3_ p4_ q5_ M = some (v, M')) : COW g l yL_note cL_note 6 [(0, 12, 15, 21)] 8 245 [.ref (adr g q1_), .int p2_, .int p3_, .int p4_, .ref (adr g q5_)] M v M' := by
  refine COW_of hst (by decide) (Nat.le_of_ble_eq_true rfl) ?_
  intro p e s m below meth c ls X hr htb hH hL hl
  have hx := X.1
  have hb := X.2.1
  have hts := X.2.2.2.2.1
  refine q_out hF ?_
  rw [F_L_note]
  replace hl : lv_has ls 6 [(0, .ref (adr g q1_)), (1, .int p2_), (2, .int p3_), (3, .int p4_), (4, .ref (adr g q5_))] := hl
  refine lv_aload hx hb dL_note_0 (lv_at hl 4 rfl) ?_
  refine lv_iconst (v := 0) hx hb dL_note_2 (by decide) ?_
  refine lv_aload_n hx hb dL_note_3 rfl (lv_at hl 0 rfl) ?_
  refine lv_iload_n hx hb dL_note_4 rfl (lv_at hl 1 rfl) ?_
  refine lv_iload_n hx hb dL_note_5 rfl (lv_at hl 2 rfl) ?_
  refine lv_iload_n hx hb dL_note_6 rfl (lv_at hl 3 rfl) ?_
  refine q_bw (fun v2 M3 e1 => ?_) (fun E4 M3 e1 => ?_)
  · refine my_doneI hL (my_runV X hH hl.1 (co_X8_note g l hst q1_ p2_ p3_ p4_ M t_q1_ (.inl v2) M3 e1) ok_X8_note W839 t_q1_ rfl (by decide) rfl rfl rfl ⟨Nat.le_of_ble_eq_true rfl, Nat.le_of_ble_eq_true rfl⟩ ⟨Nat.zero_le _, Nat.zero_le _⟩ (Nat.le_of_ble_eq_true rfl) dL_note_7) (fun H locs hH hL => ?_)
    refine lv_i2l hx hb dL_note_10 rfl ?_
    refine q_chk (fun hb5 => ?_)
    refine q_lt (fun M6 e_M6 => ?_)
    refine m_ls X hH hL t_q5_ hb5 dL_note_11 e_M6 (fun H locs hH hL => ?_)
    refine lv_goto (tgt := 19) hx hb dL_note_12 (by decide) ?_
    refine lv_iconst (v := 0) hx hb dL_note_19 (by decide) ?_
    exact q_endW (m_iretW X hr hH hL (Nat.zero_le _) (Nat.zero_le _) dL_note_20)
  · by_cases c7 : E4 = "java/lang/IndexOutOfBoundsException"
    · refine q_pos c7 (q_ret (fun hq => ?_))
      subst c7
      cases hq
      refine my_caught X hL (my_runV X hH hl.1 (co_X8_note g l hst q1_ p2_ p3_ p4_ M t_q1_ (.inr "java/lang/IndexOutOfBoundsException") M' e1) ok_X8_note W839 t_q1_ rfl (by decide) rfl rfl rfl ⟨Nat.le_of_ble_eq_true rfl, Nat.le_of_ble_eq_true rfl⟩ ⟨Nat.le_of_ble_eq_true rfl, Nat.le_of_ble_eq_true rfl⟩ (Nat.le_of_ble_eq_true rfl) dL_note_7) [] ⟨0, 12, 15, 21⟩ [] htb np0 rfl (by decide) W673 (by decide +kernel) (fun H locs q hH hL => ?_)
      refine lv_astore hx hb dL_note_15 hl (by decide) rfl (fun ls hl => ?_)
      refine lv_iconst (v := 1) hx hb dL_note_17 (by decide) ?_
      exact m_iretW X hr hH hL (by decide) (by decide) dL_note_18
    refine q_neg c7 ?_
    exact q_none

set_option maxRecDepth 20000 in
set_option maxHeartbeats 4000000 in
theorem co_L_isMasked (g : GP) (l : Launch) (hst : l.stackTraces = false) (q1_ : Nat) (p2_ : Int32) (p3_ : Int32) (q4_ : Nat) (M : Mem) (t_q1_ : tyT q1_ = 8) (t_q4_ : tyT q4_ = 27) (v : Int32) (M' : Mem) (hF : F_L_isMasked q1_ p2_ p3_ q4_ M = some (v, M')) : COW g l yL_isMasked cL_isMasked 5 [(0, 17, 20, 21), (0, 17, 24, 13)] 8 244 [.ref (adr g q1_), .int p2_, .int p3_, .ref (adr g q4_)] M v M' := by
  refine COW_of hst (by decide) (Nat.le_of_ble_eq_true rfl) ?_
  intro p e s m below meth c ls X hr htb hH hL hl
  have hx := X.1
  have hb := X.2.1
  have hts := X.2.2.2.2.1
  refine q_out hF ?_
  rw [F_L_isMasked]
  replace hl : lv_has ls 5 [(0, .ref (adr g q1_)), (1, .int p2_), (2, .int p3_), (3, .ref (adr g q4_))] := hl
  refine lv_aload_n hx hb dL_isMasked_0 rfl (lv_at hl 3 rfl) ?_
  refine lv_iconst (v := 0) hx hb dL_isMasked_1 (by decide) ?_
  refine lv_aload_n hx hb dL_isMasked_2 rfl (lv_at hl 0 rfl) ?_
  refine lv_iload_n hx hb dL_isMasked_3 rfl (lv_at hl 1 rfl) ?_
  refine lv_iload_n hx hb dL_isMasked_4 rfl (lv_at hl 2 rfl) ?_
  refine q_bw (fun v2 M3 e1 => ?_) (fun E4 M3 e1 => ?_)
  · refine my_doneI hL (my_runV X hH hl.1 (co_X8_isMasked g l hst q1_ p2_ p3_ M t_q1_ (.inl v2) M3 e1) ok_X8_isMasked W849 t_q1_ rfl (by decide) rfl rfl rfl ⟨Nat.le_of_ble_eq_true rfl, Nat.le_of_ble_eq_true rfl⟩ ⟨Nat.zero_le _, Nat.zero_le _⟩ (Nat.le_of_ble_eq_true rfl) dL_isMasked_5) (fun H locs hH hL => ?_)
    refine lv_if_eq (tgt := 15) hx hb dL_isMasked_8 (by decide) (fun c5 => q_pos c5 ?_) (fun c5 => q_neg c5 ?_)
    · refine lv_lconst (v := 0) hx hb dL_isMasked_15 (by decide) ?_
      refine q_chk (fun hb6 => ?_)
      refine q_lt (fun M7 e_M7 => ?_)
      refine m_ls X hH hL t_q4_ hb6 dL_isMasked_16 e_M7 (fun H locs hH hL => ?_)
      refine lv_goto (tgt := 28) hx hb dL_isMasked_17 (by decide) ?_
      refine lv_iconst (v := 0) hx hb dL_isMasked_28 (by decide) ?_
      exact q_endW (m_iretW X hr hH hL (Nat.zero_le _) (Nat.zero_le _) dL_isMasked_29)
    · refine lv_lconst (v := 1) hx hb dL_isMasked_11 (by decide) ?_
      refine lv_goto (tgt := 16) hx hb dL_isMasked_12 (by decide) ?_
      refine q_chk (fun hb8 => ?_)
      refine q_lt (fun M9 e_M9 => ?_)
      refine m_ls X hH hL t_q4_ hb8 dL_isMasked_16 e_M9 (fun H locs hH hL => ?_)
      refine lv_goto (tgt := 28) hx hb dL_isMasked_17 (by decide) ?_
      refine lv_iconst (v := 0) hx hb dL_isMasked_28 (by decide) ?_
      exact q_endW (m_iretW X hr hH hL (Nat.zero_le _) (Nat.zero_le _) dL_isMasked_29)
  · by_cases c10 : E4 = "java/lang/IndexOutOfBoundsException"
    · refine q_pos c10 (q_ret (fun hq => ?_))
      subst c10
      cases hq
      refine my_caught X hL (my_runV X hH hl.1 (co_X8_isMasked g l hst q1_ p2_ p3_ M t_q1_ (.inr "java/lang/IndexOutOfBoundsException") M' e1) ok_X8_isMasked W849 t_q1_ rfl (by decide) rfl rfl rfl ⟨Nat.le_of_ble_eq_true rfl, Nat.le_of_ble_eq_true rfl⟩ ⟨Nat.le_of_ble_eq_true rfl, Nat.le_of_ble_eq_true rfl⟩ (Nat.le_of_ble_eq_true rfl) dL_isMasked_5) [] ⟨0, 17, 20, 21⟩ [⟨0, 17, 24, 13⟩] htb np0 rfl (by decide) W673 (by decide +kernel) (fun H locs q hH hL => ?_)
      refine lv_astore hx hb dL_isMasked_20 hl (by decide) rfl (fun ls hl => ?_)
      refine lv_iconst (v := 1) hx hb dL_isMasked_22 (by decide) ?_
      exact m_iretW X hr hH hL (by decide) (by decide) dL_isMasked_23
    refine q_neg c10 ?_
    by_cases c11 : E4 = "java/lang/IllegalArgumentException"
    · refine q_pos c11 (q_ret (fun hq => ?_))
      subst c11
      cases hq
      refine my_caught X hL (my_runV X hH hl.1 (co_X8_isMasked g l hst q1_ p2_ p3_ M t_q1_ (.inr "java/lang/IllegalArgumentException") M' e1) ok_X8_isMasked W849 t_q1_ rfl (by decide) rfl rfl rfl ⟨Nat.le_of_ble_eq_true rfl, Nat.le_of_ble_eq_true rfl⟩ ⟨Nat.le_of_ble_eq_true rfl, Nat.le_of_ble_eq_true rfl⟩ (Nat.le_of_ble_eq_true rfl) dL_isMasked_5) [⟨0, 17, 20, 21⟩] ⟨0, 17, 24, 13⟩ [] htb (np1 (by decide) W673 (by decide +kernel) np0) rfl (by decide) W653 (by decide +kernel) (fun H locs q hH hL => ?_)
      refine lv_astore hx hb dL_isMasked_24 hl (by decide) rfl (fun ls hl => ?_)
      refine lv_iconst (v := 2) hx hb dL_isMasked_26 (by decide) ?_
      exact m_iretW X hr hH hL (by decide) (by decide) dL_isMasked_27
    refine q_neg c11 ?_
    exact q_none

set_option maxRecDepth 20000 in
set_option maxHeartbeats 4000000 in
theorem co_L_fatigue (g : GP) (l : Launch) (hst : l.stackTraces = false) (q1_ : Nat) (p2_ : Int32) (q3_ : Nat) (M : Mem) (t_q1_ : tyT q1_ = 8) (t_q3_ : tyT q3_ = 27) (v : Int32) (M' : Mem) (hF : F_L_fatigue q1_ p2_ q3_ M = some (v, M')) : COW g l yL_fatigue cL_fatigue 4 [(0, 9, 12, 21)] 8 242 [.ref (adr g q1_), .int p2_, .ref (adr g q3_)] M v M' := by
  refine COW_of hst (by decide) (Nat.le_of_ble_eq_true rfl) ?_
  intro p e s m below meth c ls X hr htb hH hL hl
  have hx := X.1
  have hb := X.2.1
  have hts := X.2.2.2.2.1
  refine q_out hF ?_
  rw [F_L_fatigue]
  replace hl : lv_has ls 4 [(0, .ref (adr g q1_)), (1, .int p2_), (2, .ref (adr g q3_))] := hl
  refine lv_aload_n hx hb dL_fatigue_0 rfl (lv_at hl 2 rfl) ?_
  refine lv_iconst (v := 0) hx hb dL_fatigue_1 (by decide) ?_
  refine lv_aload_n hx hb dL_fatigue_2 rfl (lv_at hl 0 rfl) ?_
  refine lv_iload_n hx hb dL_fatigue_3 rfl (lv_at hl 1 rfl) ?_
  refine q_bw (fun v2 M3 e1 => ?_) (fun E4 M3 e1 => ?_)
  · refine my_doneI hL (my_runV X hH hl.1 (co_X8_fatigue g l hst q1_ p2_ M t_q1_ (.inl v2) M3 e1) ok_X8_fatigue W859 t_q1_ rfl (by decide) rfl rfl rfl ⟨Nat.le_of_ble_eq_true rfl, Nat.le_of_ble_eq_true rfl⟩ ⟨Nat.zero_le _, Nat.zero_le _⟩ (Nat.le_of_ble_eq_true rfl) dL_fatigue_4) (fun H locs hH hL => ?_)
    refine lv_i2l hx hb dL_fatigue_7 rfl ?_
    refine q_chk (fun hb5 => ?_)
    refine q_lt (fun M6 e_M6 => ?_)
    refine m_ls X hH hL t_q3_ hb5 dL_fatigue_8 e_M6 (fun H locs hH hL => ?_)
    refine lv_goto (tgt := 15) hx hb dL_fatigue_9 (by decide) ?_
    refine lv_iconst (v := 0) hx hb dL_fatigue_15 (by decide) ?_
    exact q_endW (m_iretW X hr hH hL (Nat.zero_le _) (Nat.zero_le _) dL_fatigue_16)
  · by_cases c7 : E4 = "java/lang/IndexOutOfBoundsException"
    · refine q_pos c7 (q_ret (fun hq => ?_))
      subst c7
      cases hq
      refine my_caught X hL (my_runV X hH hl.1 (co_X8_fatigue g l hst q1_ p2_ M t_q1_ (.inr "java/lang/IndexOutOfBoundsException") M' e1) ok_X8_fatigue W859 t_q1_ rfl (by decide) rfl rfl rfl ⟨Nat.le_of_ble_eq_true rfl, Nat.le_of_ble_eq_true rfl⟩ ⟨Nat.le_of_ble_eq_true rfl, Nat.le_of_ble_eq_true rfl⟩ (Nat.le_of_ble_eq_true rfl) dL_fatigue_4) [] ⟨0, 9, 12, 21⟩ [] htb np0 rfl (by decide) W673 (by decide +kernel) (fun H locs q hH hL => ?_)
      refine lv_astore_n hx hb dL_fatigue_12 rfl hl (by decide) rfl (fun ls hl => ?_)
      refine lv_iconst (v := 1) hx hb dL_fatigue_13 (by decide) ?_
      exact m_iretW X hr hH hL (by decide) (by decide) dL_fatigue_14
    refine q_neg c7 ?_
    exact q_none

set_option maxRecDepth 20000 in
set_option maxHeartbeats 4000000 in
theorem co_L_restingBeats (g : GP) (l : Launch) (hst : l.stackTraces = false) (q1_ : Nat) (p2_ : Int32) (q3_ : Nat) (M : Mem) (t_q1_ : tyT q1_ = 8) (t_q3_ : tyT q3_ = 27) (v : Int32) (M' : Mem) (hF : F_L_restingBeats q1_ p2_ q3_ M = some (v, M')) : COW g l yL_restingBeats cL_restingBeats 4 [(0, 9, 12, 21)] 8 242 [.ref (adr g q1_), .int p2_, .ref (adr g q3_)] M v M' := by
  refine COW_of hst (by decide) (Nat.le_of_ble_eq_true rfl) ?_
  intro p e s m below meth c ls X hr htb hH hL hl
  have hx := X.1
  have hb := X.2.1
  have hts := X.2.2.2.2.1
  refine q_out hF ?_
  rw [F_L_restingBeats]
  replace hl : lv_has ls 4 [(0, .ref (adr g q1_)), (1, .int p2_), (2, .ref (adr g q3_))] := hl
  refine lv_aload_n hx hb dL_restingBeats_0 rfl (lv_at hl 2 rfl) ?_
  refine lv_iconst (v := 0) hx hb dL_restingBeats_1 (by decide) ?_
  refine lv_aload_n hx hb dL_restingBeats_2 rfl (lv_at hl 0 rfl) ?_
  refine lv_iload_n hx hb dL_restingBeats_3 rfl (lv_at hl 1 rfl) ?_
  refine q_bw (fun v2 M3 e1 => ?_) (fun E4 M3 e1 => ?_)
  · refine my_doneI hL (my_runV X hH hl.1 (co_X8_restingBeats g l hst q1_ p2_ M t_q1_ (.inl v2) M3 e1) ok_X8_restingBeats W866 t_q1_ rfl (by decide) rfl rfl rfl ⟨Nat.le_of_ble_eq_true rfl, Nat.le_of_ble_eq_true rfl⟩ ⟨Nat.zero_le _, Nat.zero_le _⟩ (Nat.le_of_ble_eq_true rfl) dL_restingBeats_4) (fun H locs hH hL => ?_)
    refine lv_i2l hx hb dL_restingBeats_7 rfl ?_
    refine q_chk (fun hb5 => ?_)
    refine q_lt (fun M6 e_M6 => ?_)
    refine m_ls X hH hL t_q3_ hb5 dL_restingBeats_8 e_M6 (fun H locs hH hL => ?_)
    refine lv_goto (tgt := 15) hx hb dL_restingBeats_9 (by decide) ?_
    refine lv_iconst (v := 0) hx hb dL_restingBeats_15 (by decide) ?_
    exact q_endW (m_iretW X hr hH hL (Nat.zero_le _) (Nat.zero_le _) dL_restingBeats_16)
  · by_cases c7 : E4 = "java/lang/IndexOutOfBoundsException"
    · refine q_pos c7 (q_ret (fun hq => ?_))
      subst c7
      cases hq
      refine my_caught X hL (my_runV X hH hl.1 (co_X8_restingBeats g l hst q1_ p2_ M t_q1_ (.inr "java/lang/IndexOutOfBoundsException") M' e1) ok_X8_restingBeats W866 t_q1_ rfl (by decide) rfl rfl rfl ⟨Nat.le_of_ble_eq_true rfl, Nat.le_of_ble_eq_true rfl⟩ ⟨Nat.le_of_ble_eq_true rfl, Nat.le_of_ble_eq_true rfl⟩ (Nat.le_of_ble_eq_true rfl) dL_restingBeats_4) [] ⟨0, 9, 12, 21⟩ [] htb np0 rfl (by decide) W673 (by decide +kernel) (fun H locs q hH hL => ?_)
      refine lv_astore_n hx hb dL_restingBeats_12 rfl hl (by decide) rfl (fun ls hl => ?_)
      refine lv_iconst (v := 1) hx hb dL_restingBeats_13 (by decide) ?_
      exact m_iretW X hr hH hL (by decide) (by decide) dL_restingBeats_14
    refine q_neg c7 ?_
    exact q_none

set_option maxRecDepth 20000 in
set_option maxHeartbeats 4000000 in
theorem co_L_isSymmetric (g : GP) (l : Launch) (hst : l.stackTraces = false) (q1_ : Nat) (p2_ : Int32) (q3_ : Nat) (M : Mem) (t_q1_ : tyT q1_ = 8) (t_q3_ : tyT q3_ = 27) (v : Int32) (M' : Mem) (hF : F_L_isSymmetric q1_ p2_ q3_ M = some (v, M')) : COW g l yL_isSymmetric cL_isSymmetric 4 [(0, 16, 19, 21)] 8 243 [.ref (adr g q1_), .int p2_, .ref (adr g q3_)] M v M' := by
  refine COW_of hst (by decide) (Nat.le_of_ble_eq_true rfl) ?_
  intro p e s m below meth c ls X hr htb hH hL hl
  have hx := X.1
  have hb := X.2.1
  have hts := X.2.2.2.2.1
  refine q_out hF ?_
  rw [F_L_isSymmetric]
  replace hl : lv_has ls 4 [(0, .ref (adr g q1_)), (1, .int p2_), (2, .ref (adr g q3_))] := hl
  refine lv_aload_n hx hb dL_isSymmetric_0 rfl (lv_at hl 2 rfl) ?_
  refine lv_iconst (v := 0) hx hb dL_isSymmetric_1 (by decide) ?_
  refine lv_aload_n hx hb dL_isSymmetric_2 rfl (lv_at hl 0 rfl) ?_
  refine lv_iload_n hx hb dL_isSymmetric_3 rfl (lv_at hl 1 rfl) ?_
  refine q_bw (fun v2 M3 e1 => ?_) (fun E4 M3 e1 => ?_)
  · refine my_doneI hL (my_runV X hH hl.1 (co_X8_isSymmetric g l hst q1_ p2_ M t_q1_ (.inl v2) M3 e1) ok_X8_isSymmetric W873 t_q1_ rfl (by decide) rfl rfl rfl ⟨Nat.le_of_ble_eq_true rfl, Nat.le_of_ble_eq_true rfl⟩ ⟨Nat.zero_le _, Nat.zero_le _⟩ (Nat.le_of_ble_eq_true rfl) dL_isSymmetric_4) (fun H locs hH hL => ?_)
    refine lv_if_eq (tgt := 14) hx hb dL_isSymmetric_7 (by decide) (fun c5 => q_pos c5 ?_) (fun c5 => q_neg c5 ?_)
    · refine lv_lconst (v := 0) hx hb dL_isSymmetric_14 (by decide) ?_
      refine q_chk (fun hb6 => ?_)
      refine q_lt (fun M7 e_M7 => ?_)
      refine m_ls X hH hL t_q3_ hb6 dL_isSymmetric_15 e_M7 (fun H locs hH hL => ?_)
      refine lv_goto (tgt := 22) hx hb dL_isSymmetric_16 (by decide) ?_
      refine lv_iconst (v := 0) hx hb dL_isSymmetric_22 (by decide) ?_
      exact q_endW (m_iretW X hr hH hL (Nat.zero_le _) (Nat.zero_le _) dL_isSymmetric_23)
    · refine lv_lconst (v := 1) hx hb dL_isSymmetric_10 (by decide) ?_
      refine lv_goto (tgt := 15) hx hb dL_isSymmetric_11 (by decide) ?_
      refine q_chk (fun hb8 => ?_)
      refine q_lt (fun M9 e_M9 => ?_)
      refine m_ls X hH hL t_q3_ hb8 dL_isSymmetric_15 e_M9 (fun H locs hH hL => ?_)
      refine lv_goto (tgt := 22) hx hb dL_isSymmetric_16 (by decide) ?_
      refine lv_iconst (v := 0) hx hb dL_isSymmetric_22 (by decide) ?_
      exact q_endW (m_iretW X hr hH hL (Nat.zero_le _) (Nat.zero_le _) dL_isSymmetric_23)
  · by_cases c10 : E4 = "java/lang/IndexOutOfBoundsException"
    · refine q_pos c10 (q_ret (fun hq => ?_))
      subst c10
      cases hq
      refine my_caught X hL (my_runV X hH hl.1 (co_X8_isSymmetric g l hst q1_ p2_ M t_q1_ (.inr "java/lang/IndexOutOfBoundsException") M' e1) ok_X8_isSymmetric W873 t_q1_ rfl (by decide) rfl rfl rfl ⟨Nat.le_of_ble_eq_true rfl, Nat.le_of_ble_eq_true rfl⟩ ⟨Nat.le_of_ble_eq_true rfl, Nat.le_of_ble_eq_true rfl⟩ (Nat.le_of_ble_eq_true rfl) dL_isSymmetric_4) [] ⟨0, 16, 19, 21⟩ [] htb np0 rfl (by decide) W673 (by decide +kernel) (fun H locs q hH hL => ?_)
      refine lv_astore_n hx hb dL_isSymmetric_19 rfl hl (by decide) rfl (fun ls hl => ?_)
      refine lv_iconst (v := 1) hx hb dL_isSymmetric_20 (by decide) ?_
      exact m_iretW X hr hH hL (by decide) (by decide) dL_isSymmetric_21
    refine q_neg c10 ?_
    exact q_none

set_option maxRecDepth 20000 in
set_option maxHeartbeats 4000000 in
theorem co_L_areAlike (g : GP) (l : Launch) (hst : l.stackTraces = false) (q1_ : Nat) (p2_ : Int32) (p3_ : Int32) (q4_ : Nat) (M : Mem) (t_q1_ : tyT q1_ = 8) (t_q4_ : tyT q4_ = 27) (v : Int32) (M' : Mem) (hF : F_L_areAlike q1_ p2_ p3_ q4_ M = some (v, M')) : COW g l yL_areAlike cL_areAlike 5 [(0, 17, 20, 21)] 8 243 [.ref (adr g q1_), .int p2_, .int p3_, .ref (adr g q4_)] M v M' := by
  refine COW_of hst (by decide) (Nat.le_of_ble_eq_true rfl) ?_
  intro p e s m below meth c ls X hr htb hH hL hl
  have hx := X.1
  have hb := X.2.1
  have hts := X.2.2.2.2.1
  refine q_out hF ?_
  rw [F_L_areAlike]
  replace hl : lv_has ls 5 [(0, .ref (adr g q1_)), (1, .int p2_), (2, .int p3_), (3, .ref (adr g q4_))] := hl
  refine lv_aload_n hx hb dL_areAlike_0 rfl (lv_at hl 3 rfl) ?_
  refine lv_iconst (v := 0) hx hb dL_areAlike_1 (by decide) ?_
  refine lv_aload_n hx hb dL_areAlike_2 rfl (lv_at hl 0 rfl) ?_
  refine lv_iload_n hx hb dL_areAlike_3 rfl (lv_at hl 1 rfl) ?_
  refine lv_iload_n hx hb dL_areAlike_4 rfl (lv_at hl 2 rfl) ?_
  refine q_bw (fun v2 M3 e1 => ?_) (fun E4 M3 e1 => ?_)
  · refine my_doneI hL (my_runV X hH hl.1 (co_X8_areAlike g l hst q1_ p2_ p3_ M t_q1_ (.inl v2) M3 e1) ok_X8_areAlike W884 t_q1_ rfl (by decide) rfl rfl rfl ⟨Nat.le_of_ble_eq_true rfl, Nat.le_of_ble_eq_true rfl⟩ ⟨Nat.zero_le _, Nat.zero_le _⟩ (Nat.le_of_ble_eq_true rfl) dL_areAlike_5) (fun H locs hH hL => ?_)
    refine lv_if_eq (tgt := 15) hx hb dL_areAlike_8 (by decide) (fun c5 => q_pos c5 ?_) (fun c5 => q_neg c5 ?_)
    · refine lv_lconst (v := 0) hx hb dL_areAlike_15 (by decide) ?_
      refine q_chk (fun hb6 => ?_)
      refine q_lt (fun M7 e_M7 => ?_)
      refine m_ls X hH hL t_q4_ hb6 dL_areAlike_16 e_M7 (fun H locs hH hL => ?_)
      refine lv_goto (tgt := 24) hx hb dL_areAlike_17 (by decide) ?_
      refine lv_iconst (v := 0) hx hb dL_areAlike_24 (by decide) ?_
      exact q_endW (m_iretW X hr hH hL (Nat.zero_le _) (Nat.zero_le _) dL_areAlike_25)
    · refine lv_lconst (v := 1) hx hb dL_areAlike_11 (by decide) ?_
      refine lv_goto (tgt := 16) hx hb dL_areAlike_12 (by decide) ?_
      refine q_chk (fun hb8 => ?_)
      refine q_lt (fun M9 e_M9 => ?_)
      refine m_ls X hH hL t_q4_ hb8 dL_areAlike_16 e_M9 (fun H locs hH hL => ?_)
      refine lv_goto (tgt := 24) hx hb dL_areAlike_17 (by decide) ?_
      refine lv_iconst (v := 0) hx hb dL_areAlike_24 (by decide) ?_
      exact q_endW (m_iretW X hr hH hL (Nat.zero_le _) (Nat.zero_le _) dL_areAlike_25)
  · by_cases c10 : E4 = "java/lang/IndexOutOfBoundsException"
    · refine q_pos c10 (q_ret (fun hq => ?_))
      subst c10
      cases hq
      refine my_caught X hL (my_runV X hH hl.1 (co_X8_areAlike g l hst q1_ p2_ p3_ M t_q1_ (.inr "java/lang/IndexOutOfBoundsException") M' e1) ok_X8_areAlike W884 t_q1_ rfl (by decide) rfl rfl rfl ⟨Nat.le_of_ble_eq_true rfl, Nat.le_of_ble_eq_true rfl⟩ ⟨Nat.le_of_ble_eq_true rfl, Nat.le_of_ble_eq_true rfl⟩ (Nat.le_of_ble_eq_true rfl) dL_areAlike_5) [] ⟨0, 17, 20, 21⟩ [] htb np0 rfl (by decide) W673 (by decide +kernel) (fun H locs q hH hL => ?_)
      refine lv_astore hx hb dL_areAlike_20 hl (by decide) rfl (fun ls hl => ?_)
      refine lv_iconst (v := 1) hx hb dL_areAlike_22 (by decide) ?_
      exact m_iretW X hr hH hL (by decide) (by decide) dL_areAlike_23
    refine q_neg c10 ?_
    exact q_none

set_option maxRecDepth 20000 in
set_option maxHeartbeats 4000000 in
theorem co_L_noteVolume (g : GP) (l : Launch) (hst : l.stackTraces = false) (q1_ : Nat) (p2_ : Int32) (p3_ : Int32) (q4_ : Nat) (M : Mem) (t_q1_ : tyT q1_ = 8) (t_q4_ : tyT q4_ = 27) (v : Int32) (M' : Mem) (hF : F_L_noteVolume q1_ p2_ p3_ q4_ M = some (v, M')) : COW g l yL_noteVolume cL_noteVolume 5 [(0, 10, 13, 13)] 7 222 [.ref (adr g q1_), .int p2_, .int p3_, .ref (adr g q4_)] M v M' := by
  refine COW_of hst (by decide) (Nat.le_of_ble_eq_true rfl) ?_
  intro p e s m below meth c ls X hr htb hH hL hl
  have hx := X.1
  have hb := X.2.1
  have hts := X.2.2.2.2.1
  refine q_out hF ?_
  rw [F_L_noteVolume]
  replace hl : lv_has ls 5 [(0, .ref (adr g q1_)), (1, .int p2_), (2, .int p3_), (3, .ref (adr g q4_))] := hl
  refine lv_aload_n hx hb dL_noteVolume_0 rfl (lv_at hl 3 rfl) ?_
  refine lv_iconst (v := 0) hx hb dL_noteVolume_1 (by decide) ?_
  refine lv_aload_n hx hb dL_noteVolume_2 rfl (lv_at hl 0 rfl) ?_
  refine lv_iload_n hx hb dL_noteVolume_3 rfl (lv_at hl 1 rfl) ?_
  refine lv_iload_n hx hb dL_noteVolume_4 rfl (lv_at hl 2 rfl) ?_
  refine q_bw (fun v2 M3 e1 => ?_) (fun E4 M3 e1 => ?_)
  · refine my_doneI hL (my_runV X hH hl.1 (co_X8_noteVolume g l hst q1_ p2_ p3_ M t_q1_ (.inl v2) M3 e1) ok_X8_noteVolume W891 t_q1_ rfl (by decide) rfl rfl rfl ⟨Nat.le_of_ble_eq_true rfl, Nat.le_of_ble_eq_true rfl⟩ ⟨Nat.zero_le _, Nat.zero_le _⟩ (Nat.le_of_ble_eq_true rfl) dL_noteVolume_5) (fun H locs hH hL => ?_)
    refine lv_i2l hx hb dL_noteVolume_8 rfl ?_
    refine q_chk (fun hb5 => ?_)
    refine q_lt (fun M6 e_M6 => ?_)
    refine m_ls X hH hL t_q4_ hb5 dL_noteVolume_9 e_M6 (fun H locs hH hL => ?_)
    refine lv_goto (tgt := 17) hx hb dL_noteVolume_10 (by decide) ?_
    refine lv_iconst (v := 0) hx hb dL_noteVolume_17 (by decide) ?_
    exact q_endW (m_iretW X hr hH hL (Nat.zero_le _) (Nat.zero_le _) dL_noteVolume_18)
  · by_cases c7 : E4 = "java/lang/IllegalArgumentException"
    · refine q_pos c7 (q_ret (fun hq => ?_))
      subst c7
      cases hq
      refine my_caught X hL (my_runV X hH hl.1 (co_X8_noteVolume g l hst q1_ p2_ p3_ M t_q1_ (.inr "java/lang/IllegalArgumentException") M' e1) ok_X8_noteVolume W891 t_q1_ rfl (by decide) rfl rfl rfl ⟨Nat.le_of_ble_eq_true rfl, Nat.le_of_ble_eq_true rfl⟩ ⟨Nat.le_of_ble_eq_true rfl, Nat.le_of_ble_eq_true rfl⟩ (Nat.le_of_ble_eq_true rfl) dL_noteVolume_5) [] ⟨0, 10, 13, 13⟩ [] htb np0 rfl (by decide) W653 (by decide +kernel) (fun H locs q hH hL => ?_)
      refine lv_astore hx hb dL_noteVolume_13 hl (by decide) rfl (fun ls hl => ?_)
      refine lv_iconst (v := 1) hx hb dL_noteVolume_15 (by decide) ?_
      exact m_iretW X hr hH hL (by decide) (by decide) dL_noteVolume_16
    refine q_neg c7 ?_
    exact q_none

set_option maxRecDepth 20000 in
set_option maxHeartbeats 4000000 in
theorem co_L_columnVolume (g : GP) (l : Launch) (hst : l.stackTraces = false) (q1_ : Nat) (p2_ : Int32) (p3_ : Int32) (q4_ : Nat) (M : Mem) (t_q1_ : tyT q1_ = 8) (t_q4_ : tyT q4_ = 27) (v : Int32) (M' : Mem) (hF : F_L_columnVolume q1_ p2_ p3_ q4_ M = some (v, M')) : COW g l yL_columnVolume cL_columnVolume 5 [(0, 10, 13, 21)] 9 266 [.ref (adr g q1_), .int p2_, .int p3_, .ref (adr g q4_)] M v M' := by
  refine COW_of hst (by decide) (Nat.le_of_ble_eq_true rfl) ?_
  intro p e s m below meth c ls X hr htb hH hL hl
  have hx := X.1
  have hb := X.2.1
  have hts := X.2.2.2.2.1
  refine q_out hF ?_
  rw [F_L_columnVolume]
  replace hl : lv_has ls 5 [(0, .ref (adr g q1_)), (1, .int p2_), (2, .int p3_), (3, .ref (adr g q4_))] := hl
  refine lv_aload_n hx hb dL_columnVolume_0 rfl (lv_at hl 3 rfl) ?_
  refine lv_iconst (v := 0) hx hb dL_columnVolume_1 (by decide) ?_
  refine lv_aload_n hx hb dL_columnVolume_2 rfl (lv_at hl 0 rfl) ?_
  refine lv_iload_n hx hb dL_columnVolume_3 rfl (lv_at hl 1 rfl) ?_
  refine lv_iload_n hx hb dL_columnVolume_4 rfl (lv_at hl 2 rfl) ?_
  refine q_bw (fun v2 M3 e1 => ?_) (fun E4 M3 e1 => ?_)
  · refine my_doneI hL (my_runV X hH hl.1 (co_X8_columnVolume g l hst q1_ p2_ p3_ M t_q1_ (.inl v2) M3 e1) ok_X8_columnVolume W900 t_q1_ rfl (by decide) rfl rfl rfl ⟨Nat.le_of_ble_eq_true rfl, Nat.le_of_ble_eq_true rfl⟩ ⟨Nat.zero_le _, Nat.zero_le _⟩ (Nat.le_of_ble_eq_true rfl) dL_columnVolume_5) (fun H locs hH hL => ?_)
    refine lv_i2l hx hb dL_columnVolume_8 rfl ?_
    refine q_chk (fun hb5 => ?_)
    refine q_lt (fun M6 e_M6 => ?_)
    refine m_ls X hH hL t_q4_ hb5 dL_columnVolume_9 e_M6 (fun H locs hH hL => ?_)
    refine lv_goto (tgt := 17) hx hb dL_columnVolume_10 (by decide) ?_
    refine lv_iconst (v := 0) hx hb dL_columnVolume_17 (by decide) ?_
    exact q_endW (m_iretW X hr hH hL (Nat.zero_le _) (Nat.zero_le _) dL_columnVolume_18)
  · by_cases c7 : E4 = "java/lang/IndexOutOfBoundsException"
    · refine q_pos c7 (q_ret (fun hq => ?_))
      subst c7
      cases hq
      refine my_caught X hL (my_runV X hH hl.1 (co_X8_columnVolume g l hst q1_ p2_ p3_ M t_q1_ (.inr "java/lang/IndexOutOfBoundsException") M' e1) ok_X8_columnVolume W900 t_q1_ rfl (by decide) rfl rfl rfl ⟨Nat.le_of_ble_eq_true rfl, Nat.le_of_ble_eq_true rfl⟩ ⟨Nat.le_of_ble_eq_true rfl, Nat.le_of_ble_eq_true rfl⟩ (Nat.le_of_ble_eq_true rfl) dL_columnVolume_5) [] ⟨0, 10, 13, 21⟩ [] htb np0 rfl (by decide) W673 (by decide +kernel) (fun H locs q hH hL => ?_)
      refine lv_astore hx hb dL_columnVolume_13 hl (by decide) rfl (fun ls hl => ?_)
      refine lv_iconst (v := 1) hx hb dL_columnVolume_15 (by decide) ?_
      exact m_iretW X hr hH hL (by decide) (by decide) dL_columnVolume_16
    refine q_neg c7 ?_
    exact q_none

set_option maxRecDepth 20000 in
set_option maxHeartbeats 4000000 in
theorem co_L_columnVolumeByTransposing (g : GP) (l : Launch) (hst : l.stackTraces = false) (q1_ : Nat) (p2_ : Int32) (p3_ : Int32) (q4_ : Nat) (M : Mem) (t_q1_ : tyT q1_ = 8) (t_q4_ : tyT q4_ = 27) (v : Int32) (M' : Mem) (hF : F_L_columnVolumeByTransposing q1_ p2_ p3_ q4_ M = some (v, M')) : COW g l yL_columnVolumeByTransposing cL_columnVolumeByTransposing 5 [(0, 10, 13, 21)] 9 266 [.ref (adr g q1_), .int p2_, .int p3_, .ref (adr g q4_)] M v M' := by
  refine COW_of hst (by decide) (Nat.le_of_ble_eq_true rfl) ?_
  intro p e s m below meth c ls X hr htb hH hL hl
  have hx := X.1
  have hb := X.2.1
  have hts := X.2.2.2.2.1
  refine q_out hF ?_
  rw [F_L_columnVolumeByTransposing]
  replace hl : lv_has ls 5 [(0, .ref (adr g q1_)), (1, .int p2_), (2, .int p3_), (3, .ref (adr g q4_))] := hl
  refine lv_aload_n hx hb dL_columnVolumeByTransposing_0 rfl (lv_at hl 3 rfl) ?_
  refine lv_iconst (v := 0) hx hb dL_columnVolumeByTransposing_1 (by decide) ?_
  refine lv_aload_n hx hb dL_columnVolumeByTransposing_2 rfl (lv_at hl 0 rfl) ?_
  refine lv_iload_n hx hb dL_columnVolumeByTransposing_3 rfl (lv_at hl 1 rfl) ?_
  refine lv_iload_n hx hb dL_columnVolumeByTransposing_4 rfl (lv_at hl 2 rfl) ?_
  refine q_bw (fun v2 M3 e1 => ?_) (fun E4 M3 e1 => ?_)
  · refine my_doneI hL (my_runV X hH hl.1 (co_X8_columnVolumeByTransposing g l hst q1_ p2_ p3_ M t_q1_ (.inl v2) M3 e1) ok_X8_columnVolumeByTransposing W904 t_q1_ rfl (by decide) rfl rfl rfl ⟨Nat.le_of_ble_eq_true rfl, Nat.le_of_ble_eq_true rfl⟩ ⟨Nat.zero_le _, Nat.zero_le _⟩ (Nat.le_of_ble_eq_true rfl) dL_columnVolumeByTransposing_5) (fun H locs hH hL => ?_)
    refine lv_i2l hx hb dL_columnVolumeByTransposing_8 rfl ?_
    refine q_chk (fun hb5 => ?_)
    refine q_lt (fun M6 e_M6 => ?_)
    refine m_ls X hH hL t_q4_ hb5 dL_columnVolumeByTransposing_9 e_M6 (fun H locs hH hL => ?_)
    refine lv_goto (tgt := 17) hx hb dL_columnVolumeByTransposing_10 (by decide) ?_
    refine lv_iconst (v := 0) hx hb dL_columnVolumeByTransposing_17 (by decide) ?_
    exact q_endW (m_iretW X hr hH hL (Nat.zero_le _) (Nat.zero_le _) dL_columnVolumeByTransposing_18)
  · by_cases c7 : E4 = "java/lang/IndexOutOfBoundsException"
    · refine q_pos c7 (q_ret (fun hq => ?_))
      subst c7
      cases hq
      refine my_caught X hL (my_runV X hH hl.1 (co_X8_columnVolumeByTransposing g l hst q1_ p2_ p3_ M t_q1_ (.inr "java/lang/IndexOutOfBoundsException") M' e1) ok_X8_columnVolumeByTransposing W904 t_q1_ rfl (by decide) rfl rfl rfl ⟨Nat.le_of_ble_eq_true rfl, Nat.le_of_ble_eq_true rfl⟩ ⟨Nat.le_of_ble_eq_true rfl, Nat.le_of_ble_eq_true rfl⟩ (Nat.le_of_ble_eq_true rfl) dL_columnVolumeByTransposing_5) [] ⟨0, 10, 13, 21⟩ [] htb np0 rfl (by decide) W673 (by decide +kernel) (fun H locs q hH hL => ?_)
      refine lv_astore hx hb dL_columnVolumeByTransposing_13 hl (by decide) rfl (fun ls hl => ?_)
      refine lv_iconst (v := 1) hx hb dL_columnVolumeByTransposing_15 (by decide) ?_
      exact m_iretW X hr hH hL (by decide) (by decide) dL_columnVolumeByTransposing_16
    refine q_neg c7 ?_
    exact q_none

set_option maxRecDepth 20000 in
set_option maxHeartbeats 4000000 in
theorem co_L_nextVolume (g : GP) (l : Launch) (hst : l.stackTraces = false) (q1_ : Nat) (p2_ : Int32) (q3_ : Nat) (M : Mem) (t_q1_ : tyT q1_ = 8) (t_q3_ : tyT q3_ = 27) (v : Int32) (M' : Mem) (hF : F_L_nextVolume q1_ p2_ q3_ M = some (v, M')) : COW g l yL_nextVolume cL_nextVolume 4 [(0, 9, 12, 21)] 8 242 [.ref (adr g q1_), .int p2_, .ref (adr g q3_)] M v M' := by
  refine COW_of hst (by decide) (Nat.le_of_ble_eq_true rfl) ?_
  intro p e s m below meth c ls X hr htb hH hL hl
  have hx := X.1
  have hb := X.2.1
  have hts := X.2.2.2.2.1
  refine q_out hF ?_
  rw [F_L_nextVolume]
  replace hl : lv_has ls 4 [(0, .ref (adr g q1_)), (1, .int p2_), (2, .ref (adr g q3_))] := hl
  refine lv_aload_n hx hb dL_nextVolume_0 rfl (lv_at hl 2 rfl) ?_
  refine lv_iconst (v := 0) hx hb dL_nextVolume_1 (by decide) ?_
  refine lv_aload_n hx hb dL_nextVolume_2 rfl (lv_at hl 0 rfl) ?_
  refine lv_iload_n hx hb dL_nextVolume_3 rfl (lv_at hl 1 rfl) ?_
  refine q_bw (fun v2 M3 e1 => ?_) (fun E4 M3 e1 => ?_)
  · refine my_doneI hL (my_runV X hH hl.1 (co_X8_nextVolume g l hst q1_ p2_ M t_q1_ (.inl v2) M3 e1) ok_X8_nextVolume W908 t_q1_ rfl (by decide) rfl rfl rfl ⟨Nat.le_of_ble_eq_true rfl, Nat.le_of_ble_eq_true rfl⟩ ⟨Nat.zero_le _, Nat.zero_le _⟩ (Nat.le_of_ble_eq_true rfl) dL_nextVolume_4) (fun H locs hH hL => ?_)
    refine lv_i2l hx hb dL_nextVolume_7 rfl ?_
    refine q_chk (fun hb5 => ?_)
    refine q_lt (fun M6 e_M6 => ?_)
    refine m_ls X hH hL t_q3_ hb5 dL_nextVolume_8 e_M6 (fun H locs hH hL => ?_)
    refine lv_goto (tgt := 15) hx hb dL_nextVolume_9 (by decide) ?_
    refine lv_iconst (v := 0) hx hb dL_nextVolume_15 (by decide) ?_
    exact q_endW (m_iretW X hr hH hL (Nat.zero_le _) (Nat.zero_le _) dL_nextVolume_16)
  · by_cases c7 : E4 = "java/lang/IndexOutOfBoundsException"
    · refine q_pos c7 (q_ret (fun hq => ?_))
      subst c7
      cases hq
      refine my_caught X hL (my_runV X hH hl.1 (co_X8_nextVolume g l hst q1_ p2_ M t_q1_ (.inr "java/lang/IndexOutOfBoundsException") M' e1) ok_X8_nextVolume W908 t_q1_ rfl (by decide) rfl rfl rfl ⟨Nat.le_of_ble_eq_true rfl, Nat.le_of_ble_eq_true rfl⟩ ⟨Nat.le_of_ble_eq_true rfl, Nat.le_of_ble_eq_true rfl⟩ (Nat.le_of_ble_eq_true rfl) dL_nextVolume_4) [] ⟨0, 9, 12, 21⟩ [] htb np0 rfl (by decide) W673 (by decide +kernel) (fun H locs q hH hL => ?_)
      refine lv_astore_n hx hb dL_nextVolume_12 rfl hl (by decide) rfl (fun ls hl => ?_)
      refine lv_iconst (v := 1) hx hb dL_nextVolume_13 (by decide) ?_
      exact m_iretW X hr hH hL (by decide) (by decide) dL_nextVolume_14
    refine q_neg c7 ?_
    exact q_none

set_option maxRecDepth 20000 in
set_option maxHeartbeats 4000000 in
theorem co_L_beatsUntilBreak (g : GP) (l : Launch) (hst : l.stackTraces = false) (q1_ : Nat) (q2_ : Nat) (M : Mem) (t_q1_ : tyT q1_ = 8) (t_q2_ : tyT q2_ = 27) (v : Int32) (M' : Mem) (hF : F_L_beatsUntilBreak q1_ q2_ M = some (v, M')) : COW g l yL_beatsUntilBreak cL_beatsUntilBreak 3 [(0, 8, 11, 100)] 7 221 [.ref (adr g q1_), .ref (adr g q2_)] M v M' := by
  refine COW_of hst (by decide) (Nat.le_of_ble_eq_true rfl) ?_
  intro p e s m below meth c ls X hr htb hH hL hl
  have hx := X.1
  have hb := X.2.1
  have hts := X.2.2.2.2.1
  refine q_out hF ?_
  rw [F_L_beatsUntilBreak]
  replace hl : lv_has ls 3 [(0, .ref (adr g q1_)), (1, .ref (adr g q2_))] := hl
  refine lv_aload_n hx hb dL_beatsUntilBreak_0 rfl (lv_at hl 1 rfl) ?_
  refine lv_iconst (v := 0) hx hb dL_beatsUntilBreak_1 (by decide) ?_
  refine lv_aload_n hx hb dL_beatsUntilBreak_2 rfl (lv_at hl 0 rfl) ?_
  refine q_bw (fun v2 M3 e1 => ?_) (fun E4 M3 e1 => ?_)
  · refine my_doneI hL (my_runV X hH hl.1 (co_X8_beatsUntilBreak g l hst q1_ M t_q1_ (.inl v2) M3 e1) ok_X8_beatsUntilBreak W913 t_q1_ rfl (by decide) rfl rfl rfl ⟨Nat.le_of_ble_eq_true rfl, Nat.le_of_ble_eq_true rfl⟩ ⟨Nat.zero_le _, Nat.zero_le _⟩ (Nat.le_of_ble_eq_true rfl) dL_beatsUntilBreak_3) (fun H locs hH hL => ?_)
    refine lv_i2l hx hb dL_beatsUntilBreak_6 rfl ?_
    refine q_chk (fun hb5 => ?_)
    refine q_lt (fun M6 e_M6 => ?_)
    refine m_ls X hH hL t_q2_ hb5 dL_beatsUntilBreak_7 e_M6 (fun H locs hH hL => ?_)
    refine lv_goto (tgt := 14) hx hb dL_beatsUntilBreak_8 (by decide) ?_
    refine lv_iconst (v := 0) hx hb dL_beatsUntilBreak_14 (by decide) ?_
    exact q_endW (m_iretW X hr hH hL (Nat.zero_le _) (Nat.zero_le _) dL_beatsUntilBreak_15)
  · by_cases c7 : E4 = "java/util/NoSuchElementException"
    · refine q_pos c7 (q_ret (fun hq => ?_))
      subst c7
      cases hq
      refine my_caught X hL (my_runV X hH hl.1 (co_X8_beatsUntilBreak g l hst q1_ M t_q1_ (.inr "java/util/NoSuchElementException") M' e1) ok_X8_beatsUntilBreak W913 t_q1_ rfl (by decide) rfl rfl rfl ⟨Nat.le_of_ble_eq_true rfl, Nat.le_of_ble_eq_true rfl⟩ ⟨Nat.le_of_ble_eq_true rfl, Nat.le_of_ble_eq_true rfl⟩ (Nat.le_of_ble_eq_true rfl) dL_beatsUntilBreak_3) [] ⟨0, 8, 11, 100⟩ [] htb np0 rfl (by decide) W912 (by decide +kernel) (fun H locs q hH hL => ?_)
      refine lv_astore_n hx hb dL_beatsUntilBreak_11 rfl hl (by decide) rfl (fun ls hl => ?_)
      refine lv_iconst (v := 1) hx hb dL_beatsUntilBreak_12 (by decide) ?_
      exact m_iretW X hr hH hL (by decide) (by decide) dL_beatsUntilBreak_13
    refine q_neg c7 ?_
    exact q_none

set_option maxRecDepth 20000 in
set_option maxHeartbeats 4000000 in
theorem co_L_totalWithin (g : GP) (l : Launch) (hst : l.stackTraces = false) (q1_ : Nat) (p2_ : Int32) (q3_ : Nat) (M : Mem) (t_q1_ : tyT q1_ = 8) (t_q3_ : tyT q3_ = 27) (v : Int32) (M' : Mem) (hF : F_L_totalWithin q1_ p2_ q3_ M = some (v, M')) : COW g l yL_totalWithin cL_totalWithin 4 [(0, 9, 12, 13)] 7 221 [.ref (adr g q1_), .int p2_, .ref (adr g q3_)] M v M' := by
  refine COW_of hst (by decide) (Nat.le_of_ble_eq_true rfl) ?_
  intro p e s m below meth c ls X hr htb hH hL hl
  have hx := X.1
  have hb := X.2.1
  have hts := X.2.2.2.2.1
  refine q_out hF ?_
  rw [F_L_totalWithin]
  replace hl : lv_has ls 4 [(0, .ref (adr g q1_)), (1, .int p2_), (2, .ref (adr g q3_))] := hl
  refine lv_aload_n hx hb dL_totalWithin_0 rfl (lv_at hl 2 rfl) ?_
  refine lv_iconst (v := 0) hx hb dL_totalWithin_1 (by decide) ?_
  refine lv_aload_n hx hb dL_totalWithin_2 rfl (lv_at hl 0 rfl) ?_
  refine lv_iload_n hx hb dL_totalWithin_3 rfl (lv_at hl 1 rfl) ?_
  refine q_bw (fun v2 M3 e1 => ?_) (fun E4 M3 e1 => ?_)
  · refine my_doneI hL (my_runV X hH hl.1 (co_X8_totalWithin g l hst q1_ p2_ M t_q1_ (.inl v2) M3 e1) ok_X8_totalWithin W937 t_q1_ rfl (by decide) rfl rfl rfl ⟨Nat.le_of_ble_eq_true rfl, Nat.le_of_ble_eq_true rfl⟩ ⟨Nat.zero_le _, Nat.zero_le _⟩ (Nat.le_of_ble_eq_true rfl) dL_totalWithin_4) (fun H locs hH hL => ?_)
    refine lv_i2l hx hb dL_totalWithin_7 rfl ?_
    refine q_chk (fun hb5 => ?_)
    refine q_lt (fun M6 e_M6 => ?_)
    refine m_ls X hH hL t_q3_ hb5 dL_totalWithin_8 e_M6 (fun H locs hH hL => ?_)
    refine lv_goto (tgt := 15) hx hb dL_totalWithin_9 (by decide) ?_
    refine lv_iconst (v := 0) hx hb dL_totalWithin_15 (by decide) ?_
    exact q_endW (m_iretW X hr hH hL (Nat.zero_le _) (Nat.zero_le _) dL_totalWithin_16)
  · by_cases c7 : E4 = "java/lang/IllegalArgumentException"
    · refine q_pos c7 (q_ret (fun hq => ?_))
      subst c7
      cases hq
      refine my_caught X hL (my_runV X hH hl.1 (co_X8_totalWithin g l hst q1_ p2_ M t_q1_ (.inr "java/lang/IllegalArgumentException") M' e1) ok_X8_totalWithin W937 t_q1_ rfl (by decide) rfl rfl rfl ⟨Nat.le_of_ble_eq_true rfl, Nat.le_of_ble_eq_true rfl⟩ ⟨Nat.le_of_ble_eq_true rfl, Nat.le_of_ble_eq_true rfl⟩ (Nat.le_of_ble_eq_true rfl) dL_totalWithin_4) [] ⟨0, 9, 12, 13⟩ [] htb np0 rfl (by decide) W653 (by decide +kernel) (fun H locs q hH hL => ?_)
      refine lv_astore_n hx hb dL_totalWithin_12 rfl hl (by decide) rfl (fun ls hl => ?_)
      refine lv_iconst (v := 1) hx hb dL_totalWithin_13 (by decide) ?_
      exact m_iretW X hr hH hL (by decide) (by decide) dL_totalWithin_14
    refine q_neg c7 ?_
    exact q_none

set_option maxRecDepth 20000 in
set_option maxHeartbeats 4000000 in
theorem co_L_playedVolume (g : GP) (l : Launch) (hst : l.stackTraces = false) (q1_ : Nat) (p2_ : Int32) (q3_ : Nat) (M : Mem) (t_q1_ : tyT q1_ = 8) (t_q3_ : tyT q3_ = 27) (v : Int32) (M' : Mem) (hF : F_L_playedVolume q1_ p2_ q3_ M = some (v, M')) : COW g l yL_playedVolume cL_playedVolume 4 [(0, 9, 12, 21)] 8 242 [.ref (adr g q1_), .int p2_, .ref (adr g q3_)] M v M' := by
  refine COW_of hst (by decide) (Nat.le_of_ble_eq_true rfl) ?_
  intro p e s m below meth c ls X hr htb hH hL hl
  have hx := X.1
  have hb := X.2.1
  have hts := X.2.2.2.2.1
  refine q_out hF ?_
  rw [F_L_playedVolume]
  replace hl : lv_has ls 4 [(0, .ref (adr g q1_)), (1, .int p2_), (2, .ref (adr g q3_))] := hl
  refine lv_aload_n hx hb dL_playedVolume_0 rfl (lv_at hl 2 rfl) ?_
  refine lv_iconst (v := 0) hx hb dL_playedVolume_1 (by decide) ?_
  refine lv_aload_n hx hb dL_playedVolume_2 rfl (lv_at hl 0 rfl) ?_
  refine lv_iload_n hx hb dL_playedVolume_3 rfl (lv_at hl 1 rfl) ?_
  refine q_bw (fun v2 M3 e1 => ?_) (fun E4 M3 e1 => ?_)
  · refine my_doneI hL (my_runV X hH hl.1 (co_X8_playedVolume g l hst q1_ p2_ M t_q1_ (.inl v2) M3 e1) ok_X8_playedVolume W945 t_q1_ rfl (by decide) rfl rfl rfl ⟨Nat.le_of_ble_eq_true rfl, Nat.le_of_ble_eq_true rfl⟩ ⟨Nat.zero_le _, Nat.zero_le _⟩ (Nat.le_of_ble_eq_true rfl) dL_playedVolume_4) (fun H locs hH hL => ?_)
    refine lv_i2l hx hb dL_playedVolume_7 rfl ?_
    refine q_chk (fun hb5 => ?_)
    refine q_lt (fun M6 e_M6 => ?_)
    refine m_ls X hH hL t_q3_ hb5 dL_playedVolume_8 e_M6 (fun H locs hH hL => ?_)
    refine lv_goto (tgt := 15) hx hb dL_playedVolume_9 (by decide) ?_
    refine lv_iconst (v := 0) hx hb dL_playedVolume_15 (by decide) ?_
    exact q_endW (m_iretW X hr hH hL (Nat.zero_le _) (Nat.zero_le _) dL_playedVolume_16)
  · by_cases c7 : E4 = "java/lang/IndexOutOfBoundsException"
    · refine q_pos c7 (q_ret (fun hq => ?_))
      subst c7
      cases hq
      refine my_caught X hL (my_runV X hH hl.1 (co_X8_playedVolume g l hst q1_ p2_ M t_q1_ (.inr "java/lang/IndexOutOfBoundsException") M' e1) ok_X8_playedVolume W945 t_q1_ rfl (by decide) rfl rfl rfl ⟨Nat.le_of_ble_eq_true rfl, Nat.le_of_ble_eq_true rfl⟩ ⟨Nat.le_of_ble_eq_true rfl, Nat.le_of_ble_eq_true rfl⟩ (Nat.le_of_ble_eq_true rfl) dL_playedVolume_4) [] ⟨0, 9, 12, 21⟩ [] htb np0 rfl (by decide) W673 (by decide +kernel) (fun H locs q hH hL => ?_)
      refine lv_astore_n hx hb dL_playedVolume_12 rfl hl (by decide) rfl (fun ls hl => ?_)
      refine lv_iconst (v := 1) hx hb dL_playedVolume_13 (by decide) ?_
      exact m_iretW X hr hH hL (by decide) (by decide) dL_playedVolume_14
    refine q_neg c7 ?_
    exact q_none

set_option maxRecDepth 20000 in
set_option maxHeartbeats 4000000 in
theorem co_L_soundCount (g : GP) (l : Launch) (hst : l.stackTraces = false) (q1_ : Nat) (p2_ : Int32) (p3_ : Int32) (q4_ : Nat) (M : Mem) (t_q1_ : tyT q1_ = 8) (t_q4_ : tyT q4_ = 27) (v : Int32) (M' : Mem) (hF : F_L_soundCount q1_ p2_ p3_ q4_ M = some (v, M')) : COW g l yL_soundCount cL_soundCount 5 [(0, 10, 13, 13)] 7 222 [.ref (adr g q1_), .int p2_, .int p3_, .ref (adr g q4_)] M v M' := by
  refine COW_of hst (by decide) (Nat.le_of_ble_eq_true rfl) ?_
  intro p e s m below meth c ls X hr htb hH hL hl
  have hx := X.1
  have hb := X.2.1
  have hts := X.2.2.2.2.1
  refine q_out hF ?_
  rw [F_L_soundCount]
  replace hl : lv_has ls 5 [(0, .ref (adr g q1_)), (1, .int p2_), (2, .int p3_), (3, .ref (adr g q4_))] := hl
  refine lv_aload_n hx hb dL_soundCount_0 rfl (lv_at hl 3 rfl) ?_
  refine lv_iconst (v := 0) hx hb dL_soundCount_1 (by decide) ?_
  refine lv_aload_n hx hb dL_soundCount_2 rfl (lv_at hl 0 rfl) ?_
  refine lv_iload_n hx hb dL_soundCount_3 rfl (lv_at hl 1 rfl) ?_
  refine lv_iload_n hx hb dL_soundCount_4 rfl (lv_at hl 2 rfl) ?_
  refine q_bw (fun v2 M3 e1 => ?_) (fun E4 M3 e1 => ?_)
  · refine my_doneI hL (my_runV X hH hl.1 (co_X8_soundCount g l hst q1_ p2_ p3_ M t_q1_ (.inl v2) M3 e1) ok_X8_soundCount W952 t_q1_ rfl (by decide) rfl rfl rfl ⟨Nat.le_of_ble_eq_true rfl, Nat.le_of_ble_eq_true rfl⟩ ⟨Nat.zero_le _, Nat.zero_le _⟩ (Nat.le_of_ble_eq_true rfl) dL_soundCount_5) (fun H locs hH hL => ?_)
    refine lv_i2l hx hb dL_soundCount_8 rfl ?_
    refine q_chk (fun hb5 => ?_)
    refine q_lt (fun M6 e_M6 => ?_)
    refine m_ls X hH hL t_q4_ hb5 dL_soundCount_9 e_M6 (fun H locs hH hL => ?_)
    refine lv_goto (tgt := 17) hx hb dL_soundCount_10 (by decide) ?_
    refine lv_iconst (v := 0) hx hb dL_soundCount_17 (by decide) ?_
    exact q_endW (m_iretW X hr hH hL (Nat.zero_le _) (Nat.zero_le _) dL_soundCount_18)
  · by_cases c7 : E4 = "java/lang/IllegalArgumentException"
    · refine q_pos c7 (q_ret (fun hq => ?_))
      subst c7
      cases hq
      refine my_caught X hL (my_runV X hH hl.1 (co_X8_soundCount g l hst q1_ p2_ p3_ M t_q1_ (.inr "java/lang/IllegalArgumentException") M' e1) ok_X8_soundCount W952 t_q1_ rfl (by decide) rfl rfl rfl ⟨Nat.le_of_ble_eq_true rfl, Nat.le_of_ble_eq_true rfl⟩ ⟨Nat.le_of_ble_eq_true rfl, Nat.le_of_ble_eq_true rfl⟩ (Nat.le_of_ble_eq_true rfl) dL_soundCount_5) [] ⟨0, 10, 13, 13⟩ [] htb np0 rfl (by decide) W653 (by decide +kernel) (fun H locs q hH hL => ?_)
      refine lv_astore hx hb dL_soundCount_13 hl (by decide) rfl (fun ls hl => ?_)
      refine lv_iconst (v := 1) hx hb dL_soundCount_15 (by decide) ?_
      exact m_iretW X hr hH hL (by decide) (by decide) dL_soundCount_16
    refine q_neg c7 ?_
    exact q_none

set_option maxRecDepth 20000 in
set_option maxHeartbeats 4000000 in
theorem co_L_greatestTotal (g : GP) (l : Launch) (hst : l.stackTraces = false) (q1_ : Nat) (q2_ : Nat) (M : Mem) (t_q1_ : tyT q1_ = 8) (t_q2_ : tyT q2_ = 27) (v : Int32) (M' : Mem) (hF : F_L_greatestTotal q1_ q2_ M = some (v, M')) : COW g l yL_greatestTotal cL_greatestTotal 3 [(0, 8, 11, 100)] 7 220 [.ref (adr g q1_), .ref (adr g q2_)] M v M' := by
  refine COW_of hst (by decide) (Nat.le_of_ble_eq_true rfl) ?_
  intro p e s m below meth c ls X hr htb hH hL hl
  have hx := X.1
  have hb := X.2.1
  have hts := X.2.2.2.2.1
  refine q_out hF ?_
  rw [F_L_greatestTotal]
  replace hl : lv_has ls 3 [(0, .ref (adr g q1_)), (1, .ref (adr g q2_))] := hl
  refine lv_aload_n hx hb dL_greatestTotal_0 rfl (lv_at hl 1 rfl) ?_
  refine lv_iconst (v := 0) hx hb dL_greatestTotal_1 (by decide) ?_
  refine lv_aload_n hx hb dL_greatestTotal_2 rfl (lv_at hl 0 rfl) ?_
  refine q_bw (fun v2 M3 e1 => ?_) (fun E4 M3 e1 => ?_)
  · refine my_doneI hL (my_runV X hH hl.1 (co_X8_greatestTotal g l hst q1_ M t_q1_ (.inl v2) M3 e1) ok_X8_greatestTotal W959 t_q1_ rfl (by decide) rfl rfl rfl ⟨Nat.le_of_ble_eq_true rfl, Nat.le_of_ble_eq_true rfl⟩ ⟨Nat.zero_le _, Nat.zero_le _⟩ (Nat.le_of_ble_eq_true rfl) dL_greatestTotal_3) (fun H locs hH hL => ?_)
    refine lv_i2l hx hb dL_greatestTotal_6 rfl ?_
    refine q_chk (fun hb5 => ?_)
    refine q_lt (fun M6 e_M6 => ?_)
    refine m_ls X hH hL t_q2_ hb5 dL_greatestTotal_7 e_M6 (fun H locs hH hL => ?_)
    refine lv_goto (tgt := 14) hx hb dL_greatestTotal_8 (by decide) ?_
    refine lv_iconst (v := 0) hx hb dL_greatestTotal_14 (by decide) ?_
    exact q_endW (m_iretW X hr hH hL (Nat.zero_le _) (Nat.zero_le _) dL_greatestTotal_15)
  · by_cases c7 : E4 = "java/util/NoSuchElementException"
    · refine q_pos c7 (q_ret (fun hq => ?_))
      subst c7
      cases hq
      refine my_caught X hL (my_runV X hH hl.1 (co_X8_greatestTotal g l hst q1_ M t_q1_ (.inr "java/util/NoSuchElementException") M' e1) ok_X8_greatestTotal W959 t_q1_ rfl (by decide) rfl rfl rfl ⟨Nat.le_of_ble_eq_true rfl, Nat.le_of_ble_eq_true rfl⟩ ⟨Nat.le_of_ble_eq_true rfl, Nat.le_of_ble_eq_true rfl⟩ (Nat.le_of_ble_eq_true rfl) dL_greatestTotal_3) [] ⟨0, 8, 11, 100⟩ [] htb np0 rfl (by decide) W912 (by decide +kernel) (fun H locs q hH hL => ?_)
      refine lv_astore_n hx hb dL_greatestTotal_11 rfl hl (by decide) rfl (fun ls hl => ?_)
      refine lv_iconst (v := 1) hx hb dL_greatestTotal_12 (by decide) ?_
      exact m_iretW X hr hH hL (by decide) (by decide) dL_greatestTotal_13
    refine q_neg c7 ?_
    exact q_none

set_option maxRecDepth 20000 in
set_option maxHeartbeats 4000000 in
theorem co_L_loggedTotal (g : GP) (l : Launch) (hst : l.stackTraces = false) (q1_ : Nat) (p2_ : Int32) (q3_ : Nat) (M : Mem) (t_q1_ : tyT q1_ = 8) (t_q3_ : tyT q3_ = 27) (v : Int32) (M' : Mem) (hF : F_L_loggedTotal q1_ p2_ q3_ M = some (v, M')) : COW g l yL_loggedTotal cL_loggedTotal 4 [(0, 9, 12, 100)] 7 221 [.ref (adr g q1_), .int p2_, .ref (adr g q3_)] M v M' := by
  refine COW_of hst (by decide) (Nat.le_of_ble_eq_true rfl) ?_
  intro p e s m below meth c ls X hr htb hH hL hl
  have hx := X.1
  have hb := X.2.1
  have hts := X.2.2.2.2.1
  refine q_out hF ?_
  rw [F_L_loggedTotal]
  replace hl : lv_has ls 4 [(0, .ref (adr g q1_)), (1, .int p2_), (2, .ref (adr g q3_))] := hl
  refine lv_aload_n hx hb dL_loggedTotal_0 rfl (lv_at hl 2 rfl) ?_
  refine lv_iconst (v := 0) hx hb dL_loggedTotal_1 (by decide) ?_
  refine lv_aload_n hx hb dL_loggedTotal_2 rfl (lv_at hl 0 rfl) ?_
  refine lv_iload_n hx hb dL_loggedTotal_3 rfl (lv_at hl 1 rfl) ?_
  refine q_bw (fun v2 M3 e1 => ?_) (fun E4 M3 e1 => ?_)
  · refine my_doneI hL (my_runV X hH hl.1 (co_X8_loggedTotal g l hst q1_ p2_ M t_q1_ (.inl v2) M3 e1) ok_X8_loggedTotal W967 t_q1_ rfl (by decide) rfl rfl rfl ⟨Nat.le_of_ble_eq_true rfl, Nat.le_of_ble_eq_true rfl⟩ ⟨Nat.zero_le _, Nat.zero_le _⟩ (Nat.le_of_ble_eq_true rfl) dL_loggedTotal_4) (fun H locs hH hL => ?_)
    refine lv_i2l hx hb dL_loggedTotal_7 rfl ?_
    refine q_chk (fun hb5 => ?_)
    refine q_lt (fun M6 e_M6 => ?_)
    refine m_ls X hH hL t_q3_ hb5 dL_loggedTotal_8 e_M6 (fun H locs hH hL => ?_)
    refine lv_goto (tgt := 15) hx hb dL_loggedTotal_9 (by decide) ?_
    refine lv_iconst (v := 0) hx hb dL_loggedTotal_15 (by decide) ?_
    exact q_endW (m_iretW X hr hH hL (Nat.zero_le _) (Nat.zero_le _) dL_loggedTotal_16)
  · by_cases c7 : E4 = "java/util/NoSuchElementException"
    · refine q_pos c7 (q_ret (fun hq => ?_))
      subst c7
      cases hq
      refine my_caught X hL (my_runV X hH hl.1 (co_X8_loggedTotal g l hst q1_ p2_ M t_q1_ (.inr "java/util/NoSuchElementException") M' e1) ok_X8_loggedTotal W967 t_q1_ rfl (by decide) rfl rfl rfl ⟨Nat.le_of_ble_eq_true rfl, Nat.le_of_ble_eq_true rfl⟩ ⟨Nat.le_of_ble_eq_true rfl, Nat.le_of_ble_eq_true rfl⟩ (Nat.le_of_ble_eq_true rfl) dL_loggedTotal_4) [] ⟨0, 9, 12, 100⟩ [] htb np0 rfl (by decide) W912 (by decide +kernel) (fun H locs q hH hL => ?_)
      refine lv_astore_n hx hb dL_loggedTotal_12 rfl hl (by decide) rfl (fun ls hl => ?_)
      refine lv_iconst (v := 1) hx hb dL_loggedTotal_13 (by decide) ?_
      exact m_iretW X hr hH hL (by decide) (by decide) dL_loggedTotal_14
    refine q_neg c7 ?_
    exact q_none

set_option maxRecDepth 20000 in
set_option maxHeartbeats 4000000 in
theorem co_L_sectionByVolume (g : GP) (l : Launch) (hst : l.stackTraces = false) (q1_ : Nat) (p2_ : Int32) (q3_ : Nat) (M : Mem) (t_q1_ : tyT q1_ = 8) (t_q3_ : tyT q3_ = 27) (v : Int32) (M' : Mem) (hF : F_L_sectionByVolume q1_ p2_ q3_ M = some (v, M')) : COW g l yL_sectionByVolume cL_sectionByVolume 4 [(0, 9, 12, 100)] 11 309 [.ref (adr g q1_), .int p2_, .ref (adr g q3_)] M v M' := by
  refine COW_of hst (by decide) (Nat.le_of_ble_eq_true rfl) ?_
  intro p e s m below meth c ls X hr htb hH hL hl
  have hx := X.1
  have hb := X.2.1
  have hts := X.2.2.2.2.1
  refine q_out hF ?_
  rw [F_L_sectionByVolume]
  replace hl : lv_has ls 4 [(0, .ref (adr g q1_)), (1, .int p2_), (2, .ref (adr g q3_))] := hl
  refine lv_aload_n hx hb dL_sectionByVolume_0 rfl (lv_at hl 2 rfl) ?_
  refine lv_iconst (v := 0) hx hb dL_sectionByVolume_1 (by decide) ?_
  refine lv_aload_n hx hb dL_sectionByVolume_2 rfl (lv_at hl 0 rfl) ?_
  refine lv_iload_n hx hb dL_sectionByVolume_3 rfl (lv_at hl 1 rfl) ?_
  refine q_bw (fun v2 M3 e1 => ?_) (fun E4 M3 e1 => ?_)
  · refine my_doneI hL (my_runV X hH hl.1 (co_X8_sectionByVolume g l hst q1_ p2_ M t_q1_ (.inl v2) M3 e1) ok_X8_sectionByVolume W979 t_q1_ rfl (by decide) rfl rfl rfl ⟨Nat.le_of_ble_eq_true rfl, Nat.le_of_ble_eq_true rfl⟩ ⟨Nat.zero_le _, Nat.zero_le _⟩ (Nat.le_of_ble_eq_true rfl) dL_sectionByVolume_4) (fun H locs hH hL => ?_)
    refine lv_i2l hx hb dL_sectionByVolume_7 rfl ?_
    refine q_chk (fun hb5 => ?_)
    refine q_lt (fun M6 e_M6 => ?_)
    refine m_ls X hH hL t_q3_ hb5 dL_sectionByVolume_8 e_M6 (fun H locs hH hL => ?_)
    refine lv_goto (tgt := 15) hx hb dL_sectionByVolume_9 (by decide) ?_
    refine lv_iconst (v := 0) hx hb dL_sectionByVolume_15 (by decide) ?_
    exact q_endW (m_iretW X hr hH hL (Nat.zero_le _) (Nat.zero_le _) dL_sectionByVolume_16)
  · by_cases c7 : E4 = "java/util/NoSuchElementException"
    · refine q_pos c7 (q_ret (fun hq => ?_))
      subst c7
      cases hq
      refine my_caught X hL (my_runV X hH hl.1 (co_X8_sectionByVolume g l hst q1_ p2_ M t_q1_ (.inr "java/util/NoSuchElementException") M' e1) ok_X8_sectionByVolume W979 t_q1_ rfl (by decide) rfl rfl rfl ⟨Nat.le_of_ble_eq_true rfl, Nat.le_of_ble_eq_true rfl⟩ ⟨Nat.le_of_ble_eq_true rfl, Nat.le_of_ble_eq_true rfl⟩ (Nat.le_of_ble_eq_true rfl) dL_sectionByVolume_4) [] ⟨0, 9, 12, 100⟩ [] htb np0 rfl (by decide) W912 (by decide +kernel) (fun H locs q hH hL => ?_)
      refine lv_astore_n hx hb dL_sectionByVolume_12 rfl hl (by decide) rfl (fun ls hl => ?_)
      refine lv_iconst (v := 1) hx hb dL_sectionByVolume_13 (by decide) ?_
      exact m_iretW X hr hH hL (by decide) (by decide) dL_sectionByVolume_14
    refine q_neg c7 ?_
    exact q_none

set_option maxRecDepth 20000 in
set_option maxHeartbeats 4000000 in
theorem co_L_noteBySounds (g : GP) (l : Launch) (hst : l.stackTraces = false) (q1_ : Nat) (p2_ : Int32) (q3_ : Nat) (M : Mem) (t_q1_ : tyT q1_ = 8) (t_q3_ : tyT q3_ = 27) (v : Int32) (M' : Mem) (hF : F_L_noteBySounds q1_ p2_ q3_ M = some (v, M')) : COW g l yL_noteBySounds cL_noteBySounds 4 [(0, 9, 12, 100)] 7 222 [.ref (adr g q1_), .int p2_, .ref (adr g q3_)] M v M' := by
  refine COW_of hst (by decide) (Nat.le_of_ble_eq_true rfl) ?_
  intro p e s m below meth c ls X hr htb hH hL hl
  have hx := X.1
  have hb := X.2.1
  have hts := X.2.2.2.2.1
  refine q_out hF ?_
  rw [F_L_noteBySounds]
  replace hl : lv_has ls 4 [(0, .ref (adr g q1_)), (1, .int p2_), (2, .ref (adr g q3_))] := hl
  refine lv_aload_n hx hb dL_noteBySounds_0 rfl (lv_at hl 2 rfl) ?_
  refine lv_iconst (v := 0) hx hb dL_noteBySounds_1 (by decide) ?_
  refine lv_aload_n hx hb dL_noteBySounds_2 rfl (lv_at hl 0 rfl) ?_
  refine lv_iload_n hx hb dL_noteBySounds_3 rfl (lv_at hl 1 rfl) ?_
  refine q_bw (fun v2 M3 e1 => ?_) (fun E4 M3 e1 => ?_)
  · refine my_doneI hL (my_runV X hH hl.1 (co_X8_noteBySounds g l hst q1_ p2_ M t_q1_ (.inl v2) M3 e1) ok_X8_noteBySounds W997 t_q1_ rfl (by decide) rfl rfl rfl ⟨Nat.le_of_ble_eq_true rfl, Nat.le_of_ble_eq_true rfl⟩ ⟨Nat.zero_le _, Nat.zero_le _⟩ (Nat.le_of_ble_eq_true rfl) dL_noteBySounds_4) (fun H locs hH hL => ?_)
    refine lv_i2l hx hb dL_noteBySounds_7 rfl ?_
    refine q_chk (fun hb5 => ?_)
    refine q_lt (fun M6 e_M6 => ?_)
    refine m_ls X hH hL t_q3_ hb5 dL_noteBySounds_8 e_M6 (fun H locs hH hL => ?_)
    refine lv_goto (tgt := 15) hx hb dL_noteBySounds_9 (by decide) ?_
    refine lv_iconst (v := 0) hx hb dL_noteBySounds_15 (by decide) ?_
    exact q_endW (m_iretW X hr hH hL (Nat.zero_le _) (Nat.zero_le _) dL_noteBySounds_16)
  · by_cases c7 : E4 = "java/util/NoSuchElementException"
    · refine q_pos c7 (q_ret (fun hq => ?_))
      subst c7
      cases hq
      refine my_caught X hL (my_runV X hH hl.1 (co_X8_noteBySounds g l hst q1_ p2_ M t_q1_ (.inr "java/util/NoSuchElementException") M' e1) ok_X8_noteBySounds W997 t_q1_ rfl (by decide) rfl rfl rfl ⟨Nat.le_of_ble_eq_true rfl, Nat.le_of_ble_eq_true rfl⟩ ⟨Nat.le_of_ble_eq_true rfl, Nat.le_of_ble_eq_true rfl⟩ (Nat.le_of_ble_eq_true rfl) dL_noteBySounds_4) [] ⟨0, 9, 12, 100⟩ [] htb np0 rfl (by decide) W912 (by decide +kernel) (fun H locs q hH hL => ?_)
      refine lv_astore_n hx hb dL_noteBySounds_12 rfl hl (by decide) rfl (fun ls hl => ?_)
      refine lv_iconst (v := 1) hx hb dL_noteBySounds_13 (by decide) ?_
      exact m_iretW X hr hH hL (by decide) (by decide) dL_noteBySounds_14
    refine q_neg c7 ?_
    exact q_none

set_option maxRecDepth 20000 in
set_option maxHeartbeats 4000000 in
theorem co_L_meanTotal (g : GP) (l : Launch) (hst : l.stackTraces = false) (q1_ : Nat) (q2_ : Nat) (M : Mem) (t_q1_ : tyT q1_ = 8) (t_q2_ : tyT q2_ = 28) (v : Int32) (M' : Mem) (hF : F_L_meanTotal q1_ q2_ M = some (v, M')) : COW g l yL_meanTotal cL_meanTotal 3 [(0, 7, 10, 127)] 7 220 [.ref (adr g q1_), .ref (adr g q2_)] M v M' := by
  refine COW_of hst (by decide) (Nat.le_of_ble_eq_true rfl) ?_
  intro p e s m below meth c ls X hr htb hH hL hl
  have hx := X.1
  have hb := X.2.1
  have hts := X.2.2.2.2.1
  refine q_out hF ?_
  rw [F_L_meanTotal]
  replace hl : lv_has ls 3 [(0, .ref (adr g q1_)), (1, .ref (adr g q2_))] := hl
  refine lv_aload_n hx hb dL_meanTotal_0 rfl (lv_at hl 1 rfl) ?_
  refine lv_iconst (v := 0) hx hb dL_meanTotal_1 (by decide) ?_
  refine lv_aload_n hx hb dL_meanTotal_2 rfl (lv_at hl 0 rfl) ?_
  refine q_bw (fun f2 M3 e1 => ?_) (fun E4 M3 e1 => ?_)
  · refine my_doneD hL (my_runV X hH hl.1 (co_X8_meanTotal g l hst q1_ M t_q1_ (.inl f2) M3 e1) ok_X8_meanTotal W1028 t_q1_ rfl (by decide) rfl rfl rfl ⟨Nat.le_of_ble_eq_true rfl, Nat.le_of_ble_eq_true rfl⟩ ⟨Nat.zero_le _, Nat.zero_le _⟩ (Nat.le_of_ble_eq_true rfl) dL_meanTotal_3) (fun H locs hH hL => ?_)
    refine q_chk (fun hb5 => ?_)
    refine q_lt (fun M6 e_M6 => ?_)
    refine m_ds X hH hL t_q2_ hb5 dL_meanTotal_6 e_M6 (fun H locs hH hL => ?_)
    refine lv_goto (tgt := 13) hx hb dL_meanTotal_7 (by decide) ?_
    refine lv_iconst (v := 0) hx hb dL_meanTotal_13 (by decide) ?_
    exact q_endW (m_iretW X hr hH hL (Nat.zero_le _) (Nat.zero_le _) dL_meanTotal_14)
  · by_cases c7 : E4 = "java/lang/ArithmeticException"
    · refine q_pos c7 (q_ret (fun hq => ?_))
      subst c7
      cases hq
      refine my_caught X hL (my_runV X hH hl.1 (co_X8_meanTotal g l hst q1_ M t_q1_ (.inr "java/lang/ArithmeticException") M' e1) ok_X8_meanTotal W1028 t_q1_ rfl (by decide) rfl rfl rfl ⟨Nat.le_of_ble_eq_true rfl, Nat.le_of_ble_eq_true rfl⟩ ⟨Nat.le_of_ble_eq_true rfl, Nat.le_of_ble_eq_true rfl⟩ (Nat.le_of_ble_eq_true rfl) dL_meanTotal_3) [] ⟨0, 7, 10, 127⟩ [] htb np0 rfl (by decide) W1014 (by decide +kernel) (fun H locs q hH hL => ?_)
      refine lv_astore_n hx hb dL_meanTotal_10 rfl hl (by decide) rfl (fun ls hl => ?_)
      refine lv_iconst (v := 1) hx hb dL_meanTotal_11 (by decide) ?_
      exact m_iretW X hr hH hL (by decide) (by decide) dL_meanTotal_12
    refine q_neg c7 ?_
    exact q_none

set_option maxRecDepth 20000 in
set_option maxHeartbeats 4000000 in
theorem co_L_maskedShare (g : GP) (l : Launch) (hst : l.stackTraces = false) (q1_ : Nat) (p2_ : Int32) (q3_ : Nat) (M : Mem) (t_q1_ : tyT q1_ = 8) (t_q3_ : tyT q3_ = 28) (v : Int32) (M' : Mem) (hF : F_L_maskedShare q1_ p2_ q3_ M = some (v, M')) : COW g l yL_maskedShare cL_maskedShare 4 [(0, 9, 12, 21)] 8 243 [.ref (adr g q1_), .int p2_, .ref (adr g q3_)] M v M' := by
  refine COW_of hst (by decide) (Nat.le_of_ble_eq_true rfl) ?_
  intro p e s m below meth c ls X hr htb hH hL hl
  have hx := X.1
  have hb := X.2.1
  have hts := X.2.2.2.2.1
  refine q_out hF ?_
  rw [F_L_maskedShare]
  replace hl : lv_has ls 4 [(0, .ref (adr g q1_)), (1, .int p2_), (2, .ref (adr g q3_))] := hl
  refine lv_aload_n hx hb dL_maskedShare_0 rfl (lv_at hl 2 rfl) ?_
  refine lv_iconst (v := 0) hx hb dL_maskedShare_1 (by decide) ?_
  refine lv_aload_n hx hb dL_maskedShare_2 rfl (lv_at hl 0 rfl) ?_
  refine lv_iload_n hx hb dL_maskedShare_3 rfl (lv_at hl 1 rfl) ?_
  refine q_bw (fun f2 M3 e1 => ?_) (fun E4 M3 e1 => ?_)
  · refine my_doneF hL (my_runV X hH hl.1 (co_X8_maskedShare g l hst q1_ p2_ M t_q1_ (.inl f2) M3 e1) ok_X8_maskedShare W1037 t_q1_ rfl (by decide) rfl rfl rfl ⟨Nat.le_of_ble_eq_true rfl, Nat.le_of_ble_eq_true rfl⟩ ⟨Nat.zero_le _, Nat.zero_le _⟩ (Nat.le_of_ble_eq_true rfl) dL_maskedShare_4) (fun H locs hH hL => ?_)
    refine q_chk (fun hz5 => ?_)
    refine lv_f2d hx hb dL_maskedShare_7 (nn64_n hz5) ?_
    refine q_chk (fun hb6 => ?_)
    refine q_lt (fun M7 e_M7 => ?_)
    refine m_ds X hH hL t_q3_ hb6 dL_maskedShare_8 e_M7 (fun H locs hH hL => ?_)
    refine lv_goto (tgt := 15) hx hb dL_maskedShare_9 (by decide) ?_
    refine lv_iconst (v := 0) hx hb dL_maskedShare_15 (by decide) ?_
    exact q_endW (m_iretW X hr hH hL (Nat.zero_le _) (Nat.zero_le _) dL_maskedShare_16)
  · by_cases c8 : E4 = "java/lang/IndexOutOfBoundsException"
    · refine q_pos c8 (q_ret (fun hq => ?_))
      subst c8
      cases hq
      refine my_caught X hL (my_runV X hH hl.1 (co_X8_maskedShare g l hst q1_ p2_ M t_q1_ (.inr "java/lang/IndexOutOfBoundsException") M' e1) ok_X8_maskedShare W1037 t_q1_ rfl (by decide) rfl rfl rfl ⟨Nat.le_of_ble_eq_true rfl, Nat.le_of_ble_eq_true rfl⟩ ⟨Nat.le_of_ble_eq_true rfl, Nat.le_of_ble_eq_true rfl⟩ (Nat.le_of_ble_eq_true rfl) dL_maskedShare_4) [] ⟨0, 9, 12, 21⟩ [] htb np0 rfl (by decide) W673 (by decide +kernel) (fun H locs q hH hL => ?_)
      refine lv_astore_n hx hb dL_maskedShare_12 rfl hl (by decide) rfl (fun ls hl => ?_)
      refine lv_iconst (v := 1) hx hb dL_maskedShare_13 (by decide) ?_
      exact m_iretW X hr hH hL (by decide) (by decide) dL_maskedShare_14
    refine q_neg c8 ?_
    exact q_none

set_option maxRecDepth 20000 in
set_option maxHeartbeats 4000000 in
theorem co_L_renderScore (g : GP) (l : Launch) (hst : l.stackTraces = false) (q1_ : Nat) (p2_ : Int32) (q3_ : Nat) (M : Mem) (t_q1_ : tyT q1_ = 8) (t_q3_ : tyT q3_ = 27) (v : Int32) (M' : Mem) (hF : F_L_renderScore q1_ p2_ q3_ M = some (v, M')) : COW g l yL_renderScore cL_renderScore 4 [(0, 9, 12, 21)] 8 245 [.ref (adr g q1_), .int p2_, .ref (adr g q3_)] M v M' := by
  refine COW_of hst (by decide) (Nat.le_of_ble_eq_true rfl) ?_
  intro p e s m below meth c ls X hr htb hH hL hl
  have hx := X.1
  have hb := X.2.1
  have hts := X.2.2.2.2.1
  refine q_out hF ?_
  rw [F_L_renderScore]
  replace hl : lv_has ls 4 [(0, .ref (adr g q1_)), (1, .int p2_), (2, .ref (adr g q3_))] := hl
  refine lv_aload_n hx hb dL_renderScore_0 rfl (lv_at hl 2 rfl) ?_
  refine lv_iconst (v := 0) hx hb dL_renderScore_1 (by decide) ?_
  refine lv_aload_n hx hb dL_renderScore_2 rfl (lv_at hl 0 rfl) ?_
  refine lv_iload_n hx hb dL_renderScore_3 rfl (lv_at hl 1 rfl) ?_
  refine q_bw (fun v2 M3 e1 => ?_) (fun E4 M3 e1 => ?_)
  · refine my_doneI hL (my_runV X hH hl.1 (co_X8_renderScore g l hst q1_ p2_ M t_q1_ (.inl v2) M3 e1) ok_X8_renderScore W1048 t_q1_ rfl (by decide) rfl rfl rfl ⟨Nat.le_of_ble_eq_true rfl, Nat.le_of_ble_eq_true rfl⟩ ⟨Nat.zero_le _, Nat.zero_le _⟩ (Nat.le_of_ble_eq_true rfl) dL_renderScore_4) (fun H locs hH hL => ?_)
    refine lv_i2l hx hb dL_renderScore_7 rfl ?_
    refine q_chk (fun hb5 => ?_)
    refine q_lt (fun M6 e_M6 => ?_)
    refine m_ls X hH hL t_q3_ hb5 dL_renderScore_8 e_M6 (fun H locs hH hL => ?_)
    refine lv_goto (tgt := 15) hx hb dL_renderScore_9 (by decide) ?_
    refine lv_iconst (v := 0) hx hb dL_renderScore_15 (by decide) ?_
    exact q_endW (m_iretW X hr hH hL (Nat.zero_le _) (Nat.zero_le _) dL_renderScore_16)
  · by_cases c7 : E4 = "java/lang/IndexOutOfBoundsException"
    · refine q_pos c7 (q_ret (fun hq => ?_))
      subst c7
      cases hq
      refine my_caught X hL (my_runV X hH hl.1 (co_X8_renderScore g l hst q1_ p2_ M t_q1_ (.inr "java/lang/IndexOutOfBoundsException") M' e1) ok_X8_renderScore W1048 t_q1_ rfl (by decide) rfl rfl rfl ⟨Nat.le_of_ble_eq_true rfl, Nat.le_of_ble_eq_true rfl⟩ ⟨Nat.le_of_ble_eq_true rfl, Nat.le_of_ble_eq_true rfl⟩ (Nat.le_of_ble_eq_true rfl) dL_renderScore_4) [] ⟨0, 9, 12, 21⟩ [] htb np0 rfl (by decide) W673 (by decide +kernel) (fun H locs q hH hL => ?_)
      refine lv_astore_n hx hb dL_renderScore_12 rfl hl (by decide) rfl (fun ls hl => ?_)
      refine lv_iconst (v := 1) hx hb dL_renderScore_13 (by decide) ?_
      exact m_iretW X hr hH hL (by decide) (by decide) dL_renderScore_14
    refine q_neg c7 ?_
    exact q_none

set_option maxRecDepth 20000 in
set_option maxHeartbeats 4000000 in
theorem co_L_renderMask (g : GP) (l : Launch) (hst : l.stackTraces = false) (q1_ : Nat) (p2_ : Int32) (q3_ : Nat) (M : Mem) (t_q1_ : tyT q1_ = 8) (t_q3_ : tyT q3_ = 27) (v : Int32) (M' : Mem) (hF : F_L_renderMask q1_ p2_ q3_ M = some (v, M')) : COW g l yL_renderMask cL_renderMask 4 [(0, 9, 12, 21)] 8 244 [.ref (adr g q1_), .int p2_, .ref (adr g q3_)] M v M' := by
  refine COW_of hst (by decide) (Nat.le_of_ble_eq_true rfl) ?_
  intro p e s m below meth c ls X hr htb hH hL hl
  have hx := X.1
  have hb := X.2.1
  have hts := X.2.2.2.2.1
  refine q_out hF ?_
  rw [F_L_renderMask]
  replace hl : lv_has ls 4 [(0, .ref (adr g q1_)), (1, .int p2_), (2, .ref (adr g q3_))] := hl
  refine lv_aload_n hx hb dL_renderMask_0 rfl (lv_at hl 2 rfl) ?_
  refine lv_iconst (v := 0) hx hb dL_renderMask_1 (by decide) ?_
  refine lv_aload_n hx hb dL_renderMask_2 rfl (lv_at hl 0 rfl) ?_
  refine lv_iload_n hx hb dL_renderMask_3 rfl (lv_at hl 1 rfl) ?_
  refine q_bw (fun v2 M3 e1 => ?_) (fun E4 M3 e1 => ?_)
  · refine my_doneI hL (my_runV X hH hl.1 (co_X8_renderMask g l hst q1_ p2_ M t_q1_ (.inl v2) M3 e1) ok_X8_renderMask W1066 t_q1_ rfl (by decide) rfl rfl rfl ⟨Nat.le_of_ble_eq_true rfl, Nat.le_of_ble_eq_true rfl⟩ ⟨Nat.zero_le _, Nat.zero_le _⟩ (Nat.le_of_ble_eq_true rfl) dL_renderMask_4) (fun H locs hH hL => ?_)
    refine lv_i2l hx hb dL_renderMask_7 rfl ?_
    refine q_chk (fun hb5 => ?_)
    refine q_lt (fun M6 e_M6 => ?_)
    refine m_ls X hH hL t_q3_ hb5 dL_renderMask_8 e_M6 (fun H locs hH hL => ?_)
    refine lv_goto (tgt := 15) hx hb dL_renderMask_9 (by decide) ?_
    refine lv_iconst (v := 0) hx hb dL_renderMask_15 (by decide) ?_
    exact q_endW (m_iretW X hr hH hL (Nat.zero_le _) (Nat.zero_le _) dL_renderMask_16)
  · by_cases c7 : E4 = "java/lang/IndexOutOfBoundsException"
    · refine q_pos c7 (q_ret (fun hq => ?_))
      subst c7
      cases hq
      refine my_caught X hL (my_runV X hH hl.1 (co_X8_renderMask g l hst q1_ p2_ M t_q1_ (.inr "java/lang/IndexOutOfBoundsException") M' e1) ok_X8_renderMask W1066 t_q1_ rfl (by decide) rfl rfl rfl ⟨Nat.le_of_ble_eq_true rfl, Nat.le_of_ble_eq_true rfl⟩ ⟨Nat.le_of_ble_eq_true rfl, Nat.le_of_ble_eq_true rfl⟩ (Nat.le_of_ble_eq_true rfl) dL_renderMask_4) [] ⟨0, 9, 12, 21⟩ [] htb np0 rfl (by decide) W673 (by decide +kernel) (fun H locs q hH hL => ?_)
      refine lv_astore_n hx hb dL_renderMask_12 rfl hl (by decide) rfl (fun ls hl => ?_)
      refine lv_iconst (v := 1) hx hb dL_renderMask_13 (by decide) ?_
      exact m_iretW X hr hH hL (by decide) (by decide) dL_renderMask_14
    refine q_neg c7 ?_
    exact q_none

set_option maxRecDepth 20000 in
set_option maxHeartbeats 4000000 in
theorem co_L_outputAt (g : GP) (l : Launch) (hst : l.stackTraces = false) (q1_ : Nat) (p2_ : Int32) (q3_ : Nat) (M : Mem) (t_q1_ : tyT q1_ = 8) (t_q3_ : tyT q3_ = 27) (v : Int32) (M' : Mem) (hF : F_L_outputAt q1_ p2_ q3_ M = some (v, M')) : COW g l yL_outputAt cL_outputAt 4 [(0, 9, 12, 21)] 7 221 [.ref (adr g q1_), .int p2_, .ref (adr g q3_)] M v M' := by
  refine COW_of hst (by decide) (Nat.le_of_ble_eq_true rfl) ?_
  intro p e s m below meth c ls X hr htb hH hL hl
  have hx := X.1
  have hb := X.2.1
  have hts := X.2.2.2.2.1
  refine q_out hF ?_
  rw [F_L_outputAt]
  replace hl : lv_has ls 4 [(0, .ref (adr g q1_)), (1, .int p2_), (2, .ref (adr g q3_))] := hl
  refine lv_aload_n hx hb dL_outputAt_0 rfl (lv_at hl 2 rfl) ?_
  refine lv_iconst (v := 0) hx hb dL_outputAt_1 (by decide) ?_
  refine lv_aload_n hx hb dL_outputAt_2 rfl (lv_at hl 0 rfl) ?_
  refine lv_iload_n hx hb dL_outputAt_3 rfl (lv_at hl 1 rfl) ?_
  refine q_bw (fun v2 M3 e1 => ?_) (fun E4 M3 e1 => ?_)
  · refine my_doneI hL (my_runV X hH hl.1 (co_X8_outputAt g l hst q1_ p2_ M t_q1_ (.inl v2) M3 e1) ok_X8_outputAt W1073 t_q1_ rfl (by decide) rfl rfl rfl ⟨Nat.le_of_ble_eq_true rfl, Nat.le_of_ble_eq_true rfl⟩ ⟨Nat.zero_le _, Nat.zero_le _⟩ (Nat.le_of_ble_eq_true rfl) dL_outputAt_4) (fun H locs hH hL => ?_)
    refine lv_i2l hx hb dL_outputAt_7 rfl ?_
    refine q_chk (fun hb5 => ?_)
    refine q_lt (fun M6 e_M6 => ?_)
    refine m_ls X hH hL t_q3_ hb5 dL_outputAt_8 e_M6 (fun H locs hH hL => ?_)
    refine lv_goto (tgt := 15) hx hb dL_outputAt_9 (by decide) ?_
    refine lv_iconst (v := 0) hx hb dL_outputAt_15 (by decide) ?_
    exact q_endW (m_iretW X hr hH hL (Nat.zero_le _) (Nat.zero_le _) dL_outputAt_16)
  · by_cases c7 : E4 = "java/lang/IndexOutOfBoundsException"
    · refine q_pos c7 (q_ret (fun hq => ?_))
      subst c7
      cases hq
      refine my_caught X hL (my_runV X hH hl.1 (co_X8_outputAt g l hst q1_ p2_ M t_q1_ (.inr "java/lang/IndexOutOfBoundsException") M' e1) ok_X8_outputAt W1073 t_q1_ rfl (by decide) rfl rfl rfl ⟨Nat.le_of_ble_eq_true rfl, Nat.le_of_ble_eq_true rfl⟩ ⟨Nat.le_of_ble_eq_true rfl, Nat.le_of_ble_eq_true rfl⟩ (Nat.le_of_ble_eq_true rfl) dL_outputAt_4) [] ⟨0, 9, 12, 21⟩ [] htb np0 rfl (by decide) W673 (by decide +kernel) (fun H locs q hH hL => ?_)
      refine lv_astore_n hx hb dL_outputAt_12 rfl hl (by decide) rfl (fun ls hl => ?_)
      refine lv_iconst (v := 1) hx hb dL_outputAt_13 (by decide) ?_
      exact m_iretW X hr hH hL (by decide) (by decide) dL_outputAt_14
    refine q_neg c7 ?_
    exact q_none

set_option maxRecDepth 20000 in
set_option maxHeartbeats 4000000 in
theorem co_L_type (g : GP) (l : Launch) (hst : l.stackTraces = false) (q1_ : Nat) (p2_ : Int32) (q3_ : Nat) (M : Mem) (t_q1_ : tyT q1_ = 8) (t_q3_ : tyT q3_ = 27) (v : Int32) (M' : Mem) (hF : F_L_type q1_ p2_ q3_ M = some (v, M')) : COW g l yL_type cL_type 4 [(0, 9, 12, 13), (0, 9, 15, 15)] 7 221 [.ref (adr g q1_), .int p2_, .ref (adr g q3_)] M v M' := by
  refine COW_of hst (by decide) (Nat.le_of_ble_eq_true rfl) ?_
  intro p e s m below meth c ls X hr htb hH hL hl
  have hx := X.1
  have hb := X.2.1
  have hts := X.2.2.2.2.1
  refine q_out hF ?_
  rw [F_L_type]
  replace hl : lv_has ls 4 [(0, .ref (adr g q1_)), (1, .int p2_), (2, .ref (adr g q3_))] := hl
  refine lv_aload_n hx hb dL_type_0 rfl (lv_at hl 2 rfl) ?_
  refine lv_iconst (v := 0) hx hb dL_type_1 (by decide) ?_
  refine lv_aload_n hx hb dL_type_2 rfl (lv_at hl 0 rfl) ?_
  refine lv_iload_n hx hb dL_type_3 rfl (lv_at hl 1 rfl) ?_
  refine q_bw (fun v2 M3 e1 => ?_) (fun E4 M3 e1 => ?_)
  · refine my_doneI hL (my_runV X hH hl.1 (co_X8_type g l hst q1_ p2_ M t_q1_ (.inl v2) M3 e1) ok_X8_type W1089 t_q1_ rfl (by decide) rfl rfl rfl ⟨Nat.le_of_ble_eq_true rfl, Nat.le_of_ble_eq_true rfl⟩ ⟨Nat.zero_le _, Nat.zero_le _⟩ (Nat.le_of_ble_eq_true rfl) dL_type_4) (fun H locs hH hL => ?_)
    refine lv_i2l hx hb dL_type_7 rfl ?_
    refine q_chk (fun hb5 => ?_)
    refine q_lt (fun M6 e_M6 => ?_)
    refine m_ls X hH hL t_q3_ hb5 dL_type_8 e_M6 (fun H locs hH hL => ?_)
    refine lv_goto (tgt := 18) hx hb dL_type_9 (by decide) ?_
    refine lv_iconst (v := 0) hx hb dL_type_18 (by decide) ?_
    exact q_endW (m_iretW X hr hH hL (Nat.zero_le _) (Nat.zero_le _) dL_type_19)
  · by_cases c7 : E4 = "java/lang/IllegalArgumentException"
    · refine q_pos c7 (q_ret (fun hq => ?_))
      subst c7
      cases hq
      refine my_caught X hL (my_runV X hH hl.1 (co_X8_type g l hst q1_ p2_ M t_q1_ (.inr "java/lang/IllegalArgumentException") M' e1) ok_X8_type W1089 t_q1_ rfl (by decide) rfl rfl rfl ⟨Nat.le_of_ble_eq_true rfl, Nat.le_of_ble_eq_true rfl⟩ ⟨Nat.le_of_ble_eq_true rfl, Nat.le_of_ble_eq_true rfl⟩ (Nat.le_of_ble_eq_true rfl) dL_type_4) [] ⟨0, 9, 12, 13⟩ [⟨0, 9, 15, 15⟩] htb np0 rfl (by decide) W653 (by decide +kernel) (fun H locs q hH hL => ?_)
      refine lv_astore_n hx hb dL_type_12 rfl hl (by decide) rfl (fun ls hl => ?_)
      refine lv_iconst (v := 1) hx hb dL_type_13 (by decide) ?_
      exact m_iretW X hr hH hL (by decide) (by decide) dL_type_14
    refine q_neg c7 ?_
    by_cases c8 : E4 = "java/lang/IllegalStateException"
    · refine q_pos c8 (q_ret (fun hq => ?_))
      subst c8
      cases hq
      refine my_caught X hL (my_runV X hH hl.1 (co_X8_type g l hst q1_ p2_ M t_q1_ (.inr "java/lang/IllegalStateException") M' e1) ok_X8_type W1089 t_q1_ rfl (by decide) rfl rfl rfl ⟨Nat.le_of_ble_eq_true rfl, Nat.le_of_ble_eq_true rfl⟩ ⟨Nat.le_of_ble_eq_true rfl, Nat.le_of_ble_eq_true rfl⟩ (Nat.le_of_ble_eq_true rfl) dL_type_4) [⟨0, 9, 12, 13⟩] ⟨0, 9, 15, 15⟩ [] htb (np1 (by decide) W653 (by decide +kernel) np0) rfl (by decide) W654 (by decide +kernel) (fun H locs q hH hL => ?_)
      refine lv_astore_n hx hb dL_type_15 rfl hl (by decide) rfl (fun ls hl => ?_)
      refine lv_iconst (v := 2) hx hb dL_type_16 (by decide) ?_
      exact m_iretW X hr hH hL (by decide) (by decide) dL_type_17
    refine q_neg c8 ?_
    exact q_none

set_option maxRecDepth 20000 in
set_option maxHeartbeats 4000000 in
theorem co_L_runScript (g : GP) (l : Launch) (hst : l.stackTraces = false) (q1_ : Nat) (q2_ : Nat) (M : Mem) (t_q1_ : tyT q1_ = 8) (t_q2_ : tyT q2_ = 27) (v : Int32) (M' : Mem) (hF : F_L_runScript q1_ q2_ M = some (v, M')) : COW g l yL_runScript cL_runScript 3 [(0, 8, 11, 13), (0, 8, 14, 15)] 9 222 [.ref (adr g q1_), .ref (adr g q2_)] M v M' := by
  refine COW_of hst (by decide) (Nat.le_of_ble_eq_true rfl) ?_
  intro p e s m below meth c ls X hr htb hH hL hl
  have hx := X.1
  have hb := X.2.1
  have hts := X.2.2.2.2.1
  refine q_out hF ?_
  rw [F_L_runScript]
  replace hl : lv_has ls 3 [(0, .ref (adr g q1_)), (1, .ref (adr g q2_))] := hl
  refine lv_aload_n hx hb dL_runScript_0 rfl (lv_at hl 1 rfl) ?_
  refine lv_iconst (v := 0) hx hb dL_runScript_1 (by decide) ?_
  refine lv_aload_n hx hb dL_runScript_2 rfl (lv_at hl 0 rfl) ?_
  refine q_bw (fun v2 M3 e1 => ?_) (fun E4 M3 e1 => ?_)
  · refine my_doneI hL (my_runV X hH hl.1 (co_X8_runScript g l hst q1_ M t_q1_ (.inl v2) M3 e1) ok_X8_runScript W1102 t_q1_ rfl (by decide) rfl rfl rfl ⟨Nat.le_of_ble_eq_true rfl, Nat.le_of_ble_eq_true rfl⟩ ⟨Nat.zero_le _, Nat.zero_le _⟩ (Nat.le_of_ble_eq_true rfl) dL_runScript_3) (fun H locs hH hL => ?_)
    refine lv_i2l hx hb dL_runScript_6 rfl ?_
    refine q_chk (fun hb5 => ?_)
    refine q_lt (fun M6 e_M6 => ?_)
    refine m_ls X hH hL t_q2_ hb5 dL_runScript_7 e_M6 (fun H locs hH hL => ?_)
    refine lv_goto (tgt := 17) hx hb dL_runScript_8 (by decide) ?_
    refine lv_iconst (v := 0) hx hb dL_runScript_17 (by decide) ?_
    exact q_endW (m_iretW X hr hH hL (Nat.zero_le _) (Nat.zero_le _) dL_runScript_18)
  · by_cases c7 : E4 = "java/lang/IllegalArgumentException"
    · refine q_pos c7 (q_ret (fun hq => ?_))
      subst c7
      cases hq
      refine my_caught X hL (my_runV X hH hl.1 (co_X8_runScript g l hst q1_ M t_q1_ (.inr "java/lang/IllegalArgumentException") M' e1) ok_X8_runScript W1102 t_q1_ rfl (by decide) rfl rfl rfl ⟨Nat.le_of_ble_eq_true rfl, Nat.le_of_ble_eq_true rfl⟩ ⟨Nat.le_of_ble_eq_true rfl, Nat.le_of_ble_eq_true rfl⟩ (Nat.le_of_ble_eq_true rfl) dL_runScript_3) [] ⟨0, 8, 11, 13⟩ [⟨0, 8, 14, 15⟩] htb np0 rfl (by decide) W653 (by decide +kernel) (fun H locs q hH hL => ?_)
      refine lv_astore_n hx hb dL_runScript_11 rfl hl (by decide) rfl (fun ls hl => ?_)
      refine lv_iconst (v := 1) hx hb dL_runScript_12 (by decide) ?_
      exact m_iretW X hr hH hL (by decide) (by decide) dL_runScript_13
    refine q_neg c7 ?_
    by_cases c8 : E4 = "java/lang/IllegalStateException"
    · refine q_pos c8 (q_ret (fun hq => ?_))
      subst c8
      cases hq
      refine my_caught X hL (my_runV X hH hl.1 (co_X8_runScript g l hst q1_ M t_q1_ (.inr "java/lang/IllegalStateException") M' e1) ok_X8_runScript W1102 t_q1_ rfl (by decide) rfl rfl rfl ⟨Nat.le_of_ble_eq_true rfl, Nat.le_of_ble_eq_true rfl⟩ ⟨Nat.le_of_ble_eq_true rfl, Nat.le_of_ble_eq_true rfl⟩ (Nat.le_of_ble_eq_true rfl) dL_runScript_3) [⟨0, 8, 11, 13⟩] ⟨0, 8, 14, 15⟩ [] htb (np1 (by decide) W653 (by decide +kernel) np0) rfl (by decide) W654 (by decide +kernel) (fun H locs q hH hL => ?_)
      refine lv_astore_n hx hb dL_runScript_14 rfl hl (by decide) rfl (fun ls hl => ?_)
      refine lv_iconst (v := 2) hx hb dL_runScript_15 (by decide) ?_
      exact m_iretW X hr hH hL (by decide) (by decide) dL_runScript_16
    refine q_neg c8 ?_
    exact q_none

set_option maxRecDepth 20000 in
set_option maxHeartbeats 4000000 in
theorem co_L_errorPosition (g : GP) (l : Launch) (hst : l.stackTraces = false) (q1_ : Nat) (q2_ : Nat) (M : Mem) (t_q1_ : tyT q1_ = 8) (t_q2_ : tyT q2_ = 27) (v : Int32) (M' : Mem) (hF : F_L_errorPosition q1_ q2_ M = some (v, M')) : COW g l yL_errorPosition cL_errorPosition 3 [(0, 8, 11, 100)] 7 220 [.ref (adr g q1_), .ref (adr g q2_)] M v M' := by
  refine COW_of hst (by decide) (Nat.le_of_ble_eq_true rfl) ?_
  intro p e s m below meth c ls X hr htb hH hL hl
  have hx := X.1
  have hb := X.2.1
  have hts := X.2.2.2.2.1
  refine q_out hF ?_
  rw [F_L_errorPosition]
  replace hl : lv_has ls 3 [(0, .ref (adr g q1_)), (1, .ref (adr g q2_))] := hl
  refine lv_aload_n hx hb dL_errorPosition_0 rfl (lv_at hl 1 rfl) ?_
  refine lv_iconst (v := 0) hx hb dL_errorPosition_1 (by decide) ?_
  refine lv_aload_n hx hb dL_errorPosition_2 rfl (lv_at hl 0 rfl) ?_
  refine q_bw (fun v2 M3 e1 => ?_) (fun E4 M3 e1 => ?_)
  · refine my_doneI hL (my_runV X hH hl.1 (co_X8_errorPosition g l hst q1_ M t_q1_ (.inl v2) M3 e1) ok_X8_errorPosition W1236 t_q1_ rfl (by decide) rfl rfl rfl ⟨Nat.le_of_ble_eq_true rfl, Nat.le_of_ble_eq_true rfl⟩ ⟨Nat.zero_le _, Nat.zero_le _⟩ (Nat.le_of_ble_eq_true rfl) dL_errorPosition_3) (fun H locs hH hL => ?_)
    refine lv_i2l hx hb dL_errorPosition_6 rfl ?_
    refine q_chk (fun hb5 => ?_)
    refine q_lt (fun M6 e_M6 => ?_)
    refine m_ls X hH hL t_q2_ hb5 dL_errorPosition_7 e_M6 (fun H locs hH hL => ?_)
    refine lv_goto (tgt := 14) hx hb dL_errorPosition_8 (by decide) ?_
    refine lv_iconst (v := 0) hx hb dL_errorPosition_14 (by decide) ?_
    exact q_endW (m_iretW X hr hH hL (Nat.zero_le _) (Nat.zero_le _) dL_errorPosition_15)
  · by_cases c7 : E4 = "java/util/NoSuchElementException"
    · refine q_pos c7 (q_ret (fun hq => ?_))
      subst c7
      cases hq
      refine my_caught X hL (my_runV X hH hl.1 (co_X8_errorPosition g l hst q1_ M t_q1_ (.inr "java/util/NoSuchElementException") M' e1) ok_X8_errorPosition W1236 t_q1_ rfl (by decide) rfl rfl rfl ⟨Nat.le_of_ble_eq_true rfl, Nat.le_of_ble_eq_true rfl⟩ ⟨Nat.le_of_ble_eq_true rfl, Nat.le_of_ble_eq_true rfl⟩ (Nat.le_of_ble_eq_true rfl) dL_errorPosition_3) [] ⟨0, 8, 11, 100⟩ [] htb np0 rfl (by decide) W912 (by decide +kernel) (fun H locs q hH hL => ?_)
      refine lv_astore_n hx hb dL_errorPosition_11 rfl hl (by decide) rfl (fun ls hl => ?_)
      refine lv_iconst (v := 1) hx hb dL_errorPosition_12 (by decide) ?_
      exact m_iretW X hr hH hL (by decide) (by decide) dL_errorPosition_13
    refine q_neg c7 ?_
    exact q_none

set_option maxRecDepth 20000 in
set_option maxHeartbeats 4000000 in
theorem co_L_failedCommand (g : GP) (l : Launch) (hst : l.stackTraces = false) (q1_ : Nat) (q2_ : Nat) (M : Mem) (t_q1_ : tyT q1_ = 8) (t_q2_ : tyT q2_ = 27) (v : Int32) (M' : Mem) (hF : F_L_failedCommand q1_ q2_ M = some (v, M')) : COW g l yL_failedCommand cL_failedCommand 3 [(0, 8, 11, 100)] 7 220 [.ref (adr g q1_), .ref (adr g q2_)] M v M' := by
  refine COW_of hst (by decide) (Nat.le_of_ble_eq_true rfl) ?_
  intro p e s m below meth c ls X hr htb hH hL hl
  have hx := X.1
  have hb := X.2.1
  have hts := X.2.2.2.2.1
  refine q_out hF ?_
  rw [F_L_failedCommand]
  replace hl : lv_has ls 3 [(0, .ref (adr g q1_)), (1, .ref (adr g q2_))] := hl
  refine lv_aload_n hx hb dL_failedCommand_0 rfl (lv_at hl 1 rfl) ?_
  refine lv_iconst (v := 0) hx hb dL_failedCommand_1 (by decide) ?_
  refine lv_aload_n hx hb dL_failedCommand_2 rfl (lv_at hl 0 rfl) ?_
  refine q_bw (fun v2 M3 e1 => ?_) (fun E4 M3 e1 => ?_)
  · refine my_doneI hL (my_runV X hH hl.1 (co_X8_failedCommand g l hst q1_ M t_q1_ (.inl v2) M3 e1) ok_X8_failedCommand W1244 t_q1_ rfl (by decide) rfl rfl rfl ⟨Nat.le_of_ble_eq_true rfl, Nat.le_of_ble_eq_true rfl⟩ ⟨Nat.zero_le _, Nat.zero_le _⟩ (Nat.le_of_ble_eq_true rfl) dL_failedCommand_3) (fun H locs hH hL => ?_)
    refine lv_i2l hx hb dL_failedCommand_6 rfl ?_
    refine q_chk (fun hb5 => ?_)
    refine q_lt (fun M6 e_M6 => ?_)
    refine m_ls X hH hL t_q2_ hb5 dL_failedCommand_7 e_M6 (fun H locs hH hL => ?_)
    refine lv_goto (tgt := 14) hx hb dL_failedCommand_8 (by decide) ?_
    refine lv_iconst (v := 0) hx hb dL_failedCommand_14 (by decide) ?_
    exact q_endW (m_iretW X hr hH hL (Nat.zero_le _) (Nat.zero_le _) dL_failedCommand_15)
  · by_cases c7 : E4 = "java/util/NoSuchElementException"
    · refine q_pos c7 (q_ret (fun hq => ?_))
      subst c7
      cases hq
      refine my_caught X hL (my_runV X hH hl.1 (co_X8_failedCommand g l hst q1_ M t_q1_ (.inr "java/util/NoSuchElementException") M' e1) ok_X8_failedCommand W1244 t_q1_ rfl (by decide) rfl rfl rfl ⟨Nat.le_of_ble_eq_true rfl, Nat.le_of_ble_eq_true rfl⟩ ⟨Nat.le_of_ble_eq_true rfl, Nat.le_of_ble_eq_true rfl⟩ (Nat.le_of_ble_eq_true rfl) dL_failedCommand_3) [] ⟨0, 8, 11, 100⟩ [] htb np0 rfl (by decide) W912 (by decide +kernel) (fun H locs q hH hL => ?_)
      refine lv_astore_n hx hb dL_failedCommand_11 rfl hl (by decide) rfl (fun ls hl => ?_)
      refine lv_iconst (v := 1) hx hb dL_failedCommand_12 (by decide) ?_
      exact m_iretW X hr hH hL (by decide) (by decide) dL_failedCommand_13
    refine q_neg c7 ?_
    exact q_none

set_option maxRecDepth 20000 in
set_option maxHeartbeats 4000000 in
theorem co_L_undo (g : GP) (l : Launch) (hst : l.stackTraces = false) (q1_ : Nat) (q2_ : Nat) (M : Mem) (t_q1_ : tyT q1_ = 8) (t_q2_ : tyT q2_ = 27) (v : Int32) (M' : Mem) (hF : F_L_undo q1_ q2_ M = some (v, M')) : COW g l yL_undo cL_undo 3 [(0, 8, 11, 15)] 7 220 [.ref (adr g q1_), .ref (adr g q2_)] M v M' := by
  refine COW_of hst (by decide) (Nat.le_of_ble_eq_true rfl) ?_
  intro p e s m below meth c ls X hr htb hH hL hl
  have hx := X.1
  have hb := X.2.1
  have hts := X.2.2.2.2.1
  refine q_out hF ?_
  rw [F_L_undo]
  replace hl : lv_has ls 3 [(0, .ref (adr g q1_)), (1, .ref (adr g q2_))] := hl
  refine lv_aload_n hx hb dL_undo_0 rfl (lv_at hl 1 rfl) ?_
  refine lv_iconst (v := 0) hx hb dL_undo_1 (by decide) ?_
  refine lv_aload_n hx hb dL_undo_2 rfl (lv_at hl 0 rfl) ?_
  refine q_bw (fun v2 M3 e1 => ?_) (fun E4 M3 e1 => ?_)
  · refine my_doneI hL (my_runV X hH hl.1 (co_X8_undo g l hst q1_ M t_q1_ (.inl v2) M3 e1) ok_X8_undo W1252 t_q1_ rfl (by decide) rfl rfl rfl ⟨Nat.le_of_ble_eq_true rfl, Nat.le_of_ble_eq_true rfl⟩ ⟨Nat.zero_le _, Nat.zero_le _⟩ (Nat.le_of_ble_eq_true rfl) dL_undo_3) (fun H locs hH hL => ?_)
    refine lv_i2l hx hb dL_undo_6 rfl ?_
    refine q_chk (fun hb5 => ?_)
    refine q_lt (fun M6 e_M6 => ?_)
    refine m_ls X hH hL t_q2_ hb5 dL_undo_7 e_M6 (fun H locs hH hL => ?_)
    refine lv_goto (tgt := 14) hx hb dL_undo_8 (by decide) ?_
    refine lv_iconst (v := 0) hx hb dL_undo_14 (by decide) ?_
    exact q_endW (m_iretW X hr hH hL (Nat.zero_le _) (Nat.zero_le _) dL_undo_15)
  · by_cases c7 : E4 = "java/lang/IllegalStateException"
    · refine q_pos c7 (q_ret (fun hq => ?_))
      subst c7
      cases hq
      refine my_caught X hL (my_runV X hH hl.1 (co_X8_undo g l hst q1_ M t_q1_ (.inr "java/lang/IllegalStateException") M' e1) ok_X8_undo W1252 t_q1_ rfl (by decide) rfl rfl rfl ⟨Nat.le_of_ble_eq_true rfl, Nat.le_of_ble_eq_true rfl⟩ ⟨Nat.le_of_ble_eq_true rfl, Nat.le_of_ble_eq_true rfl⟩ (Nat.le_of_ble_eq_true rfl) dL_undo_3) [] ⟨0, 8, 11, 15⟩ [] htb np0 rfl (by decide) W654 (by decide +kernel) (fun H locs q hH hL => ?_)
      refine lv_astore_n hx hb dL_undo_11 rfl hl (by decide) rfl (fun ls hl => ?_)
      refine lv_iconst (v := 1) hx hb dL_undo_12 (by decide) ?_
      exact m_iretW X hr hH hL (by decide) (by decide) dL_undo_13
    refine q_neg c7 ?_
    exact q_none

set_option maxRecDepth 20000 in
set_option maxHeartbeats 4000000 in
theorem co_L_restore (g : GP) (l : Launch) (hst : l.stackTraces = false) (q1_ : Nat) (q2_ : Nat) (M : Mem) (t_q1_ : tyT q1_ = 8) (t_q2_ : tyT q2_ = 27) (v : Int32) (M' : Mem) (hF : F_L_restore q1_ q2_ M = some (v, M')) : COW g l yL_restore cL_restore 3 [(0, 8, 11, 15)] 7 220 [.ref (adr g q1_), .ref (adr g q2_)] M v M' := by
  refine COW_of hst (by decide) (Nat.le_of_ble_eq_true rfl) ?_
  intro p e s m below meth c ls X hr htb hH hL hl
  have hx := X.1
  have hb := X.2.1
  have hts := X.2.2.2.2.1
  refine q_out hF ?_
  rw [F_L_restore]
  replace hl : lv_has ls 3 [(0, .ref (adr g q1_)), (1, .ref (adr g q2_))] := hl
  refine lv_aload_n hx hb dL_restore_0 rfl (lv_at hl 1 rfl) ?_
  refine lv_iconst (v := 0) hx hb dL_restore_1 (by decide) ?_
  refine lv_aload_n hx hb dL_restore_2 rfl (lv_at hl 0 rfl) ?_
  refine q_bw (fun v2 M3 e1 => ?_) (fun E4 M3 e1 => ?_)
  · refine my_doneI hL (my_runV X hH hl.1 (co_X8_restore g l hst q1_ M t_q1_ (.inl v2) M3 e1) ok_X8_restore W1265 t_q1_ rfl (by decide) rfl rfl rfl ⟨Nat.le_of_ble_eq_true rfl, Nat.le_of_ble_eq_true rfl⟩ ⟨Nat.zero_le _, Nat.zero_le _⟩ (Nat.le_of_ble_eq_true rfl) dL_restore_3) (fun H locs hH hL => ?_)
    refine lv_i2l hx hb dL_restore_6 rfl ?_
    refine q_chk (fun hb5 => ?_)
    refine q_lt (fun M6 e_M6 => ?_)
    refine m_ls X hH hL t_q2_ hb5 dL_restore_7 e_M6 (fun H locs hH hL => ?_)
    refine lv_goto (tgt := 14) hx hb dL_restore_8 (by decide) ?_
    refine lv_iconst (v := 0) hx hb dL_restore_14 (by decide) ?_
    exact q_endW (m_iretW X hr hH hL (Nat.zero_le _) (Nat.zero_le _) dL_restore_15)
  · by_cases c7 : E4 = "java/lang/IllegalStateException"
    · refine q_pos c7 (q_ret (fun hq => ?_))
      subst c7
      cases hq
      refine my_caught X hL (my_runV X hH hl.1 (co_X8_restore g l hst q1_ M t_q1_ (.inr "java/lang/IllegalStateException") M' e1) ok_X8_restore W1265 t_q1_ rfl (by decide) rfl rfl rfl ⟨Nat.le_of_ble_eq_true rfl, Nat.le_of_ble_eq_true rfl⟩ ⟨Nat.le_of_ble_eq_true rfl, Nat.le_of_ble_eq_true rfl⟩ (Nat.le_of_ble_eq_true rfl) dL_restore_3) [] ⟨0, 8, 11, 15⟩ [] htb np0 rfl (by decide) W654 (by decide +kernel) (fun H locs q hH hL => ?_)
      refine lv_astore_n hx hb dL_restore_11 rfl hl (by decide) rfl (fun ls hl => ?_)
      refine lv_iconst (v := 1) hx hb dL_restore_12 (by decide) ?_
      exact m_iretW X hr hH hL (by decide) (by decide) dL_restore_13
    refine q_neg c7 ?_
    exact q_none

