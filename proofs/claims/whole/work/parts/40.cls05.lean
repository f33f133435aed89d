set_option maxRecDepth 20000 in
set_option maxHeartbeats 4000000 in
theorem co_X8_errorPosition (g : GP) (l : Launch) (hst : l.stackTraces = false) (a0 : Nat) (M : Mem) (t0 : tyT a0 = 8) (o : Int32 ⊕ String) (M' : Mem) (hF : F_X8_errorPosition a0 M = some (o, M')) : CO g l yX8_errorPosition cX8_errorPosition 1 (some .int) 6 200 rvI [.ref (adr g a0)] M o M' := by
  refine CO_of hst (by decide) (Nat.le_of_ble_eq_true rfl) ?_
  intro p e s m below meth c ls X hr htb hH hL hl
  have hx := X.1
  have hb := X.2.1
  have hts := X.2.2.2.2.1
  refine q_out hF ?_
  rw [F_X8_errorPosition]
  replace hl : lv_has ls 1 [(0, .ref (adr g a0))] := hl
  refine lv_aload_n hx hb dX8_errorPosition_0 rfl (lv_at hl 0 rfl) ?_
  refine m_gI (k := 8) X hH inC8 t0 rfl W287 dX8_errorPosition_1 ?_
  refine lv_iconst (v := (-1)) hx hb dX8_errorPosition_4 (by decide) ?_
  refine lv_icmp_ne (tgt := 19) hx hb dX8_errorPosition_5 (by decide) (fun c1 => q_neg c1 ?_) (fun c1 => q_pos c1 ?_)
  · refine lv_aload_n hx hb dX8_errorPosition_19 rfl (lv_at hl 0 rfl) ?_
    refine m_gI (k := 8) X hH inC8 t0 rfl W287 dX8_errorPosition_20 ?_
    exact q_end2 (m_iret X hr hH hL dX8_errorPosition_23)
  · exact q_thr (m_throwNW X htb hH hL hl.1 okT21 dX8_errorPosition_8 dX8_errorPosition_11 dX8_errorPosition_12 dX8_errorPosition_15 dX8_errorPosition_18 (Nat.le_of_ble_eq_true rfl) (Nat.le_of_ble_eq_true rfl))

set_option maxRecDepth 20000 in
set_option maxHeartbeats 4000000 in
theorem co_X8_failedCommand (g : GP) (l : Launch) (hst : l.stackTraces = false) (a0 : Nat) (M : Mem) (t0 : tyT a0 = 8) (o : Int32 ⊕ String) (M' : Mem) (hF : F_X8_failedCommand a0 M = some (o, M')) : CO g l yX8_failedCommand cX8_failedCommand 1 (some .int) 6 200 rvI [.ref (adr g a0)] M o M' := by
  refine CO_of hst (by decide) (Nat.le_of_ble_eq_true rfl) ?_
  intro p e s m below meth c ls X hr htb hH hL hl
  have hx := X.1
  have hb := X.2.1
  have hts := X.2.2.2.2.1
  refine q_out hF ?_
  rw [F_X8_failedCommand]
  replace hl : lv_has ls 1 [(0, .ref (adr g a0))] := hl
  refine lv_aload_n hx hb dX8_failedCommand_0 rfl (lv_at hl 0 rfl) ?_
  refine m_gI (k := 9) X hH inC8 t0 rfl W288 dX8_failedCommand_1 ?_
  refine lv_iconst (v := (-1)) hx hb dX8_failedCommand_4 (by decide) ?_
  refine lv_icmp_ne (tgt := 19) hx hb dX8_failedCommand_5 (by decide) (fun c1 => q_neg c1 ?_) (fun c1 => q_pos c1 ?_)
  · refine lv_aload_n hx hb dX8_failedCommand_19 rfl (lv_at hl 0 rfl) ?_
    refine m_gI (k := 9) X hH inC8 t0 rfl W288 dX8_failedCommand_20 ?_
    exact q_end2 (m_iret X hr hH hL dX8_failedCommand_23)
  · exact q_thr (m_throwNW X htb hH hL hl.1 okT22 dX8_failedCommand_8 dX8_failedCommand_11 dX8_failedCommand_12 dX8_failedCommand_15 dX8_failedCommand_18 (Nat.le_of_ble_eq_true rfl) (Nat.le_of_ble_eq_true rfl))

set_option maxRecDepth 20000 in
set_option maxHeartbeats 4000000 in
theorem co_X2_stepBack (g : GP) (l : Launch) (hst : l.stackTraces = false) (a0 : Nat) (q1_ : Nat) (M : Mem) (t0 : tyT a0 = 2) (t_q1_ : tyT q1_ = 5) (v : Unit) (M' : Mem) (hF : F_X2_stepBack a0 q1_ M = some (v, M')) : CO g l yX2_stepBack cX2_stepBack 2 none 5 125 rvU [.ref (adr g a0), .ref (adr g q1_)] M (.inl v : Unit ⊕ String) M' := by
  refine CO_of hst (by decide) (Nat.le_of_ble_eq_true rfl) ?_
  intro p e s m below meth c ls X hr htb hH hL hl
  have hx := X.1
  have hb := X.2.1
  have hts := X.2.2.2.2.1
  refine q_out hF ?_
  rw [F_X2_stepBack]
  replace hl : lv_has ls 2 [(0, .ref (adr g a0)), (1, .ref (adr g q1_))] := hl
  refine lv_aload_n hx hb dX2_stepBack_0 rfl (lv_at hl 0 rfl) ?_
  refine lv_aload_n hx hb dX2_stepBack_1 rfl (lv_at hl 0 rfl) ?_
  refine m_gI (k := 1) X hH inC2 t0 rfl W206 dX2_stepBack_2 ?_
  refine lv_if_le (tgt := 17) hx hb dX2_stepBack_5 (by decide) (fun c1 => q_pos c1 ?_) (fun c1 => q_neg c1 ?_)
  · refine lv_aload_n hx hb dX2_stepBack_17 rfl (lv_at hl 0 rfl) ?_
    refine m_gR (k := 0) X hH inC2 t0 rfl W205 dX2_stepBack_18 30 rfl (fun t2 => ?_)
    refine m_alen X hH t2 rfl (by decide) (v := 9) (by decide) dX2_stepBack_21 ?_
    refine lv_iconst (v := 1) hx hb dX2_stepBack_22 (by decide) ?_
    refine lv_isub hx hb dX2_stepBack_23 ?_
    refine q_lt (fun M3 e_M3 => ?_)
    refine m_pI (k := 1) X hH hL okC2 t0 rfl rfl rfl rfl W206 dX2_stepBack_24 e_M3 (fun H locs hH hL => ?_)
    refine lv_aload_n hx hb dX2_stepBack_27 rfl (lv_at hl 0 rfl) ?_
    refine lv_dup hx hb dX2_stepBack_28 rfl ?_
    refine m_gI (k := 2) X hH inC2 t0 rfl W207 dX2_stepBack_29 ?_
    refine lv_iconst (v := 1) hx hb dX2_stepBack_32 (by decide) ?_
    refine lv_isub hx hb dX2_stepBack_33 ?_
    refine q_lt (fun M4 e_M4 => ?_)
    refine m_pI (k := 2) X hH hL okC2 t0 rfl rfl rfl rfl W207 dX2_stepBack_34 e_M4 (fun H locs hH hL => ?_)
    refine lv_aload_n hx hb dX2_stepBack_37 rfl (lv_at hl 0 rfl) ?_
    refine lv_aload_n hx hb dX2_stepBack_38 rfl (lv_at hl 1 rfl) ?_
    refine q_b1 (fun u6 M7 e5 => ?_)
    refine my_doneU hL (my_runV X hH hl.1 (co_X2_putBack g l hst a0 q1_ M4 t0 t_q1_ u6 M7 e5) ok_X2_putBack W1261 t0 rfl (by decide) rfl rfl rfl ⟨Nat.le_of_ble_eq_true rfl, Nat.le_of_ble_eq_true rfl⟩ ⟨Nat.zero_le _, Nat.zero_le _⟩ (Nat.le_of_ble_eq_true rfl) dX2_stepBack_39) (fun H locs hH hL => ?_)
    exact q_end1 (m_vret X hr hH hL dX2_stepBack_42)
  · refine lv_aload_n hx hb dX2_stepBack_8 rfl (lv_at hl 0 rfl) ?_
    refine m_gI (k := 1) X hH inC2 t0 rfl W206 dX2_stepBack_9 ?_
    refine lv_iconst (v := 1) hx hb dX2_stepBack_12 (by decide) ?_
    refine lv_isub hx hb dX2_stepBack_13 ?_
    refine lv_goto (tgt := 24) hx hb dX2_stepBack_14 (by decide) ?_
    refine q_lt (fun M8 e_M8 => ?_)
    refine m_pI (k := 1) X hH hL okC2 t0 rfl rfl rfl rfl W206 dX2_stepBack_24 e_M8 (fun H locs hH hL => ?_)
    refine lv_aload_n hx hb dX2_stepBack_27 rfl (lv_at hl 0 rfl) ?_
    refine lv_dup hx hb dX2_stepBack_28 rfl ?_
    refine m_gI (k := 2) X hH inC2 t0 rfl W207 dX2_stepBack_29 ?_
    refine lv_iconst (v := 1) hx hb dX2_stepBack_32 (by decide) ?_
    refine lv_isub hx hb dX2_stepBack_33 ?_
    refine q_lt (fun M9 e_M9 => ?_)
    refine m_pI (k := 2) X hH hL okC2 t0 rfl rfl rfl rfl W207 dX2_stepBack_34 e_M9 (fun H locs hH hL => ?_)
    refine lv_aload_n hx hb dX2_stepBack_37 rfl (lv_at hl 0 rfl) ?_
    refine lv_aload_n hx hb dX2_stepBack_38 rfl (lv_at hl 1 rfl) ?_
    refine q_b1 (fun u11 M12 e10 => ?_)
    refine my_doneU hL (my_runV X hH hl.1 (co_X2_putBack g l hst a0 q1_ M9 t0 t_q1_ u11 M12 e10) ok_X2_putBack W1261 t0 rfl (by decide) rfl rfl rfl ⟨Nat.le_of_ble_eq_true rfl, Nat.le_of_ble_eq_true rfl⟩ ⟨Nat.zero_le _, Nat.zero_le _⟩ (Nat.le_of_ble_eq_true rfl) dX2_stepBack_39) (fun H locs hH hL => ?_)
    exact q_end1 (m_vret X hr hH hL dX2_stepBack_42)

set_option maxRecDepth 20000 in
set_option maxHeartbeats 4000000 in
theorem co_X8_undo (g : GP) (l : Launch) (hst : l.stackTraces = false) (a0 : Nat) (M : Mem) (t0 : tyT a0 = 8) (o : Int32 ⊕ String) (M' : Mem) (hF : F_X8_undo a0 M = some (o, M')) : CO g l yX8_undo cX8_undo 1 (some .int) 6 200 rvI [.ref (adr g a0)] M o M' := by
  refine CO_of hst (by decide) (Nat.le_of_ble_eq_true rfl) ?_
  intro p e s m below meth c ls X hr htb hH hL hl
  have hx := X.1
  have hb := X.2.1
  have hts := X.2.2.2.2.1
  refine q_out hF ?_
  rw [F_X8_undo]
  replace hl : lv_has ls 1 [(0, .ref (adr g a0))] := hl
  refine lv_aload_n hx hb dX8_undo_0 rfl (lv_at hl 0 rfl) ?_
  refine m_gR (k := 4) X hH inC8 t0 rfl W283 dX8_undo_1 2 rfl (fun t1 => ?_)
  refine m_gI (k := 2) X hH inC2 t1 rfl W208 dX8_undo_4 ?_
  refine lv_if_ne (tgt := 21) hx hb dX8_undo_7 (by decide) (fun c2 => q_neg c2 ?_) (fun c2 => q_pos c2 ?_)
  · refine lv_aload_n hx hb dX8_undo_21 rfl (lv_at hl 0 rfl) ?_
    refine m_gR (k := 4) X hH inC8 t0 rfl W283 dX8_undo_22 2 rfl (fun t3 => ?_)
    refine lv_aload_n hx hb dX8_undo_25 rfl (lv_at hl 0 rfl) ?_
    refine m_gR (k := 0) X hH inC8 t0 rfl W279 dX8_undo_26 5 rfl (fun t4 => ?_)
    refine q_b1 (fun u6 M7 e5 => ?_)
    refine my_doneU hL (my_runV X hH hl.1 (co_X2_stepBack g l hst (mR M a0 4) (mR M a0 0) M t3 t4 u6 M7 e5) ok_X2_stepBack W1257 t3 rfl (by decide) rfl rfl rfl ⟨Nat.le_of_ble_eq_true rfl, Nat.le_of_ble_eq_true rfl⟩ ⟨Nat.zero_le _, Nat.zero_le _⟩ (Nat.le_of_ble_eq_true rfl) dX8_undo_29) (fun H locs hH hL => ?_)
    refine lv_aload_n hx hb dX8_undo_32 rfl (lv_at hl 0 rfl) ?_
    refine m_gR (k := 4) X hH inC8 t0 rfl W283 dX8_undo_33 2 rfl (fun t8 => ?_)
    refine m_gI (k := 2) X hH inC2 t8 rfl W208 dX8_undo_36 ?_
    exact q_end2 (m_iret X hr hH hL dX8_undo_39)
  · exact q_thr (m_throwW X htb hH hL hl.1 okT23 dX8_undo_10 dX8_undo_13 dX8_undo_14 dX8_undo_17 dX8_undo_20 (Nat.le_of_ble_eq_true rfl) (Nat.le_of_ble_eq_true rfl))

set_option maxRecDepth 20000 in
set_option maxHeartbeats 4000000 in
theorem co_X8_save (g : GP) (l : Launch) (hst : l.stackTraces = false) (a0 : Nat) (M : Mem) (t0 : tyT a0 = 8) (v : Int32) (M' : Mem) (hF : F_X8_save a0 M = some (v, M')) : CO g l yX8_save cX8_save 1 (some .int) 4 104 rvI [.ref (adr g a0)] M (.inl v : Int32 ⊕ String) M' := by
  refine CO_of hst (by decide) (Nat.le_of_ble_eq_true rfl) ?_
  intro p e s m below meth c ls X hr htb hH hL hl
  have hx := X.1
  have hb := X.2.1
  have hts := X.2.2.2.2.1
  refine q_out hF ?_
  rw [F_X8_save]
  replace hl : lv_has ls 1 [(0, .ref (adr g a0))] := hl
  refine lv_aload_n hx hb dX8_save_0 rfl (lv_at hl 0 rfl) ?_
  refine m_gR (k := 2) X hH inC8 t0 rfl W281 dX8_save_1 5 rfl (fun t1 => ?_)
  refine lv_aload_n hx hb dX8_save_4 rfl (lv_at hl 0 rfl) ?_
  refine m_gR (k := 0) X hH inC8 t0 rfl W279 dX8_save_5 5 rfl (fun t2 => ?_)
  refine q_b1 (fun u4 M5 e3 => ?_)
  refine my_doneU hL (my_runV X hH hl.1 (co_X5_copyFrom g l hst (mR M a0 2) (mR M a0 0) M t1 t2 u4 M5 e3) ok_X5_copyFrom W649 t1 rfl (by decide) rfl rfl rfl ⟨Nat.le_of_ble_eq_true rfl, Nat.le_of_ble_eq_true rfl⟩ ⟨Nat.zero_le _, Nat.zero_le _⟩ (Nat.le_of_ble_eq_true rfl) dX8_save_8) (fun H locs hH hL => ?_)
  refine lv_aload_n hx hb dX8_save_11 rfl (lv_at hl 0 rfl) ?_
  refine lv_iconst (v := 1) hx hb dX8_save_12 (by decide) ?_
  refine q_lt (fun M6 e_M6 => ?_)
  refine m_pI (k := 3) X hH hL okC8 t0 rfl rfl (by decide) (by decide) W282 dX8_save_13 e_M6 (fun H locs hH hL => ?_)
  refine lv_aload_n hx hb dX8_save_16 rfl (lv_at hl 0 rfl) ?_
  refine m_gR (k := 0) X hH inC8 t0 rfl W279 dX8_save_17 5 rfl (fun t7 => ?_)
  refine m_gI (k := 1) X hH inC5 t7 rfl W160 dX8_save_20 ?_
  exact q_end1 (m_iret X hr hH hL dX8_save_23)

set_option maxRecDepth 20000 in
set_option maxHeartbeats 4000000 in
theorem co_X2_forget (g : GP) (l : Launch) (hst : l.stackTraces = false) (a0 : Nat) (M : Mem) (t0 : tyT a0 = 2) (v : Unit) (M' : Mem) (hF : F_X2_forget a0 M = some (v, M')) : CO g l yX2_forget cX2_forget 1 none 0 0 rvU [.ref (adr g a0)] M (.inl v : Unit ⊕ String) M' := by
  refine CO_of hst (by decide) (Nat.le_of_ble_eq_true rfl) ?_
  intro p e s m below meth c ls X hr htb hH hL hl
  have hx := X.1
  have hb := X.2.1
  have hts := X.2.2.2.2.1
  refine q_out hF ?_
  rw [F_X2_forget]
  replace hl : lv_has ls 1 [(0, .ref (adr g a0))] := hl
  refine lv_aload_n hx hb dX2_forget_0 rfl (lv_at hl 0 rfl) ?_
  refine lv_iconst (v := 0) hx hb dX2_forget_1 (by decide) ?_
  refine q_lt (fun M1 e_M1 => ?_)
  refine m_pI (k := 2) X hH hL okC2 t0 rfl rfl rfl rfl W207 dX2_forget_2 e_M1 (fun H locs hH hL => ?_)
  exact q_end1 (m_vret X hr hH hL dX2_forget_5)

set_option maxRecDepth 20000 in
set_option maxHeartbeats 4000000 in
theorem co_X8_restore (g : GP) (l : Launch) (hst : l.stackTraces = false) (a0 : Nat) (M : Mem) (t0 : tyT a0 = 8) (o : Int32 ⊕ String) (M' : Mem) (hF : F_X8_restore a0 M = some (o, M')) : CO g l yX8_restore cX8_restore 1 (some .int) 6 200 rvI [.ref (adr g a0)] M o M' := by
  refine CO_of hst (by decide) (Nat.le_of_ble_eq_true rfl) ?_
  intro p e s m below meth c ls X hr htb hH hL hl
  have hx := X.1
  have hb := X.2.1
  have hts := X.2.2.2.2.1
  refine q_out hF ?_
  rw [F_X8_restore]
  replace hl : lv_has ls 1 [(0, .ref (adr g a0))] := hl
  refine lv_aload_n hx hb dX8_restore_0 rfl (lv_at hl 0 rfl) ?_
  refine m_gI (k := 3) X hH inC8 t0 rfl W282 dX8_restore_1 ?_
  refine lv_if_ne (tgt := 18) hx hb dX8_restore_4 (by decide) (fun c1 => q_neg c1 ?_) (fun c1 => q_pos c1 ?_)
  · refine lv_aload_n hx hb dX8_restore_18 rfl (lv_at hl 0 rfl) ?_
    refine m_gR (k := 0) X hH inC8 t0 rfl W279 dX8_restore_19 5 rfl (fun t2 => ?_)
    refine lv_aload_n hx hb dX8_restore_22 rfl (lv_at hl 0 rfl) ?_
    refine m_gR (k := 2) X hH inC8 t0 rfl W281 dX8_restore_23 5 rfl (fun t3 => ?_)
    refine q_b1 (fun u5 M6 e4 => ?_)
    refine my_doneU hL (my_runV X hH hl.1 (co_X5_copyFrom g l hst (mR M a0 0) (mR M a0 2) M t2 t3 u5 M6 e4) ok_X5_copyFrom W649 t2 rfl (by decide) rfl rfl rfl ⟨Nat.le_of_ble_eq_true rfl, Nat.le_of_ble_eq_true rfl⟩ ⟨Nat.zero_le _, Nat.zero_le _⟩ (Nat.le_of_ble_eq_true rfl) dX8_restore_26) (fun H locs hH hL => ?_)
    refine lv_aload_n hx hb dX8_restore_29 rfl (lv_at hl 0 rfl) ?_
    refine m_gR (k := 4) X hH inC8 t0 rfl W283 dX8_restore_30 2 rfl (fun t7 => ?_)
    refine q_b1 (fun u9 M10 e8 => ?_)
    refine my_doneU hL (my_runV X hH hl.1 (co_X2_forget g l hst (mR M6 a0 4) M6 t7 u9 M10 e8) ok_X2_forget W1270 t7 rfl (by decide) rfl rfl rfl ⟨Nat.le_of_ble_eq_true rfl, Nat.le_of_ble_eq_true rfl⟩ ⟨Nat.zero_le _, Nat.zero_le _⟩ (Nat.le_of_ble_eq_true rfl) dX8_restore_33) (fun H locs hH hL => ?_)
    refine lv_aload_n hx hb dX8_restore_36 rfl (lv_at hl 0 rfl) ?_
    refine m_gR (k := 0) X hH inC8 t0 rfl W279 dX8_restore_37 5 rfl (fun t11 => ?_)
    refine m_gI (k := 1) X hH inC5 t11 rfl W160 dX8_restore_40 ?_
    exact q_end2 (m_iret X hr hH hL dX8_restore_43)
  · exact q_thr (m_throwW X htb hH hL hl.1 okT24 dX8_restore_7 dX8_restore_10 dX8_restore_11 dX8_restore_14 dX8_restore_17 (Nat.le_of_ble_eq_true rfl) (Nat.le_of_ble_eq_true rfl))

