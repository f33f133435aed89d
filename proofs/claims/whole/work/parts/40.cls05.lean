set_option maxRecDepth 20000 in
set_option maxHeartbeats 4000000 in
theorem co_X2_forget (g : GP) (l : Launch) (hst : l.stackTraces = false) (a0 : Nat) (M : Mem) (t0 : tyT a0 = 2) (v : Unit) (M' : Mem) (hF : F_X2_forget a0 M = some (v, M')) : CO g l yX2_forget cX2_forget 1 none 0 0 rvU [.ref (adr g a0)] M (.inl v : Unit ⊕ String) M' := by
  refine CO_of hst (by decide) (Nat.le_of_ble_eq_true rfl) ?_
  intro p e s m below meth c ls X hr htb hH hL hl
  have hx := X.1
  have hb := X.2.1
  have hts := X.2.2.2.2.1
  refine q_out hF ?_
  rw [F_X2_forget]
  replace hl : lv_has ls 1 [(0, .ref (adr g a0))] := hl
  refine lv_aload_n hx hb dX2_forget_0 rfl (lv_at hl 0 rfl) ?_
  refine lv_iconst (v := 0) hx hb dX2_forget_1 (by decide) ?_
  refine q_lt (fun M1 e_M1 => ?_)
  refine m_pI (k := 2) X hH hL okC2 t0 rfl rfl rfl rfl W207 dX2_forget_2 e_M1 (fun H locs hH hL => ?_)
  exact q_end1 (m_vret X hr hH hL dX2_forget_5)

set_option maxRecDepth 20000 in
set_option maxHeartbeats 4000000 in
theorem co_X8_restore (g : GP) (l : Launch) (hst : l.stackTraces = false) (a0 : Nat) (M : Mem) (t0 : tyT a0 = 8) (o : Int32 ⊕ String) (M' : Mem) (hF : F_X8_restore a0 M = some (o, M')) : CO g l yX8_restore cX8_restore 1 (some .int) 6 200 rvI [.ref (adr g a0)] M o M' := by
  refine CO_of hst (by decide) (Nat.le_of_ble_eq_true rfl) ?_
  intro p e s m below meth c ls X hr htb hH hL hl
  have hx := X.1
  have hb := X.2.1
  have hts := X.2.2.2.2.1
  refine q_out hF ?_
  rw [F_X8_restore]
  replace hl : lv_has ls 1 [(0, .ref (adr g a0))] := hl
  refine lv_aload_n hx hb dX8_restore_0 rfl (lv_at hl 0 rfl) ?_
  refine m_gI (k := 3) X hH inC8 t0 rfl W282 dX8_restore_1 ?_
  refine lv_if_ne (tgt := 18) hx hb dX8_restore_4 (by decide) (fun c1 => q_neg c1 ?_) (fun c1 => q_pos c1 ?_)
  · refine lv_aload_n hx hb dX8_restore_18 rfl (lv_at hl 0 rfl) ?_
    refine m_gR (k := 0) X hH inC8 t0 rfl W279 dX8_restore_19 5 rfl (fun t2 => ?_)
    refine lv_aload_n hx hb dX8_restore_22 rfl (lv_at hl 0 rfl) ?_
    refine m_gR (k := 2) X hH inC8 t0 rfl W281 dX8_restore_23 5 rfl (fun t3 => ?_)
    refine q_b1 (fun u5 M6 e4 => ?_)
    refine my_doneU hL (my_runV X hH hl.1 (co_X5_copyFrom g l hst (mR M a0 0) (mR M a0 2) M t2 t3 u5 M6 e4) ok_X5_copyFrom W645 t2 rfl (by decide) rfl rfl rfl ⟨Nat.le_of_ble_eq_true rfl, Nat.le_of_ble_eq_true rfl⟩ ⟨Nat.zero_le _, Nat.zero_le _⟩ (Nat.le_of_ble_eq_true rfl) dX8_restore_26) (fun H locs hH hL => ?_)
    refine lv_aload_n hx hb dX8_restore_29 rfl (lv_at hl 0 rfl) ?_
    refine m_gR (k := 4) X hH inC8 t0 rfl W283 dX8_restore_30 2 rfl (fun t7 => ?_)
    refine q_b1 (fun u9 M10 e8 => ?_)
    refine my_doneU hL (my_runV X hH hl.1 (co_X2_forget g l hst (mR M6 a0 4) M6 t7 u9 M10 e8) ok_X2_forget W1266 t7 rfl (by decide) rfl rfl rfl ⟨Nat.le_of_ble_eq_true rfl, Nat.le_of_ble_eq_true rfl⟩ ⟨Nat.zero_le _, Nat.zero_le _⟩ (Nat.le_of_ble_eq_true rfl) dX8_restore_33) (fun H locs hH hL => ?_)
    refine lv_aload_n hx hb dX8_restore_36 rfl (lv_at hl 0 rfl) ?_
    refine m_gR (k := 0) X hH inC8 t0 rfl W279 dX8_restore_37 5 rfl (fun t11 => ?_)
    refine m_gI (k := 1) X hH inC5 t11 rfl W160 dX8_restore_40 ?_
    exact q_end2 (m_iret X hr hH hL dX8_restore_43)
  · exact q_thr (m_throwW X htb hH hL hl.1 okT24 dX8_restore_7 dX8_restore_10 dX8_restore_11 dX8_restore_14 dX8_restore_17 (Nat.le_of_ble_eq_true rfl) (Nat.le_of_ble_eq_true rfl))

