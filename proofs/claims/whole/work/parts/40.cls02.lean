set_option maxRecDepth 20000 in
set_option maxHeartbeats 4000000 in
theorem co_X4_lift (g : GP) (l : Launch) (hst : l.stackTraces = false) (a0 : Nat) (p1_ : Int32) (M : Mem) (t0 : tyT a0 = 4) (v : Int32) (M' : Mem) (hF : F_X4_lift a0 p1_ M = some (v, M')) : CO g l yX4_lift cX4_lift 4 (some .int) 0 0 rvI [.ref (adr g a0), .int p1_] M (.inl v : Int32 ⊕ String) M' := by
  refine CO_of hst (by decide) (Nat.le_of_ble_eq_true rfl) ?_
  intro p e s m below meth c ls X hr htb hH hL hl
  have hx := X.1
  have hb := X.2.1
  have hts := X.2.2.2.2.1
  refine q_out hF ?_
  rw [F_X4_lift]
  replace hl : lv_has ls 4 [(0, .ref (adr g a0)), (1, .int p1_)] := hl
  refine lv_iconst (v := 0) hx hb dX4_lift_0 (by decide) ?_
  refine lv_istore_n (lv' := [(2, .int 0), (0, .ref (adr g a0)), (1, .int p1_)]) hx hb dX4_lift_1 rfl hl (by decide) rfl (fun ls hl => ?_)
  refine lv_iconst (v := 0) hx hb dX4_lift_2 (by decide) ?_
  refine lv_istore_n (lv' := [(3, .int 0), (2, .int 0), (0, .ref (adr g a0)), (1, .int p1_)]) hx hb dX4_lift_3 rfl hl (by decide) rfl (fun ls hl => ?_)
  have L17 : ∀ (K : Int32 → Int32 → Mem → Option (Int32 × Mem)) (_ : ∀ (i1 : Int32) (i2 : Int32) (M3 : Mem) (H : Heap) (locs : List Loc) (ls : Array Slot), HR g M3 H → LK g s H locs → lv_has ls 4 [(0, .ref (adr g a0)), (1, .int p1_), (2, .int i1), (3, .int i2)] → W p l e (rmO (.inl v : Int32 ⊕ String) 0 0) s m ([.ref (adr g a0), .int p1_] : List Value).toArray below meth c H locs 0 0 (GQ (K i1 i2 M3) (v, M') (MQO g below rvI (.inl v : Int32 ⊕ String) M' ([.ref (adr g a0), .int p1_] : List Value).toArray s)) (F0 m 41 ls [])) (n : Nat) (i1 : Int32) (i2 : Int32) (M3 : Mem) (H : Heap) (locs : List Loc) (ls : Array Slot), HR g M3 H → LK g s H locs → lv_has ls 4 [(0, .ref (adr g a0)), (1, .int p1_), (2, .int i1), (3, .int i2)] → W p l e (rmO (.inl v : Int32 ⊕ String) 0 0) s m ([.ref (adr g a0), .int p1_] : List Value).toArray below meth c H locs 0 0 (GQ (F_X4_lift_L1 a0 p1_ K n i1 i2 M3) (v, M') (MQO g below rvI (.inl v : Int32 ⊕ String) M' ([.ref (adr g a0), .int p1_] : List Value).toArray s)) (F0 m 4 ls []) := by
    intro K hK n
    induction n with
    | zero => intros; exact q_none
    | succ n ih =>
      intro i1 i2 M3 H locs ls hH hL hl 
      rw [F_X4_lift_L1]
      refine lv_iload_n hx hb dX4_lift_4 rfl (lv_at hl 3 rfl) ?_
      refine lv_aload_n hx hb dX4_lift_5 rfl (lv_at hl 0 rfl) ?_
      refine m_gR (k := 3) X hH inC4 t0 rfl W128 dX4_lift_6 20 rfl (fun t5 => ?_)
      refine m_alen X hH t5 rfl (by decide) (v := 36) (by decide) dX4_lift_9 ?_
      refine lv_icmp_ge (tgt := 41) hx hb dX4_lift_10 (by decide) (fun c6 => q_pos c6 ?_) (fun c6 => q_neg c6 ?_)
      · exact hK i1 i2 M3 _ _ ls hH hL hl 
      · refine lv_aload_n hx hb dX4_lift_13 rfl (lv_at hl 0 rfl) ?_
        refine m_gR (k := 3) X hH inC4 t0 rfl W128 dX4_lift_14 20 rfl (fun t7 => ?_)
        refine lv_iload_n hx hb dX4_lift_17 rfl (lv_at hl 3 rfl) ?_
        refine q_chk (fun hb8 => ?_)
        refine m_iald X hH t7 rfl (by decide) (fun _ => rfl) rfl rfl hb8 dX4_lift_18 ?_
        refine lv_if_eq (tgt := 35) hx hb dX4_lift_19 (by decide) (fun c9 => q_pos c9 ?_) (fun c9 => q_neg c9 ?_)
        · refine q_lt (fun v10 e_v10 => ?_)
          refine lv_iinc (v := v10) (lv' := [(3, .int v10), (0, .ref (adr g a0)), (1, .int p1_), (2, .int i1)]) hx hb dX4_lift_35 hl (k := 3) rfl (by rw [e_v10]; rfl) (by decide) rfl (fun ls hl => ?_)
          refine lv_goto (tgt := 4) hx hb dX4_lift_38 (by decide) ?_
          exact ih i1 v10 M3 _ _ ls hH hL (lv_sub hl [1, 2, 3, 0] rfl) 
        · refine lv_aload_n hx hb dX4_lift_22 rfl (lv_at hl 0 rfl) ?_
          refine m_gR (k := 3) X hH inC4 t0 rfl W128 dX4_lift_23 20 rfl (fun t11 => ?_)
          refine lv_iload_n hx hb dX4_lift_26 rfl (lv_at hl 3 rfl) ?_
          refine lv_dup2_11 hx hb dX4_lift_27 rfl rfl ?_
          refine q_chk (fun hb12 => ?_)
          refine m_iald X hH t11 rfl (by decide) (fun _ => rfl) rfl rfl hb12 dX4_lift_28 ?_
          refine lv_iload_n hx hb dX4_lift_29 rfl (lv_at hl 1 rfl) ?_
          refine lv_iadd hx hb dX4_lift_30 ?_
          refine q_chk (fun hb13 => ?_)
          refine q_lt (fun M14 e_M14 => ?_)
          refine m_is X hH hL t11 rfl (by decide) (fun _ => rfl) rfl rfl hb13 dX4_lift_31 e_M14 (fun H locs hH hL => ?_)
          refine q_lt (fun v15 e_v15 => ?_)
          refine lv_iinc (v := v15) (lv' := [(2, .int v15), (0, .ref (adr g a0)), (1, .int p1_), (3, .int i2)]) hx hb dX4_lift_32 hl (k := 2) rfl (by rw [e_v15]; rfl) (by decide) rfl (fun ls hl => ?_)
          refine q_lt (fun v16 e_v16 => ?_)
          refine lv_iinc (v := v16) (lv' := [(3, .int v16), (2, .int v15), (0, .ref (adr g a0)), (1, .int p1_)]) hx hb dX4_lift_35 hl (k := 3) rfl (by rw [e_v16]; rfl) (by decide) rfl (fun ls hl => ?_)
          refine lv_goto (tgt := 4) hx hb dX4_lift_38 (by decide) ?_
          exact ih v15 v16 M14 _ _ ls hH hL (lv_sub hl [2, 3, 1, 0] rfl) 
  refine L17 _ (fun x18 x19 M20 H locs ls hH hL hl  => ?_) 3000 0 0 M _ _ ls hH hL (lv_sub hl [2, 3, 1, 0] rfl) 
  refine lv_iload_n hx hb dX4_lift_41 rfl (lv_at hl 2 rfl) ?_
  exact q_end1 (m_iret X hr hH hL dX4_lift_42)

set_option maxRecDepth 20000 in
set_option maxHeartbeats 4000000 in
theorem co_X5_lift (g : GP) (l : Launch) (hst : l.stackTraces = false) (a0 : Nat) (p1_ : Int32) (p2_ : Int32) (M : Mem) (t0 : tyT a0 = 5) (v : Int32) (M' : Mem) (hF : F_X5_lift a0 p1_ p2_ M = some (v, M')) : CO g l yX5_lift cX5_lift 3 (some .int) 1 23 rvI [.ref (adr g a0), .int p1_, .int p2_] M (.inl v : Int32 ⊕ String) M' := by
  refine CO_of hst (by decide) (Nat.le_of_ble_eq_true rfl) ?_
  intro p e s m below meth c ls X hr htb hH hL hl
  have hx := X.1
  have hb := X.2.1
  have hts := X.2.2.2.2.1
  refine q_out hF ?_
  rw [F_X5_lift]
  replace hl : lv_has ls 3 [(0, .ref (adr g a0)), (1, .int p1_), (2, .int p2_)] := hl
  refine lv_aload_n hx hb dX5_lift_0 rfl (lv_at hl 0 rfl) ?_
  refine lv_iload_n hx hb dX5_lift_1 rfl (lv_at hl 1 rfl) ?_
  refine q_bind (fun v2 e1 => ?_)
  refine my_doneI hL (my_runV X hH hl.1 (co_X5_hasSection g l hst a0 p1_ M t0 v2 e1) ok_X5_hasSection W702 t0 rfl (by decide) rfl rfl rfl ⟨Nat.le_of_ble_eq_true rfl, Nat.le_of_ble_eq_true rfl⟩ ⟨Nat.zero_le _, Nat.zero_le _⟩ (Nat.le_of_ble_eq_true rfl) dX5_lift_2) (fun H locs hH hL => ?_)
  refine lv_if_ne (tgt := 10) hx hb dX5_lift_5 (by decide) (fun c3 => q_neg c3 ?_) (fun c3 => q_pos c3 ?_)
  · refine lv_iload_n hx hb dX5_lift_10 rfl (lv_at hl 2 rfl) ?_
    refine lv_bipush (v := (-9)) hx hb dX5_lift_11 (by decide) ?_
    refine lv_icmp_lt (tgt := 22) hx hb dX5_lift_13 (by decide) (fun c4 => q_pos c4 ?_) (fun c4 => q_neg c4 ?_)
    · refine lv_bipush (v := (-2)) hx hb dX5_lift_22 (by decide) ?_
      exact q_end1 (m_iret X hr hH hL dX5_lift_24)
    · refine lv_iload_n hx hb dX5_lift_16 rfl (lv_at hl 2 rfl) ?_
      refine lv_bipush (v := 9) hx hb dX5_lift_17 (by decide) ?_
      refine lv_icmp_le (tgt := 25) hx hb dX5_lift_19 (by decide) (fun c5 => q_pos c5 ?_) (fun c5 => q_neg c5 ?_)
      · refine lv_aload_n hx hb dX5_lift_25 rfl (lv_at hl 0 rfl) ?_
        refine m_gR (k := 0) X hH inC5 t0 rfl W157 dX5_lift_26 29 rfl (fun t6 => ?_)
        refine lv_iload_n hx hb dX5_lift_29 rfl (lv_at hl 1 rfl) ?_
        refine q_chk (fun hb7 => ?_)
        refine m_aald X hH t6 rfl (by decide) (fun _ => rfl) rfl rfl (t2 := 4) (fun _ => rfl) hb7 dX5_lift_30 (fun t8 => ?_)
        refine lv_iload_n hx hb dX5_lift_31 rfl (lv_at hl 2 rfl) ?_
        refine q_bind (fun v10 e9 => ?_)
        refine my_doneI hL (my_runV X hH hl.1 (co_X4_canLift g l hst (mR M (mR M a0 0) p1_.toNatClampNeg) p2_ M t8 v10 e9) ok_X4_canLift W778 t8 rfl (by decide) rfl rfl rfl ⟨Nat.le_of_ble_eq_true rfl, Nat.le_of_ble_eq_true rfl⟩ ⟨Nat.zero_le _, Nat.zero_le _⟩ (Nat.le_of_ble_eq_true rfl) dX5_lift_32) (fun H locs hH hL => ?_)
        refine lv_if_eq (tgt := 51) hx hb dX5_lift_35 (by decide) (fun c11 => q_pos c11 ?_) (fun c11 => q_neg c11 ?_)
        · refine lv_bipush (v := (-4)) hx hb dX5_lift_51 (by decide) ?_
          exact q_end1 (m_iret X hr hH hL dX5_lift_53)
        · refine lv_aload_n hx hb dX5_lift_38 rfl (lv_at hl 0 rfl) ?_
          refine m_gR (k := 0) X hH inC5 t0 rfl W157 dX5_lift_39 29 rfl (fun t12 => ?_)
          refine lv_iload_n hx hb dX5_lift_42 rfl (lv_at hl 1 rfl) ?_
          refine q_chk (fun hb13 => ?_)
          refine m_aald X hH t12 rfl (by decide) (fun _ => rfl) rfl rfl (t2 := 4) (fun _ => rfl) hb13 dX5_lift_43 (fun t14 => ?_)
          refine lv_iload_n hx hb dX5_lift_44 rfl (lv_at hl 2 rfl) ?_
          refine q_b1 (fun v16 M17 e15 => ?_)
          refine my_doneI hL (my_runV X hH hl.1 (co_X4_lift g l hst (mR M (mR M a0 0) p1_.toNatClampNeg) p2_ M t14 v16 M17 e15) ok_X4_lift W782 t14 rfl (by decide) rfl rfl rfl ⟨Nat.le_of_ble_eq_true rfl, Nat.le_of_ble_eq_true rfl⟩ ⟨Nat.zero_le _, Nat.zero_le _⟩ (Nat.le_of_ble_eq_true rfl) dX5_lift_45) (fun H locs hH hL => ?_)
          refine lv_goto (tgt := 53) hx hb dX5_lift_48 (by decide) ?_
          exact q_end1 (m_iret X hr hH hL dX5_lift_53)
      · refine lv_bipush (v := (-2)) hx hb dX5_lift_22 (by decide) ?_
        exact q_end1 (m_iret X hr hH hL dX5_lift_24)
  · refine lv_iconst (v := (-1)) hx hb dX5_lift_8 (by decide) ?_
    exact q_end1 (m_iret X hr hH hL dX5_lift_9)

set_option maxRecDepth 20000 in
set_option maxHeartbeats 4000000 in
theorem co_X8_raise (g : GP) (l : Launch) (hst : l.stackTraces = false) (a0 : Nat) (p1_ : Int32) (p2_ : Int32) (M : Mem) (t0 : tyT a0 = 8) (o : Int32 ⊕ String) (M' : Mem) (hF : F_X8_raise a0 p1_ p2_ M = some (o, M')) : CO g l yX8_raise cX8_raise 3 (some .int) 7 221 rvI [.ref (adr g a0), .int p1_, .int p2_] M o M' := by
  refine CO_of hst (by decide) (Nat.le_of_ble_eq_true rfl) ?_
  intro p e s m below meth c ls X hr htb hH hL hl
  have hx := X.1
  have hb := X.2.1
  have hts := X.2.2.2.2.1
  refine q_out hF ?_
  rw [F_X8_raise]
  replace hl : lv_has ls 3 [(0, .ref (adr g a0)), (1, .int p1_), (2, .int p2_)] := hl
  refine lv_aload_n hx hb dX8_raise_0 rfl (lv_at hl 0 rfl) ?_
  refine m_gR (k := 4) X hH inC8 t0 rfl W283 dX8_raise_1 2 rfl (fun t1 => ?_)
  refine lv_aload_n hx hb dX8_raise_4 rfl (lv_at hl 0 rfl) ?_
  refine m_gR (k := 0) X hH inC8 t0 rfl W279 dX8_raise_5 5 rfl (fun t2 => ?_)
  refine q_b1 (fun u4 M5 e3 => ?_)
  refine my_doneU hL (my_runV X hH hl.1 (co_X2_prepare g l hst (mR M a0 4) (mR M a0 0) M t1 t2 u4 M5 e3) ok_X2_prepare W314 t1 rfl (by decide) rfl rfl rfl ⟨Nat.le_of_ble_eq_true rfl, Nat.le_of_ble_eq_true rfl⟩ ⟨Nat.zero_le _, Nat.zero_le _⟩ (Nat.le_of_ble_eq_true rfl) dX8_raise_8) (fun H locs hH hL => ?_)
  refine lv_aload_n hx hb dX8_raise_11 rfl (lv_at hl 0 rfl) ?_
  refine lv_aload_n hx hb dX8_raise_12 rfl (lv_at hl 0 rfl) ?_
  refine m_gR (k := 0) X hH inC8 t0 rfl W279 dX8_raise_13 5 rfl (fun t6 => ?_)
  refine lv_iload_n hx hb dX8_raise_16 rfl (lv_at hl 1 rfl) ?_
  refine lv_iload_n hx hb dX8_raise_17 rfl (lv_at hl 2 rfl) ?_
  refine q_b1 (fun v8 M9 e7 => ?_)
  refine my_doneI hL (my_runV X hH hl.1 (co_X5_lift g l hst (mR M5 a0 0) p1_ p2_ M5 t6 v8 M9 e7) ok_X5_lift W774 t6 rfl (by decide) rfl rfl rfl ⟨Nat.le_of_ble_eq_true rfl, Nat.le_of_ble_eq_true rfl⟩ ⟨Nat.zero_le _, Nat.zero_le _⟩ (Nat.le_of_ble_eq_true rfl) dX8_raise_18) (fun H locs hH hL => ?_)
  refine q_bx2 (fun v11 M12 e10 => ?_) (fun E13 M12 e10 => my_thrown X.2.2.2.2.2.2.1 htb hL (my_runV X hH hl.1 (co_X8_settled g l hst a0 v8 M9 t0 (.inr E13) M12 e10) ok_X8_settled W381 t0 rfl (by decide) rfl rfl rfl ⟨Nat.le_of_ble_eq_true rfl, Nat.le_of_ble_eq_true rfl⟩ ⟨Nat.le_refl _, Nat.le_refl _⟩ (Nat.le_of_ble_eq_true rfl) dX8_raise_21))
  refine my_doneI hL (my_runV X hH hl.1 (co_X8_settled g l hst a0 v8 M9 t0 (.inl v11) M12 e10) ok_X8_settled W381 t0 rfl (by decide) rfl rfl rfl ⟨Nat.le_of_ble_eq_true rfl, Nat.le_of_ble_eq_true rfl⟩ ⟨Nat.zero_le _, Nat.zero_le _⟩ (Nat.le_of_ble_eq_true rfl) dX8_raise_21) (fun H locs hH hL => ?_)
  exact q_end2 (m_iret X hr hH hL dX8_raise_24)

set_option maxRecDepth 20000 in
set_option maxHeartbeats 4000000 in
theorem co_X5_changeTempo (g : GP) (l : Launch) (hst : l.stackTraces = false) (a0 : Nat) (p1_ : Int32) (M : Mem) (t0 : tyT a0 = 5) (v : Int32) (M' : Mem) (hF : F_X5_changeTempo a0 p1_ M = some (v, M')) : CO g l yX5_changeTempo cX5_changeTempo 3 (some .int) 0 0 rvI [.ref (adr g a0), .int p1_] M (.inl v : Int32 ⊕ String) M' := by
  refine CO_of hst (by decide) (Nat.le_of_ble_eq_true rfl) ?_
  intro p e s m below meth c ls X hr htb hH hL hl
  have hx := X.1
  have hb := X.2.1
  have hts := X.2.2.2.2.1
  refine q_out hF ?_
  rw [F_X5_changeTempo]
  replace hl : lv_has ls 3 [(0, .ref (adr g a0)), (1, .int p1_)] := hl
  refine lv_iload_n hx hb dX5_changeTempo_0 rfl (lv_at hl 1 rfl) ?_
  refine lv_iconst (v := 1) hx hb dX5_changeTempo_1 (by decide) ?_
  refine lv_icmp_lt (tgt := 10) hx hb dX5_changeTempo_2 (by decide) (fun c1 => q_pos c1 ?_) (fun c1 => q_neg c1 ?_)
  · refine lv_bipush (v := (-2)) hx hb dX5_changeTempo_10 (by decide) ?_
    exact q_end1 (m_iret X hr hH hL dX5_changeTempo_12)
  · refine lv_iload_n hx hb dX5_changeTempo_5 rfl (lv_at hl 1 rfl) ?_
    refine lv_iconst (v := 5) hx hb dX5_changeTempo_6 (by decide) ?_
    refine lv_icmp_le (tgt := 13) hx hb dX5_changeTempo_7 (by decide) (fun c2 => q_pos c2 ?_) (fun c2 => q_neg c2 ?_)
    · refine lv_aload_n hx hb dX5_changeTempo_13 rfl (lv_at hl 0 rfl) ?_
      refine m_gI (k := 2) X hH inC5 t0 rfl W161 dX5_changeTempo_14 ?_
      refine q_lt (fun v3 e_v3 => ?_)
      refine q_topI e_v3 ?_
      refine lv_istore_n (lv' := [(2, .int v3), (0, .ref (adr g a0)), (1, .int p1_)]) hx hb dX5_changeTempo_17 rfl hl (by decide) rfl (fun ls hl => ?_)
      refine lv_aload_n hx hb dX5_changeTempo_18 rfl (lv_at hl 1 rfl) ?_
      refine lv_iload_n hx hb dX5_changeTempo_19 rfl (lv_at hl 2 rfl) ?_
      refine q_lt (fun M4 e_M4 => ?_)
      refine m_pI (k := 2) X hH hL okC5 t0 rfl rfl rfl rfl W161 dX5_changeTempo_20 e_M4 (fun H locs hH hL => ?_)
      refine lv_iload_n hx hb dX5_changeTempo_23 rfl (lv_at hl 0 rfl) ?_
      exact q_end1 (m_iret X hr hH hL dX5_changeTempo_24)
    · refine lv_bipush (v := (-2)) hx hb dX5_changeTempo_10 (by decide) ?_
      exact q_end1 (m_iret X hr hH hL dX5_changeTempo_12)

set_option maxRecDepth 20000 in
set_option maxHeartbeats 4000000 in
theorem co_X8_setTempo (g : GP) (l : Launch) (hst : l.stackTraces = false) (a0 : Nat) (p1_ : Int32) (M : Mem) (t0 : tyT a0 = 8) (o : Int32 ⊕ String) (M' : Mem) (hF : F_X8_setTempo a0 p1_ M = some (o, M')) : CO g l yX8_setTempo cX8_setTempo 2 (some .int) 7 221 rvI [.ref (adr g a0), .int p1_] M o M' := by
  refine CO_of hst (by decide) (Nat.le_of_ble_eq_true rfl) ?_
  intro p e s m below meth c ls X hr htb hH hL hl
  have hx := X.1
  have hb := X.2.1
  have hts := X.2.2.2.2.1
  refine q_out hF ?_
  rw [F_X8_setTempo]
  replace hl : lv_has ls 2 [(0, .ref (adr g a0)), (1, .int p1_)] := hl
  refine lv_aload_n hx hb dX8_setTempo_0 rfl (lv_at hl 0 rfl) ?_
  refine m_gR (k := 4) X hH inC8 t0 rfl W283 dX8_setTempo_1 2 rfl (fun t1 => ?_)
  refine lv_aload_n hx hb dX8_setTempo_4 rfl (lv_at hl 0 rfl) ?_
  refine m_gR (k := 0) X hH inC8 t0 rfl W279 dX8_setTempo_5 5 rfl (fun t2 => ?_)
  refine q_b1 (fun u4 M5 e3 => ?_)
  refine my_doneU hL (my_runV X hH hl.1 (co_X2_prepare g l hst (mR M a0 4) (mR M a0 0) M t1 t2 u4 M5 e3) ok_X2_prepare W314 t1 rfl (by decide) rfl rfl rfl ⟨Nat.le_of_ble_eq_true rfl, Nat.le_of_ble_eq_true rfl⟩ ⟨Nat.zero_le _, Nat.zero_le _⟩ (Nat.le_of_ble_eq_true rfl) dX8_setTempo_8) (fun H locs hH hL => ?_)
  refine lv_aload_n hx hb dX8_setTempo_11 rfl (lv_at hl 0 rfl) ?_
  refine lv_aload_n hx hb dX8_setTempo_12 rfl (lv_at hl 0 rfl) ?_
  refine m_gR (k := 0) X hH inC8 t0 rfl W279 dX8_setTempo_13 5 rfl (fun t6 => ?_)
  refine lv_iload_n hx hb dX8_setTempo_16 rfl (lv_at hl 1 rfl) ?_
  refine q_b1 (fun v8 M9 e7 => ?_)
  refine my_doneI hL (my_runV X hH hl.1 (co_X5_changeTempo g l hst (mR M5 a0 0) p1_ M5 t6 v8 M9 e7) ok_X5_changeTempo W793 t6 rfl (by decide) rfl rfl rfl ⟨Nat.le_of_ble_eq_true rfl, Nat.le_of_ble_eq_true rfl⟩ ⟨Nat.zero_le _, Nat.zero_le _⟩ (Nat.le_of_ble_eq_true rfl) dX8_setTempo_17) (fun H locs hH hL => ?_)
  refine q_bx2 (fun v11 M12 e10 => ?_) (fun E13 M12 e10 => my_thrown X.2.2.2.2.2.2.1 htb hL (my_runV X hH hl.1 (co_X8_settled g l hst a0 v8 M9 t0 (.inr E13) M12 e10) ok_X8_settled W381 t0 rfl (by decide) rfl rfl rfl ⟨Nat.le_of_ble_eq_true rfl, Nat.le_of_ble_eq_true rfl⟩ ⟨Nat.le_refl _, Nat.le_refl _⟩ (Nat.le_of_ble_eq_true rfl) dX8_setTempo_20))
  refine my_doneI hL (my_runV X hH hl.1 (co_X8_settled g l hst a0 v8 M9 t0 (.inl v11) M12 e10) ok_X8_settled W381 t0 rfl (by decide) rfl rfl rfl ⟨Nat.le_of_ble_eq_true rfl, Nat.le_of_ble_eq_true rfl⟩ ⟨Nat.zero_le _, Nat.zero_le _⟩ (Nat.le_of_ble_eq_true rfl) dX8_setTempo_20) (fun H locs hH hL => ?_)
  exact q_end2 (m_iret X hr hH hL dX8_setTempo_23)

set_option maxRecDepth 20000 in
set_option maxHeartbeats 4000000 in
theorem co_X5_changeLimit (g : GP) (l : Launch) (hst : l.stackTraces = false) (a0 : Nat) (p1_ : Int32) (M : Mem) (t0 : tyT a0 = 5) (v : Int32) (M' : Mem) (hF : F_X5_changeLimit a0 p1_ M = some (v, M')) : CO g l yX5_changeLimit cX5_changeLimit 3 (some .int) 0 0 rvI [.ref (adr g a0), .int p1_] M (.inl v : Int32 ⊕ String) M' := by
  refine CO_of hst (by decide) (Nat.le_of_ble_eq_true rfl) ?_
  intro p e s m below meth c ls X hr htb hH hL hl
  have hx := X.1
  have hb := X.2.1
  have hts := X.2.2.2.2.1
  refine q_out hF ?_
  rw [F_X5_changeLimit]
  replace hl : lv_has ls 3 [(0, .ref (adr g a0)), (1, .int p1_)] := hl
  refine lv_iload_n hx hb dX5_changeLimit_0 rfl (lv_at hl 1 rfl) ?_
  refine lv_iconst (v := 1) hx hb dX5_changeLimit_1 (by decide) ?_
  refine lv_icmp_lt (tgt := 11) hx hb dX5_changeLimit_2 (by decide) (fun c1 => q_pos c1 ?_) (fun c1 => q_neg c1 ?_)
  · refine lv_bipush (v := (-2)) hx hb dX5_changeLimit_11 (by decide) ?_
    exact q_end1 (m_iret X hr hH hL dX5_changeLimit_13)
  · refine lv_iload_n hx hb dX5_changeLimit_5 rfl (lv_at hl 1 rfl) ?_
    refine lv_bipush (v := 99) hx hb dX5_changeLimit_6 (by decide) ?_
    refine lv_icmp_le (tgt := 14) hx hb dX5_changeLimit_8 (by decide) (fun c2 => q_pos c2 ?_) (fun c2 => q_neg c2 ?_)
    · refine lv_aload_n hx hb dX5_changeLimit_14 rfl (lv_at hl 0 rfl) ?_
      refine m_gI (k := 3) X hH inC5 t0 rfl W163 dX5_changeLimit_15 ?_
      refine q_lt (fun v3 e_v3 => ?_)
      refine q_topI e_v3 ?_
      refine lv_istore_n (lv' := [(2, .int v3), (0, .ref (adr g a0)), (1, .int p1_)]) hx hb dX5_changeLimit_18 rfl hl (by decide) rfl (fun ls hl => ?_)
      refine lv_aload_n hx hb dX5_changeLimit_19 rfl (lv_at hl 1 rfl) ?_
      refine lv_iload_n hx hb dX5_changeLimit_20 rfl (lv_at hl 2 rfl) ?_
      refine q_lt (fun M4 e_M4 => ?_)
      refine m_pI (k := 3) X hH hL okC5 t0 rfl rfl rfl rfl W163 dX5_changeLimit_21 e_M4 (fun H locs hH hL => ?_)
      refine lv_iload_n hx hb dX5_changeLimit_24 rfl (lv_at hl 0 rfl) ?_
      exact q_end1 (m_iret X hr hH hL dX5_changeLimit_25)
    · refine lv_bipush (v := (-2)) hx hb dX5_changeLimit_11 (by decide) ?_
      exact q_end1 (m_iret X hr hH hL dX5_changeLimit_13)

set_option maxRecDepth 20000 in
set_option maxHeartbeats 4000000 in
theorem co_X8_setLimit (g : GP) (l : Launch) (hst : l.stackTraces = false) (a0 : Nat) (p1_ : Int32) (M : Mem) (t0 : tyT a0 = 8) (o : Int32 ⊕ String) (M' : Mem) (hF : F_X8_setLimit a0 p1_ M = some (o, M')) : CO g l yX8_setLimit cX8_setLimit 2 (some .int) 7 221 rvI [.ref (adr g a0), .int p1_] M o M' := by
  refine CO_of hst (by decide) (Nat.le_of_ble_eq_true rfl) ?_
  intro p e s m below meth c ls X hr htb hH hL hl
  have hx := X.1
  have hb := X.2.1
  have hts := X.2.2.2.2.1
  refine q_out hF ?_
  rw [F_X8_setLimit]
  replace hl : lv_has ls 2 [(0, .ref (adr g a0)), (1, .int p1_)] := hl
  refine lv_aload_n hx hb dX8_setLimit_0 rfl (lv_at hl 0 rfl) ?_
  refine m_gR (k := 4) X hH inC8 t0 rfl W283 dX8_setLimit_1 2 rfl (fun t1 => ?_)
  refine lv_aload_n hx hb dX8_setLimit_4 rfl (lv_at hl 0 rfl) ?_
  refine m_gR (k := 0) X hH inC8 t0 rfl W279 dX8_setLimit_5 5 rfl (fun t2 => ?_)
  refine q_b1 (fun u4 M5 e3 => ?_)
  refine my_doneU hL (my_runV X hH hl.1 (co_X2_prepare g l hst (mR M a0 4) (mR M a0 0) M t1 t2 u4 M5 e3) ok_X2_prepare W314 t1 rfl (by decide) rfl rfl rfl ⟨Nat.le_of_ble_eq_true rfl, Nat.le_of_ble_eq_true rfl⟩ ⟨Nat.zero_le _, Nat.zero_le _⟩ (Nat.le_of_ble_eq_true rfl) dX8_setLimit_8) (fun H locs hH hL => ?_)
  refine lv_aload_n hx hb dX8_setLimit_11 rfl (lv_at hl 0 rfl) ?_
  refine lv_aload_n hx hb dX8_setLimit_12 rfl (lv_at hl 0 rfl) ?_
  refine m_gR (k := 0) X hH inC8 t0 rfl W279 dX8_setLimit_13 5 rfl (fun t6 => ?_)
  refine lv_iload_n hx hb dX8_setLimit_16 rfl (lv_at hl 1 rfl) ?_
  refine q_b1 (fun v8 M9 e7 => ?_)
  refine my_doneI hL (my_runV X hH hl.1 (co_X5_changeLimit g l hst (mR M5 a0 0) p1_ M5 t6 v8 M9 e7) ok_X5_changeLimit W804 t6 rfl (by decide) rfl rfl rfl ⟨Nat.le_of_ble_eq_true rfl, Nat.le_of_ble_eq_true rfl⟩ ⟨Nat.zero_le _, Nat.zero_le _⟩ (Nat.le_of_ble_eq_true rfl) dX8_setLimit_17) (fun H locs hH hL => ?_)
  refine q_bx2 (fun v11 M12 e10 => ?_) (fun E13 M12 e10 => my_thrown X.2.2.2.2.2.2.1 htb hL (my_runV X hH hl.1 (co_X8_settled g l hst a0 v8 M9 t0 (.inr E13) M12 e10) ok_X8_settled W381 t0 rfl (by decide) rfl rfl rfl ⟨Nat.le_of_ble_eq_true rfl, Nat.le_of_ble_eq_true rfl⟩ ⟨Nat.le_refl _, Nat.le_refl _⟩ (Nat.le_of_ble_eq_true rfl) dX8_setLimit_20))
  refine my_doneI hL (my_runV X hH hl.1 (co_X8_settled g l hst a0 v8 M9 t0 (.inl v11) M12 e10) ok_X8_settled W381 t0 rfl (by decide) rfl rfl rfl ⟨Nat.le_of_ble_eq_true rfl, Nat.le_of_ble_eq_true rfl⟩ ⟨Nat.zero_le _, Nat.zero_le _⟩ (Nat.le_of_ble_eq_true rfl) dX8_setLimit_20) (fun H locs hH hL => ?_)
  exact q_end2 (m_iret X hr hH hL dX8_setLimit_23)

set_option maxRecDepth 20000 in
set_option maxHeartbeats 4000000 in
theorem co_X4_columnIn (g : GP) (l : Launch) (hst : l.stackTraces = false) (a0 : Nat) (p1_ : Int32) (M : Mem) (t0 : tyT a0 = 4) (v : Int32) (hF : F_X4_columnIn a0 p1_ M = some v) : CO g l yX4_columnIn cX4_columnIn 2 (some .int) 0 0 rvI [.ref (adr g a0), .int p1_] M (.inl v : Int32 ⊕ String) M := by
  refine CO_of hst (by decide) (Nat.le_of_ble_eq_true rfl) ?_
  intro p e s m below meth c ls X hr htb hH hL hl
  have hx := X.1
  have hb := X.2.1
  have hts := X.2.2.2.2.1
  refine q_out hF ?_
  rw [F_X4_columnIn]
  replace hl : lv_has ls 2 [(0, .ref (adr g a0)), (1, .int p1_)] := hl
  refine lv_aload_n hx hb dX4_columnIn_0 rfl (lv_at hl 0 rfl) ?_
  refine m_gI (k := 2) X hH inC4 t0 rfl W125 dX4_columnIn_1 ?_
  refine lv_if_le (tgt := 16) hx hb dX4_columnIn_4 (by decide) (fun c1 => q_pos c1 ?_) (fun c1 => q_neg c1 ?_)
  · refine lv_iconst (v := 0) hx hb dX4_columnIn_16 (by decide) ?_
    exact q_end0 (m_iret X hr hH hL dX4_columnIn_17)
  · refine lv_iload_n hx hb dX4_columnIn_7 rfl (lv_at hl 1 rfl) ?_
    refine lv_aload_n hx hb dX4_columnIn_8 rfl (lv_at hl 0 rfl) ?_
    refine m_gI (k := 2) X hH inC4 t0 rfl W125 dX4_columnIn_9 ?_
    refine q_chk (fun hz2 => ?_)
    refine lv_irem hx hb dX4_columnIn_12 (nz_n hz2) ?_
    refine lv_goto (tgt := 17) hx hb dX4_columnIn_13 (by decide) ?_
    exact q_end0 (m_iret X hr hH hL dX4_columnIn_17)

set_option maxRecDepth 20000 in
set_option maxHeartbeats 4000000 in
theorem co_X5_recordSounds (g : GP) (l : Launch) (hst : l.stackTraces = false) (a0 : Nat) (q1_ : Nat) (p2_ : Int32) (M : Mem) (t0 : tyT a0 = 5) (t_q1_ : tyT q1_ = 4) (v : Unit) (M' : Mem) (hF : F_X5_recordSounds a0 q1_ p2_ M = some (v, M')) : CO g l yX5_recordSounds cX5_recordSounds 6 none 1 20 rvU [.ref (adr g a0), .ref (adr g q1_), .int p2_] M (.inl v : Unit ⊕ String) M' := by
  refine CO_of hst (by decide) (Nat.le_of_ble_eq_true rfl) ?_
  intro p e s m below meth c ls X hr htb hH hL hl
  have hx := X.1
  have hb := X.2.1
  have hts := X.2.2.2.2.1
  refine q_out hF ?_
  rw [F_X5_recordSounds]
  replace hl : lv_has ls 6 [(0, .ref (adr g a0)), (1, .ref (adr g q1_)), (2, .int p2_)] := hl
  refine lv_aload_n hx hb dX5_recordSounds_0 rfl (lv_at hl 1 rfl) ?_
  refine m_gI (k := 0) X hH inC4 t_q1_ rfl W121 dX5_recordSounds_1 ?_
  refine q_bind (fun v2 e1 => ?_)
  refine my_doneI hL (my_runSN X hH hl.1 (co_X8_kindIndex g l hst (mI M q1_ 0) M v2 e1) ok_X8_kindIndex N360 rfl rfl ⟨Nat.le_of_ble_eq_true rfl, Nat.le_of_ble_eq_true rfl⟩ ⟨Nat.zero_le _, Nat.zero_le _⟩ (Nat.le_of_ble_eq_true rfl) dX5_recordSounds_4) (fun H locs hH hL => ?_)
  refine lv_bipush (v := 10) hx hb dX5_recordSounds_7 (by decide) ?_
  refine lv_imul hx hb dX5_recordSounds_9 ?_
  refine q_lt (fun v3 e_v3 => ?_)
  refine q_topI e_v3 ?_
  refine lv_istore_n (lv' := [(3, .int v3), (0, .ref (adr g a0)), (1, .ref (adr g q1_)), (2, .int p2_)]) hx hb dX5_recordSounds_10 rfl hl (by decide) rfl (fun ls hl => ?_)
  refine lv_iload_n hx hb dX5_recordSounds_11 rfl (lv_at hl 3 rfl) ?_
  refine lv_istore (lv' := [(4, .int p2_), (3, .int v3), (0, .ref (adr g a0)), (1, .ref (adr g q1_)), (2, .int p2_)]) hx hb dX5_recordSounds_12 hl (by decide) rfl (fun ls hl => ?_)
  have L27 : ∀ (K : Int32 → Mem → Option (Unit × Mem)) (_ : ∀ (i4 : Int32) (M5 : Mem) (H : Heap) (locs : List Loc) (ls : Array Slot), HR g M5 H → LK g s H locs → lv_has ls 6 [(0, .ref (adr g a0)), (1, .ref (adr g q1_)), (2, .int p2_), (3, .int v3), (4, .int i4)] → W p l e (rmO (.inl v : Unit ⊕ String) 1 20) s m ([.ref (adr g a0), .ref (adr g q1_), .int p2_] : List Value).toArray below meth c H locs 0 0 (GQ (K i4 M5) (v, M') (MQO g below rvU (.inl v : Unit ⊕ String) M' ([.ref (adr g a0), .ref (adr g q1_), .int p2_] : List Value).toArray s)) (F0 m 82 ls [])) (n : Nat) (i4 : Int32) (M5 : Mem) (H : Heap) (locs : List Loc) (ls : Array Slot), HR g M5 H → LK g s H locs → lv_has ls 6 [(0, .ref (adr g a0)), (1, .ref (adr g q1_)), (2, .int p2_), (3, .int v3), (4, .int i4)] → W p l e (rmO (.inl v : Unit ⊕ String) 1 20) s m ([.ref (adr g a0), .ref (adr g q1_), .int p2_] : List Value).toArray below meth c H locs 0 0 (GQ (F_X5_recordSounds_L1 a0 q1_ v3 K n i4 M5) (v, M') (MQO g below rvU (.inl v : Unit ⊕ String) M' ([.ref (adr g a0), .ref (adr g q1_), .int p2_] : List Value).toArray s)) (F0 m 14 ls []) := by
    intro K hK n
    induction n with
    | zero => intros; exact q_none
    | succ n ih =>
      intro i4 M5 H locs ls hH hL hl 
      rw [F_X5_recordSounds_L1]
      refine lv_iload hx hb dX5_recordSounds_14 (lv_at hl 4 rfl) ?_
      refine lv_if_lt (tgt := 82) hx hb dX5_recordSounds_16 (by decide) (fun c7 => q_pos c7 ?_) (fun c7 => q_neg c7 ?_)
      · exact hK i4 M5 _ _ ls hH hL hl 
      · refine lv_iload hx hb dX5_recordSounds_19 (lv_at hl 4 rfl) ?_
        refine lv_aload_n hx hb dX5_recordSounds_21 rfl (lv_at hl 1 rfl) ?_
        refine m_gR (k := 3) X hH inC4 t_q1_ rfl W129 dX5_recordSounds_22 20 rfl (fun t8 => ?_)
        refine m_alen X hH t8 rfl (by decide) (v := 36) (by decide) dX5_recordSounds_25 ?_
        refine lv_icmp_ge (tgt := 82) hx hb dX5_recordSounds_26 (by decide) (fun c9 => q_pos c9 ?_) (fun c9 => q_neg c9 ?_)
        · exact hK i4 M5 _ _ ls hH hL hl 
        · refine lv_iload_n hx hb dX5_recordSounds_29 rfl (lv_at hl 3 rfl) ?_
          refine lv_aload_n hx hb dX5_recordSounds_30 rfl (lv_at hl 1 rfl) ?_
          refine m_gR (k := 3) X hH inC4 t_q1_ rfl W129 dX5_recordSounds_31 20 rfl (fun t10 => ?_)
          refine lv_iload hx hb dX5_recordSounds_34 (lv_at hl 4 rfl) ?_
          refine q_chk (fun hb11 => ?_)
          refine m_iald X hH t10 rfl (by decide) (fun _ => rfl) rfl rfl hb11 dX5_recordSounds_36 ?_
          refine lv_iadd hx hb dX5_recordSounds_37 ?_
          refine q_lt (fun v12 e_v12 => ?_)
          refine q_topI e_v12 ?_
          refine lv_istore (lv' := [(5, .int v12), (0, .ref (adr g a0)), (1, .ref (adr g q1_)), (2, .int p2_), (3, .int v3), (4, .int i4)]) hx hb dX5_recordSounds_38 hl (by decide) rfl (fun ls hl => ?_)
          refine lv_aload_n hx hb dX5_recordSounds_40 rfl (lv_at hl 2 rfl) ?_
          refine m_gR (k := 3) X hH inC4 t_q1_ rfl W129 dX5_recordSounds_41 20 rfl (fun t13 => ?_)
          refine lv_iload hx hb dX5_recordSounds_44 (lv_at hl 5 rfl) ?_
          refine q_chk (fun hb14 => ?_)
          refine m_iald X hH t13 rfl (by decide) (fun _ => rfl) rfl rfl hb14 dX5_recordSounds_46 ?_
          refine lv_if_eq (tgt := 76) hx hb dX5_recordSounds_47 (by decide) (fun c15 => q_pos c15 ?_) (fun c15 => q_neg c15 ?_)
          · refine q_lt (fun v16 e_v16 => ?_)
            refine lv_iinc (v := v16) (lv' := [(4, .int v16), (5, .int v12), (0, .ref (adr g a0)), (1, .ref (adr g q1_)), (2, .int p2_), (3, .int v3)]) hx hb dX5_recordSounds_76 hl (k := 5) rfl (by rw [e_v16]; rfl) (by decide) rfl (fun ls hl => ?_)
            refine lv_goto (tgt := 14) hx hb dX5_recordSounds_79 (by decide) ?_
            exact ih v16 M5 _ _ ls hH hL (lv_sub hl [2, 3, 4, 5, 0] rfl) 
          · refine lv_iload hx hb dX5_recordSounds_50 (lv_at hl 0 rfl) ?_
            refine lv_if_lt (tgt := 76) hx hb dX5_recordSounds_52 (by decide) (fun c17 => q_pos c17 ?_) (fun c17 => q_neg c17 ?_)
            · refine q_lt (fun v18 e_v18 => ?_)
              refine lv_iinc (v := v18) (lv' := [(4, .int v18), (5, .int v12), (0, .ref (adr g a0)), (1, .ref (adr g q1_)), (2, .int p2_), (3, .int v3)]) hx hb dX5_recordSounds_76 hl (k := 5) rfl (by rw [e_v18]; rfl) (by decide) rfl (fun ls hl => ?_)
              refine lv_goto (tgt := 14) hx hb dX5_recordSounds_79 (by decide) ?_
              exact ih v18 M5 _ _ ls hH hL (lv_sub hl [2, 3, 4, 5, 0] rfl) 
            · refine lv_iload hx hb dX5_recordSounds_55 (lv_at hl 0 rfl) ?_
              refine lv_aload_n hx hb dX5_recordSounds_57 rfl (lv_at hl 1 rfl) ?_
              refine m_gR (k := 8) X hH inC5 t0 rfl W173 dX5_recordSounds_58 21 rfl (fun t19 => ?_)
              refine m_alen X hH t19 rfl (by decide) (v := 30) (by decide) dX5_recordSounds_61 ?_
              refine lv_icmp_ge (tgt := 76) hx hb dX5_recordSounds_62 (by decide) (fun c20 => q_pos c20 ?_) (fun c20 => q_neg c20 ?_)
              · refine q_lt (fun v21 e_v21 => ?_)
                refine lv_iinc (v := v21) (lv' := [(4, .int v21), (5, .int v12), (0, .ref (adr g a0)), (1, .ref (adr g q1_)), (2, .int p2_), (3, .int v3)]) hx hb dX5_recordSounds_76 hl (k := 5) rfl (by rw [e_v21]; rfl) (by decide) rfl (fun ls hl => ?_)
                refine lv_goto (tgt := 14) hx hb dX5_recordSounds_79 (by decide) ?_
                exact ih v21 M5 _ _ ls hH hL (lv_sub hl [2, 3, 4, 5, 0] rfl) 
              · refine lv_aload_n hx hb dX5_recordSounds_65 rfl (lv_at hl 1 rfl) ?_
                refine m_gR (k := 8) X hH inC5 t0 rfl W173 dX5_recordSounds_66 21 rfl (fun t22 => ?_)
                refine lv_iload hx hb dX5_recordSounds_69 (lv_at hl 0 rfl) ?_
                refine lv_dup2_11 hx hb dX5_recordSounds_71 rfl rfl ?_
                refine q_chk (fun hb23 => ?_)
                refine m_iald X hH t22 rfl (by decide) (fun _ => rfl) rfl rfl hb23 dX5_recordSounds_72 ?_
                refine lv_iconst (v := 1) hx hb dX5_recordSounds_73 (by decide) ?_
                refine lv_iadd hx hb dX5_recordSounds_74 ?_
                refine q_chk (fun hb24 => ?_)
                refine q_lt (fun M25 e_M25 => ?_)
                refine m_is X hH hL t22 rfl (by decide) (fun _ => rfl) rfl rfl hb24 dX5_recordSounds_75 e_M25 (fun H locs hH hL => ?_)
                refine q_lt (fun v26 e_v26 => ?_)
                refine lv_iinc (v := v26) (lv' := [(4, .int v26), (5, .int v12), (0, .ref (adr g a0)), (1, .ref (adr g q1_)), (2, .int p2_), (3, .int v3)]) hx hb dX5_recordSounds_76 hl (k := 5) rfl (by rw [e_v26]; rfl) (by decide) rfl (fun ls hl => ?_)
                refine lv_goto (tgt := 14) hx hb dX5_recordSounds_79 (by decide) ?_
                exact ih v26 M25 _ _ ls hH hL (lv_sub hl [2, 3, 4, 5, 0] rfl) 
  refine L27 _ (fun x28 M29 H locs ls hH hL hl  => ?_) 3000 p2_ M _ _ ls hH hL (lv_sub hl [2, 3, 4, 1, 0] rfl) 
  exact q_end1 (m_vret X hr hH hL dX5_recordSounds_82)

set_option maxRecDepth 20000 in
set_option maxHeartbeats 4000000 in
theorem co_X8_volumeOf (g : GP) (l : Launch) (hst : l.stackTraces = false) (p1_ : Int32) (p2_ : Int32) (M : Mem)  (v : Int32) (hF : F_X8_volumeOf p1_ p2_ = some v) : CO g l yX8_volumeOf cX8_volumeOf 2 (some .int) 0 0 rvI [.int p1_, .int p2_] M (.inl v : Int32 ⊕ String) M := by
  refine CO_of hst (by decide) (Nat.le_of_ble_eq_true rfl) ?_
  intro p e s m below meth c ls X hr htb hH hL hl
  have hx := X.1
  have hb := X.2.1
  have hts := X.2.2.2.2.1
  refine q_out hF ?_
  rw [F_X8_volumeOf]
  replace hl : lv_has ls 2 [(0, .int p1_), (1, .int p2_)] := hl
  refine lv_iload_n hx hb dX8_volumeOf_0 rfl (lv_at hl 1 rfl) ?_
  refine lv_if_eq (tgt := 10) hx hb dX8_volumeOf_1 (by decide) (fun c1 => q_pos c1 ?_) (fun c1 => q_neg c1 ?_)
  · refine lv_iload_n hx hb dX8_volumeOf_10 rfl (lv_at hl 1 rfl) ?_
    exact q_end0 (m_iret X hr hH hL dX8_volumeOf_11)
  · refine lv_iload_n hx hb dX8_volumeOf_4 rfl (lv_at hl 0 rfl) ?_
    refine lv_bipush (v := 115) hx hb dX8_volumeOf_5 (by decide) ?_
    refine lv_icmp_ne (tgt := 12) hx hb dX8_volumeOf_7 (by decide) (fun c2 => q_neg c2 ?_) (fun c2 => q_pos c2 ?_)
    · refine lv_iload_n hx hb dX8_volumeOf_12 rfl (lv_at hl 0 rfl) ?_
      refine lv_bipush (v := 119) hx hb dX8_volumeOf_13 (by decide) ?_
      refine lv_icmp_ne (tgt := 33) hx hb dX8_volumeOf_15 (by decide) (fun c3 => q_neg c3 ?_) (fun c3 => q_pos c3 ?_)
      · refine lv_iload_n hx hb dX8_volumeOf_33 rfl (lv_at hl 1 rfl) ?_
        refine lv_iconst (v := 2) hx hb dX8_volumeOf_34 (by decide) ?_
        refine lv_irem hx hb dX8_volumeOf_35 (by decide) ?_
        refine lv_if_ne (tgt := 43) hx hb dX8_volumeOf_36 (by decide) (fun c4 => q_neg c4 ?_) (fun c4 => q_pos c4 ?_)
        · refine lv_iconst (v := 5) hx hb dX8_volumeOf_43 (by decide) ?_
          exact q_end0 (m_iret X hr hH hL dX8_volumeOf_44)
        · refine lv_iconst (v := 1) hx hb dX8_volumeOf_39 (by decide) ?_
          refine lv_goto (tgt := 44) hx hb dX8_volumeOf_40 (by decide) ?_
          exact q_end0 (m_iret X hr hH hL dX8_volumeOf_44)
      · refine lv_iload_n hx hb dX8_volumeOf_18 rfl (lv_at hl 1 rfl) ?_
        refine lv_bipush (v := 6) hx hb dX8_volumeOf_19 (by decide) ?_
        refine lv_icmp_le (tgt := 29) hx hb dX8_volumeOf_21 (by decide) (fun c5 => q_pos c5 ?_) (fun c5 => q_neg c5 ?_)
        · refine lv_iconst (v := 2) hx hb dX8_volumeOf_29 (by decide) ?_
          refine lv_iload_n hx hb dX8_volumeOf_30 rfl (lv_at hl 1 rfl) ?_
          refine lv_imul hx hb dX8_volumeOf_31 ?_
          exact q_end0 (m_iret X hr hH hL dX8_volumeOf_32)
        · refine lv_bipush (v := 12) hx hb dX8_volumeOf_24 (by decide) ?_
          refine lv_goto (tgt := 32) hx hb dX8_volumeOf_26 (by decide) ?_
          exact q_end0 (m_iret X hr hH hL dX8_volumeOf_32)
    · refine lv_iload_n hx hb dX8_volumeOf_10 rfl (lv_at hl 1 rfl) ?_
      exact q_end0 (m_iret X hr hH hL dX8_volumeOf_11)

set_option maxRecDepth 20000 in
set_option maxHeartbeats 4000000 in
theorem co_X4_volumeOfColumn (g : GP) (l : Launch) (hst : l.stackTraces = false) (a0 : Nat) (p1_ : Int32) (M : Mem) (t0 : tyT a0 = 4) (v : Int32) (hF : F_X4_volumeOfColumn a0 p1_ M = some v) : CO g l yX4_volumeOfColumn cX4_volumeOfColumn 4 (some .int) 1 21 rvI [.ref (adr g a0), .int p1_] M (.inl v : Int32 ⊕ String) M := by
  refine CO_of hst (by decide) (Nat.le_of_ble_eq_true rfl) ?_
  intro p e s m below meth c ls X hr htb hH hL hl
  have hx := X.1
  have hb := X.2.1
  have hts := X.2.2.2.2.1
  refine q_out hF ?_
  rw [F_X4_volumeOfColumn]
  replace hl : lv_has ls 4 [(0, .ref (adr g a0)), (1, .int p1_)] := hl
  refine lv_iconst (v := 0) hx hb dX4_volumeOfColumn_0 (by decide) ?_
  refine lv_istore_n (lv' := [(2, .int 0), (0, .ref (adr g a0)), (1, .int p1_)]) hx hb dX4_volumeOfColumn_1 rfl hl (by decide) rfl (fun ls hl => ?_)
  refine lv_iload_n hx hb dX4_volumeOfColumn_2 rfl (lv_at hl 2 rfl) ?_
  refine lv_istore_n (lv' := [(3, .int p1_), (2, .int 0), (0, .ref (adr g a0)), (1, .int p1_)]) hx hb dX4_volumeOfColumn_3 rfl hl (by decide) rfl (fun ls hl => ?_)
  have L13 : ∀ (K : Int32 → Int32 → Option Int32) (_ : ∀ (i1 : Int32) (i2 : Int32) (H : Heap) (locs : List Loc) (ls : Array Slot), HR g M H → LK g s H locs → lv_has ls 4 [(0, .ref (adr g a0)), (1, .int p1_), (2, .int i1), (3, .int i2)] → W p l e (rmO (.inl v : Int32 ⊕ String) 1 21) s m ([.ref (adr g a0), .int p1_] : List Value).toArray below meth c H locs 0 0 (GQ (K i1 i2) v (MQO g below rvI (.inl v : Int32 ⊕ String) M ([.ref (adr g a0), .int p1_] : List Value).toArray s)) (F0 m 39 ls [])) (n : Nat) (i1 : Int32) (i2 : Int32) (H : Heap) (locs : List Loc) (ls : Array Slot), HR g M H → LK g s H locs → lv_has ls 4 [(0, .ref (adr g a0)), (1, .int p1_), (2, .int i1), (3, .int i2)] → W p l e (rmO (.inl v : Int32 ⊕ String) 1 21) s m ([.ref (adr g a0), .int p1_] : List Value).toArray below meth c H locs 0 0 (GQ (F_X4_volumeOfColumn_L1 a0 M K n i1 i2) v (MQO g below rvI (.inl v : Int32 ⊕ String) M ([.ref (adr g a0), .int p1_] : List Value).toArray s)) (F0 m 4 ls []) := by
    intro K hK n
    induction n with
    | zero => intros; exact q_none
    | succ n ih =>
      intro i1 i2 H locs ls hH hL hl 
      rw [F_X4_volumeOfColumn_L1]
      refine lv_iload_n hx hb dX4_volumeOfColumn_4 rfl (lv_at hl 3 rfl) ?_
      refine lv_if_lt (tgt := 39) hx hb dX4_volumeOfColumn_5 (by decide) (fun c4 => q_pos c4 ?_) (fun c4 => q_neg c4 ?_)
      · exact hK i1 i2 _ _ ls hH hL hl 
      · refine lv_iload_n hx hb dX4_volumeOfColumn_8 rfl (lv_at hl 3 rfl) ?_
        refine lv_aload_n hx hb dX4_volumeOfColumn_9 rfl (lv_at hl 0 rfl) ?_
        refine m_gR (k := 3) X hH inC4 t0 rfl W128 dX4_volumeOfColumn_10 20 rfl (fun t5 => ?_)
        refine m_alen X hH t5 rfl (by decide) (v := 36) (by decide) dX4_volumeOfColumn_13 ?_
        refine lv_icmp_ge (tgt := 39) hx hb dX4_volumeOfColumn_14 (by decide) (fun c6 => q_pos c6 ?_) (fun c6 => q_neg c6 ?_)
        · exact hK i1 i2 _ _ ls hH hL hl 
        · refine lv_iload_n hx hb dX4_volumeOfColumn_17 rfl (lv_at hl 2 rfl) ?_
          refine lv_aload_n hx hb dX4_volumeOfColumn_18 rfl (lv_at hl 0 rfl) ?_
          refine m_gI (k := 0) X hH inC4 t0 rfl W120 dX4_volumeOfColumn_19 ?_
          refine lv_aload_n hx hb dX4_volumeOfColumn_22 rfl (lv_at hl 0 rfl) ?_
          refine m_gR (k := 3) X hH inC4 t0 rfl W128 dX4_volumeOfColumn_23 20 rfl (fun t7 => ?_)
          refine lv_iload_n hx hb dX4_volumeOfColumn_26 rfl (lv_at hl 3 rfl) ?_
          refine q_chk (fun hb8 => ?_)
          refine m_iald X hH t7 rfl (by decide) (fun _ => rfl) rfl rfl hb8 dX4_volumeOfColumn_27 ?_
          refine q_bind (fun v10 e9 => ?_)
          refine my_doneI hL (my_runSN X hH hl.1 (co_X8_volumeOf g l hst (mI M a0 0) (mI M (mR M a0 3) i2.toNatClampNeg) M v10 e9) ok_X8_volumeOf N367 rfl rfl ⟨Nat.le_of_ble_eq_true rfl, Nat.le_of_ble_eq_true rfl⟩ ⟨Nat.zero_le _, Nat.zero_le _⟩ (Nat.le_of_ble_eq_true rfl) dX4_volumeOfColumn_28) (fun H locs hH hL => ?_)
          refine lv_iadd hx hb dX4_volumeOfColumn_31 ?_
          refine q_lt (fun v11 e_v11 => ?_)
          refine q_topI e_v11 ?_
          refine lv_istore_n (lv' := [(2, .int v11), (0, .ref (adr g a0)), (1, .int p1_), (3, .int i2)]) hx hb dX4_volumeOfColumn_32 rfl hl (by decide) rfl (fun ls hl => ?_)
          refine q_lt (fun v12 e_v12 => ?_)
          refine lv_iinc (v := v12) (lv' := [(3, .int v12), (2, .int v11), (0, .ref (adr g a0)), (1, .int p1_)]) hx hb dX4_volumeOfColumn_33 hl (k := 3) rfl (by rw [e_v12]; rfl) (by decide) rfl (fun ls hl => ?_)
          refine lv_goto (tgt := 4) hx hb dX4_volumeOfColumn_36 (by decide) ?_
          exact ih v11 v12 _ _ ls hH hL (lv_sub hl [2, 3, 1, 0] rfl) 
  refine L13 _ (fun x14 x15 H locs ls hH hL hl  => ?_) 3000 0 p1_ _ _ ls hH hL (lv_sub hl [2, 3, 1, 0] rfl) 
  refine lv_iload_n hx hb dX4_volumeOfColumn_39 rfl (lv_at hl 2 rfl) ?_
  exact q_end0 (m_iret X hr hH hL dX4_volumeOfColumn_40)

set_option maxRecDepth 20000 in
set_option maxHeartbeats 4000000 in
theorem co_X5_playSection (g : GP) (l : Launch) (hst : l.stackTraces = false) (a0 : Nat) (q1_ : Nat) (M : Mem) (t0 : tyT a0 = 5) (t_q1_ : tyT q1_ = 4) (v : Int32) (M' : Mem) (hF : F_X5_playSection a0 q1_ M = some (v, M')) : CO g l yX5_playSection cX5_playSection 4 (some .int) 2 45 rvI [.ref (adr g a0), .ref (adr g q1_)] M (.inl v : Int32 ⊕ String) M' := by
  refine CO_of hst (by decide) (Nat.le_of_ble_eq_true rfl) ?_
  intro p e s m below meth c ls X hr htb hH hL hl
  have hx := X.1
  have hb := X.2.1
  have hts := X.2.2.2.2.1
  refine q_out hF ?_
  rw [F_X5_playSection]
  replace hl : lv_has ls 4 [(0, .ref (adr g a0)), (1, .ref (adr g q1_))] := hl
  refine lv_aload_n hx hb dX5_playSection_0 rfl (lv_at hl 1 rfl) ?_
  refine m_gI (k := 6) X hH inC4 t_q1_ rfl W134 dX5_playSection_1 ?_
  refine lv_if_le (tgt := 19) hx hb dX5_playSection_4 (by decide) (fun c1 => q_pos c1 ?_) (fun c1 => q_neg c1 ?_)
  · refine lv_aload_n hx hb dX5_playSection_19 rfl (lv_at hl 1 rfl) ?_
    refine lv_aload_n hx hb dX5_playSection_20 rfl (lv_at hl 0 rfl) ?_
    refine m_gI (k := 4) X hH inC5 t0 rfl W165 dX5_playSection_21 ?_
    refine q_bind (fun v3 e2 => ?_)
    refine my_doneI hL (my_runV X hH hl.1 (co_X4_columnIn g l hst q1_ (mI M a0 4) M t_q1_ v3 e2) ok_X4_columnIn W348 t_q1_ rfl (by decide) rfl rfl rfl ⟨Nat.le_of_ble_eq_true rfl, Nat.le_of_ble_eq_true rfl⟩ ⟨Nat.zero_le _, Nat.zero_le _⟩ (Nat.le_of_ble_eq_true rfl) dX5_playSection_24) (fun H locs hH hL => ?_)
    refine lv_istore_n (lv' := [(2, .int v3), (0, .ref (adr g a0)), (1, .ref (adr g q1_))]) hx hb dX5_playSection_27 rfl hl (by decide) rfl (fun ls hl => ?_)
    refine lv_aload_n hx hb dX5_playSection_28 rfl (lv_at hl 2 rfl) ?_
    refine lv_iload_n hx hb dX5_playSection_29 rfl (lv_at hl 0 rfl) ?_
    refine q_bind (fun v5 e4 => ?_)
    refine my_doneI hL (my_runV X hH hl.1 (co_X4_masks g l hst q1_ v3 M t_q1_ v5 e4) ok_X4_masks W352 t_q1_ rfl (by decide) rfl rfl rfl ⟨Nat.le_of_ble_eq_true rfl, Nat.le_of_ble_eq_true rfl⟩ ⟨Nat.zero_le _, Nat.zero_le _⟩ (Nat.le_of_ble_eq_true rfl) dX5_playSection_30) (fun H locs hH hL => ?_)
    refine lv_if_eq (tgt := 38) hx hb dX5_playSection_33 (by decide) (fun c6 => q_pos c6 ?_) (fun c6 => q_neg c6 ?_)
    · refine lv_aload_n hx hb dX5_playSection_38 rfl (lv_at hl 1 rfl) ?_
      refine lv_aload_n hx hb dX5_playSection_39 rfl (lv_at hl 2 rfl) ?_
      refine lv_iload_n hx hb dX5_playSection_40 rfl (lv_at hl 0 rfl) ?_
      refine q_b1 (fun u8 M9 e7 => ?_)
      refine my_doneU hL (my_runV X hH hl.1 (co_X5_recordSounds g l hst a0 q1_ v3 M t0 t_q1_ u8 M9 e7) ok_X5_recordSounds W356 t0 rfl (by decide) rfl rfl rfl ⟨Nat.le_of_ble_eq_true rfl, Nat.le_of_ble_eq_true rfl⟩ ⟨Nat.zero_le _, Nat.zero_le _⟩ (Nat.le_of_ble_eq_true rfl) dX5_playSection_41) (fun H locs hH hL => ?_)
      refine lv_aload_n hx hb dX5_playSection_44 rfl (lv_at hl 2 rfl) ?_
      refine lv_iload_n hx hb dX5_playSection_45 rfl (lv_at hl 0 rfl) ?_
      refine q_bind (fun v11 e10 => ?_)
      refine my_doneI hL (my_runV X hH hl.1 (co_X4_volumeOfColumn g l hst q1_ v3 M9 t_q1_ v11 e10) ok_X4_volumeOfColumn W363 t_q1_ rfl (by decide) rfl rfl rfl ⟨Nat.le_of_ble_eq_true rfl, Nat.le_of_ble_eq_true rfl⟩ ⟨Nat.zero_le _, Nat.zero_le _⟩ (Nat.le_of_ble_eq_true rfl) dX5_playSection_46) (fun H locs hH hL => ?_)
      refine lv_istore_n (lv' := [(3, .int v11), (2, .int v3), (0, .ref (adr g a0)), (1, .ref (adr g q1_))]) hx hb dX5_playSection_49 rfl hl (by decide) rfl (fun ls hl => ?_)
      refine lv_aload_n hx hb dX5_playSection_50 rfl (lv_at hl 3 rfl) ?_
      refine lv_dup hx hb dX5_playSection_51 rfl ?_
      refine m_gI (k := 7) X hH inC4 t_q1_ rfl W137 dX5_playSection_52 ?_
      refine lv_iload_n hx hb dX5_playSection_55 rfl (lv_at hl 0 rfl) ?_
      refine lv_iadd hx hb dX5_playSection_56 ?_
      refine q_lt (fun M12 e_M12 => ?_)
      refine m_pI (k := 7) X hH hL okC4 t_q1_ rfl rfl rfl rfl W137 dX5_playSection_57 e_M12 (fun H locs hH hL => ?_)
      refine lv_iload_n hx hb dX5_playSection_60 rfl (lv_at hl 0 rfl) ?_
      exact q_end1 (m_iret X hr hH hL dX5_playSection_61)
    · refine lv_iconst (v := 0) hx hb dX5_playSection_36 (by decide) ?_
      exact q_end1 (m_iret X hr hH hL dX5_playSection_37)
  · refine lv_aload_n hx hb dX5_playSection_7 rfl (lv_at hl 1 rfl) ?_
    refine lv_dup hx hb dX5_playSection_8 rfl ?_
    refine m_gI (k := 6) X hH inC4 t_q1_ rfl W134 dX5_playSection_9 ?_
    refine lv_iconst (v := 1) hx hb dX5_playSection_12 (by decide) ?_
    refine lv_isub hx hb dX5_playSection_13 ?_
    refine q_lt (fun M13 e_M13 => ?_)
    refine m_pI (k := 6) X hH hL okC4 t_q1_ rfl rfl rfl rfl W134 dX5_playSection_14 e_M13 (fun H locs hH hL => ?_)
    refine lv_iconst (v := 0) hx hb dX5_playSection_17 (by decide) ?_
    exact q_end1 (m_iret X hr hH hL dX5_playSection_18)

set_option maxRecDepth 20000 in
set_option maxHeartbeats 4000000 in
theorem co_X4_tire (g : GP) (l : Launch) (hst : l.stackTraces = false) (a0 : Nat) (M : Mem) (t0 : tyT a0 = 4) (v : Unit) (M' : Mem) (hF : F_X4_tire a0 M = some (v, M')) : CO g l yX4_tire cX4_tire 1 none 0 0 rvU [.ref (adr g a0)] M (.inl v : Unit ⊕ String) M' := by
  refine CO_of hst (by decide) (Nat.le_of_ble_eq_true rfl) ?_
  intro p e s m below meth c ls X hr htb hH hL hl
  have hx := X.1
  have hb := X.2.1
  have hts := X.2.2.2.2.1
  refine q_out hF ?_
  rw [F_X4_tire]
  replace hl : lv_has ls 1 [(0, .ref (adr g a0))] := hl
  refine lv_aload_n hx hb dX4_tire_0 rfl (lv_at hl 0 rfl) ?_
  refine lv_dup hx hb dX4_tire_1 rfl ?_
  refine m_gI (k := 5) X hH inC4 t0 rfl W131 dX4_tire_2 ?_
  refine lv_iconst (v := 1) hx hb dX4_tire_5 (by decide) ?_
  refine lv_iadd hx hb dX4_tire_6 ?_
  refine q_lt (fun M1 e_M1 => ?_)
  refine m_pI (k := 5) X hH hL okC4 t0 rfl rfl rfl rfl W131 dX4_tire_7 e_M1 (fun H locs hH hL => ?_)
  refine lv_aload_n hx hb dX4_tire_10 rfl (lv_at hl 0 rfl) ?_
  refine m_gI (k := 5) X hH inC4 t0 rfl W131 dX4_tire_11 ?_
  refine lv_iconst (v := 3) hx hb dX4_tire_14 (by decide) ?_
  refine lv_icmp_ne (tgt := 28) hx hb dX4_tire_15 (by decide) (fun c2 => q_neg c2 ?_) (fun c2 => q_pos c2 ?_)
  · exact q_end1 (m_vret X hr hH hL dX4_tire_28)
  · refine lv_aload_n hx hb dX4_tire_18 rfl (lv_at hl 0 rfl) ?_
    refine lv_iconst (v := 0) hx hb dX4_tire_19 (by decide) ?_
    refine q_lt (fun M3 e_M3 => ?_)
    refine m_pI (k := 5) X hH hL okC4 t0 rfl rfl rfl rfl W131 dX4_tire_20 e_M3 (fun H locs hH hL => ?_)
    refine lv_aload_n hx hb dX4_tire_23 rfl (lv_at hl 0 rfl) ?_
    refine lv_iconst (v := 2) hx hb dX4_tire_24 (by decide) ?_
    refine q_lt (fun M4 e_M4 => ?_)
    refine m_pI (k := 6) X hH hL okC4 t0 rfl rfl rfl rfl W133 dX4_tire_25 e_M4 (fun H locs hH hL => ?_)
    exact q_end1 (m_vret X hr hH hL dX4_tire_28)

set_option maxRecDepth 20000 in
set_option maxHeartbeats 4000000 in
theorem co_X5_logTotal (g : GP) (l : Launch) (hst : l.stackTraces = false) (a0 : Nat) (p1_ : Int32) (M : Mem) (t0 : tyT a0 = 5) (v : Unit) (M' : Mem) (hF : F_X5_logTotal a0 p1_ M = some (v, M')) : CO g l yX5_logTotal cX5_logTotal 3 none 1 30 rvU [.ref (adr g a0), .int p1_] M (.inl v : Unit ⊕ String) M' := by
  refine CO_of hst (by decide) (Nat.le_of_ble_eq_true rfl) ?_
  intro p e s m below meth c ls X hr htb hH hL hl
  have hx := X.1
  have hb := X.2.1
  have hts := X.2.2.2.2.1
  refine q_out hF ?_
  rw [F_X5_logTotal]
  replace hl : lv_has ls 3 [(0, .ref (adr g a0)), (1, .int p1_)] := hl
  refine lv_aload_n hx hb dX5_logTotal_0 rfl (lv_at hl 0 rfl) ?_
  refine m_gI (k := 4) X hH inC5 t0 rfl W165 dX5_logTotal_1 ?_
  refine lv_bipush (v := 10) hx hb dX5_logTotal_4 (by decide) ?_
  refine lv_irem hx hb dX5_logTotal_6 (by decide) ?_
  refine q_lt (fun v1 e_v1 => ?_)
  refine q_topI e_v1 ?_
  refine lv_istore_n (lv' := [(2, .int v1), (0, .ref (adr g a0)), (1, .int p1_)]) hx hb dX5_logTotal_7 rfl hl (by decide) rfl (fun ls hl => ?_)
  refine lv_iload_n hx hb dX5_logTotal_8 rfl (lv_at hl 0 rfl) ?_
  refine lv_if_lt (tgt := 28) hx hb dX5_logTotal_9 (by decide) (fun c2 => q_pos c2 ?_) (fun c2 => q_neg c2 ?_)
  · refine lv_aload_n hx hb dX5_logTotal_28 rfl (lv_at hl 1 rfl) ?_
    refine lv_aload_n hx hb dX5_logTotal_29 rfl (lv_at hl 1 rfl) ?_
    refine m_gI (k := 6) X hH inC5 t0 rfl W169 dX5_logTotal_30 ?_
    refine lv_iload_n hx hb dX5_logTotal_33 rfl (lv_at hl 2 rfl) ?_
    refine va_mmax hx hb (X.2.2.1.trans hl.1.symm) X.2.2.2.1 (hts _ W378) (hts _ W379) (hts _ W82) (hts _ W380) (Nat.le_of_ble_eq_true rfl) (Nat.le_of_ble_eq_true rfl) (Nat.zero_le _) (Nat.zero_le _) dX5_logTotal_34 ?_
    refine q_lt (fun M3 e_M3 => ?_)
    refine m_pI (k := 6) X hH hL okC5 t0 rfl rfl rfl rfl W169 dX5_logTotal_37 e_M3 (fun H locs hH hL => ?_)
    refine lv_aload_n hx hb dX5_logTotal_40 rfl (lv_at hl 1 rfl) ?_
    refine lv_dup hx hb dX5_logTotal_41 rfl ?_
    refine m_gJ (k := 7) X hH inC5 t0 rfl W171 dX5_logTotal_42 ?_
    refine lv_iload_n hx hb dX5_logTotal_45 rfl (lv_at hl 2 rfl) ?_
    refine lv_i2l hx hb dX5_logTotal_46 rfl ?_
    refine lv_ladd hx hb dX5_logTotal_47 ?_
    refine q_lt (fun M4 e_M4 => ?_)
    refine m_pJ (k := 7) X hH hL okC5 t0 rfl rfl W171 dX5_logTotal_48 e_M4 (fun H locs hH hL => ?_)
    refine lv_aload_n hx hb dX5_logTotal_51 rfl (lv_at hl 1 rfl) ?_
    refine lv_dup hx hb dX5_logTotal_52 rfl ?_
    refine m_gI (k := 4) X hH inC5 t0 rfl W165 dX5_logTotal_53 ?_
    refine lv_iconst (v := 1) hx hb dX5_logTotal_56 (by decide) ?_
    refine lv_iadd hx hb dX5_logTotal_57 ?_
    refine q_lt (fun M5 e_M5 => ?_)
    refine m_pI (k := 4) X hH hL okC5 t0 rfl rfl rfl rfl W165 dX5_logTotal_58 e_M5 (fun H locs hH hL => ?_)
    exact q_end1 (m_vret X hr hH hL dX5_logTotal_61)
  · refine lv_iload_n hx hb dX5_logTotal_12 rfl (lv_at hl 0 rfl) ?_
    refine lv_aload_n hx hb dX5_logTotal_13 rfl (lv_at hl 1 rfl) ?_
    refine m_gR (k := 9) X hH inC5 t0 rfl W174 dX5_logTotal_14 22 rfl (fun t6 => ?_)
    refine m_alen X hH t6 rfl (by decide) (v := 10) (by decide) dX5_logTotal_17 ?_
    refine lv_icmp_ge (tgt := 28) hx hb dX5_logTotal_18 (by decide) (fun c7 => q_pos c7 ?_) (fun c7 => q_neg c7 ?_)
    · refine lv_aload_n hx hb dX5_logTotal_28 rfl (lv_at hl 1 rfl) ?_
      refine lv_aload_n hx hb dX5_logTotal_29 rfl (lv_at hl 1 rfl) ?_
      refine m_gI (k := 6) X hH inC5 t0 rfl W169 dX5_logTotal_30 ?_
      refine lv_iload_n hx hb dX5_logTotal_33 rfl (lv_at hl 2 rfl) ?_
      refine va_mmax hx hb (X.2.2.1.trans hl.1.symm) X.2.2.2.1 (hts _ W378) (hts _ W379) (hts _ W82) (hts _ W380) (Nat.le_of_ble_eq_true rfl) (Nat.le_of_ble_eq_true rfl) (Nat.zero_le _) (Nat.zero_le _) dX5_logTotal_34 ?_
      refine q_lt (fun M8 e_M8 => ?_)
      refine m_pI (k := 6) X hH hL okC5 t0 rfl rfl rfl rfl W169 dX5_logTotal_37 e_M8 (fun H locs hH hL => ?_)
      refine lv_aload_n hx hb dX5_logTotal_40 rfl (lv_at hl 1 rfl) ?_
      refine lv_dup hx hb dX5_logTotal_41 rfl ?_
      refine m_gJ (k := 7) X hH inC5 t0 rfl W171 dX5_logTotal_42 ?_
      refine lv_iload_n hx hb dX5_logTotal_45 rfl (lv_at hl 2 rfl) ?_
      refine lv_i2l hx hb dX5_logTotal_46 rfl ?_
      refine lv_ladd hx hb dX5_logTotal_47 ?_
      refine q_lt (fun M9 e_M9 => ?_)
      refine m_pJ (k := 7) X hH hL okC5 t0 rfl rfl W171 dX5_logTotal_48 e_M9 (fun H locs hH hL => ?_)
      refine lv_aload_n hx hb dX5_logTotal_51 rfl (lv_at hl 1 rfl) ?_
      refine lv_dup hx hb dX5_logTotal_52 rfl ?_
      refine m_gI (k := 4) X hH inC5 t0 rfl W165 dX5_logTotal_53 ?_
      refine lv_iconst (v := 1) hx hb dX5_logTotal_56 (by decide) ?_
      refine lv_iadd hx hb dX5_logTotal_57 ?_
      refine q_lt (fun M10 e_M10 => ?_)
      refine m_pI (k := 4) X hH hL okC5 t0 rfl rfl rfl rfl W165 dX5_logTotal_58 e_M10 (fun H locs hH hL => ?_)
      exact q_end1 (m_vret X hr hH hL dX5_logTotal_61)
    · refine lv_aload_n hx hb dX5_logTotal_21 rfl (lv_at hl 1 rfl) ?_
      refine m_gR (k := 9) X hH inC5 t0 rfl W174 dX5_logTotal_22 22 rfl (fun t11 => ?_)
      refine lv_iload_n hx hb dX5_logTotal_25 rfl (lv_at hl 0 rfl) ?_
      refine lv_iload_n hx hb dX5_logTotal_26 rfl (lv_at hl 2 rfl) ?_
      refine q_chk (fun hb12 => ?_)
      refine q_lt (fun M13 e_M13 => ?_)
      refine m_is X hH hL t11 rfl (by decide) (fun _ => rfl) rfl rfl hb12 dX5_logTotal_27 e_M13 (fun H locs hH hL => ?_)
      refine lv_aload_n hx hb dX5_logTotal_28 rfl (lv_at hl 1 rfl) ?_
      refine lv_aload_n hx hb dX5_logTotal_29 rfl (lv_at hl 1 rfl) ?_
      refine m_gI (k := 6) X hH inC5 t0 rfl W169 dX5_logTotal_30 ?_
      refine lv_iload_n hx hb dX5_logTotal_33 rfl (lv_at hl 2 rfl) ?_
      refine va_mmax hx hb (X.2.2.1.trans hl.1.symm) X.2.2.2.1 (hts _ W378) (hts _ W379) (hts _ W82) (hts _ W380) (Nat.le_of_ble_eq_true rfl) (Nat.le_of_ble_eq_true rfl) (Nat.zero_le _) (Nat.zero_le _) dX5_logTotal_34 ?_
      refine q_lt (fun M14 e_M14 => ?_)
      refine m_pI (k := 6) X hH hL okC5 t0 rfl rfl rfl rfl W169 dX5_logTotal_37 e_M14 (fun H locs hH hL => ?_)
      refine lv_aload_n hx hb dX5_logTotal_40 rfl (lv_at hl 1 rfl) ?_
      refine lv_dup hx hb dX5_logTotal_41 rfl ?_
      refine m_gJ (k := 7) X hH inC5 t0 rfl W171 dX5_logTotal_42 ?_
      refine lv_iload_n hx hb dX5_logTotal_45 rfl (lv_at hl 2 rfl) ?_
      refine lv_i2l hx hb dX5_logTotal_46 rfl ?_
      refine lv_ladd hx hb dX5_logTotal_47 ?_
      refine q_lt (fun M15 e_M15 => ?_)
      refine m_pJ (k := 7) X hH hL okC5 t0 rfl rfl W171 dX5_logTotal_48 e_M15 (fun H locs hH hL => ?_)
      refine lv_aload_n hx hb dX5_logTotal_51 rfl (lv_at hl 1 rfl) ?_
      refine lv_dup hx hb dX5_logTotal_52 rfl ?_
      refine m_gI (k := 4) X hH inC5 t0 rfl W165 dX5_logTotal_53 ?_
      refine lv_iconst (v := 1) hx hb dX5_logTotal_56 (by decide) ?_
      refine lv_iadd hx hb dX5_logTotal_57 ?_
      refine q_lt (fun M16 e_M16 => ?_)
      refine m_pI (k := 4) X hH hL okC5 t0 rfl rfl rfl rfl W165 dX5_logTotal_58 e_M16 (fun H locs hH hL => ?_)
      exact q_end1 (m_vret X hr hH hL dX5_logTotal_61)

set_option maxRecDepth 20000 in
set_option maxHeartbeats 4000000 in
theorem co_X5_playBeat (g : GP) (l : Launch) (hst : l.stackTraces = false) (a0 : Nat) (M : Mem) (t0 : tyT a0 = 5) (v : Int32) (M' : Mem) (hF : F_X5_playBeat a0 M = some (v, M')) : CO g l yX5_playBeat cX5_playBeat 6 (some .int) 3 68 rvI [.ref (adr g a0)] M (.inl v : Int32 ⊕ String) M' := by
  refine CO_of hst (by decide) (Nat.le_of_ble_eq_true rfl) ?_
  intro p e s m below meth c ls X hr htb hH hL hl
  have hx := X.1
  have hb := X.2.1
  have hts := X.2.2.2.2.1
  refine q_out hF ?_
  rw [F_X5_playBeat]
  replace hl : lv_has ls 6 [(0, .ref (adr g a0))] := hl
  refine lv_iconst (v := 0) hx hb dX5_playBeat_0 (by decide) ?_
  refine lv_istore_n (lv' := [(1, .int 0), (0, .ref (adr g a0))]) hx hb dX5_playBeat_1 rfl hl (by decide) rfl (fun ls hl => ?_)
  refine m_null (g := g) hx hb dX5_playBeat_2 ?_
  refine m_astoreN (lv' := [(2, vR g 0), (1, .int 0), (0, .ref (adr g a0))]) hx hb dX5_playBeat_3 rfl hl (by decide) rfl (fun ls hl => ?_)
  refine lv_iconst (v := 0) hx hb dX5_playBeat_4 (by decide) ?_
  refine lv_istore_n (lv' := [(3, .int 0), (2, vR g 0), (1, .int 0), (0, .ref (adr g a0))]) hx hb dX5_playBeat_5 rfl hl (by decide) (by first | rfl | (simp only [List.filter_cons, vR_cat]; rfl) | simp [List.filter_cons, vR_cat]) (fun ls hl => ?_)
  refine lv_iconst (v := 0) hx hb dX5_playBeat_6 (by decide) ?_
  refine lv_istore (lv' := [(4, .int 0), (3, .int 0), (2, vR g 0), (1, .int 0), (0, .ref (adr g a0))]) hx hb dX5_playBeat_7 hl (by decide) rfl (fun ls hl => ?_)
  have L24 : ∀ (K : Int32 → Nat → Int32 → Int32 → Mem → Option (Int32 × Mem)) (_ : ∀ (i1 : Int32) (q2 : Nat) (i3 : Int32) (i4 : Int32) (M5 : Mem) (H : Heap) (locs : List Loc) (ls : Array Slot), HR g M5 H → LK g s H locs → lv_has ls 6 [(0, .ref (adr g a0)), (1, .int i1), (2, vR g q2), (3, .int i3), (4, .int i4)] → (q2 = 0 ∨ tyT q2 = 4) → W p l e (rmO (.inl v : Int32 ⊕ String) 3 68) s m ([.ref (adr g a0)] : List Value).toArray below meth c H locs 0 0 (GQ (K i1 q2 i3 i4 M5) (v, M') (MQO g below rvI (.inl v : Int32 ⊕ String) M' ([.ref (adr g a0)] : List Value).toArray s)) (F0 m 69 ls [])) (n : Nat) (i1 : Int32) (q2 : Nat) (i3 : Int32) (i4 : Int32) (M5 : Mem) (H : Heap) (locs : List Loc) (ls : Array Slot), HR g M5 H → LK g s H locs → lv_has ls 6 [(0, .ref (adr g a0)), (1, .int i1), (2, vR g q2), (3, .int i3), (4, .int i4)] → (q2 = 0 ∨ tyT q2 = 4) → W p l e (rmO (.inl v : Int32 ⊕ String) 3 68) s m ([.ref (adr g a0)] : List Value).toArray below meth c H locs 0 0 (GQ (F_X5_playBeat_L1 a0 K n i1 q2 i3 i4 M5) (v, M') (MQO g below rvI (.inl v : Int32 ⊕ String) M' ([.ref (adr g a0)] : List Value).toArray s)) (F0 m 9 ls []) := by
    intro K hK n
    induction n with
    | zero => intros; exact q_none
    | succ n ih =>
      intro i1 q2 i3 i4 M5 H locs ls hH hL hl t_q2
      rw [F_X5_playBeat_L1]
      refine lv_iload hx hb dX5_playBeat_9 (lv_at hl 4 rfl) ?_
      refine lv_aload_n hx hb dX5_playBeat_11 rfl (lv_at hl 0 rfl) ?_
      refine m_gI (k := 1) X hH inC5 t0 rfl W159 dX5_playBeat_12 ?_
      refine lv_icmp_ge (tgt := 69) hx hb dX5_playBeat_15 (by decide) (fun c7 => q_pos c7 ?_) (fun c7 => q_neg c7 ?_)
      · exact hK i1 q2 i3 i4 M5 _ _ ls hH hL hl t_q2
      · refine lv_iload hx hb dX5_playBeat_18 (lv_at hl 4 rfl) ?_
        refine lv_aload_n hx hb dX5_playBeat_20 rfl (lv_at hl 0 rfl) ?_
        refine m_gR (k := 0) X hH inC5 t0 rfl W157 dX5_playBeat_21 29 rfl (fun t8 => ?_)
        refine m_alen X hH t8 rfl (by decide) (v := 5) (by decide) dX5_playBeat_24 ?_
        refine lv_icmp_ge (tgt := 69) hx hb dX5_playBeat_25 (by decide) (fun c9 => q_pos c9 ?_) (fun c9 => q_neg c9 ?_)
        · exact hK i1 q2 i3 i4 M5 _ _ ls hH hL hl t_q2
        · refine lv_aload_n hx hb dX5_playBeat_28 rfl (lv_at hl 0 rfl) ?_
          refine lv_aload_n hx hb dX5_playBeat_29 rfl (lv_at hl 0 rfl) ?_
          refine m_gR (k := 0) X hH inC5 t0 rfl W157 dX5_playBeat_30 29 rfl (fun t10 => ?_)
          refine lv_iload hx hb dX5_playBeat_33 (lv_at hl 4 rfl) ?_
          refine q_chk (fun hb11 => ?_)
          refine m_aald X hH t10 rfl (by decide) (fun _ => rfl) rfl rfl (t2 := 4) (fun _ => rfl) hb11 dX5_playBeat_35 (fun t12 => ?_)
          refine q_b1 (fun v14 M15 e13 => ?_)
          refine my_doneI hL (my_runV X hH hl.1 (co_X5_playSection g l hst a0 (mR M5 (mR M5 a0 0) i4.toNatClampNeg) M5 t0 t12 v14 M15 e13) ok_X5_playSection W344 t0 rfl (by decide) rfl rfl rfl ⟨Nat.le_of_ble_eq_true rfl, Nat.le_of_ble_eq_true rfl⟩ ⟨Nat.zero_le _, Nat.zero_le _⟩ (Nat.le_of_ble_eq_true rfl) dX5_playBeat_36) (fun H locs hH hL => ?_)
          refine lv_istore (lv' := [(5, .int v14), (0, .ref (adr g a0)), (1, .int i1), (2, vR g q2), (3, .int i3), (4, .int i4)]) hx hb dX5_playBeat_39 hl (by decide) rfl (fun ls hl => ?_)
          refine lv_iload_n hx hb dX5_playBeat_41 rfl (lv_at hl 2 rfl) ?_
          refine lv_iload hx hb dX5_playBeat_42 (lv_at hl 0 rfl) ?_
          refine lv_iadd hx hb dX5_playBeat_44 ?_
          refine q_lt (fun v16 e_v16 => ?_)
          refine q_topI e_v16 ?_
          refine lv_istore_n (lv' := [(1, .int v16), (5, .int v14), (0, .ref (adr g a0)), (2, vR g q2), (3, .int i3), (4, .int i4)]) hx hb dX5_playBeat_45 rfl hl (by decide) rfl (fun ls hl => ?_)
          refine lv_iload hx hb dX5_playBeat_46 (lv_at hl 1 rfl) ?_
          refine lv_iload_n hx hb dX5_playBeat_48 rfl (lv_at hl 4 rfl) ?_
          refine lv_icmp_le (tgt := 63) hx hb dX5_playBeat_49 (by decide) (fun c17 => q_pos c17 ?_) (fun c17 => q_neg c17 ?_)
          · refine q_lt (fun v18 e_v18 => ?_)
            refine lv_iinc (v := v18) (lv' := [(4, .int v18), (1, .int v16), (5, .int v14), (0, .ref (adr g a0)), (2, vR g q2), (3, .int i3)]) hx hb dX5_playBeat_63 hl (k := 5) rfl (by rw [e_v18]; rfl) (by decide) rfl (fun ls hl => ?_)
            refine lv_goto (tgt := 9) hx hb dX5_playBeat_66 (by decide) ?_
            exact ih v16 q2 i3 v18 M15 _ _ ls hH hL (lv_sub hl [3, 1, 4, 5, 0] rfl) t_q2
          · refine lv_iload hx hb dX5_playBeat_52 (lv_at hl 1 rfl) ?_
            refine lv_istore_n (lv' := [(3, .int v14), (1, .int v16), (5, .int v14), (0, .ref (adr g a0)), (2, vR g q2), (4, .int i4)]) hx hb dX5_playBeat_54 rfl hl (by decide) (by first | rfl | (simp only [List.filter_cons, vR_cat]; rfl) | simp [List.filter_cons, vR_cat]) (fun ls hl => ?_)
            refine lv_aload_n hx hb dX5_playBeat_55 rfl (lv_at hl 3 rfl) ?_
            refine m_gR (k := 0) X hH inC5 t0 rfl W157 dX5_playBeat_56 29 rfl (fun t19 => ?_)
            refine lv_iload hx hb dX5_playBeat_59 (lv_at hl 5 rfl) ?_
            refine q_chk (fun hb20 => ?_)
            refine m_aald X hH t19 rfl (by decide) (fun _ => rfl) rfl rfl (t2 := 4) (fun _ => rfl) hb20 dX5_playBeat_61 (fun t21 => ?_)
            refine q_lt (fun q22 e_q22 => ?_)
            refine q_topR e_q22 ?_
            have t_q22 : tyT q22 = 4 := by rw [e_q22]; exact t21
            refine q_topN t_q22 (by decide) ?_
            refine m_astoreN (lv' := [(2, vR g q22), (3, .int v14), (1, .int v16), (5, .int v14), (0, .ref (adr g a0)), (4, .int i4)]) hx hb dX5_playBeat_62 rfl hl (by decide) rfl (fun ls hl => ?_)
            refine q_lt (fun v23 e_v23 => ?_)
            refine lv_iinc (v := v23) (lv' := [(4, .int v23), (2, vR g q22), (3, .int v14), (1, .int v16), (5, .int v14), (0, .ref (adr g a0))]) hx hb dX5_playBeat_63 hl (k := 5) rfl (by rw [e_v23]; rfl) (by decide) rfl (fun ls hl => ?_)
            refine lv_goto (tgt := 9) hx hb dX5_playBeat_66 (by decide) ?_
            exact ih v16 q22 v14 v23 M15 _ _ ls hH hL (lv_sub hl [5, 3, 1, 2, 0] rfl) (Or.inr t_q22)
  refine L24 _ (fun x25 q26 x27 x28 M29 H locs ls hH hL hl t_q26 => ?_) 3000 0 0 0 0 M _ _ ls hH hL (lv_sub hl [4, 3, 2, 1, 0] rfl) (Or.inl rfl)
  refine lv_iload_n hx hb dX5_playBeat_69 rfl (lv_at hl 1 rfl) ?_
  refine lv_aload_n hx hb dX5_playBeat_70 rfl (lv_at hl 0 rfl) ?_
  refine m_gI (k := 3) X hH inC5 t0 rfl W163 dX5_playBeat_71 ?_
  refine lv_icmp_le (tgt := 95) hx hb dX5_playBeat_74 (by decide) (fun c30 => q_pos c30 ?_) (fun c30 => q_neg c30 ?_)
  · refine lv_aload_n hx hb dX5_playBeat_95 rfl (lv_at hl 0 rfl) ?_
    refine lv_iload_n hx hb dX5_playBeat_96 rfl (lv_at hl 1 rfl) ?_
    refine q_b1 (fun u32 M33 e31 => ?_)
    refine my_doneU hL (my_runV X hH hl.1 (co_X5_logTotal g l hst a0 x25 M29 t0 u32 M33 e31) ok_X5_logTotal W374 t0 rfl (by decide) rfl rfl rfl ⟨Nat.le_of_ble_eq_true rfl, Nat.le_of_ble_eq_true rfl⟩ ⟨Nat.zero_le _, Nat.zero_le _⟩ (Nat.le_of_ble_eq_true rfl) dX5_playBeat_97) (fun H locs hH hL => ?_)
    refine lv_iload_n hx hb dX5_playBeat_100 rfl (lv_at hl 1 rfl) ?_
    exact q_end1 (m_iret X hr hH hL dX5_playBeat_101)
  · refine m_aloadN hx hb dX5_playBeat_77 rfl (lv_at hl 2 rfl) ?_
    refine m_ifnull (tgt := 95) hx hb dX5_playBeat_78 (by decide) (fun c34 => q_pos c34 ?_) (fun c34 => q_neg c34 ?_)
    · refine lv_aload_n hx hb dX5_playBeat_95 rfl (lv_at hl 0 rfl) ?_
      refine lv_iload_n hx hb dX5_playBeat_96 rfl (lv_at hl 1 rfl) ?_
      refine q_b1 (fun u36 M37 e35 => ?_)
      refine my_doneU hL (my_runV X hH hl.1 (co_X5_logTotal g l hst a0 x25 M29 t0 u36 M37 e35) ok_X5_logTotal W374 t0 rfl (by decide) rfl rfl rfl ⟨Nat.le_of_ble_eq_true rfl, Nat.le_of_ble_eq_true rfl⟩ ⟨Nat.zero_le _, Nat.zero_le _⟩ (Nat.le_of_ble_eq_true rfl) dX5_playBeat_97) (fun H locs hH hL => ?_)
      refine lv_iload_n hx hb dX5_playBeat_100 rfl (lv_at hl 1 rfl) ?_
      exact q_end1 (m_iret X hr hH hL dX5_playBeat_101)
    · have t38 : tyT q26 = 4 := Or.resolve_left t_q26 c34
      rw [vR_ty t38 (by decide)] at hl
      refine lv_aload_n hx hb dX5_playBeat_81 rfl (lv_at hl 0 rfl) ?_
      refine lv_dup hx hb dX5_playBeat_82 rfl ?_
      refine m_gI (k := 5) X hH inC5 t0 rfl W167 dX5_playBeat_83 ?_
      refine lv_iconst (v := 1) hx hb dX5_playBeat_86 (by decide) ?_
      refine lv_iadd hx hb dX5_playBeat_87 ?_
      refine q_lt (fun M39 e_M39 => ?_)
      refine m_pI (k := 5) X hH hL okC5 t0 rfl rfl rfl rfl W167 dX5_playBeat_88 e_M39 (fun H locs hH hL => ?_)
      refine lv_aload_n hx hb dX5_playBeat_91 rfl (lv_at hl 2 rfl) ?_
      refine q_b1 (fun u41 M42 e40 => ?_)
      refine my_doneU hL (my_runV X hH hl.1 (co_X4_tire g l hst q26 M39 t38 u41 M42 e40) ok_X4_tire W370 t38 rfl (by decide) rfl rfl rfl ⟨Nat.le_of_ble_eq_true rfl, Nat.le_of_ble_eq_true rfl⟩ ⟨Nat.zero_le _, Nat.zero_le _⟩ (Nat.le_of_ble_eq_true rfl) dX5_playBeat_92) (fun H locs hH hL => ?_)
      refine lv_aload_n hx hb dX5_playBeat_95 rfl (lv_at hl 0 rfl) ?_
      refine lv_iload_n hx hb dX5_playBeat_96 rfl (lv_at hl 1 rfl) ?_
      refine q_b1 (fun u44 M45 e43 => ?_)
      refine my_doneU hL (my_runV X hH hl.1 (co_X5_logTotal g l hst a0 x25 M42 t0 u44 M45 e43) ok_X5_logTotal W374 t0 rfl (by decide) rfl rfl rfl ⟨Nat.le_of_ble_eq_true rfl, Nat.le_of_ble_eq_true rfl⟩ ⟨Nat.zero_le _, Nat.zero_le _⟩ (Nat.le_of_ble_eq_true rfl) dX5_playBeat_97) (fun H locs hH hL => ?_)
      refine lv_iload_n hx hb dX5_playBeat_100 rfl (lv_at hl 1 rfl) ?_
      exact q_end1 (m_iret X hr hH hL dX5_playBeat_101)

set_option maxRecDepth 20000 in
set_option maxHeartbeats 4000000 in
theorem co_X5_play (g : GP) (l : Launch) (hst : l.stackTraces = false) (a0 : Nat) (p1_ : Int32) (M : Mem) (t0 : tyT a0 = 5) (v : Int32) (M' : Mem) (hF : F_X5_play a0 p1_ M = some (v, M')) : CO g l yX5_play cX5_play 4 (some .int) 4 93 rvI [.ref (adr g a0), .int p1_] M (.inl v : Int32 ⊕ String) M' := by
  refine CO_of hst (by decide) (Nat.le_of_ble_eq_true rfl) ?_
  intro p e s m below meth c ls X hr htb hH hL hl
  have hx := X.1
  have hb := X.2.1
  have hts := X.2.2.2.2.1
  refine q_out hF ?_
  rw [F_X5_play]
  replace hl : lv_has ls 4 [(0, .ref (adr g a0)), (1, .int p1_)] := hl
  refine lv_iconst (v := 0) hx hb dX5_play_0 (by decide) ?_
  refine lv_istore_n (lv' := [(2, .int 0), (0, .ref (adr g a0)), (1, .int p1_)]) hx hb dX5_play_1 rfl hl (by decide) rfl (fun ls hl => ?_)
  refine lv_iconst (v := 0) hx hb dX5_play_2 (by decide) ?_
  refine lv_istore_n (lv' := [(3, .int 0), (2, .int 0), (0, .ref (adr g a0)), (1, .int p1_)]) hx hb dX5_play_3 rfl hl (by decide) rfl (fun ls hl => ?_)
  have L11 : ∀ (K : Int32 → Int32 → Mem → Option (Int32 × Mem)) (_ : ∀ (i1 : Int32) (i2 : Int32) (M3 : Mem) (H : Heap) (locs : List Loc) (ls : Array Slot), HR g M3 H → LK g s H locs → lv_has ls 4 [(0, .ref (adr g a0)), (1, .int p1_), (2, .int i1), (3, .int i2)] → W p l e (rmO (.inl v : Int32 ⊕ String) 4 93) s m ([.ref (adr g a0), .int p1_] : List Value).toArray below meth c H locs 0 0 (GQ (K i1 i2 M3) (v, M') (MQO g below rvI (.inl v : Int32 ⊕ String) M' ([.ref (adr g a0), .int p1_] : List Value).toArray s)) (F0 m 22 ls [])) (n : Nat) (i1 : Int32) (i2 : Int32) (M3 : Mem) (H : Heap) (locs : List Loc) (ls : Array Slot), HR g M3 H → LK g s H locs → lv_has ls 4 [(0, .ref (adr g a0)), (1, .int p1_), (2, .int i1), (3, .int i2)] → W p l e (rmO (.inl v : Int32 ⊕ String) 4 93) s m ([.ref (adr g a0), .int p1_] : List Value).toArray below meth c H locs 0 0 (GQ (F_X5_play_L1 a0 p1_ K n i1 i2 M3) (v, M') (MQO g below rvI (.inl v : Int32 ⊕ String) M' ([.ref (adr g a0), .int p1_] : List Value).toArray s)) (F0 m 4 ls []) := by
    intro K hK n
    induction n with
    | zero => intros; exact q_none
    | succ n ih =>
      intro i1 i2 M3 H locs ls hH hL hl 
      rw [F_X5_play_L1]
      refine lv_iload_n hx hb dX5_play_4 rfl (lv_at hl 3 rfl) ?_
      refine lv_iload_n hx hb dX5_play_5 rfl (lv_at hl 1 rfl) ?_
      refine lv_icmp_ge (tgt := 22) hx hb dX5_play_6 (by decide) (fun c5 => q_pos c5 ?_) (fun c5 => q_neg c5 ?_)
      · exact hK i1 i2 M3 _ _ ls hH hL hl 
      · refine lv_iload_n hx hb dX5_play_9 rfl (lv_at hl 2 rfl) ?_
        refine lv_aload_n hx hb dX5_play_10 rfl (lv_at hl 0 rfl) ?_
        refine q_b1 (fun v7 M8 e6 => ?_)
        refine my_doneI hL (my_runV X hH hl.1 (co_X5_playBeat g l hst a0 M3 t0 v7 M8 e6) ok_X5_playBeat W340 t0 rfl (by decide) rfl rfl rfl ⟨Nat.le_of_ble_eq_true rfl, Nat.le_of_ble_eq_true rfl⟩ ⟨Nat.zero_le _, Nat.zero_le _⟩ (Nat.le_of_ble_eq_true rfl) dX5_play_11) (fun H locs hH hL => ?_)
        refine lv_iadd hx hb dX5_play_14 ?_
        refine q_lt (fun v9 e_v9 => ?_)
        refine q_topI e_v9 ?_
        refine lv_istore_n (lv' := [(2, .int v9), (0, .ref (adr g a0)), (1, .int p1_), (3, .int i2)]) hx hb dX5_play_15 rfl hl (by decide) rfl (fun ls hl => ?_)
        refine q_lt (fun v10 e_v10 => ?_)
        refine lv_iinc (v := v10) (lv' := [(3, .int v10), (2, .int v9), (0, .ref (adr g a0)), (1, .int p1_)]) hx hb dX5_play_16 hl (k := 3) rfl (by rw [e_v10]; rfl) (by decide) rfl (fun ls hl => ?_)
        refine lv_goto (tgt := 4) hx hb dX5_play_19 (by decide) ?_
        exact ih v9 v10 M8 _ _ ls hH hL (lv_sub hl [2, 3, 1, 0] rfl) 
  refine L11 _ (fun x12 x13 M14 H locs ls hH hL hl  => ?_) 3000 0 0 M _ _ ls hH hL (lv_sub hl [2, 3, 1, 0] rfl) 
  refine lv_iload_n hx hb dX5_play_22 rfl (lv_at hl 2 rfl) ?_
  exact q_end1 (m_iret X hr hH hL dX5_play_23)

set_option maxRecDepth 20000 in
set_option maxHeartbeats 4000000 in
theorem co_X8_conductWave (g : GP) (l : Launch) (hst : l.stackTraces = false) (a0 : Nat) (M : Mem) (t0 : tyT a0 = 8) (o : Int32 ⊕ String) (M' : Mem) (hF : F_X8_conductWave a0 M = some (o, M')) : CO g l yX8_conductWave cX8_conductWave 1 (some .int) 7 221 rvI [.ref (adr g a0)] M o M' := by
  refine CO_of hst (by decide) (Nat.le_of_ble_eq_true rfl) ?_
  intro p e s m below meth c ls X hr htb hH hL hl
  have hx := X.1
  have hb := X.2.1
  have hts := X.2.2.2.2.1
  refine q_out hF ?_
  rw [F_X8_conductWave]
  replace hl : lv_has ls 1 [(0, .ref (adr g a0))] := hl
  refine lv_aload_n hx hb dX8_conductWave_0 rfl (lv_at hl 0 rfl) ?_
  refine m_gR (k := 4) X hH inC8 t0 rfl W283 dX8_conductWave_1 2 rfl (fun t1 => ?_)
  refine lv_aload_n hx hb dX8_conductWave_4 rfl (lv_at hl 0 rfl) ?_
  refine m_gR (k := 0) X hH inC8 t0 rfl W279 dX8_conductWave_5 5 rfl (fun t2 => ?_)
  refine q_b1 (fun u4 M5 e3 => ?_)
  refine my_doneU hL (my_runV X hH hl.1 (co_X2_prepare g l hst (mR M a0 4) (mR M a0 0) M t1 t2 u4 M5 e3) ok_X2_prepare W314 t1 rfl (by decide) rfl rfl rfl ⟨Nat.le_of_ble_eq_true rfl, Nat.le_of_ble_eq_true rfl⟩ ⟨Nat.zero_le _, Nat.zero_le _⟩ (Nat.le_of_ble_eq_true rfl) dX8_conductWave_8) (fun H locs hH hL => ?_)
  refine lv_aload_n hx hb dX8_conductWave_11 rfl (lv_at hl 0 rfl) ?_
  refine lv_aload_n hx hb dX8_conductWave_12 rfl (lv_at hl 0 rfl) ?_
  refine m_gR (k := 0) X hH inC8 t0 rfl W279 dX8_conductWave_13 5 rfl (fun t6 => ?_)
  refine lv_aload_n hx hb dX8_conductWave_16 rfl (lv_at hl 0 rfl) ?_
  refine m_gR (k := 0) X hH inC8 t0 rfl W279 dX8_conductWave_17 5 rfl (fun t7 => ?_)
  refine m_gI (k := 2) X hH inC5 t7 rfl W162 dX8_conductWave_20 ?_
  refine q_b1 (fun v9 M10 e8 => ?_)
  refine my_doneI hL (my_runV X hH hl.1 (co_X5_play g l hst (mR M5 a0 0) (mI M5 (mR M5 a0 0) 2) M5 t6 v9 M10 e8) ok_X5_play W336 t6 rfl (by decide) rfl rfl rfl ⟨Nat.le_of_ble_eq_true rfl, Nat.le_of_ble_eq_true rfl⟩ ⟨Nat.zero_le _, Nat.zero_le _⟩ (Nat.le_of_ble_eq_true rfl) dX8_conductWave_23) (fun H locs hH hL => ?_)
  refine q_bx2 (fun v12 M13 e11 => ?_) (fun E14 M13 e11 => my_thrown X.2.2.2.2.2.2.1 htb hL (my_runV X hH hl.1 (co_X8_settled g l hst a0 v9 M10 t0 (.inr E14) M13 e11) ok_X8_settled W381 t0 rfl (by decide) rfl rfl rfl ⟨Nat.le_of_ble_eq_true rfl, Nat.le_of_ble_eq_true rfl⟩ ⟨Nat.le_refl _, Nat.le_refl _⟩ (Nat.le_of_ble_eq_true rfl) dX8_conductWave_26))
  refine my_doneI hL (my_runV X hH hl.1 (co_X8_settled g l hst a0 v9 M10 t0 (.inl v12) M13 e11) ok_X8_settled W381 t0 rfl (by decide) rfl rfl rfl ⟨Nat.le_of_ble_eq_true rfl, Nat.le_of_ble_eq_true rfl⟩ ⟨Nat.zero_le _, Nat.zero_le _⟩ (Nat.le_of_ble_eq_true rfl) dX8_conductWave_26) (fun H locs hH hL => ?_)
  exact q_end2 (m_iret X hr hH hL dX8_conductWave_29)

set_option maxRecDepth 20000 in
set_option maxHeartbeats 4000000 in
theorem co_X8_isBeats (g : GP) (l : Launch) (hst : l.stackTraces = false) (p1_ : Int32) (M : Mem)  (v : Int32) (hF : F_X8_isBeats p1_ = some v) : CO g l yX8_isBeats cX8_isBeats 1 (some .boolean) 0 0 rvI [.int p1_] M (.inl v : Int32 ⊕ String) M := by
  refine CO_of hst (by decide) (Nat.le_of_ble_eq_true rfl) ?_
  intro p e s m below meth c ls X hr htb hH hL hl
  have hx := X.1
  have hb := X.2.1
  have hts := X.2.2.2.2.1
  refine q_out hF ?_
  rw [F_X8_isBeats]
  replace hl : lv_has ls 1 [(0, .int p1_)] := hl
  refine lv_iload_n hx hb dX8_isBeats_0 rfl (lv_at hl 0 rfl) ?_
  refine lv_iconst (v := 1) hx hb dX8_isBeats_1 (by decide) ?_
  refine lv_icmp_lt (tgt := 15) hx hb dX8_isBeats_2 (by decide) (fun c1 => q_pos c1 ?_) (fun c1 => q_neg c1 ?_)
  · refine lv_iconst (v := 0) hx hb dX8_isBeats_15 (by decide) ?_
    exact q_end0 (m_zret X hr hH hL (by decide) dX8_isBeats_16)
  · refine lv_iload_n hx hb dX8_isBeats_5 rfl (lv_at hl 0 rfl) ?_
    refine lv_bipush (v := 40) hx hb dX8_isBeats_6 (by decide) ?_
    refine lv_icmp_gt (tgt := 15) hx hb dX8_isBeats_8 (by decide) (fun c2 => q_pos c2 ?_) (fun c2 => q_neg c2 ?_)
    · refine lv_iconst (v := 0) hx hb dX8_isBeats_15 (by decide) ?_
      exact q_end0 (m_zret X hr hH hL (by decide) dX8_isBeats_16)
    · refine lv_iconst (v := 1) hx hb dX8_isBeats_11 (by decide) ?_
      refine lv_goto (tgt := 16) hx hb dX8_isBeats_12 (by decide) ?_
      exact q_end0 (m_zret X hr hH hL (by decide) dX8_isBeats_16)

set_option maxRecDepth 20000 in
set_option maxHeartbeats 4000000 in
theorem co_X8_conductBeats (g : GP) (l : Launch) (hst : l.stackTraces = false) (a0 : Nat) (p1_ : Int32) (M : Mem) (t0 : tyT a0 = 8) (o : Int32 ⊕ String) (M' : Mem) (hF : F_X8_conductBeats a0 p1_ M = some (o, M')) : CO g l yX8_conductBeats cX8_conductBeats 2 (some .int) 7 221 rvI [.ref (adr g a0), .int p1_] M o M' := by
  refine CO_of hst (by decide) (Nat.le_of_ble_eq_true rfl) ?_
  intro p e s m below meth c ls X hr htb hH hL hl
  have hx := X.1
  have hb := X.2.1
  have hts := X.2.2.2.2.1
  refine q_out hF ?_
  rw [F_X8_conductBeats]
  replace hl : lv_has ls 2 [(0, .ref (adr g a0)), (1, .int p1_)] := hl
  refine lv_aload_n hx hb dX8_conductBeats_0 rfl (lv_at hl 0 rfl) ?_
  refine m_gR (k := 4) X hH inC8 t0 rfl W283 dX8_conductBeats_1 2 rfl (fun t1 => ?_)
  refine lv_aload_n hx hb dX8_conductBeats_4 rfl (lv_at hl 0 rfl) ?_
  refine m_gR (k := 0) X hH inC8 t0 rfl W279 dX8_conductBeats_5 5 rfl (fun t2 => ?_)
  refine q_b1 (fun u4 M5 e3 => ?_)
  refine my_doneU hL (my_runV X hH hl.1 (co_X2_prepare g l hst (mR M a0 4) (mR M a0 0) M t1 t2 u4 M5 e3) ok_X2_prepare W314 t1 rfl (by decide) rfl rfl rfl ⟨Nat.le_of_ble_eq_true rfl, Nat.le_of_ble_eq_true rfl⟩ ⟨Nat.zero_le _, Nat.zero_le _⟩ (Nat.le_of_ble_eq_true rfl) dX8_conductBeats_8) (fun H locs hH hL => ?_)
  refine lv_aload_n hx hb dX8_conductBeats_11 rfl (lv_at hl 0 rfl) ?_
  refine lv_iload_n hx hb dX8_conductBeats_12 rfl (lv_at hl 1 rfl) ?_
  refine q_bind (fun v7 e6 => ?_)
  refine my_doneI hL (my_runS X hH hl.1 (co_X8_isBeats g l hst p1_ M5 v7 e6) ok_X8_isBeats W815 rfl rfl ⟨Nat.le_of_ble_eq_true rfl, Nat.le_of_ble_eq_true rfl⟩ ⟨Nat.zero_le _, Nat.zero_le _⟩ (Nat.le_of_ble_eq_true rfl) dX8_conductBeats_13) (fun H locs hH hL => ?_)
  refine lv_if_eq (tgt := 30) hx hb dX8_conductBeats_16 (by decide) (fun c8 => q_pos c8 ?_) (fun c8 => q_neg c8 ?_)
  · refine lv_bipush (v := (-2)) hx hb dX8_conductBeats_30 (by decide) ?_
    refine q_bx2 (fun v10 M11 e9 => ?_) (fun E12 M11 e9 => my_thrown X.2.2.2.2.2.2.1 htb hL (my_runV X hH hl.1 (co_X8_settled g l hst a0 (-2) M5 t0 (.inr E12) M11 e9) ok_X8_settled W381 t0 rfl (by decide) rfl rfl rfl ⟨Nat.le_of_ble_eq_true rfl, Nat.le_of_ble_eq_true rfl⟩ ⟨Nat.le_refl _, Nat.le_refl _⟩ (Nat.le_of_ble_eq_true rfl) dX8_conductBeats_32))
    refine my_doneI hL (my_runV X hH hl.1 (co_X8_settled g l hst a0 (-2) M5 t0 (.inl v10) M11 e9) ok_X8_settled W381 t0 rfl (by decide) rfl rfl rfl ⟨Nat.le_of_ble_eq_true rfl, Nat.le_of_ble_eq_true rfl⟩ ⟨Nat.zero_le _, Nat.zero_le _⟩ (Nat.le_of_ble_eq_true rfl) dX8_conductBeats_32) (fun H locs hH hL => ?_)
    exact q_end2 (m_iret X hr hH hL dX8_conductBeats_35)
  · refine lv_aload_n hx hb dX8_conductBeats_19 rfl (lv_at hl 0 rfl) ?_
    refine m_gR (k := 0) X hH inC8 t0 rfl W279 dX8_conductBeats_20 5 rfl (fun t13 => ?_)
    refine lv_iload_n hx hb dX8_conductBeats_23 rfl (lv_at hl 1 rfl) ?_
    refine q_b1 (fun v15 M16 e14 => ?_)
    refine my_doneI hL (my_runV X hH hl.1 (co_X5_play g l hst (mR M5 a0 0) p1_ M5 t13 v15 M16 e14) ok_X5_play W336 t13 rfl (by decide) rfl rfl rfl ⟨Nat.le_of_ble_eq_true rfl, Nat.le_of_ble_eq_true rfl⟩ ⟨Nat.zero_le _, Nat.zero_le _⟩ (Nat.le_of_ble_eq_true rfl) dX8_conductBeats_24) (fun H locs hH hL => ?_)
    refine lv_goto (tgt := 32) hx hb dX8_conductBeats_27 (by decide) ?_
    refine q_bx2 (fun v18 M19 e17 => ?_) (fun E20 M19 e17 => my_thrown X.2.2.2.2.2.2.1 htb hL (my_runV X hH hl.1 (co_X8_settled g l hst a0 v15 M16 t0 (.inr E20) M19 e17) ok_X8_settled W381 t0 rfl (by decide) rfl rfl rfl ⟨Nat.le_of_ble_eq_true rfl, Nat.le_of_ble_eq_true rfl⟩ ⟨Nat.le_refl _, Nat.le_refl _⟩ (Nat.le_of_ble_eq_true rfl) dX8_conductBeats_32))
    refine my_doneI hL (my_runV X hH hl.1 (co_X8_settled g l hst a0 v15 M16 t0 (.inl v18) M19 e17) ok_X8_settled W381 t0 rfl (by decide) rfl rfl rfl ⟨Nat.le_of_ble_eq_true rfl, Nat.le_of_ble_eq_true rfl⟩ ⟨Nat.zero_le _, Nat.zero_le _⟩ (Nat.le_of_ble_eq_true rfl) dX8_conductBeats_32) (fun H locs hH hL => ?_)
    exact q_end2 (m_iret X hr hH hL dX8_conductBeats_35)

set_option maxRecDepth 20000 in
set_option maxHeartbeats 4000000 in
theorem co_X8_beatCount (g : GP) (l : Launch) (hst : l.stackTraces = false) (a0 : Nat) (M : Mem) (t0 : tyT a0 = 8) (v : Int32) (hF : F_X8_beatCount a0 M = some v) : CO g l yX8_beatCount cX8_beatCount 1 (some .int) 0 0 rvI [.ref (adr g a0)] M (.inl v : Int32 ⊕ String) M := by
  refine CO_of hst (by decide) (Nat.le_of_ble_eq_true rfl) ?_
  intro p e s m below meth c ls X hr htb hH hL hl
  have hx := X.1
  have hb := X.2.1
  have hts := X.2.2.2.2.1
  refine q_out hF ?_
  rw [F_X8_beatCount]
  replace hl : lv_has ls 1 [(0, .ref (adr g a0))] := hl
  refine lv_aload_n hx hb dX8_beatCount_0 rfl (lv_at hl 0 rfl) ?_
  refine m_gR (k := 0) X hH inC8 t0 rfl W279 dX8_beatCount_1 5 rfl (fun t1 => ?_)
  refine m_gI (k := 4) X hH inC5 t1 rfl W166 dX8_beatCount_4 ?_
  exact q_end0 (m_iret X hr hH hL dX8_beatCount_7)

set_option maxRecDepth 20000 in
set_option maxHeartbeats 4000000 in
theorem co_X8_sectionCount (g : GP) (l : Launch) (hst : l.stackTraces = false) (a0 : Nat) (M : Mem) (t0 : tyT a0 = 8) (v : Int32) (hF : F_X8_sectionCount a0 M = some v) : CO g l yX8_sectionCount cX8_sectionCount 1 (some .int) 0 0 rvI [.ref (adr g a0)] M (.inl v : Int32 ⊕ String) M := by
  refine CO_of hst (by decide) (Nat.le_of_ble_eq_true rfl) ?_
  intro p e s m below meth c ls X hr htb hH hL hl
  have hx := X.1
  have hb := X.2.1
  have hts := X.2.2.2.2.1
  refine q_out hF ?_
  rw [F_X8_sectionCount]
  replace hl : lv_has ls 1 [(0, .ref (adr g a0))] := hl
  refine lv_aload_n hx hb dX8_sectionCount_0 rfl (lv_at hl 0 rfl) ?_
  refine m_gR (k := 0) X hH inC8 t0 rfl W279 dX8_sectionCount_1 5 rfl (fun t1 => ?_)
  refine m_gI (k := 1) X hH inC5 t1 rfl W160 dX8_sectionCount_4 ?_
  exact q_end0 (m_iret X hr hH hL dX8_sectionCount_7)

set_option maxRecDepth 20000 in
set_option maxHeartbeats 4000000 in
theorem co_X8_tempo (g : GP) (l : Launch) (hst : l.stackTraces = false) (a0 : Nat) (M : Mem) (t0 : tyT a0 = 8) (v : Int32) (hF : F_X8_tempo a0 M = some v) : CO g l yX8_tempo cX8_tempo 1 (some .int) 0 0 rvI [.ref (adr g a0)] M (.inl v : Int32 ⊕ String) M := by
  refine CO_of hst (by decide) (Nat.le_of_ble_eq_true rfl) ?_
  intro p e s m below meth c ls X hr htb hH hL hl
  have hx := X.1
  have hb := X.2.1
  have hts := X.2.2.2.2.1
  refine q_out hF ?_
  rw [F_X8_tempo]
  replace hl : lv_has ls 1 [(0, .ref (adr g a0))] := hl
  refine lv_aload_n hx hb dX8_tempo_0 rfl (lv_at hl 0 rfl) ?_
  refine m_gR (k := 0) X hH inC8 t0 rfl W279 dX8_tempo_1 5 rfl (fun t1 => ?_)
  refine m_gI (k := 2) X hH inC5 t1 rfl W162 dX8_tempo_4 ?_
  exact q_end0 (m_iret X hr hH hL dX8_tempo_7)

set_option maxRecDepth 20000 in
set_option maxHeartbeats 4000000 in
theorem co_X8_limit (g : GP) (l : Launch) (hst : l.stackTraces = false) (a0 : Nat) (M : Mem) (t0 : tyT a0 = 8) (v : Int32) (hF : F_X8_limit a0 M = some v) : CO g l yX8_limit cX8_limit 1 (some .int) 0 0 rvI [.ref (adr g a0)] M (.inl v : Int32 ⊕ String) M := by
  refine CO_of hst (by decide) (Nat.le_of_ble_eq_true rfl) ?_
  intro p e s m below meth c ls X hr htb hH hL hl
  have hx := X.1
  have hb := X.2.1
  have hts := X.2.2.2.2.1
  refine q_out hF ?_
  rw [F_X8_limit]
  replace hl : lv_has ls 1 [(0, .ref (adr g a0))] := hl
  refine lv_aload_n hx hb dX8_limit_0 rfl (lv_at hl 0 rfl) ?_
  refine m_gR (k := 0) X hH inC8 t0 rfl W279 dX8_limit_1 5 rfl (fun t1 => ?_)
  refine m_gI (k := 3) X hH inC5 t1 rfl W164 dX8_limit_4 ?_
  exact q_end0 (m_iret X hr hH hL dX8_limit_7)

set_option maxRecDepth 20000 in
set_option maxHeartbeats 4000000 in
theorem co_X8_presentSection (g : GP) (l : Launch) (hst : l.stackTraces = false) (a0 : Nat) (p1_ : Int32) (M : Mem) (t0 : tyT a0 = 8) (o : Nat ⊕ String) (M' : Mem) (hF : F_X8_presentSection a0 p1_ M = some (o, M')) : CO g l yX8_presentSection cX8_presentSection 2 (some (.object "ScoreOrchestra$Section")) 6 200 (rvR g) [.ref (adr g a0), .int p1_] M o M' := by
  refine CO_of hst (by decide) (Nat.le_of_ble_eq_true rfl) ?_
  intro p e s m below meth c ls X hr htb hH hL hl
  have hx := X.1
  have hb := X.2.1
  have hts := X.2.2.2.2.1
  refine q_out hF ?_
  rw [F_X8_presentSection]
  replace hl : lv_has ls 2 [(0, .ref (adr g a0)), (1, .int p1_)] := hl
  refine lv_aload_n hx hb dX8_presentSection_0 rfl (lv_at hl 0 rfl) ?_
  refine m_gR (k := 0) X hH inC8 t0 rfl W279 dX8_presentSection_1 5 rfl (fun t1 => ?_)
  refine lv_iload_n hx hb dX8_presentSection_4 rfl (lv_at hl 1 rfl) ?_
  refine q_bind (fun v3 e2 => ?_)
  refine my_doneI hL (my_runV X hH hl.1 (co_X5_hasSection g l hst (mR M a0 0) p1_ M t1 v3 e2) ok_X5_hasSection W538 t1 rfl (by decide) rfl rfl rfl ⟨Nat.le_of_ble_eq_true rfl, Nat.le_of_ble_eq_true rfl⟩ ⟨Nat.zero_le _, Nat.zero_le _⟩ (Nat.le_of_ble_eq_true rfl) dX8_presentSection_5) (fun H locs hH hL => ?_)
  refine lv_if_ne (tgt := 22) hx hb dX8_presentSection_8 (by decide) (fun c4 => q_neg c4 ?_) (fun c4 => q_pos c4 ?_)
  · refine lv_aload_n hx hb dX8_presentSection_22 rfl (lv_at hl 0 rfl) ?_
    refine m_gR (k := 0) X hH inC8 t0 rfl W279 dX8_presentSection_23 5 rfl (fun t5 => ?_)
    refine m_gR (k := 0) X hH inC5 t5 rfl W158 dX8_presentSection_26 29 rfl (fun t6 => ?_)
    refine lv_iload_n hx hb dX8_presentSection_29 rfl (lv_at hl 1 rfl) ?_
    refine q_chk (fun hb7 => ?_)
    refine m_aald X hH t6 rfl (by decide) (fun _ => rfl) rfl rfl (t2 := 4) (fun _ => rfl) hb7 dX8_presentSection_30 (fun t8 => ?_)
    exact q_end2 (m_aret X hr (Or.inl ⟨_, rfl⟩) hH hL dX8_presentSection_31)
  · exact q_thr (m_throwW X htb hH hL hl.1 okT4 dX8_presentSection_11 dX8_presentSection_14 dX8_presentSection_15 dX8_presentSection_18 dX8_presentSection_21 (Nat.le_of_ble_eq_true rfl) (Nat.le_of_ble_eq_true rfl))

set_option maxRecDepth 20000 in
set_option maxHeartbeats 4000000 in
theorem co_X8_kind (g : GP) (l : Launch) (hst : l.stackTraces = false) (a0 : Nat) (p1_ : Int32) (M : Mem) (t0 : tyT a0 = 8) (o : Int32 ⊕ String) (M' : Mem) (hF : F_X8_kind a0 p1_ M = some (o, M')) : CO g l yX8_kind cX8_kind 2 (some .char) 7 221 rvI [.ref (adr g a0), .int p1_] M o M' := by
  refine CO_of hst (by decide) (Nat.le_of_ble_eq_true rfl) ?_
  intro p e s m below meth c ls X hr htb hH hL hl
  have hx := X.1
  have hb := X.2.1
  have hts := X.2.2.2.2.1
  refine q_out hF ?_
  rw [F_X8_kind]
  replace hl : lv_has ls 2 [(0, .ref (adr g a0)), (1, .int p1_)] := hl
  refine lv_aload_n hx hb dX8_kind_0 rfl (lv_at hl 0 rfl) ?_
  refine lv_iload_n hx hb dX8_kind_1 rfl (lv_at hl 1 rfl) ?_
  refine q_bx2 (fun q2 M3 e1 => ?_) (fun E4 M3 e1 => my_thrown X.2.2.2.2.2.2.1 htb hL (my_runV X hH hl.1 (co_X8_presentSection g l hst a0 p1_ M t0 (.inr E4) M3 e1) ok_X8_presentSection W534 t0 rfl (by decide) rfl rfl rfl ⟨Nat.le_of_ble_eq_true rfl, Nat.le_of_ble_eq_true rfl⟩ ⟨Nat.le_refl _, Nat.le_refl _⟩ (Nat.le_of_ble_eq_true rfl) dX8_kind_2))
  refine my_doneR hL (my_runV X hH hl.1 (co_X8_presentSection g l hst a0 p1_ M t0 (.inl q2) M3 e1) ok_X8_presentSection W534 t0 rfl (by decide) rfl rfl rfl ⟨Nat.le_of_ble_eq_true rfl, Nat.le_of_ble_eq_true rfl⟩ ⟨Nat.zero_le _, Nat.zero_le _⟩ (Nat.le_of_ble_eq_true rfl) dX8_kind_2) (fun H locs hH hL => ?_)
  refine q_chk (fun hk5 => ?_)
  refine m_gI (k := 0) X hH inC4 (Nat.eq_of_beq_eq_true hk5) rfl W122 dX8_kind_5 ?_
  refine q_chk (fun hn6 => ?_)
  exact q_end2 (m_zret X hr hH hL (nokC_n hn6) dX8_kind_8)

set_option maxRecDepth 20000 in
set_option maxHeartbeats 4000000 in
theorem co_X8_rows (g : GP) (l : Launch) (hst : l.stackTraces = false) (a0 : Nat) (p1_ : Int32) (M : Mem) (t0 : tyT a0 = 8) (o : Int32 ⊕ String) (M' : Mem) (hF : F_X8_rows a0 p1_ M = some (o, M')) : CO g l yX8_rows cX8_rows 2 (some .int) 7 221 rvI [.ref (adr g a0), .int p1_] M o M' := by
  refine CO_of hst (by decide) (Nat.le_of_ble_eq_true rfl) ?_
  intro p e s m below meth c ls X hr htb hH hL hl
  have hx := X.1
  have hb := X.2.1
  have hts := X.2.2.2.2.1
  refine q_out hF ?_
  rw [F_X8_rows]
  replace hl : lv_has ls 2 [(0, .ref (adr g a0)), (1, .int p1_)] := hl
  refine lv_aload_n hx hb dX8_rows_0 rfl (lv_at hl 0 rfl) ?_
  refine lv_iload_n hx hb dX8_rows_1 rfl (lv_at hl 1 rfl) ?_
  refine q_bx2 (fun q2 M3 e1 => ?_) (fun E4 M3 e1 => my_thrown X.2.2.2.2.2.2.1 htb hL (my_runV X hH hl.1 (co_X8_presentSection g l hst a0 p1_ M t0 (.inr E4) M3 e1) ok_X8_presentSection W534 t0 rfl (by decide) rfl rfl rfl ⟨Nat.le_of_ble_eq_true rfl, Nat.le_of_ble_eq_true rfl⟩ ⟨Nat.le_refl _, Nat.le_refl _⟩ (Nat.le_of_ble_eq_true rfl) dX8_rows_2))
  refine my_doneR hL (my_runV X hH hl.1 (co_X8_presentSection g l hst a0 p1_ M t0 (.inl q2) M3 e1) ok_X8_presentSection W534 t0 rfl (by decide) rfl rfl rfl ⟨Nat.le_of_ble_eq_true rfl, Nat.le_of_ble_eq_true rfl⟩ ⟨Nat.zero_le _, Nat.zero_le _⟩ (Nat.le_of_ble_eq_true rfl) dX8_rows_2) (fun H locs hH hL => ?_)
  refine q_chk (fun hk5 => ?_)
  refine m_gI (k := 1) X hH inC4 (Nat.eq_of_beq_eq_true hk5) rfl W124 dX8_rows_5 ?_
  exact q_end2 (m_iret X hr hH hL dX8_rows_8)

set_option maxRecDepth 20000 in
set_option maxHeartbeats 4000000 in
theorem co_X8_columns (g : GP) (l : Launch) (hst : l.stackTraces = false) (a0 : Nat) (p1_ : Int32) (M : Mem) (t0 : tyT a0 = 8) (o : Int32 ⊕ String) (M' : Mem) (hF : F_X8_columns a0 p1_ M = some (o, M')) : CO g l yX8_columns cX8_columns 2 (some .int) 7 221 rvI [.ref (adr g a0), .int p1_] M o M' := by
  refine CO_of hst (by decide) (Nat.le_of_ble_eq_true rfl) ?_
  intro p e s m below meth c ls X hr htb hH hL hl
  have hx := X.1
  have hb := X.2.1
  have hts := X.2.2.2.2.1
  refine q_out hF ?_
  rw [F_X8_columns]
  replace hl : lv_has ls 2 [(0, .ref (adr g a0)), (1, .int p1_)] := hl
  refine lv_aload_n hx hb dX8_columns_0 rfl (lv_at hl 0 rfl) ?_
  refine lv_iload_n hx hb dX8_columns_1 rfl (lv_at hl 1 rfl) ?_
  refine q_bx2 (fun q2 M3 e1 => ?_) (fun E4 M3 e1 => my_thrown X.2.2.2.2.2.2.1 htb hL (my_runV X hH hl.1 (co_X8_presentSection g l hst a0 p1_ M t0 (.inr E4) M3 e1) ok_X8_presentSection W534 t0 rfl (by decide) rfl rfl rfl ⟨Nat.le_of_ble_eq_true rfl, Nat.le_of_ble_eq_true rfl⟩ ⟨Nat.le_refl _, Nat.le_refl _⟩ (Nat.le_of_ble_eq_true rfl) dX8_columns_2))
  refine my_doneR hL (my_runV X hH hl.1 (co_X8_presentSection g l hst a0 p1_ M t0 (.inl q2) M3 e1) ok_X8_presentSection W534 t0 rfl (by decide) rfl rfl rfl ⟨Nat.le_of_ble_eq_true rfl, Nat.le_of_ble_eq_true rfl⟩ ⟨Nat.zero_le _, Nat.zero_le _⟩ (Nat.le_of_ble_eq_true rfl) dX8_columns_2) (fun H locs hH hL => ?_)
  refine q_chk (fun hk5 => ?_)
  refine m_gI (k := 2) X hH inC4 (Nat.eq_of_beq_eq_true hk5) rfl W127 dX8_columns_5 ?_
  exact q_end2 (m_iret X hr hH hL dX8_columns_8)

set_option maxRecDepth 20000 in
set_option maxHeartbeats 4000000 in
theorem co_X8_note (g : GP) (l : Launch) (hst : l.stackTraces = false) (a0 : Nat) (p1_ : Int32) (p2_ : Int32) (p3_ : Int32) (M : Mem) (t0 : tyT a0 = 8) (o : Int32 ⊕ String) (M' : Mem) (hF : F_X8_note a0 p1_ p2_ p3_ M = some (o, M')) : CO g l yX8_note cX8_note 5 (some .int) 7 221 rvI [.ref (adr g a0), .int p1_, .int p2_, .int p3_] M o M' := by
  refine CO_of hst (by decide) (Nat.le_of_ble_eq_true rfl) ?_
  intro p e s m below meth c ls X hr htb hH hL hl
  have hx := X.1
  have hb := X.2.1
  have hts := X.2.2.2.2.1
  refine q_out hF ?_
  rw [F_X8_note]
  replace hl : lv_has ls 5 [(0, .ref (adr g a0)), (1, .int p1_), (2, .int p2_), (3, .int p3_)] := hl
  refine lv_aload_n hx hb dX8_note_0 rfl (lv_at hl 0 rfl) ?_
  refine lv_iload_n hx hb dX8_note_1 rfl (lv_at hl 1 rfl) ?_
  refine q_bx2 (fun q2 M3 e1 => ?_) (fun E4 M3 e1 => my_thrown X.2.2.2.2.2.2.1 htb hL (my_runV X hH hl.1 (co_X8_presentSection g l hst a0 p1_ M t0 (.inr E4) M3 e1) ok_X8_presentSection W534 t0 rfl (by decide) rfl rfl rfl ⟨Nat.le_of_ble_eq_true rfl, Nat.le_of_ble_eq_true rfl⟩ ⟨Nat.le_refl _, Nat.le_refl _⟩ (Nat.le_of_ble_eq_true rfl) dX8_note_2))
  refine my_doneR hL (my_runV X hH hl.1 (co_X8_presentSection g l hst a0 p1_ M t0 (.inl q2) M3 e1) ok_X8_presentSection W534 t0 rfl (by decide) rfl rfl rfl ⟨Nat.le_of_ble_eq_true rfl, Nat.le_of_ble_eq_true rfl⟩ ⟨Nat.zero_le _, Nat.zero_le _⟩ (Nat.le_of_ble_eq_true rfl) dX8_note_2) (fun H locs hH hL => ?_)
  refine q_chk (fun hk5 => ?_)
  refine lv_astore (lv' := [(4, .ref (adr g q2)), (0, .ref (adr g a0)), (1, .int p1_), (2, .int p2_), (3, .int p3_)]) hx hb dX8_note_5 hl (by decide) rfl (fun ls hl => ?_)
  refine lv_aload hx hb dX8_note_7 (lv_at hl 0 rfl) ?_
  refine lv_iload_n hx hb dX8_note_9 rfl (lv_at hl 3 rfl) ?_
  refine lv_iload_n hx hb dX8_note_10 rfl (lv_at hl 4 rfl) ?_
  refine q_bind (fun v7 e6 => ?_)
  refine my_doneI hL (my_runV X hH hl.1 (co_X4_hasPlace g l hst q2 p2_ p3_ M3 (Nat.eq_of_beq_eq_true hk5) v7 e6) ok_X4_hasPlace W843 (Nat.eq_of_beq_eq_true hk5) rfl (by decide) rfl rfl rfl ⟨Nat.le_of_ble_eq_true rfl, Nat.le_of_ble_eq_true rfl⟩ ⟨Nat.zero_le _, Nat.zero_le _⟩ (Nat.le_of_ble_eq_true rfl) dX8_note_11) (fun H locs hH hL => ?_)
  refine lv_if_ne (tgt := 27) hx hb dX8_note_14 (by decide) (fun c8 => q_neg c8 ?_) (fun c8 => q_pos c8 ?_)
  · refine lv_aload hx hb dX8_note_27 (lv_at hl 0 rfl) ?_
    refine lv_iload_n hx hb dX8_note_29 rfl (lv_at hl 3 rfl) ?_
    refine lv_iload_n hx hb dX8_note_30 rfl (lv_at hl 4 rfl) ?_
    refine q_bind (fun v10 e9 => ?_)
    refine my_doneI hL (my_runV X hH hl.1 (co_X4_noteAt g l hst q2 p2_ p3_ M3 (Nat.eq_of_beq_eq_true hk5) v10 e9) ok_X4_noteAt W845 (Nat.eq_of_beq_eq_true hk5) rfl (by decide) rfl rfl rfl ⟨Nat.le_of_ble_eq_true rfl, Nat.le_of_ble_eq_true rfl⟩ ⟨Nat.zero_le _, Nat.zero_le _⟩ (Nat.le_of_ble_eq_true rfl) dX8_note_31) (fun H locs hH hL => ?_)
    exact q_end2 (m_iret X hr hH hL dX8_note_34)
  · exact q_thr (m_throw X htb hH hL hl.1 okT5 dX8_note_17 dX8_note_20 dX8_note_21 dX8_note_23 dX8_note_26 (Nat.le_of_ble_eq_true rfl) (Nat.le_of_ble_eq_true rfl))

set_option maxRecDepth 20000 in
set_option maxHeartbeats 4000000 in
theorem co_X8_isMasked (g : GP) (l : Launch) (hst : l.stackTraces = false) (a0 : Nat) (p1_ : Int32) (p2_ : Int32) (M : Mem) (t0 : tyT a0 = 8) (o : Int32 ⊕ String) (M' : Mem) (hF : F_X8_isMasked a0 p1_ p2_ M = some (o, M')) : CO g l yX8_isMasked cX8_isMasked 4 (some .boolean) 7 221 rvI [.ref (adr g a0), .int p1_, .int p2_] M o M' := by
  refine CO_of hst (by decide) (Nat.le_of_ble_eq_true rfl) ?_
  intro p e s m below meth c ls X hr htb hH hL hl
  have hx := X.1
  have hb := X.2.1
  have hts := X.2.2.2.2.1
  refine q_out hF ?_
  rw [F_X8_isMasked]
  replace hl : lv_has ls 4 [(0, .ref (adr g a0)), (1, .int p1_), (2, .int p2_)] := hl
  refine lv_aload_n hx hb dX8_isMasked_0 rfl (lv_at hl 0 rfl) ?_
  refine lv_iload_n hx hb dX8_isMasked_1 rfl (lv_at hl 1 rfl) ?_
  refine q_bx2 (fun q2 M3 e1 => ?_) (fun E4 M3 e1 => my_thrown X.2.2.2.2.2.2.1 htb hL (my_runV X hH hl.1 (co_X8_presentSection g l hst a0 p1_ M t0 (.inr E4) M3 e1) ok_X8_presentSection W534 t0 rfl (by decide) rfl rfl rfl ⟨Nat.le_of_ble_eq_true rfl, Nat.le_of_ble_eq_true rfl⟩ ⟨Nat.le_refl _, Nat.le_refl _⟩ (Nat.le_of_ble_eq_true rfl) dX8_isMasked_2))
  refine my_doneR hL (my_runV X hH hl.1 (co_X8_presentSection g l hst a0 p1_ M t0 (.inl q2) M3 e1) ok_X8_presentSection W534 t0 rfl (by decide) rfl rfl rfl ⟨Nat.le_of_ble_eq_true rfl, Nat.le_of_ble_eq_true rfl⟩ ⟨Nat.zero_le _, Nat.zero_le _⟩ (Nat.le_of_ble_eq_true rfl) dX8_isMasked_2) (fun H locs hH hL => ?_)
  refine q_chk (fun hk5 => ?_)
  refine lv_astore_n (lv' := [(3, .ref (adr g q2)), (0, .ref (adr g a0)), (1, .int p1_), (2, .int p2_)]) hx hb dX8_isMasked_5 rfl hl (by decide) rfl (fun ls hl => ?_)
  refine lv_iload_n hx hb dX8_isMasked_6 rfl (lv_at hl 3 rfl) ?_
  refine q_bind (fun v7 e6 => ?_)
  refine my_doneI hL (my_runS X hH hl.1 (co_X8_isMaskColumn g l hst p2_ M3 v7 e6) ok_X8_isMaskColumn W853 rfl rfl ⟨Nat.le_of_ble_eq_true rfl, Nat.le_of_ble_eq_true rfl⟩ ⟨Nat.zero_le _, Nat.zero_le _⟩ (Nat.le_of_ble_eq_true rfl) dX8_isMasked_7) (fun H locs hH hL => ?_)
  refine lv_if_ne (tgt := 23) hx hb dX8_isMasked_10 (by decide) (fun c8 => q_neg c8 ?_) (fun c8 => q_pos c8 ?_)
  · refine lv_aload_n hx hb dX8_isMasked_23 rfl (lv_at hl 0 rfl) ?_
    refine lv_iload_n hx hb dX8_isMasked_24 rfl (lv_at hl 3 rfl) ?_
    refine q_bind (fun v10 e9 => ?_)
    refine my_doneI hL (my_runV X hH hl.1 (co_X4_masks g l hst q2 p2_ M3 (Nat.eq_of_beq_eq_true hk5) v10 e9) ok_X4_masks W855 (Nat.eq_of_beq_eq_true hk5) rfl (by decide) rfl rfl rfl ⟨Nat.le_of_ble_eq_true rfl, Nat.le_of_ble_eq_true rfl⟩ ⟨Nat.zero_le _, Nat.zero_le _⟩ (Nat.le_of_ble_eq_true rfl) dX8_isMasked_25) (fun H locs hH hL => ?_)
    refine q_chk (fun hn11 => ?_)
    exact q_end2 (m_zret X hr hH hL (nokZ_n hn11) dX8_isMasked_28)
  · exact q_thr (m_throw X htb hH hL hl.1 okT6 dX8_isMasked_13 dX8_isMasked_16 dX8_isMasked_17 dX8_isMasked_19 dX8_isMasked_22 (Nat.le_of_ble_eq_true rfl) (Nat.le_of_ble_eq_true rfl))

set_option maxRecDepth 20000 in
set_option maxHeartbeats 4000000 in
theorem co_X8_fatigue (g : GP) (l : Launch) (hst : l.stackTraces = false) (a0 : Nat) (p1_ : Int32) (M : Mem) (t0 : tyT a0 = 8) (o : Int32 ⊕ String) (M' : Mem) (hF : F_X8_fatigue a0 p1_ M = some (o, M')) : CO g l yX8_fatigue cX8_fatigue 2 (some .int) 7 221 rvI [.ref (adr g a0), .int p1_] M o M' := by
  refine CO_of hst (by decide) (Nat.le_of_ble_eq_true rfl) ?_
  intro p e s m below meth c ls X hr htb hH hL hl
  have hx := X.1
  have hb := X.2.1
  have hts := X.2.2.2.2.1
  refine q_out hF ?_
  rw [F_X8_fatigue]
  replace hl : lv_has ls 2 [(0, .ref (adr g a0)), (1, .int p1_)] := hl
  refine lv_aload_n hx hb dX8_fatigue_0 rfl (lv_at hl 0 rfl) ?_
  refine lv_iload_n hx hb dX8_fatigue_1 rfl (lv_at hl 1 rfl) ?_
  refine q_bx2 (fun q2 M3 e1 => ?_) (fun E4 M3 e1 => my_thrown X.2.2.2.2.2.2.1 htb hL (my_runV X hH hl.1 (co_X8_presentSection g l hst a0 p1_ M t0 (.inr E4) M3 e1) ok_X8_presentSection W534 t0 rfl (by decide) rfl rfl rfl ⟨Nat.le_of_ble_eq_true rfl, Nat.le_of_ble_eq_true rfl⟩ ⟨Nat.le_refl _, Nat.le_refl _⟩ (Nat.le_of_ble_eq_true rfl) dX8_fatigue_2))
  refine my_doneR hL (my_runV X hH hl.1 (co_X8_presentSection g l hst a0 p1_ M t0 (.inl q2) M3 e1) ok_X8_presentSection W534 t0 rfl (by decide) rfl rfl rfl ⟨Nat.le_of_ble_eq_true rfl, Nat.le_of_ble_eq_true rfl⟩ ⟨Nat.zero_le _, Nat.zero_le _⟩ (Nat.le_of_ble_eq_true rfl) dX8_fatigue_2) (fun H locs hH hL => ?_)
  refine q_chk (fun hk5 => ?_)
  refine m_gI (k := 5) X hH inC4 (Nat.eq_of_beq_eq_true hk5) rfl W132 dX8_fatigue_5 ?_
  exact q_end2 (m_iret X hr hH hL dX8_fatigue_8)

set_option maxRecDepth 20000 in
set_option maxHeartbeats 4000000 in
theorem co_X8_restingBeats (g : GP) (l : Launch) (hst : l.stackTraces = false) (a0 : Nat) (p1_ : Int32) (M : Mem) (t0 : tyT a0 = 8) (o : Int32 ⊕ String) (M' : Mem) (hF : F_X8_restingBeats a0 p1_ M = some (o, M')) : CO g l yX8_restingBeats cX8_restingBeats 2 (some .int) 7 221 rvI [.ref (adr g a0), .int p1_] M o M' := by
  refine CO_of hst (by decide) (Nat.le_of_ble_eq_true rfl) ?_
  intro p e s m below meth c ls X hr htb hH hL hl
  have hx := X.1
  have hb := X.2.1
  have hts := X.2.2.2.2.1
  refine q_out hF ?_
  rw [F_X8_restingBeats]
  replace hl : lv_has ls 2 [(0, .ref (adr g a0)), (1, .int p1_)] := hl
  refine lv_aload_n hx hb dX8_restingBeats_0 rfl (lv_at hl 0 rfl) ?_
  refine lv_iload_n hx hb dX8_restingBeats_1 rfl (lv_at hl 1 rfl) ?_
  refine q_bx2 (fun q2 M3 e1 => ?_) (fun E4 M3 e1 => my_thrown X.2.2.2.2.2.2.1 htb hL (my_runV X hH hl.1 (co_X8_presentSection g l hst a0 p1_ M t0 (.inr E4) M3 e1) ok_X8_presentSection W534 t0 rfl (by decide) rfl rfl rfl ⟨Nat.le_of_ble_eq_true rfl, Nat.le_of_ble_eq_true rfl⟩ ⟨Nat.le_refl _, Nat.le_refl _⟩ (Nat.le_of_ble_eq_true rfl) dX8_restingBeats_2))
  refine my_doneR hL (my_runV X hH hl.1 (co_X8_presentSection g l hst a0 p1_ M t0 (.inl q2) M3 e1) ok_X8_presentSection W534 t0 rfl (by decide) rfl rfl rfl ⟨Nat.le_of_ble_eq_true rfl, Nat.le_of_ble_eq_true rfl⟩ ⟨Nat.zero_le _, Nat.zero_le _⟩ (Nat.le_of_ble_eq_true rfl) dX8_restingBeats_2) (fun H locs hH hL => ?_)
  refine q_chk (fun hk5 => ?_)
  refine m_gI (k := 6) X hH inC4 (Nat.eq_of_beq_eq_true hk5) rfl W135 dX8_restingBeats_5 ?_
  exact q_end2 (m_iret X hr hH hL dX8_restingBeats_8)

set_option maxRecDepth 20000 in
set_option maxHeartbeats 4000000 in
theorem co_X4_hasScoreOf (g : GP) (l : Launch) (hst : l.stackTraces = false) (a0 : Nat) (q1_ : Nat) (M : Mem) (t0 : tyT a0 = 4) (t_q1_ : tyT q1_ = 4) (v : Int32) (hF : F_X4_hasScoreOf a0 q1_ M = some v) : CO g l yX4_hasScoreOf cX4_hasScoreOf 3 (some .boolean) 0 0 rvI [.ref (adr g a0), .ref (adr g q1_)] M (.inl v : Int32 ⊕ String) M := by
  refine CO_of hst (by decide) (Nat.le_of_ble_eq_true rfl) ?_
  intro p e s m below meth c ls X hr htb hH hL hl
  have hx := X.1
  have hb := X.2.1
  have hts := X.2.2.2.2.1
  refine q_out hF ?_
  rw [F_X4_hasScoreOf]
  replace hl : lv_has ls 3 [(0, .ref (adr g a0)), (1, .ref (adr g q1_))] := hl
  refine lv_aload_n hx hb dX4_hasScoreOf_0 rfl (lv_at hl 0 rfl) ?_
  refine m_gI (k := 1) X hH inC4 t0 rfl W123 dX4_hasScoreOf_1 ?_
  refine lv_aload_n hx hb dX4_hasScoreOf_4 rfl (lv_at hl 1 rfl) ?_
  refine m_gI (k := 1) X hH inC4 t_q1_ rfl W123 dX4_hasScoreOf_5 ?_
  refine lv_icmp_ne (tgt := 22) hx hb dX4_hasScoreOf_8 (by decide) (fun c1 => q_neg c1 ?_) (fun c1 => q_pos c1 ?_)
  · refine lv_iconst (v := 0) hx hb dX4_hasScoreOf_22 (by decide) ?_
    exact q_end0 (m_zret X hr hH hL (by decide) dX4_hasScoreOf_23)
  · refine lv_aload_n hx hb dX4_hasScoreOf_11 rfl (lv_at hl 0 rfl) ?_
    refine m_gI (k := 2) X hH inC4 t0 rfl W125 dX4_hasScoreOf_12 ?_
    refine lv_aload_n hx hb dX4_hasScoreOf_15 rfl (lv_at hl 1 rfl) ?_
    refine m_gI (k := 2) X hH inC4 t_q1_ rfl W125 dX4_hasScoreOf_16 ?_
    refine lv_icmp_eq (tgt := 24) hx hb dX4_hasScoreOf_19 (by decide) (fun c2 => q_pos c2 ?_) (fun c2 => q_neg c2 ?_)
    · refine lv_iconst (v := 0) hx hb dX4_hasScoreOf_24 (by decide) ?_
      refine lv_istore_n (lv' := [(2, .int 0), (0, .ref (adr g a0)), (1, .ref (adr g q1_))]) hx hb dX4_hasScoreOf_25 rfl hl (by decide) rfl (fun ls hl => ?_)
      have L15 : ∀ (K : Int32 → Option Int32) (_ : ∀ (i3 : Int32) (H : Heap) (locs : List Loc) (ls : Array Slot), HR g M H → LK g s H locs → lv_has ls 3 [(0, .ref (adr g a0)), (1, .ref (adr g q1_)), (2, .int i3)] → W p l e (rmO (.inl v : Int32 ⊕ String) 0 0) s m ([.ref (adr g a0), .ref (adr g q1_)] : List Value).toArray below meth c H locs 0 0 (GQ (K i3) v (MQO g below rvI (.inl v : Int32 ⊕ String) M ([.ref (adr g a0), .ref (adr g q1_)] : List Value).toArray s)) (F0 m 67 ls [])) (n : Nat) (i3 : Int32) (H : Heap) (locs : List Loc) (ls : Array Slot), HR g M H → LK g s H locs → lv_has ls 3 [(0, .ref (adr g a0)), (1, .ref (adr g q1_)), (2, .int i3)] → W p l e (rmO (.inl v : Int32 ⊕ String) 0 0) s m ([.ref (adr g a0), .ref (adr g q1_)] : List Value).toArray below meth c H locs 0 0 (GQ (F_X4_hasScoreOf_L1 a0 q1_ M K n i3) v (MQO g below rvI (.inl v : Int32 ⊕ String) M ([.ref (adr g a0), .ref (adr g q1_)] : List Value).toArray s)) (F0 m 26 ls []) := by
        intro K hK n
        induction n with
        | zero => intros; exact q_none
        | succ n ih =>
          intro i3 H locs ls hH hL hl 
          rw [F_X4_hasScoreOf_L1]
          refine lv_iload_n hx hb dX4_hasScoreOf_26 rfl (lv_at hl 2 rfl) ?_
          refine lv_aload_n hx hb dX4_hasScoreOf_27 rfl (lv_at hl 0 rfl) ?_
          refine m_gR (k := 3) X hH inC4 t0 rfl W128 dX4_hasScoreOf_28 20 rfl (fun t5 => ?_)
          refine m_alen X hH t5 rfl (by decide) (v := 36) (by decide) dX4_hasScoreOf_31 ?_
          refine lv_icmp_ge (tgt := 67) hx hb dX4_hasScoreOf_32 (by decide) (fun c6 => q_pos c6 ?_) (fun c6 => q_neg c6 ?_)
          · exact hK i3 _ _ ls hH hL hl 
          · refine lv_iload_n hx hb dX4_hasScoreOf_35 rfl (lv_at hl 2 rfl) ?_
            refine lv_aload_n hx hb dX4_hasScoreOf_36 rfl (lv_at hl 1 rfl) ?_
            refine m_gR (k := 3) X hH inC4 t_q1_ rfl W128 dX4_hasScoreOf_37 20 rfl (fun t7 => ?_)
            refine m_alen X hH t7 rfl (by decide) (v := 36) (by decide) dX4_hasScoreOf_40 ?_
            refine lv_icmp_ge (tgt := 67) hx hb dX4_hasScoreOf_41 (by decide) (fun c8 => q_pos c8 ?_) (fun c8 => q_neg c8 ?_)
            · exact hK i3 _ _ ls hH hL hl 
            · refine lv_aload_n hx hb dX4_hasScoreOf_44 rfl (lv_at hl 0 rfl) ?_
              refine m_gR (k := 3) X hH inC4 t0 rfl W128 dX4_hasScoreOf_45 20 rfl (fun t9 => ?_)
              refine lv_iload_n hx hb dX4_hasScoreOf_48 rfl (lv_at hl 2 rfl) ?_
              refine q_chk (fun hb10 => ?_)
              refine m_iald X hH t9 rfl (by decide) (fun _ => rfl) rfl rfl hb10 dX4_hasScoreOf_49 ?_
              refine lv_aload_n hx hb dX4_hasScoreOf_50 rfl (lv_at hl 1 rfl) ?_
              refine m_gR (k := 3) X hH inC4 t_q1_ rfl W128 dX4_hasScoreOf_51 20 rfl (fun t11 => ?_)
              refine lv_iload_n hx hb dX4_hasScoreOf_54 rfl (lv_at hl 2 rfl) ?_
              refine q_chk (fun hb12 => ?_)
              refine m_iald X hH t11 rfl (by decide) (fun _ => rfl) rfl rfl hb12 dX4_hasScoreOf_55 ?_
              refine lv_icmp_eq (tgt := 61) hx hb dX4_hasScoreOf_56 (by decide) (fun c13 => q_pos c13 ?_) (fun c13 => q_neg c13 ?_)
              · refine q_lt (fun v14 e_v14 => ?_)
                refine lv_iinc (v := v14) (lv' := [(2, .int v14), (0, .ref (adr g a0)), (1, .ref (adr g q1_))]) hx hb dX4_hasScoreOf_61 hl (k := 2) rfl (by rw [e_v14]; rfl) (by decide) rfl (fun ls hl => ?_)
                refine lv_goto (tgt := 26) hx hb dX4_hasScoreOf_64 (by decide) ?_
                exact ih v14 _ _ ls hH hL (lv_sub hl [1, 2, 0] rfl) 
              · refine lv_iconst (v := 0) hx hb dX4_hasScoreOf_59 (by decide) ?_
                exact q_end0 (m_zret X hr hH hL (by decide) dX4_hasScoreOf_60)
      refine L15 _ (fun x16 H locs ls hH hL hl  => ?_) 3000 0 _ _ ls hH hL (lv_sub hl [1, 2, 0] rfl) 
      refine lv_iconst (v := 1) hx hb dX4_hasScoreOf_67 (by decide) ?_
      exact q_end0 (m_zret X hr hH hL (by decide) dX4_hasScoreOf_68)
    · refine lv_iconst (v := 0) hx hb dX4_hasScoreOf_22 (by decide) ?_
      exact q_end0 (m_zret X hr hH hL (by decide) dX4_hasScoreOf_23)

set_option maxRecDepth 20000 in
set_option maxHeartbeats 4000000 in
theorem co_X8_isSymmetric (g : GP) (l : Launch) (hst : l.stackTraces = false) (a0 : Nat) (p1_ : Int32) (M : Mem) (t0 : tyT a0 = 8) (o : Int32 ⊕ String) (M' : Mem) (hF : F_X8_isSymmetric a0 p1_ M = some (o, M')) : CO g l yX8_isSymmetric cX8_isSymmetric 3 (some .boolean) 7 221 rvI [.ref (adr g a0), .int p1_] M o M' := by
  refine CO_of hst (by decide) (Nat.le_of_ble_eq_true rfl) ?_
  intro p e s m below meth c ls X hr htb hH hL hl
  have hx := X.1
  have hb := X.2.1
  have hts := X.2.2.2.2.1
  refine q_out hF ?_
  rw [F_X8_isSymmetric]
  replace hl : lv_has ls 3 [(0, .ref (adr g a0)), (1, .int p1_)] := hl
  refine lv_aload_n hx hb dX8_isSymmetric_0 rfl (lv_at hl 0 rfl) ?_
  refine lv_iload_n hx hb dX8_isSymmetric_1 rfl (lv_at hl 1 rfl) ?_
  refine q_bx2 (fun q2 M3 e1 => ?_) (fun E4 M3 e1 => my_thrown X.2.2.2.2.2.2.1 htb hL (my_runV X hH hl.1 (co_X8_presentSection g l hst a0 p1_ M t0 (.inr E4) M3 e1) ok_X8_presentSection W534 t0 rfl (by decide) rfl rfl rfl ⟨Nat.le_of_ble_eq_true rfl, Nat.le_of_ble_eq_true rfl⟩ ⟨Nat.le_refl _, Nat.le_refl _⟩ (Nat.le_of_ble_eq_true rfl) dX8_isSymmetric_2))
  refine my_doneR hL (my_runV X hH hl.1 (co_X8_presentSection g l hst a0 p1_ M t0 (.inl q2) M3 e1) ok_X8_presentSection W534 t0 rfl (by decide) rfl rfl rfl ⟨Nat.le_of_ble_eq_true rfl, Nat.le_of_ble_eq_true rfl⟩ ⟨Nat.zero_le _, Nat.zero_le _⟩ (Nat.le_of_ble_eq_true rfl) dX8_isSymmetric_2) (fun H locs hH hL => ?_)
  refine q_chk (fun hk5 => ?_)
  refine lv_astore_n (lv' := [(2, .ref (adr g q2)), (0, .ref (adr g a0)), (1, .int p1_)]) hx hb dX8_isSymmetric_5 rfl hl (by decide) rfl (fun ls hl => ?_)
  refine lv_aload_n hx hb dX8_isSymmetric_6 rfl (lv_at hl 1 rfl) ?_
  refine m_gR (k := 5) X hH inC8 t0 rfl W284 dX8_isSymmetric_7 4 rfl (fun t6 => ?_)
  refine lv_aload_n hx hb dX8_isSymmetric_10 rfl (lv_at hl 0 rfl) ?_
  refine q_b1 (fun u8 M9 e7 => ?_)
  refine my_doneU hL (my_runV X hH hl.1 (co_X4_copyFrom g l hst (mR M3 a0 5) q2 M3 t6 (Nat.eq_of_beq_eq_true hk5) u8 M9 e7) ok_X4_copyFrom W623 t6 rfl (by decide) rfl rfl rfl ⟨Nat.le_of_ble_eq_true rfl, Nat.le_of_ble_eq_true rfl⟩ ⟨Nat.zero_le _, Nat.zero_le _⟩ (Nat.le_of_ble_eq_true rfl) dX8_isSymmetric_11) (fun H locs hH hL => ?_)
  refine lv_aload_n hx hb dX8_isSymmetric_14 rfl (lv_at hl 1 rfl) ?_
  refine m_gR (k := 5) X hH inC8 t0 rfl W284 dX8_isSymmetric_15 4 rfl (fun t10 => ?_)
  refine q_b1 (fun u12 M13 e11 => ?_)
  refine my_doneU hL (my_runV X hH hl.1 (co_X4_flip g l hst (mR M9 a0 5) M9 t10 u12 M13 e11) ok_X4_flip W624 t10 rfl (by decide) rfl rfl rfl ⟨Nat.le_of_ble_eq_true rfl, Nat.le_of_ble_eq_true rfl⟩ ⟨Nat.zero_le _, Nat.zero_le _⟩ (Nat.le_of_ble_eq_true rfl) dX8_isSymmetric_18) (fun H locs hH hL => ?_)
  refine lv_aload_n hx hb dX8_isSymmetric_21 rfl (lv_at hl 1 rfl) ?_
  refine m_gR (k := 5) X hH inC8 t0 rfl W284 dX8_isSymmetric_22 4 rfl (fun t14 => ?_)
  refine lv_aload_n hx hb dX8_isSymmetric_25 rfl (lv_at hl 0 rfl) ?_
  refine q_bind (fun v16 e15 => ?_)
  refine my_doneI hL (my_runV X hH hl.1 (co_X4_hasScoreOf g l hst (mR M13 a0 5) q2 M13 t14 (Nat.eq_of_beq_eq_true hk5) v16 e15) ok_X4_hasScoreOf W877 t14 rfl (by decide) rfl rfl rfl ⟨Nat.le_of_ble_eq_true rfl, Nat.le_of_ble_eq_true rfl⟩ ⟨Nat.zero_le _, Nat.zero_le _⟩ (Nat.le_of_ble_eq_true rfl) dX8_isSymmetric_26) (fun H locs hH hL => ?_)
  refine q_chk (fun hn17 => ?_)
  exact q_end2 (m_zret X hr hH hL (nokZ_n hn17) dX8_isSymmetric_29)

set_option maxRecDepth 20000 in
set_option maxHeartbeats 4000000 in
theorem co_X8_areAlike (g : GP) (l : Launch) (hst : l.stackTraces = false) (a0 : Nat) (p1_ : Int32) (p2_ : Int32) (M : Mem) (t0 : tyT a0 = 8) (o : Int32 ⊕ String) (M' : Mem) (hF : F_X8_areAlike a0 p1_ p2_ M = some (o, M')) : CO g l yX8_areAlike cX8_areAlike 3 (some .boolean) 7 221 rvI [.ref (adr g a0), .int p1_, .int p2_] M o M' := by
  refine CO_of hst (by decide) (Nat.le_of_ble_eq_true rfl) ?_
  intro p e s m below meth c ls X hr htb hH hL hl
  have hx := X.1
  have hb := X.2.1
  have hts := X.2.2.2.2.1
  refine q_out hF ?_
  rw [F_X8_areAlike]
  replace hl : lv_has ls 3 [(0, .ref (adr g a0)), (1, .int p1_), (2, .int p2_)] := hl
  refine lv_aload_n hx hb dX8_areAlike_0 rfl (lv_at hl 0 rfl) ?_
  refine lv_iload_n hx hb dX8_areAlike_1 rfl (lv_at hl 1 rfl) ?_
  refine q_bx2 (fun q2 M3 e1 => ?_) (fun E4 M3 e1 => my_thrown X.2.2.2.2.2.2.1 htb hL (my_runV X hH hl.1 (co_X8_presentSection g l hst a0 p1_ M t0 (.inr E4) M3 e1) ok_X8_presentSection W534 t0 rfl (by decide) rfl rfl rfl ⟨Nat.le_of_ble_eq_true rfl, Nat.le_of_ble_eq_true rfl⟩ ⟨Nat.le_refl _, Nat.le_refl _⟩ (Nat.le_of_ble_eq_true rfl) dX8_areAlike_2))
  refine my_doneR hL (my_runV X hH hl.1 (co_X8_presentSection g l hst a0 p1_ M t0 (.inl q2) M3 e1) ok_X8_presentSection W534 t0 rfl (by decide) rfl rfl rfl ⟨Nat.le_of_ble_eq_true rfl, Nat.le_of_ble_eq_true rfl⟩ ⟨Nat.zero_le _, Nat.zero_le _⟩ (Nat.le_of_ble_eq_true rfl) dX8_areAlike_2) (fun H locs hH hL => ?_)
  refine q_chk (fun hk5 => ?_)
  refine lv_aload_n hx hb dX8_areAlike_5 rfl (lv_at hl 0 rfl) ?_
  refine lv_iload_n hx hb dX8_areAlike_6 rfl (lv_at hl 2 rfl) ?_
  refine q_bx2 (fun q7 M8 e6 => ?_) (fun E9 M8 e6 => my_thrown X.2.2.2.2.2.2.1 htb hL (my_runV X hH hl.1 (co_X8_presentSection g l hst a0 p2_ M3 t0 (.inr E9) M8 e6) ok_X8_presentSection W534 t0 rfl (by decide) rfl rfl rfl ⟨Nat.le_of_ble_eq_true rfl, Nat.le_of_ble_eq_true rfl⟩ ⟨Nat.le_refl _, Nat.le_refl _⟩ (Nat.le_of_ble_eq_true rfl) dX8_areAlike_7))
  refine my_doneR hL (my_runV X hH hl.1 (co_X8_presentSection g l hst a0 p2_ M3 t0 (.inl q7) M8 e6) ok_X8_presentSection W534 t0 rfl (by decide) rfl rfl rfl ⟨Nat.le_of_ble_eq_true rfl, Nat.le_of_ble_eq_true rfl⟩ ⟨Nat.zero_le _, Nat.zero_le _⟩ (Nat.le_of_ble_eq_true rfl) dX8_areAlike_7) (fun H locs hH hL => ?_)
  refine q_chk (fun hk10 => ?_)
  refine q_bind (fun v12 e11 => ?_)
  refine my_doneI hL (my_runV X hH hl.1 (co_X4_hasScoreOf g l hst q2 q7 M8 (Nat.eq_of_beq_eq_true hk5) (Nat.eq_of_beq_eq_true hk10) v12 e11) ok_X4_hasScoreOf W877 (Nat.eq_of_beq_eq_true hk5) rfl (by decide) rfl rfl rfl ⟨Nat.le_of_ble_eq_true rfl, Nat.le_of_ble_eq_true rfl⟩ ⟨Nat.zero_le _, Nat.zero_le _⟩ (Nat.le_of_ble_eq_true rfl) dX8_areAlike_10) (fun H locs hH hL => ?_)
  refine q_chk (fun hn13 => ?_)
  exact q_end2 (m_zret X hr hH hL (nokZ_n hn13) dX8_areAlike_13)

set_option maxRecDepth 20000 in
set_option maxHeartbeats 4000000 in
theorem co_X8_noteVolume (g : GP) (l : Launch) (hst : l.stackTraces = false) (a0 : Nat) (p1_ : Int32) (p2_ : Int32) (M : Mem) (t0 : tyT a0 = 8) (o : Int32 ⊕ String) (M' : Mem) (hF : F_X8_noteVolume a0 p1_ p2_ M = some (o, M')) : CO g l yX8_noteVolume cX8_noteVolume 3 (some .int) 6 200 rvI [.ref (adr g a0), .int p1_, .int p2_] M o M' := by
  refine CO_of hst (by decide) (Nat.le_of_ble_eq_true rfl) ?_
  intro p e s m below meth c ls X hr htb hH hL hl
  have hx := X.1
  have hb := X.2.1
  have hts := X.2.2.2.2.1
  refine q_out hF ?_
  rw [F_X8_noteVolume]
  replace hl : lv_has ls 3 [(0, .ref (adr g a0)), (1, .int p1_), (2, .int p2_)] := hl
  refine lv_iload_n hx hb dX8_noteVolume_0 rfl (lv_at hl 1 rfl) ?_
  refine q_bind (fun v2 e1 => ?_)
  refine my_doneI hL (my_runS X hH hl.1 (co_X8_kindIndex g l hst p1_ M v2 e1) ok_X8_kindIndex W895 rfl rfl ⟨Nat.le_of_ble_eq_true rfl, Nat.le_of_ble_eq_true rfl⟩ ⟨Nat.zero_le _, Nat.zero_le _⟩ (Nat.le_of_ble_eq_true rfl) dX8_noteVolume_1) (fun H locs hH hL => ?_)
  refine lv_if_lt (tgt := 17) hx hb dX8_noteVolume_4 (by decide) (fun c3 => q_pos c3 ?_) (fun c3 => q_neg c3 ?_)
  · exact q_thr (m_throw X htb hH hL hl.1 okT7 dX8_noteVolume_17 dX8_noteVolume_20 dX8_noteVolume_21 dX8_noteVolume_23 dX8_noteVolume_26 (Nat.le_of_ble_eq_true rfl) (Nat.le_of_ble_eq_true rfl))
  · refine lv_iload_n hx hb dX8_noteVolume_7 rfl (lv_at hl 2 rfl) ?_
    refine lv_if_lt (tgt := 17) hx hb dX8_noteVolume_8 (by decide) (fun c4 => q_pos c4 ?_) (fun c4 => q_neg c4 ?_)
    · exact q_thr (m_throw X htb hH hL hl.1 okT7 dX8_noteVolume_17 dX8_noteVolume_20 dX8_noteVolume_21 dX8_noteVolume_23 dX8_noteVolume_26 (Nat.le_of_ble_eq_true rfl) (Nat.le_of_ble_eq_true rfl))
    · refine lv_iload_n hx hb dX8_noteVolume_11 rfl (lv_at hl 2 rfl) ?_
      refine lv_bipush (v := 9) hx hb dX8_noteVolume_12 (by decide) ?_
      refine lv_icmp_le (tgt := 27) hx hb dX8_noteVolume_14 (by decide) (fun c5 => q_pos c5 ?_) (fun c5 => q_neg c5 ?_)
      · refine lv_iload_n hx hb dX8_noteVolume_27 rfl (lv_at hl 1 rfl) ?_
        refine lv_iload_n hx hb dX8_noteVolume_28 rfl (lv_at hl 2 rfl) ?_
        refine q_bind (fun v7 e6 => ?_)
        refine my_doneI hL (my_runS X hH hl.1 (co_X8_volumeOf g l hst p1_ p2_ M v7 e6) ok_X8_volumeOf W592 rfl rfl ⟨Nat.le_of_ble_eq_true rfl, Nat.le_of_ble_eq_true rfl⟩ ⟨Nat.zero_le _, Nat.zero_le _⟩ (Nat.le_of_ble_eq_true rfl) dX8_noteVolume_29) (fun H locs hH hL => ?_)
        exact q_end2 (m_iret X hr hH hL dX8_noteVolume_32)
      · exact q_thr (m_throw X htb hH hL hl.1 okT7 dX8_noteVolume_17 dX8_noteVolume_20 dX8_noteVolume_21 dX8_noteVolume_23 dX8_noteVolume_26 (Nat.le_of_ble_eq_true rfl) (Nat.le_of_ble_eq_true rfl))

set_option maxRecDepth 20000 in
set_option maxHeartbeats 4000000 in
theorem co_X8_sectionWithColumn (g : GP) (l : Launch) (hst : l.stackTraces = false) (a0 : Nat) (p1_ : Int32) (p2_ : Int32) (M : Mem) (t0 : tyT a0 = 8) (o : Nat ⊕ String) (M' : Mem) (hF : F_X8_sectionWithColumn a0 p1_ p2_ M = some (o, M')) : CO g l yX8_sectionWithColumn cX8_sectionWithColumn 4 (some (.object "ScoreOrchestra$Section")) 7 221 (rvR g) [.ref (adr g a0), .int p1_, .int p2_] M o M' := by
  refine CO_of hst (by decide) (Nat.le_of_ble_eq_true rfl) ?_
  intro p e s m below meth c ls X hr htb hH hL hl
  have hx := X.1
  have hb := X.2.1
  have hts := X.2.2.2.2.1
  refine q_out hF ?_
  rw [F_X8_sectionWithColumn]
  replace hl : lv_has ls 4 [(0, .ref (adr g a0)), (1, .int p1_), (2, .int p2_)] := hl
  refine lv_aload_n hx hb dX8_sectionWithColumn_0 rfl (lv_at hl 0 rfl) ?_
  refine lv_iload_n hx hb dX8_sectionWithColumn_1 rfl (lv_at hl 1 rfl) ?_
  refine q_bx2 (fun q2 M3 e1 => ?_) (fun E4 M3 e1 => my_thrown X.2.2.2.2.2.2.1 htb hL (my_runV X hH hl.1 (co_X8_presentSection g l hst a0 p1_ M t0 (.inr E4) M3 e1) ok_X8_presentSection W534 t0 rfl (by decide) rfl rfl rfl ⟨Nat.le_of_ble_eq_true rfl, Nat.le_of_ble_eq_true rfl⟩ ⟨Nat.le_refl _, Nat.le_refl _⟩ (Nat.le_of_ble_eq_true rfl) dX8_sectionWithColumn_2))
  refine my_doneR hL (my_runV X hH hl.1 (co_X8_presentSection g l hst a0 p1_ M t0 (.inl q2) M3 e1) ok_X8_presentSection W534 t0 rfl (by decide) rfl rfl rfl ⟨Nat.le_of_ble_eq_true rfl, Nat.le_of_ble_eq_true rfl⟩ ⟨Nat.zero_le _, Nat.zero_le _⟩ (Nat.le_of_ble_eq_true rfl) dX8_sectionWithColumn_2) (fun H locs hH hL => ?_)
  refine q_chk (fun hk5 => ?_)
  refine lv_astore_n (lv' := [(3, .ref (adr g q2)), (0, .ref (adr g a0)), (1, .int p1_), (2, .int p2_)]) hx hb dX8_sectionWithColumn_5 rfl hl (by decide) rfl (fun ls hl => ?_)
  refine lv_aload_n hx hb dX8_sectionWithColumn_6 rfl (lv_at hl 0 rfl) ?_
  refine lv_iload_n hx hb dX8_sectionWithColumn_7 rfl (lv_at hl 3 rfl) ?_
  refine q_bind (fun v7 e6 => ?_)
  refine my_doneI hL (my_runV X hH hl.1 (co_X4_hasColumn g l hst q2 p2_ M3 (Nat.eq_of_beq_eq_true hk5) v7 e6) ok_X4_hasColumn W613 (Nat.eq_of_beq_eq_true hk5) rfl (by decide) rfl rfl rfl ⟨Nat.le_of_ble_eq_true rfl, Nat.le_of_ble_eq_true rfl⟩ ⟨Nat.zero_le _, Nat.zero_le _⟩ (Nat.le_of_ble_eq_true rfl) dX8_sectionWithColumn_8) (fun H locs hH hL => ?_)
  refine lv_if_ne (tgt := 25) hx hb dX8_sectionWithColumn_11 (by decide) (fun c8 => q_neg c8 ?_) (fun c8 => q_pos c8 ?_)
  · refine lv_aload_n hx hb dX8_sectionWithColumn_25 rfl (lv_at hl 0 rfl) ?_
    exact q_end2 (m_aret X hr (Or.inl ⟨_, rfl⟩) hH hL dX8_sectionWithColumn_26)
  · exact q_thr (m_throwW X htb hH hL hl.1 okT8 dX8_sectionWithColumn_14 dX8_sectionWithColumn_17 dX8_sectionWithColumn_18 dX8_sectionWithColumn_21 dX8_sectionWithColumn_24 (Nat.le_of_ble_eq_true rfl) (Nat.le_of_ble_eq_true rfl))

set_option maxRecDepth 20000 in
set_option maxHeartbeats 4000000 in
theorem co_X8_columnVolume (g : GP) (l : Launch) (hst : l.stackTraces = false) (a0 : Nat) (p1_ : Int32) (p2_ : Int32) (M : Mem) (t0 : tyT a0 = 8) (o : Int32 ⊕ String) (M' : Mem) (hF : F_X8_columnVolume a0 p1_ p2_ M = some (o, M')) : CO g l yX8_columnVolume cX8_columnVolume 3 (some .int) 8 244 rvI [.ref (adr g a0), .int p1_, .int p2_] M o M' := by
  refine CO_of hst (by decide) (Nat.le_of_ble_eq_true rfl) ?_
  intro p e s m below meth c ls X hr htb hH hL hl
  have hx := X.1
  have hb := X.2.1
  have hts := X.2.2.2.2.1
  refine q_out hF ?_
  rw [F_X8_columnVolume]
  replace hl : lv_has ls 3 [(0, .ref (adr g a0)), (1, .int p1_), (2, .int p2_)] := hl
  refine lv_aload_n hx hb dX8_columnVolume_0 rfl (lv_at hl 0 rfl) ?_
  refine lv_iload_n hx hb dX8_columnVolume_1 rfl (lv_at hl 1 rfl) ?_
  refine lv_iload_n hx hb dX8_columnVolume_2 rfl (lv_at hl 2 rfl) ?_
  refine q_bx2 (fun q2 M3 e1 => ?_) (fun E4 M3 e1 => my_thrown X.2.2.2.2.2.2.1 htb hL (my_runV X hH hl.1 (co_X8_sectionWithColumn g l hst a0 p1_ p2_ M t0 (.inr E4) M3 e1) ok_X8_sectionWithColumn W609 t0 rfl (by decide) rfl rfl rfl ⟨Nat.le_of_ble_eq_true rfl, Nat.le_of_ble_eq_true rfl⟩ ⟨Nat.le_refl _, Nat.le_refl _⟩ (Nat.le_of_ble_eq_true rfl) dX8_columnVolume_3))
  refine my_doneR hL (my_runV X hH hl.1 (co_X8_sectionWithColumn g l hst a0 p1_ p2_ M t0 (.inl q2) M3 e1) ok_X8_sectionWithColumn W609 t0 rfl (by decide) rfl rfl rfl ⟨Nat.le_of_ble_eq_true rfl, Nat.le_of_ble_eq_true rfl⟩ ⟨Nat.zero_le _, Nat.zero_le _⟩ (Nat.le_of_ble_eq_true rfl) dX8_columnVolume_3) (fun H locs hH hL => ?_)
  refine q_chk (fun hk5 => ?_)
  refine lv_iload_n hx hb dX8_columnVolume_6 rfl (lv_at hl 2 rfl) ?_
  refine q_bind (fun v7 e6 => ?_)
  refine my_doneI hL (my_runV X hH hl.1 (co_X4_volumeOfColumn g l hst q2 p2_ M3 (Nat.eq_of_beq_eq_true hk5) v7 e6) ok_X4_volumeOfColumn W618 (Nat.eq_of_beq_eq_true hk5) rfl (by decide) rfl rfl rfl ⟨Nat.le_of_ble_eq_true rfl, Nat.le_of_ble_eq_true rfl⟩ ⟨Nat.zero_le _, Nat.zero_le _⟩ (Nat.le_of_ble_eq_true rfl) dX8_columnVolume_7) (fun H locs hH hL => ?_)
  exact q_end2 (m_iret X hr hH hL dX8_columnVolume_10)

set_option maxRecDepth 20000 in
set_option maxHeartbeats 4000000 in
theorem co_X4_volumeOfRow (g : GP) (l : Launch) (hst : l.stackTraces = false) (a0 : Nat) (p1_ : Int32) (M : Mem) (t0 : tyT a0 = 4) (v : Int32) (hF : F_X4_volumeOfRow a0 p1_ M = some v) : CO g l yX4_volumeOfRow cX4_volumeOfRow 4 (some .int) 3 65 rvI [.ref (adr g a0), .int p1_] M (.inl v : Int32 ⊕ String) M := by
  refine CO_of hst (by decide) (Nat.le_of_ble_eq_true rfl) ?_
  intro p e s m below meth c ls X hr htb hH hL hl
  have hx := X.1
  have hb := X.2.1
  have hts := X.2.2.2.2.1
  refine q_out hF ?_
  rw [F_X4_volumeOfRow]
  replace hl : lv_has ls 4 [(0, .ref (adr g a0)), (1, .int p1_)] := hl
  refine lv_iconst (v := 0) hx hb dX4_volumeOfRow_0 (by decide) ?_
  refine lv_istore_n (lv' := [(2, .int 0), (0, .ref (adr g a0)), (1, .int p1_)]) hx hb dX4_volumeOfRow_1 rfl hl (by decide) rfl (fun ls hl => ?_)
  refine lv_iconst (v := 0) hx hb dX4_volumeOfRow_2 (by decide) ?_
  refine lv_istore_n (lv' := [(3, .int 0), (2, .int 0), (0, .ref (adr g a0)), (1, .int p1_)]) hx hb dX4_volumeOfRow_3 rfl hl (by decide) rfl (fun ls hl => ?_)
  have L11 : ∀ (K : Int32 → Int32 → Option Int32) (_ : ∀ (i1 : Int32) (i2 : Int32) (H : Heap) (locs : List Loc) (ls : Array Slot), HR g M H → LK g s H locs → lv_has ls 4 [(0, .ref (adr g a0)), (1, .int p1_), (2, .int i1), (3, .int i2)] → W p l e (rmO (.inl v : Int32 ⊕ String) 3 65) s m ([.ref (adr g a0), .int p1_] : List Value).toArray below meth c H locs 0 0 (GQ (K i1 i2) v (MQO g below rvI (.inl v : Int32 ⊕ String) M ([.ref (adr g a0), .int p1_] : List Value).toArray s)) (F0 m 34 ls [])) (n : Nat) (i1 : Int32) (i2 : Int32) (H : Heap) (locs : List Loc) (ls : Array Slot), HR g M H → LK g s H locs → lv_has ls 4 [(0, .ref (adr g a0)), (1, .int p1_), (2, .int i1), (3, .int i2)] → W p l e (rmO (.inl v : Int32 ⊕ String) 3 65) s m ([.ref (adr g a0), .int p1_] : List Value).toArray below meth c H locs 0 0 (GQ (F_X4_volumeOfRow_L1 a0 p1_ M K n i1 i2) v (MQO g below rvI (.inl v : Int32 ⊕ String) M ([.ref (adr g a0), .int p1_] : List Value).toArray s)) (F0 m 4 ls []) := by
    intro K hK n
    induction n with
    | zero => intros; exact q_none
    | succ n ih =>
      intro i1 i2 H locs ls hH hL hl 
      rw [F_X4_volumeOfRow_L1]
      refine lv_iload_n hx hb dX4_volumeOfRow_4 rfl (lv_at hl 3 rfl) ?_
      refine lv_aload_n hx hb dX4_volumeOfRow_5 rfl (lv_at hl 0 rfl) ?_
      refine m_gI (k := 2) X hH inC4 t0 rfl W125 dX4_volumeOfRow_6 ?_
      refine lv_icmp_ge (tgt := 34) hx hb dX4_volumeOfRow_9 (by decide) (fun c4 => q_pos c4 ?_) (fun c4 => q_neg c4 ?_)
      · exact hK i1 i2 _ _ ls hH hL hl 
      · refine lv_iload_n hx hb dX4_volumeOfRow_12 rfl (lv_at hl 2 rfl) ?_
        refine lv_aload_n hx hb dX4_volumeOfRow_13 rfl (lv_at hl 0 rfl) ?_
        refine m_gI (k := 0) X hH inC4 t0 rfl W120 dX4_volumeOfRow_14 ?_
        refine lv_aload_n hx hb dX4_volumeOfRow_17 rfl (lv_at hl 0 rfl) ?_
        refine lv_iload_n hx hb dX4_volumeOfRow_18 rfl (lv_at hl 1 rfl) ?_
        refine lv_iload_n hx hb dX4_volumeOfRow_19 rfl (lv_at hl 3 rfl) ?_
        refine q_bind (fun v6 e5 => ?_)
        refine my_doneI hL (my_runV X hH hl.1 (co_X4_noteAt g l hst a0 p1_ i2 M t0 v6 e5) ok_X4_noteAt W632 t0 rfl (by decide) rfl rfl rfl ⟨Nat.le_of_ble_eq_true rfl, Nat.le_of_ble_eq_true rfl⟩ ⟨Nat.zero_le _, Nat.zero_le _⟩ (Nat.le_of_ble_eq_true rfl) dX4_volumeOfRow_20) (fun H locs hH hL => ?_)
        refine q_bind (fun v8 e7 => ?_)
        refine my_doneI hL (my_runSN X hH hl.1 (co_X8_volumeOf g l hst (mI M a0 0) v6 M v8 e7) ok_X8_volumeOf N367 rfl rfl ⟨Nat.le_of_ble_eq_true rfl, Nat.le_of_ble_eq_true rfl⟩ ⟨Nat.zero_le _, Nat.zero_le _⟩ (Nat.le_of_ble_eq_true rfl) dX4_volumeOfRow_23) (fun H locs hH hL => ?_)
        refine lv_iadd hx hb dX4_volumeOfRow_26 ?_
        refine q_lt (fun v9 e_v9 => ?_)
        refine q_topI e_v9 ?_
        refine lv_istore_n (lv' := [(2, .int v9), (0, .ref (adr g a0)), (1, .int p1_), (3, .int i2)]) hx hb dX4_volumeOfRow_27 rfl hl (by decide) rfl (fun ls hl => ?_)
        refine q_lt (fun v10 e_v10 => ?_)
        refine lv_iinc (v := v10) (lv' := [(3, .int v10), (2, .int v9), (0, .ref (adr g a0)), (1, .int p1_)]) hx hb dX4_volumeOfRow_28 hl (k := 3) rfl (by rw [e_v10]; rfl) (by decide) rfl (fun ls hl => ?_)
        refine lv_goto (tgt := 4) hx hb dX4_volumeOfRow_31 (by decide) ?_
        exact ih v9 v10 _ _ ls hH hL (lv_sub hl [2, 3, 1, 0] rfl) 
  refine L11 _ (fun x12 x13 H locs ls hH hL hl  => ?_) 3000 0 0 _ _ ls hH hL (lv_sub hl [2, 3, 1, 0] rfl) 
  refine lv_iload_n hx hb dX4_volumeOfRow_34 rfl (lv_at hl 2 rfl) ?_
  exact q_end0 (m_iret X hr hH hL dX4_volumeOfRow_35)

