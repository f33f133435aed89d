set_option maxRecDepth 20000 in
set_option maxHeartbeats 4000000 in
theorem co_X8_copyNumbers_20 (g : GP) (l : Launch) (hst : l.stackTraces = false) (q1_ : Nat) (q2_ : Nat) (M : Mem) (t_q1_ : tyT q1_ = 20) (t_q2_ : tyT q2_ = 20) (v : Unit) (M' : Mem) (hF : F_X8_copyNumbers_20 q1_ q2_ M = some (v, M')) : CO g l yX8_copyNumbers cX8_copyNumbers 2 none 1 40 rvU [.ref (adr g q1_), .ref (adr g q2_)] M (.inl v : Unit ⊕ String) M' := by
  refine CO_of hst (by decide) (Nat.le_of_ble_eq_true rfl) ?_
  intro p e s m below meth c ls X hr htb hH hL hl
  have hx := X.1
  have hb := X.2.1
  have hts := X.2.2.2.2.1
  refine q_out hF ?_
  rw [F_X8_copyNumbers_20]
  replace hl : lv_has ls 2 [(0, .ref (adr g q1_)), (1, .ref (adr g q2_))] := hl
  refine lv_aload_n hx hb dX8_copyNumbers_0 rfl (lv_at hl 0 rfl) ?_
  refine lv_iconst (v := 0) hx hb dX8_copyNumbers_1 (by decide) ?_
  refine lv_aload_n hx hb dX8_copyNumbers_2 rfl (lv_at hl 1 rfl) ?_
  refine lv_iconst (v := 0) hx hb dX8_copyNumbers_3 (by decide) ?_
  refine lv_aload_n hx hb dX8_copyNumbers_4 rfl (lv_at hl 0 rfl) ?_
  refine m_alen X hH t_q1_ rfl (by decide) (v := 36) (by decide) dX8_copyNumbers_5 ?_
  refine lv_aload_n hx hb dX8_copyNumbers_6 rfl (lv_at hl 1 rfl) ?_
  refine m_alen X hH t_q2_ rfl (by decide) (v := 36) (by decide) dX8_copyNumbers_7 ?_
  refine va_mmin hx hb (X.2.2.1.trans hl.1.symm) X.2.2.2.1 (hts _ W329) (hts _ W330) (hts _ W82) (hts _ W331) (Nat.le_of_ble_eq_true rfl) (Nat.le_of_ble_eq_true rfl) (Nat.zero_le _) (Nat.zero_le _) dX8_copyNumbers_8 ?_
  refine q_topI (show (36 : Int32) = if (36 : Int32) < 36 then (36 : Int32) else 36 from by decide) ?_
  refine q_lt (fun M1 e_M1 => ?_)
  refine m_acopy X hH hL hl.1 t_q1_ t_q2_ rfl (by decide) (fun _ => rfl) rfl rfl (n := 36) (by decide) (by decide) (by decide) W332 W334 W333 W83 (Nat.le_of_ble_eq_true rfl) (Nat.le_of_ble_eq_true rfl) dX8_copyNumbers_11 e_M1 (fun H locs hH hL => ?_)
  exact q_end1 (m_vret X hr hH hL dX8_copyNumbers_14)
set_option maxRecDepth 20000 in
set_option maxHeartbeats 4000000 in
theorem co_X8_copyNumbers_21 (g : GP) (l : Launch) (hst : l.stackTraces = false) (q1_ : Nat) (q2_ : Nat) (M : Mem) (t_q1_ : tyT q1_ = 21) (t_q2_ : tyT q2_ = 21) (v : Unit) (M' : Mem) (hF : F_X8_copyNumbers_21 q1_ q2_ M = some (v, M')) : CO g l yX8_copyNumbers cX8_copyNumbers 2 none 1 40 rvU [.ref (adr g q1_), .ref (adr g q2_)] M (.inl v : Unit ⊕ String) M' := by
  refine CO_of hst (by decide) (Nat.le_of_ble_eq_true rfl) ?_
  intro p e s m below meth c ls X hr htb hH hL hl
  have hx := X.1
  have hb := X.2.1
  have hts := X.2.2.2.2.1
  refine q_out hF ?_
  rw [F_X8_copyNumbers_21]
  replace hl : lv_has ls 2 [(0, .ref (adr g q1_)), (1, .ref (adr g q2_))] := hl
  refine lv_aload_n hx hb dX8_copyNumbers_0 rfl (lv_at hl 0 rfl) ?_
  refine lv_iconst (v := 0) hx hb dX8_copyNumbers_1 (by decide) ?_
  refine lv_aload_n hx hb dX8_copyNumbers_2 rfl (lv_at hl 1 rfl) ?_
  refine lv_iconst (v := 0) hx hb dX8_copyNumbers_3 (by decide) ?_
  refine lv_aload_n hx hb dX8_copyNumbers_4 rfl (lv_at hl 0 rfl) ?_
  refine m_alen X hH t_q1_ rfl (by decide) (v := 30) (by decide) dX8_copyNumbers_5 ?_
  refine lv_aload_n hx hb dX8_copyNumbers_6 rfl (lv_at hl 1 rfl) ?_
  refine m_alen X hH t_q2_ rfl (by decide) (v := 30) (by decide) dX8_copyNumbers_7 ?_
  refine va_mmin hx hb (X.2.2.1.trans hl.1.symm) X.2.2.2.1 (hts _ W329) (hts _ W330) (hts _ W82) (hts _ W331) (Nat.le_of_ble_eq_true rfl) (Nat.le_of_ble_eq_true rfl) (Nat.zero_le _) (Nat.zero_le _) dX8_copyNumbers_8 ?_
  refine q_topI (show (30 : Int32) = if (30 : Int32) < 30 then (30 : Int32) else 30 from by decide) ?_
  refine q_lt (fun M1 e_M1 => ?_)
  refine m_acopy X hH hL hl.1 t_q1_ t_q2_ rfl (by decide) (fun _ => rfl) rfl rfl (n := 30) (by decide) (by decide) (by decide) W332 W334 W333 W83 (Nat.le_of_ble_eq_true rfl) (Nat.le_of_ble_eq_true rfl) dX8_copyNumbers_11 e_M1 (fun H locs hH hL => ?_)
  exact q_end1 (m_vret X hr hH hL dX8_copyNumbers_14)
set_option maxRecDepth 20000 in
set_option maxHeartbeats 4000000 in
theorem co_X8_copyNumbers_22 (g : GP) (l : Launch) (hst : l.stackTraces = false) (q1_ : Nat) (q2_ : Nat) (M : Mem) (t_q1_ : tyT q1_ = 22) (t_q2_ : tyT q2_ = 22) (v : Unit) (M' : Mem) (hF : F_X8_copyNumbers_22 q1_ q2_ M = some (v, M')) : CO g l yX8_copyNumbers cX8_copyNumbers 2 none 1 40 rvU [.ref (adr g q1_), .ref (adr g q2_)] M (.inl v : Unit ⊕ String) M' := by
  refine CO_of hst (by decide) (Nat.le_of_ble_eq_true rfl) ?_
  intro p e s m below meth c ls X hr htb hH hL hl
  have hx := X.1
  have hb := X.2.1
  have hts := X.2.2.2.2.1
  refine q_out hF ?_
  rw [F_X8_copyNumbers_22]
  replace hl : lv_has ls 2 [(0, .ref (adr g q1_)), (1, .ref (adr g q2_))] := hl
  refine lv_aload_n hx hb dX8_copyNumbers_0 rfl (lv_at hl 0 rfl) ?_
  refine lv_iconst (v := 0) hx hb dX8_copyNumbers_1 (by decide) ?_
  refine lv_aload_n hx hb dX8_copyNumbers_2 rfl (lv_at hl 1 rfl) ?_
  refine lv_iconst (v := 0) hx hb dX8_copyNumbers_3 (by decide) ?_
  refine lv_aload_n hx hb dX8_copyNumbers_4 rfl (lv_at hl 0 rfl) ?_
  refine m_alen X hH t_q1_ rfl (by decide) (v := 10) (by decide) dX8_copyNumbers_5 ?_
  refine lv_aload_n hx hb dX8_copyNumbers_6 rfl (lv_at hl 1 rfl) ?_
  refine m_alen X hH t_q2_ rfl (by decide) (v := 10) (by decide) dX8_copyNumbers_7 ?_
  refine va_mmin hx hb (X.2.2.1.trans hl.1.symm) X.2.2.2.1 (hts _ W329) (hts _ W330) (hts _ W82) (hts _ W331) (Nat.le_of_ble_eq_true rfl) (Nat.le_of_ble_eq_true rfl) (Nat.zero_le _) (Nat.zero_le _) dX8_copyNumbers_8 ?_
  refine q_topI (show (10 : Int32) = if (10 : Int32) < 10 then (10 : Int32) else 10 from by decide) ?_
  refine q_lt (fun M1 e_M1 => ?_)
  refine m_acopy X hH hL hl.1 t_q1_ t_q2_ rfl (by decide) (fun _ => rfl) rfl rfl (n := 10) (by decide) (by decide) (by decide) W332 W334 W333 W83 (Nat.le_of_ble_eq_true rfl) (Nat.le_of_ble_eq_true rfl) dX8_copyNumbers_11 e_M1 (fun H locs hH hL => ?_)
  exact q_end1 (m_vret X hr hH hL dX8_copyNumbers_14)

set_option maxRecDepth 20000 in
set_option maxHeartbeats 4000000 in
theorem co_X4_copyFrom (g : GP) (l : Launch) (hst : l.stackTraces = false) (a0 : Nat) (q1_ : Nat) (M : Mem) (t0 : tyT a0 = 4) (t_q1_ : tyT q1_ = 4) (v : Unit) (M' : Mem) (hF : F_X4_copyFrom a0 q1_ M = some (v, M')) : CO g l yX4_copyFrom cX4_copyFrom 2 none 2 61 rvU [.ref (adr g a0), .ref (adr g q1_)] M (.inl v : Unit ⊕ String) M' := by
  refine CO_of hst (by decide) (Nat.le_of_ble_eq_true rfl) ?_
  intro p e s m below meth c ls X hr htb hH hL hl
  have hx := X.1
  have hb := X.2.1
  have hts := X.2.2.2.2.1
  refine q_out hF ?_
  rw [F_X4_copyFrom]
  replace hl : lv_has ls 2 [(0, .ref (adr g a0)), (1, .ref (adr g q1_))] := hl
  refine lv_aload_n hx hb dX4_copyFrom_0 rfl (lv_at hl 0 rfl) ?_
  refine lv_aload_n hx hb dX4_copyFrom_1 rfl (lv_at hl 1 rfl) ?_
  refine m_gI (k := 0) X hH inC4 t_q1_ rfl W120 dX4_copyFrom_2 ?_
  refine q_chk (fun hn2 => ?_)
  refine q_lt (fun M1 e_M1 => ?_)
  refine m_pI (k := 0) X hH hL okC4 t0 rfl rfl (nokC_n hn2) (nokC_f hn2) W120 dX4_copyFrom_5 e_M1 (fun H locs hH hL => ?_)
  refine lv_aload_n hx hb dX4_copyFrom_8 rfl (lv_at hl 0 rfl) ?_
  refine lv_aload_n hx hb dX4_copyFrom_9 rfl (lv_at hl 1 rfl) ?_
  refine m_gI (k := 1) X hH inC4 t_q1_ rfl W123 dX4_copyFrom_10 ?_
  refine q_lt (fun M3 e_M3 => ?_)
  refine m_pI (k := 1) X hH hL okC4 t0 rfl rfl rfl rfl W123 dX4_copyFrom_13 e_M3 (fun H locs hH hL => ?_)
  refine lv_aload_n hx hb dX4_copyFrom_16 rfl (lv_at hl 0 rfl) ?_
  refine lv_aload_n hx hb dX4_copyFrom_17 rfl (lv_at hl 1 rfl) ?_
  refine m_gI (k := 2) X hH inC4 t_q1_ rfl W125 dX4_copyFrom_18 ?_
  refine q_lt (fun M4 e_M4 => ?_)
  refine m_pI (k := 2) X hH hL okC4 t0 rfl rfl rfl rfl W125 dX4_copyFrom_21 e_M4 (fun H locs hH hL => ?_)
  refine lv_aload_n hx hb dX4_copyFrom_24 rfl (lv_at hl 1 rfl) ?_
  refine m_gR (k := 3) X hH inC4 t_q1_ rfl W128 dX4_copyFrom_25 20 rfl (fun t5 => ?_)
  refine lv_aload_n hx hb dX4_copyFrom_28 rfl (lv_at hl 0 rfl) ?_
  refine m_gR (k := 3) X hH inC4 t0 rfl W128 dX4_copyFrom_29 20 rfl (fun t6 => ?_)
  refine q_b1 (fun u8 M9 e7 => ?_)
  refine my_doneU hL (my_runSN X hH hl.1 (co_X8_copyNumbers_20 g l hst (mR M4 q1_ 3) (mR M4 a0 3) M4 t5 t6 u8 M9 e7) ok_X8_copyNumbers N326 rfl rfl ⟨Nat.le_of_ble_eq_true rfl, Nat.le_of_ble_eq_true rfl⟩ ⟨Nat.zero_le _, Nat.zero_le _⟩ (Nat.le_of_ble_eq_true rfl) dX4_copyFrom_32) (fun H locs hH hL => ?_)
  refine lv_aload_n hx hb dX4_copyFrom_35 rfl (lv_at hl 0 rfl) ?_
  refine lv_aload_n hx hb dX4_copyFrom_36 rfl (lv_at hl 1 rfl) ?_
  refine m_gI (k := 4) X hH inC4 t_q1_ rfl W130 dX4_copyFrom_37 ?_
  refine q_lt (fun M10 e_M10 => ?_)
  refine m_pI (k := 4) X hH hL okC4 t0 rfl rfl rfl rfl W130 dX4_copyFrom_40 e_M10 (fun H locs hH hL => ?_)
  refine lv_aload_n hx hb dX4_copyFrom_43 rfl (lv_at hl 0 rfl) ?_
  refine lv_aload_n hx hb dX4_copyFrom_44 rfl (lv_at hl 1 rfl) ?_
  refine m_gI (k := 5) X hH inC4 t_q1_ rfl W131 dX4_copyFrom_45 ?_
  refine q_lt (fun M11 e_M11 => ?_)
  refine m_pI (k := 5) X hH hL okC4 t0 rfl rfl rfl rfl W131 dX4_copyFrom_48 e_M11 (fun H locs hH hL => ?_)
  refine lv_aload_n hx hb dX4_copyFrom_51 rfl (lv_at hl 0 rfl) ?_
  refine lv_aload_n hx hb dX4_copyFrom_52 rfl (lv_at hl 1 rfl) ?_
  refine m_gI (k := 6) X hH inC4 t_q1_ rfl W133 dX4_copyFrom_53 ?_
  refine q_lt (fun M12 e_M12 => ?_)
  refine m_pI (k := 6) X hH hL okC4 t0 rfl rfl rfl rfl W133 dX4_copyFrom_56 e_M12 (fun H locs hH hL => ?_)
  refine lv_aload_n hx hb dX4_copyFrom_59 rfl (lv_at hl 0 rfl) ?_
  refine lv_aload_n hx hb dX4_copyFrom_60 rfl (lv_at hl 1 rfl) ?_
  refine m_gI (k := 7) X hH inC4 t_q1_ rfl W136 dX4_copyFrom_61 ?_
  refine q_lt (fun M13 e_M13 => ?_)
  refine m_pI (k := 7) X hH hL okC4 t0 rfl rfl rfl rfl W136 dX4_copyFrom_64 e_M13 (fun H locs hH hL => ?_)
  exact q_end1 (m_vret X hr hH hL dX4_copyFrom_67)

set_option maxRecDepth 20000 in
set_option maxHeartbeats 4000000 in
theorem co_X5_copyFrom (g : GP) (l : Launch) (hst : l.stackTraces = false) (a0 : Nat) (q1_ : Nat) (M : Mem) (t0 : tyT a0 = 5) (t_q1_ : tyT q1_ = 5) (v : Unit) (M' : Mem) (hF : F_X5_copyFrom a0 q1_ M = some (v, M')) : CO g l yX5_copyFrom cX5_copyFrom 3 none 3 82 rvU [.ref (adr g a0), .ref (adr g q1_)] M (.inl v : Unit ⊕ String) M' := by
  refine CO_of hst (by decide) (Nat.le_of_ble_eq_true rfl) ?_
  intro p e s m below meth c ls X hr htb hH hL hl
  have hx := X.1
  have hb := X.2.1
  have hts := X.2.2.2.2.1
  refine q_out hF ?_
  rw [F_X5_copyFrom]
  replace hl : lv_has ls 3 [(0, .ref (adr g a0)), (1, .ref (adr g q1_))] := hl
  refine lv_iconst (v := 0) hx hb dX5_copyFrom_0 (by decide) ?_
  refine lv_istore_n (lv' := [(2, .int 0), (0, .ref (adr g a0)), (1, .ref (adr g q1_))]) hx hb dX5_copyFrom_1 rfl hl (by decide) rfl (fun ls hl => ?_)
  have L18 : ∀ (K : Int32 → Mem → Option (Unit × Mem)) (_ : ∀ (i1 : Int32) (M2 : Mem) (H : Heap) (locs : List Loc) (ls : Array Slot), HR g M2 H → LK g s H locs → lv_has ls 3 [(0, .ref (adr g a0)), (1, .ref (adr g q1_)), (2, .int i1)] → W p l e (rmO (.inl v : Unit ⊕ String) 3 82) s m ([.ref (adr g a0), .ref (adr g q1_)] : List Value).toArray below meth c H locs 0 0 (GQ (K i1 M2) (v, M') (MQO g below rvU (.inl v : Unit ⊕ String) M' ([.ref (adr g a0), .ref (adr g q1_)] : List Value).toArray s)) (F0 m 41 ls [])) (n : Nat) (i1 : Int32) (M2 : Mem) (H : Heap) (locs : List Loc) (ls : Array Slot), HR g M2 H → LK g s H locs → lv_has ls 3 [(0, .ref (adr g a0)), (1, .ref (adr g q1_)), (2, .int i1)] → W p l e (rmO (.inl v : Unit ⊕ String) 3 82) s m ([.ref (adr g a0), .ref (adr g q1_)] : List Value).toArray below meth c H locs 0 0 (GQ (F_X5_copyFrom_L1 a0 q1_ K n i1 M2) (v, M') (MQO g below rvU (.inl v : Unit ⊕ String) M' ([.ref (adr g a0), .ref (adr g q1_)] : List Value).toArray s)) (F0 m 2 ls []) := by
    intro K hK n
    induction n with
    | zero => intros; exact q_none
    | succ n ih =>
      intro i1 M2 H locs ls hH hL hl 
      rw [F_X5_copyFrom_L1]
      refine lv_iload_n hx hb dX5_copyFrom_2 rfl (lv_at hl 2 rfl) ?_
      refine lv_aload_n hx hb dX5_copyFrom_3 rfl (lv_at hl 0 rfl) ?_
      refine m_gR (k := 0) X hH inC5 t0 rfl W157 dX5_copyFrom_4 29 rfl (fun t4 => ?_)
      refine m_alen X hH t4 rfl (by decide) (v := 5) (by decide) dX5_copyFrom_7 ?_
      refine lv_icmp_ge (tgt := 41) hx hb dX5_copyFrom_8 (by decide) (fun c5 => q_pos c5 ?_) (fun c5 => q_neg c5 ?_)
      · exact hK i1 M2 _ _ ls hH hL hl 
      · refine lv_iload_n hx hb dX5_copyFrom_11 rfl (lv_at hl 2 rfl) ?_
        refine lv_aload_n hx hb dX5_copyFrom_12 rfl (lv_at hl 1 rfl) ?_
        refine m_gR (k := 0) X hH inC5 t_q1_ rfl W157 dX5_copyFrom_13 29 rfl (fun t6 => ?_)
        refine m_alen X hH t6 rfl (by decide) (v := 5) (by decide) dX5_copyFrom_16 ?_
        refine lv_icmp_ge (tgt := 41) hx hb dX5_copyFrom_17 (by decide) (fun c7 => q_pos c7 ?_) (fun c7 => q_neg c7 ?_)
        · exact hK i1 M2 _ _ ls hH hL hl 
        · refine lv_aload_n hx hb dX5_copyFrom_20 rfl (lv_at hl 0 rfl) ?_
          refine m_gR (k := 0) X hH inC5 t0 rfl W157 dX5_copyFrom_21 29 rfl (fun t8 => ?_)
          refine lv_iload_n hx hb dX5_copyFrom_24 rfl (lv_at hl 2 rfl) ?_
          refine q_chk (fun hb9 => ?_)
          refine m_aald X hH t8 rfl (by decide) (fun _ => rfl) rfl rfl (t2 := 4) (fun _ => rfl) hb9 dX5_copyFrom_25 (fun t10 => ?_)
          refine lv_aload_n hx hb dX5_copyFrom_26 rfl (lv_at hl 1 rfl) ?_
          refine m_gR (k := 0) X hH inC5 t_q1_ rfl W157 dX5_copyFrom_27 29 rfl (fun t11 => ?_)
          refine lv_iload_n hx hb dX5_copyFrom_30 rfl (lv_at hl 2 rfl) ?_
          refine q_chk (fun hb12 => ?_)
          refine m_aald X hH t11 rfl (by decide) (fun _ => rfl) rfl rfl (t2 := 4) (fun _ => rfl) hb12 dX5_copyFrom_31 (fun t13 => ?_)
          refine q_b1 (fun u15 M16 e14 => ?_)
          refine my_doneU hL (my_runV X hH hl.1 (co_X4_copyFrom g l hst (mR M2 (mR M2 a0 0) i1.toNatClampNeg) (mR M2 (mR M2 q1_ 0) i1.toNatClampNeg) M2 t10 t13 u15 M16 e14) ok_X4_copyFrom W322 t10 rfl (by decide) rfl rfl rfl ⟨Nat.le_of_ble_eq_true rfl, Nat.le_of_ble_eq_true rfl⟩ ⟨Nat.zero_le _, Nat.zero_le _⟩ (Nat.le_of_ble_eq_true rfl) dX5_copyFrom_32) (fun H locs hH hL => ?_)
          refine q_lt (fun v17 e_v17 => ?_)
          refine lv_iinc (v := v17) (lv' := [(2, .int v17), (0, .ref (adr g a0)), (1, .ref (adr g q1_))]) hx hb dX5_copyFrom_35 hl (k := 2) rfl (by rw [e_v17]; rfl) (by decide) rfl (fun ls hl => ?_)
          refine lv_goto (tgt := 2) hx hb dX5_copyFrom_38 (by decide) ?_
          exact ih v17 M16 _ _ ls hH hL (lv_sub hl [1, 2, 0] rfl) 
  refine L18 _ (fun x19 M20 H locs ls hH hL hl  => ?_) 3000 0 M _ _ ls hH hL (lv_sub hl [1, 2, 0] rfl) 
  refine lv_aload_n hx hb dX5_copyFrom_41 rfl (lv_at hl 0 rfl) ?_
  refine lv_aload_n hx hb dX5_copyFrom_42 rfl (lv_at hl 1 rfl) ?_
  refine m_gI (k := 1) X hH inC5 t_q1_ rfl W159 dX5_copyFrom_43 ?_
  refine q_lt (fun M21 e_M21 => ?_)
  refine m_pI (k := 1) X hH hL okC5 t0 rfl rfl rfl rfl W159 dX5_copyFrom_46 e_M21 (fun H locs hH hL => ?_)
  refine lv_aload_n hx hb dX5_copyFrom_49 rfl (lv_at hl 0 rfl) ?_
  refine lv_aload_n hx hb dX5_copyFrom_50 rfl (lv_at hl 1 rfl) ?_
  refine m_gI (k := 2) X hH inC5 t_q1_ rfl W161 dX5_copyFrom_51 ?_
  refine q_lt (fun M22 e_M22 => ?_)
  refine m_pI (k := 2) X hH hL okC5 t0 rfl rfl rfl rfl W161 dX5_copyFrom_54 e_M22 (fun H locs hH hL => ?_)
  refine lv_aload_n hx hb dX5_copyFrom_57 rfl (lv_at hl 0 rfl) ?_
  refine lv_aload_n hx hb dX5_copyFrom_58 rfl (lv_at hl 1 rfl) ?_
  refine m_gI (k := 3) X hH inC5 t_q1_ rfl W163 dX5_copyFrom_59 ?_
  refine q_lt (fun M23 e_M23 => ?_)
  refine m_pI (k := 3) X hH hL okC5 t0 rfl rfl rfl rfl W163 dX5_copyFrom_62 e_M23 (fun H locs hH hL => ?_)
  refine lv_aload_n hx hb dX5_copyFrom_65 rfl (lv_at hl 0 rfl) ?_
  refine lv_aload_n hx hb dX5_copyFrom_66 rfl (lv_at hl 1 rfl) ?_
  refine m_gI (k := 4) X hH inC5 t_q1_ rfl W165 dX5_copyFrom_67 ?_
  refine q_lt (fun M24 e_M24 => ?_)
  refine m_pI (k := 4) X hH hL okC5 t0 rfl rfl rfl rfl W165 dX5_copyFrom_70 e_M24 (fun H locs hH hL => ?_)
  refine lv_aload_n hx hb dX5_copyFrom_73 rfl (lv_at hl 0 rfl) ?_
  refine lv_aload_n hx hb dX5_copyFrom_74 rfl (lv_at hl 1 rfl) ?_
  refine m_gI (k := 5) X hH inC5 t_q1_ rfl W167 dX5_copyFrom_75 ?_
  refine q_lt (fun M25 e_M25 => ?_)
  refine m_pI (k := 5) X hH hL okC5 t0 rfl rfl rfl rfl W167 dX5_copyFrom_78 e_M25 (fun H locs hH hL => ?_)
  refine lv_aload_n hx hb dX5_copyFrom_81 rfl (lv_at hl 0 rfl) ?_
  refine lv_aload_n hx hb dX5_copyFrom_82 rfl (lv_at hl 1 rfl) ?_
  refine m_gI (k := 6) X hH inC5 t_q1_ rfl W169 dX5_copyFrom_83 ?_
  refine q_lt (fun M26 e_M26 => ?_)
  refine m_pI (k := 6) X hH hL okC5 t0 rfl rfl rfl rfl W169 dX5_copyFrom_86 e_M26 (fun H locs hH hL => ?_)
  refine lv_aload_n hx hb dX5_copyFrom_89 rfl (lv_at hl 0 rfl) ?_
  refine lv_aload_n hx hb dX5_copyFrom_90 rfl (lv_at hl 1 rfl) ?_
  refine m_gJ (k := 7) X hH inC5 t_q1_ rfl W171 dX5_copyFrom_91 ?_
  refine q_lt (fun M27 e_M27 => ?_)
  refine m_pJ (k := 7) X hH hL okC5 t0 rfl rfl W171 dX5_copyFrom_94 e_M27 (fun H locs hH hL => ?_)
  refine lv_aload_n hx hb dX5_copyFrom_97 rfl (lv_at hl 1 rfl) ?_
  refine m_gR (k := 8) X hH inC5 t_q1_ rfl W173 dX5_copyFrom_98 21 rfl (fun t28 => ?_)
  refine lv_aload_n hx hb dX5_copyFrom_101 rfl (lv_at hl 0 rfl) ?_
  refine m_gR (k := 8) X hH inC5 t0 rfl W173 dX5_copyFrom_102 21 rfl (fun t29 => ?_)
  refine q_b1 (fun u31 M32 e30 => ?_)
  refine my_doneU hL (my_runSN X hH hl.1 (co_X8_copyNumbers_21 g l hst (mR M27 q1_ 8) (mR M27 a0 8) M27 t28 t29 u31 M32 e30) ok_X8_copyNumbers N335 rfl rfl ⟨Nat.le_of_ble_eq_true rfl, Nat.le_of_ble_eq_true rfl⟩ ⟨Nat.zero_le _, Nat.zero_le _⟩ (Nat.le_of_ble_eq_true rfl) dX5_copyFrom_105) (fun H locs hH hL => ?_)
  refine lv_aload_n hx hb dX5_copyFrom_108 rfl (lv_at hl 1 rfl) ?_
  refine m_gR (k := 9) X hH inC5 t_q1_ rfl W174 dX5_copyFrom_109 22 rfl (fun t33 => ?_)
  refine lv_aload_n hx hb dX5_copyFrom_112 rfl (lv_at hl 0 rfl) ?_
  refine m_gR (k := 9) X hH inC5 t0 rfl W174 dX5_copyFrom_113 22 rfl (fun t34 => ?_)
  refine q_b1 (fun u36 M37 e35 => ?_)
  refine my_doneU hL (my_runSN X hH hl.1 (co_X8_copyNumbers_22 g l hst (mR M32 q1_ 9) (mR M32 a0 9) M32 t33 t34 u36 M37 e35) ok_X8_copyNumbers N335 rfl rfl ⟨Nat.le_of_ble_eq_true rfl, Nat.le_of_ble_eq_true rfl⟩ ⟨Nat.zero_le _, Nat.zero_le _⟩ (Nat.le_of_ble_eq_true rfl) dX5_copyFrom_116) (fun H locs hH hL => ?_)
  exact q_end1 (m_vret X hr hH hL dX5_copyFrom_119)

set_option maxRecDepth 20000 in
set_option maxHeartbeats 4000000 in
theorem co_X2_prepare (g : GP) (l : Launch) (hst : l.stackTraces = false) (a0 : Nat) (q1_ : Nat) (M : Mem) (t0 : tyT a0 = 2) (t_q1_ : tyT q1_ = 5) (v : Unit) (M' : Mem) (hF : F_X2_prepare a0 q1_ M = some (v, M')) : CO g l yX2_prepare cX2_prepare 2 none 4 104 rvU [.ref (adr g a0), .ref (adr g q1_)] M (.inl v : Unit ⊕ String) M' := by
  refine CO_of hst (by decide) (Nat.le_of_ble_eq_true rfl) ?_
  intro p e s m below meth c ls X hr htb hH hL hl
  have hx := X.1
  have hb := X.2.1
  have hts := X.2.2.2.2.1
  refine q_out hF ?_
  rw [F_X2_prepare]
  replace hl : lv_has ls 2 [(0, .ref (adr g a0)), (1, .ref (adr g q1_))] := hl
  refine lv_aload_n hx hb dX2_prepare_0 rfl (lv_at hl 0 rfl) ?_
  refine m_gI (k := 1) X hH inC2 t0 rfl W206 dX2_prepare_1 ?_
  refine lv_if_lt (tgt := 32) hx hb dX2_prepare_4 (by decide) (fun c1 => q_pos c1 ?_) (fun c1 => q_neg c1 ?_)
  · exact q_end1 (m_vret X hr hH hL dX2_prepare_32)
  · refine lv_aload_n hx hb dX2_prepare_7 rfl (lv_at hl 0 rfl) ?_
    refine m_gI (k := 1) X hH inC2 t0 rfl W206 dX2_prepare_8 ?_
    refine lv_aload_n hx hb dX2_prepare_11 rfl (lv_at hl 0 rfl) ?_
    refine m_gR (k := 0) X hH inC2 t0 rfl W205 dX2_prepare_12 30 rfl (fun t2 => ?_)
    refine m_alen X hH t2 rfl (by decide) (v := 9) (by decide) dX2_prepare_15 ?_
    refine lv_icmp_ge (tgt := 32) hx hb dX2_prepare_16 (by decide) (fun c3 => q_pos c3 ?_) (fun c3 => q_neg c3 ?_)
    · exact q_end1 (m_vret X hr hH hL dX2_prepare_32)
    · refine lv_aload_n hx hb dX2_prepare_19 rfl (lv_at hl 0 rfl) ?_
      refine m_gR (k := 0) X hH inC2 t0 rfl W205 dX2_prepare_20 30 rfl (fun t4 => ?_)
      refine lv_aload_n hx hb dX2_prepare_23 rfl (lv_at hl 0 rfl) ?_
      refine m_gI (k := 1) X hH inC2 t0 rfl W206 dX2_prepare_24 ?_
      refine q_chk (fun hb5 => ?_)
      refine m_aald X hH t4 rfl (by decide) (fun _ => rfl) rfl rfl (t2 := 5) (fun _ => rfl) hb5 dX2_prepare_27 (fun t6 => ?_)
      refine lv_aload_n hx hb dX2_prepare_28 rfl (lv_at hl 1 rfl) ?_
      refine q_b1 (fun u8 M9 e7 => ?_)
      refine my_doneU hL (my_runV X hH hl.1 (co_X5_copyFrom g l hst (mR M (mR M a0 0) (mI M a0 1).toNatClampNeg) q1_ M t6 t_q1_ u8 M9 e7) ok_X5_copyFrom W318 t6 rfl (by decide) rfl rfl rfl ⟨Nat.le_of_ble_eq_true rfl, Nat.le_of_ble_eq_true rfl⟩ ⟨Nat.zero_le _, Nat.zero_le _⟩ (Nat.le_of_ble_eq_true rfl) dX2_prepare_29) (fun H locs hH hL => ?_)
      exact q_end1 (m_vret X hr hH hL dX2_prepare_32)

set_option maxRecDepth 20000 in
set_option maxHeartbeats 4000000 in
theorem co_X8_kindIndex (g : GP) (l : Launch) (hst : l.stackTraces = false) (p1_ : Int32) (M : Mem)  (v : Int32) (hF : F_X8_kindIndex p1_ = some v) : CO g l yX8_kindIndex cX8_kindIndex 1 (some .int) 0 0 rvI [.int p1_] M (.inl v : Int32 ⊕ String) M := by
  refine CO_of hst (by decide) (Nat.le_of_ble_eq_true rfl) ?_
  intro p e s m below meth c ls X hr htb hH hL hl
  have hx := X.1
  have hb := X.2.1
  have hts := X.2.2.2.2.1
  refine q_out hF ?_
  rw [F_X8_kindIndex]
  replace hl : lv_has ls 1 [(0, .int p1_)] := hl
  refine lv_iload_n hx hb dX8_kindIndex_0 rfl (lv_at hl 0 rfl) ?_
  by_cases c1 : p1_ = 100
  · refine q_pos c1 ?_
    refine lv_lookup (tgt := 40) hx hb dX8_kindIndex_1 (by decide) (by rw [c1] <;> rfl) (by decide) ?_
    refine lv_iconst (v := 2) hx hb dX8_kindIndex_40 (by decide) ?_
    exact q_end0 (m_iret X hr hH hL dX8_kindIndex_41)
  refine q_neg c1 ?_
  by_cases c2 : p1_ = 115
  · refine q_pos c2 ?_
    refine lv_lookup (tgt := 36) hx hb dX8_kindIndex_1 (by decide) (by rw [c2] <;> rfl) (by decide) ?_
    refine lv_iconst (v := 0) hx hb dX8_kindIndex_36 (by decide) ?_
    exact q_end0 (m_iret X hr hH hL dX8_kindIndex_37)
  refine q_neg c2 ?_
  by_cases c3 : p1_ = 119
  · refine q_pos c3 ?_
    refine lv_lookup (tgt := 38) hx hb dX8_kindIndex_1 (by decide) (by rw [c3] <;> rfl) (by decide) ?_
    refine lv_iconst (v := 1) hx hb dX8_kindIndex_38 (by decide) ?_
    exact q_end0 (m_iret X hr hH hL dX8_kindIndex_39)
  refine q_neg c3 ?_
  refine lv_lookup (tgt := 42) hx hb dX8_kindIndex_1 (by decide) (sw_def (List.forall_mem_cons.mpr ⟨sw_ne (z := 100) c1 (by decide), List.forall_mem_cons.mpr ⟨sw_ne (z := 115) c2 (by decide), List.forall_mem_cons.mpr ⟨sw_ne (z := 119) c3 (by decide), List.forall_mem_nil _⟩⟩⟩)) (by decide) ?_
  refine lv_iconst (v := (-1)) hx hb dX8_kindIndex_42 (by decide) ?_
  exact q_end0 (m_iret X hr hH hL dX8_kindIndex_43)

set_option maxRecDepth 20000 in
set_option maxHeartbeats 4000000 in
theorem co_X8_isSide (g : GP) (l : Launch) (hst : l.stackTraces = false) (p1_ : Int32) (M : Mem)  (v : Int32) (hF : F_X8_isSide p1_ = some v) : CO g l yX8_isSide cX8_isSide 1 (some .boolean) 0 0 rvI [.int p1_] M (.inl v : Int32 ⊕ String) M := by
  refine CO_of hst (by decide) (Nat.le_of_ble_eq_true rfl) ?_
  intro p e s m below meth c ls X hr htb hH hL hl
  have hx := X.1
  have hb := X.2.1
  have hts := X.2.2.2.2.1
  refine q_out hF ?_
  rw [F_X8_isSide]
  replace hl : lv_has ls 1 [(0, .int p1_)] := hl
  refine lv_iload_n hx hb dX8_isSide_0 rfl (lv_at hl 0 rfl) ?_
  refine lv_iconst (v := 1) hx hb dX8_isSide_1 (by decide) ?_
  refine lv_icmp_lt (tgt := 15) hx hb dX8_isSide_2 (by decide) (fun c1 => q_pos c1 ?_) (fun c1 => q_neg c1 ?_)
  · refine lv_iconst (v := 0) hx hb dX8_isSide_15 (by decide) ?_
    exact q_end0 (m_zret X hr hH hL (by decide) dX8_isSide_16)
  · refine lv_iload_n hx hb dX8_isSide_5 rfl (lv_at hl 0 rfl) ?_
    refine lv_bipush (v := 6) hx hb dX8_isSide_6 (by decide) ?_
    refine lv_icmp_gt (tgt := 15) hx hb dX8_isSide_8 (by decide) (fun c2 => q_pos c2 ?_) (fun c2 => q_neg c2 ?_)
    · refine lv_iconst (v := 0) hx hb dX8_isSide_15 (by decide) ?_
      exact q_end0 (m_zret X hr hH hL (by decide) dX8_isSide_16)
    · refine lv_iconst (v := 1) hx hb dX8_isSide_11 (by decide) ?_
      refine lv_goto (tgt := 16) hx hb dX8_isSide_12 (by decide) ?_
      exact q_end0 (m_zret X hr hH hL (by decide) dX8_isSide_16)

set_option maxRecDepth 20000 in
set_option maxHeartbeats 4000000 in
theorem co_X4_begin (g : GP) (l : Launch) (hst : l.stackTraces = false) (a0 : Nat) (p1_ : Int32) (p2_ : Int32) (p3_ : Int32) (M : Mem) (t0 : tyT a0 = 4) (v : Unit) (M' : Mem) (hF : F_X4_begin a0 p1_ p2_ p3_ M = some (v, M')) : CO g l yX4_begin cX4_begin 5 none 0 0 rvU [.ref (adr g a0), .int p1_, .int p2_, .int p3_] M (.inl v : Unit ⊕ String) M' := by
  refine CO_of hst (by decide) (Nat.le_of_ble_eq_true rfl) ?_
  intro p e s m below meth c ls X hr htb hH hL hl
  have hx := X.1
  have hb := X.2.1
  have hts := X.2.2.2.2.1
  refine q_out hF ?_
  rw [F_X4_begin]
  replace hl : lv_has ls 5 [(0, .ref (adr g a0)), (1, .int p1_), (2, .int p2_), (3, .int p3_)] := hl
  refine lv_aload_n hx hb dX4_begin_0 rfl (lv_at hl 0 rfl) ?_
  refine lv_iload_n hx hb dX4_begin_1 rfl (lv_at hl 1 rfl) ?_
  refine q_chk (fun hn2 => ?_)
  refine q_lt (fun M1 e_M1 => ?_)
  refine m_pI (k := 0) X hH hL okC4 t0 rfl rfl (nokC_n hn2) (nokC_f hn2) W120 dX4_begin_2 e_M1 (fun H locs hH hL => ?_)
  refine lv_aload_n hx hb dX4_begin_5 rfl (lv_at hl 0 rfl) ?_
  refine lv_iload_n hx hb dX4_begin_6 rfl (lv_at hl 2 rfl) ?_
  refine q_lt (fun M3 e_M3 => ?_)
  refine m_pI (k := 1) X hH hL okC4 t0 rfl rfl rfl rfl W123 dX4_begin_7 e_M3 (fun H locs hH hL => ?_)
  refine lv_aload_n hx hb dX4_begin_10 rfl (lv_at hl 0 rfl) ?_
  refine lv_iload_n hx hb dX4_begin_11 rfl (lv_at hl 3 rfl) ?_
  refine q_lt (fun M4 e_M4 => ?_)
  refine m_pI (k := 2) X hH hL okC4 t0 rfl rfl rfl rfl W125 dX4_begin_12 e_M4 (fun H locs hH hL => ?_)
  refine lv_iconst (v := 0) hx hb dX4_begin_15 (by decide) ?_
  refine lv_istore (lv' := [(4, .int 0), (0, .ref (adr g a0)), (1, .int p1_), (2, .int p2_), (3, .int p3_)]) hx hb dX4_begin_16 hl (by decide) rfl (fun ls hl => ?_)
  have L14 : ∀ (K : Int32 → Mem → Option (Unit × Mem)) (_ : ∀ (i5 : Int32) (M6 : Mem) (H : Heap) (locs : List Loc) (ls : Array Slot), HR g M6 H → LK g s H locs → lv_has ls 5 [(0, .ref (adr g a0)), (1, .int p1_), (2, .int p2_), (3, .int p3_), (4, .int i5)] → W p l e (rmO (.inl v : Unit ⊕ String) 0 0) s m ([.ref (adr g a0), .int p1_, .int p2_, .int p3_] : List Value).toArray below meth c H locs 0 0 (GQ (K i5 M6) (v, M') (MQO g below rvU (.inl v : Unit ⊕ String) M' ([.ref (adr g a0), .int p1_, .int p2_, .int p3_] : List Value).toArray s)) (F0 m 42 ls [])) (n : Nat) (i5 : Int32) (M6 : Mem) (H : Heap) (locs : List Loc) (ls : Array Slot), HR g M6 H → LK g s H locs → lv_has ls 5 [(0, .ref (adr g a0)), (1, .int p1_), (2, .int p2_), (3, .int p3_), (4, .int i5)] → W p l e (rmO (.inl v : Unit ⊕ String) 0 0) s m ([.ref (adr g a0), .int p1_, .int p2_, .int p3_] : List Value).toArray below meth c H locs 0 0 (GQ (F_X4_begin_L1 a0 K n i5 M6) (v, M') (MQO g below rvU (.inl v : Unit ⊕ String) M' ([.ref (adr g a0), .int p1_, .int p2_, .int p3_] : List Value).toArray s)) (F0 m 18 ls []) := by
    intro K hK n
    induction n with
    | zero => intros; exact q_none
    | succ n ih =>
      intro i5 M6 H locs ls hH hL hl 
      rw [F_X4_begin_L1]
      refine lv_iload hx hb dX4_begin_18 (lv_at hl 4 rfl) ?_
      refine lv_aload_n hx hb dX4_begin_20 rfl (lv_at hl 0 rfl) ?_
      refine m_gR (k := 3) X hH inC4 t0 rfl W128 dX4_begin_21 20 rfl (fun t8 => ?_)
      refine m_alen X hH t8 rfl (by decide) (v := 36) (by decide) dX4_begin_24 ?_
      refine lv_icmp_ge (tgt := 42) hx hb dX4_begin_25 (by decide) (fun c9 => q_pos c9 ?_) (fun c9 => q_neg c9 ?_)
      · exact hK i5 M6 _ _ ls hH hL hl 
      · refine lv_aload_n hx hb dX4_begin_28 rfl (lv_at hl 0 rfl) ?_
        refine m_gR (k := 3) X hH inC4 t0 rfl W128 dX4_begin_29 20 rfl (fun t10 => ?_)
        refine lv_iload hx hb dX4_begin_32 (lv_at hl 4 rfl) ?_
        refine lv_iconst (v := 0) hx hb dX4_begin_34 (by decide) ?_
        refine q_chk (fun hb11 => ?_)
        refine q_lt (fun M12 e_M12 => ?_)
        refine m_is X hH hL t10 rfl (by decide) (fun _ => rfl) rfl rfl hb11 dX4_begin_35 e_M12 (fun H locs hH hL => ?_)
        refine q_lt (fun v13 e_v13 => ?_)
        refine lv_iinc (v := v13) (lv' := [(4, .int v13), (0, .ref (adr g a0)), (1, .int p1_), (2, .int p2_), (3, .int p3_)]) hx hb dX4_begin_36 hl (k := 4) rfl (by rw [e_v13]; rfl) (by decide) rfl (fun ls hl => ?_)
        refine lv_goto (tgt := 18) hx hb dX4_begin_39 (by decide) ?_
        exact ih v13 M12 _ _ ls hH hL (lv_sub hl [1, 2, 3, 4, 0] rfl) 
  refine L14 _ (fun x15 M16 H locs ls hH hL hl  => ?_) 3000 0 M4 _ _ ls hH hL (lv_sub hl [1, 2, 3, 4, 0] rfl) 
  refine lv_aload_n hx hb dX4_begin_42 rfl (lv_at hl 0 rfl) ?_
  refine lv_iconst (v := 0) hx hb dX4_begin_43 (by decide) ?_
  refine q_lt (fun M17 e_M17 => ?_)
  refine m_pI (k := 4) X hH hL okC4 t0 rfl rfl rfl rfl W130 dX4_begin_44 e_M17 (fun H locs hH hL => ?_)
  refine lv_aload_n hx hb dX4_begin_47 rfl (lv_at hl 0 rfl) ?_
  refine lv_iconst (v := 0) hx hb dX4_begin_48 (by decide) ?_
  refine q_lt (fun M18 e_M18 => ?_)
  refine m_pI (k := 5) X hH hL okC4 t0 rfl rfl rfl rfl W131 dX4_begin_49 e_M18 (fun H locs hH hL => ?_)
  refine lv_aload_n hx hb dX4_begin_52 rfl (lv_at hl 0 rfl) ?_
  refine lv_iconst (v := 0) hx hb dX4_begin_53 (by decide) ?_
  refine q_lt (fun M19 e_M19 => ?_)
  refine m_pI (k := 6) X hH hL okC4 t0 rfl rfl rfl rfl W133 dX4_begin_54 e_M19 (fun H locs hH hL => ?_)
  refine lv_aload_n hx hb dX4_begin_57 rfl (lv_at hl 0 rfl) ?_
  refine lv_iconst (v := 0) hx hb dX4_begin_58 (by decide) ?_
  refine q_lt (fun M20 e_M20 => ?_)
  refine m_pI (k := 7) X hH hL okC4 t0 rfl rfl rfl rfl W136 dX4_begin_59 e_M20 (fun H locs hH hL => ?_)
  exact q_end1 (m_vret X hr hH hL dX4_begin_62)

set_option maxRecDepth 20000 in
set_option maxHeartbeats 4000000 in
theorem co_X5_add (g : GP) (l : Launch) (hst : l.stackTraces = false) (a0 : Nat) (p1_ : Int32) (p2_ : Int32) (p3_ : Int32) (M : Mem) (t0 : tyT a0 = 5) (v : Int32) (M' : Mem) (hF : F_X5_add a0 p1_ p2_ p3_ M = some (v, M')) : CO g l yX5_add cX5_add 4 (some .int) 1 24 rvI [.ref (adr g a0), .int p1_, .int p2_, .int p3_] M (.inl v : Int32 ⊕ String) M' := by
  refine CO_of hst (by decide) (Nat.le_of_ble_eq_true rfl) ?_
  intro p e s m below meth c ls X hr htb hH hL hl
  have hx := X.1
  have hb := X.2.1
  have hts := X.2.2.2.2.1
  refine q_out hF ?_
  rw [F_X5_add]
  replace hl : lv_has ls 4 [(0, .ref (adr g a0)), (1, .int p1_), (2, .int p2_), (3, .int p3_)] := hl
  refine lv_iload_n hx hb dX5_add_0 rfl (lv_at hl 1 rfl) ?_
  refine q_bind (fun v2 e1 => ?_)
  refine my_doneI hL (my_runSN X hH hl.1 (co_X8_kindIndex g l hst p1_ M v2 e1) ok_X8_kindIndex N360 rfl rfl ⟨Nat.le_of_ble_eq_true rfl, Nat.le_of_ble_eq_true rfl⟩ ⟨Nat.zero_le _, Nat.zero_le _⟩ (Nat.le_of_ble_eq_true rfl) dX5_add_1) (fun H locs hH hL => ?_)
  refine lv_if_lt (tgt := 21) hx hb dX5_add_4 (by decide) (fun c3 => q_pos c3 ?_) (fun c3 => q_neg c3 ?_)
  · refine lv_bipush (v := (-2)) hx hb dX5_add_21 (by decide) ?_
    exact q_end1 (m_iret X hr hH hL dX5_add_23)
  · refine lv_iload_n hx hb dX5_add_7 rfl (lv_at hl 2 rfl) ?_
    refine q_bind (fun v5 e4 => ?_)
    refine my_doneI hL (my_runSN X hH hl.1 (co_X8_isSide g l hst p2_ M v5 e4) ok_X8_isSide N663 rfl rfl ⟨Nat.le_of_ble_eq_true rfl, Nat.le_of_ble_eq_true rfl⟩ ⟨Nat.zero_le _, Nat.zero_le _⟩ (Nat.le_of_ble_eq_true rfl) dX5_add_8) (fun H locs hH hL => ?_)
    refine lv_if_eq (tgt := 21) hx hb dX5_add_11 (by decide) (fun c6 => q_pos c6 ?_) (fun c6 => q_neg c6 ?_)
    · refine lv_bipush (v := (-2)) hx hb dX5_add_21 (by decide) ?_
      exact q_end1 (m_iret X hr hH hL dX5_add_23)
    · refine lv_iload_n hx hb dX5_add_14 rfl (lv_at hl 3 rfl) ?_
      refine q_bind (fun v8 e7 => ?_)
      refine my_doneI hL (my_runSN X hH hl.1 (co_X8_isSide g l hst p3_ M v8 e7) ok_X8_isSide N663 rfl rfl ⟨Nat.le_of_ble_eq_true rfl, Nat.le_of_ble_eq_true rfl⟩ ⟨Nat.zero_le _, Nat.zero_le _⟩ (Nat.le_of_ble_eq_true rfl) dX5_add_15) (fun H locs hH hL => ?_)
      refine lv_if_ne (tgt := 24) hx hb dX5_add_18 (by decide) (fun c9 => q_neg c9 ?_) (fun c9 => q_pos c9 ?_)
      · refine lv_aload_n hx hb dX5_add_24 rfl (lv_at hl 0 rfl) ?_
        refine m_gI (k := 1) X hH inC5 t0 rfl W159 dX5_add_25 ?_
        refine lv_if_lt (tgt := 43) hx hb dX5_add_28 (by decide) (fun c10 => q_pos c10 ?_) (fun c10 => q_neg c10 ?_)
        · refine lv_bipush (v := (-3)) hx hb dX5_add_43 (by decide) ?_
          exact q_end1 (m_iret X hr hH hL dX5_add_45)
        · refine lv_aload_n hx hb dX5_add_31 rfl (lv_at hl 0 rfl) ?_
          refine m_gI (k := 1) X hH inC5 t0 rfl W159 dX5_add_32 ?_
          refine lv_aload_n hx hb dX5_add_35 rfl (lv_at hl 0 rfl) ?_
          refine m_gR (k := 0) X hH inC5 t0 rfl W157 dX5_add_36 29 rfl (fun t11 => ?_)
          refine m_alen X hH t11 rfl (by decide) (v := 5) (by decide) dX5_add_39 ?_
          refine lv_icmp_lt (tgt := 46) hx hb dX5_add_40 (by decide) (fun c12 => q_pos c12 ?_) (fun c12 => q_neg c12 ?_)
          · refine lv_aload_n hx hb dX5_add_46 rfl (lv_at hl 0 rfl) ?_
            refine m_gR (k := 0) X hH inC5 t0 rfl W157 dX5_add_47 29 rfl (fun t13 => ?_)
            refine lv_aload_n hx hb dX5_add_50 rfl (lv_at hl 0 rfl) ?_
            refine m_gI (k := 1) X hH inC5 t0 rfl W159 dX5_add_51 ?_
            refine q_chk (fun hb14 => ?_)
            refine m_aald X hH t13 rfl (by decide) (fun _ => rfl) rfl rfl (t2 := 4) (fun _ => rfl) hb14 dX5_add_54 (fun t15 => ?_)
            refine lv_iload_n hx hb dX5_add_55 rfl (lv_at hl 1 rfl) ?_
            refine lv_iload_n hx hb dX5_add_56 rfl (lv_at hl 2 rfl) ?_
            refine lv_iload_n hx hb dX5_add_57 rfl (lv_at hl 3 rfl) ?_
            refine q_b1 (fun u17 M18 e16 => ?_)
            refine my_doneU hL (my_runV X hH hl.1 (co_X4_begin g l hst (mR M (mR M a0 0) (mI M a0 1).toNatClampNeg) p1_ p2_ p3_ M t15 u17 M18 e16) ok_X4_begin W666 t15 rfl (by decide) rfl rfl rfl ⟨Nat.le_of_ble_eq_true rfl, Nat.le_of_ble_eq_true rfl⟩ ⟨Nat.zero_le _, Nat.zero_le _⟩ (Nat.le_of_ble_eq_true rfl) dX5_add_58) (fun H locs hH hL => ?_)
            refine lv_aload_n hx hb dX5_add_61 rfl (lv_at hl 0 rfl) ?_
            refine lv_dup hx hb dX5_add_62 rfl ?_
            refine m_gI (k := 1) X hH inC5 t0 rfl W159 dX5_add_63 ?_
            refine lv_iconst (v := 1) hx hb dX5_add_66 (by decide) ?_
            refine lv_iadd hx hb dX5_add_67 ?_
            refine q_lt (fun M19 e_M19 => ?_)
            refine m_pI (k := 1) X hH hL okC5 t0 rfl rfl rfl rfl W159 dX5_add_68 e_M19 (fun H locs hH hL => ?_)
            refine lv_aload_n hx hb dX5_add_71 rfl (lv_at hl 0 rfl) ?_
            refine m_gI (k := 1) X hH inC5 t0 rfl W159 dX5_add_72 ?_
            refine lv_iconst (v := 1) hx hb dX5_add_75 (by decide) ?_
            refine lv_isub hx hb dX5_add_76 ?_
            exact q_end1 (m_iret X hr hH hL dX5_add_77)
          · refine lv_bipush (v := (-3)) hx hb dX5_add_43 (by decide) ?_
            exact q_end1 (m_iret X hr hH hL dX5_add_45)
      · refine lv_bipush (v := (-2)) hx hb dX5_add_21 (by decide) ?_
        exact q_end1 (m_iret X hr hH hL dX5_add_23)

set_option maxRecDepth 20000 in
set_option maxHeartbeats 4000000 in
theorem co_X2_keep (g : GP) (l : Launch) (hst : l.stackTraces = false) (a0 : Nat) (M : Mem) (t0 : tyT a0 = 2) (v : Unit) (M' : Mem) (hF : F_X2_keep a0 M = some (v, M')) : CO g l yX2_keep cX2_keep 1 none 1 30 rvU [.ref (adr g a0)] M (.inl v : Unit ⊕ String) M' := by
  refine CO_of hst (by decide) (Nat.le_of_ble_eq_true rfl) ?_
  intro p e s m below meth c ls X hr htb hH hL hl
  have hx := X.1
  have hb := X.2.1
  have hts := X.2.2.2.2.1
  refine q_out hF ?_
  rw [F_X2_keep]
  replace hl : lv_has ls 1 [(0, .ref (adr g a0))] := hl
  refine lv_aload_n hx hb dX2_keep_0 rfl (lv_at hl 0 rfl) ?_
  refine lv_aload_n hx hb dX2_keep_1 rfl (lv_at hl 0 rfl) ?_
  refine m_gI (k := 1) X hH inC2 t0 rfl W206 dX2_keep_2 ?_
  refine lv_iconst (v := 1) hx hb dX2_keep_5 (by decide) ?_
  refine lv_iadd hx hb dX2_keep_6 ?_
  refine lv_aload_n hx hb dX2_keep_7 rfl (lv_at hl 0 rfl) ?_
  refine m_gR (k := 0) X hH inC2 t0 rfl W205 dX2_keep_8 30 rfl (fun t1 => ?_)
  refine m_alen X hH t1 rfl (by decide) (v := 9) (by decide) dX2_keep_11 ?_
  refine lv_icmp_ge (tgt := 24) hx hb dX2_keep_12 (by decide) (fun c2 => q_pos c2 ?_) (fun c2 => q_neg c2 ?_)
  · refine lv_iconst (v := 0) hx hb dX2_keep_24 (by decide) ?_
    refine q_lt (fun M3 e_M3 => ?_)
    refine m_pI (k := 1) X hH hL okC2 t0 rfl rfl rfl rfl W206 dX2_keep_25 e_M3 (fun H locs hH hL => ?_)
    refine lv_aload_n hx hb dX2_keep_28 rfl (lv_at hl 0 rfl) ?_
    refine lv_aload_n hx hb dX2_keep_29 rfl (lv_at hl 0 rfl) ?_
    refine m_gI (k := 2) X hH inC2 t0 rfl W207 dX2_keep_30 ?_
    refine lv_iconst (v := 1) hx hb dX2_keep_33 (by decide) ?_
    refine lv_iadd hx hb dX2_keep_34 ?_
    refine lv_bipush (v := 8) hx hb dX2_keep_35 (by decide) ?_
    refine va_mmin hx hb (X.2.2.1.trans hl.1.symm) X.2.2.2.1 (hts _ W509) (hts _ W330) (hts _ W82) (hts _ W331) (Nat.le_of_ble_eq_true rfl) (Nat.le_of_ble_eq_true rfl) (Nat.zero_le _) (Nat.zero_le _) dX2_keep_37 ?_
    refine q_lt (fun M4 e_M4 => ?_)
    refine m_pI (k := 2) X hH hL okC2 t0 rfl rfl rfl rfl W207 dX2_keep_40 e_M4 (fun H locs hH hL => ?_)
    exact q_end1 (m_vret X hr hH hL dX2_keep_43)
  · refine lv_aload_n hx hb dX2_keep_15 rfl (lv_at hl 0 rfl) ?_
    refine m_gI (k := 1) X hH inC2 t0 rfl W206 dX2_keep_16 ?_
    refine lv_iconst (v := 1) hx hb dX2_keep_19 (by decide) ?_
    refine lv_iadd hx hb dX2_keep_20 ?_
    refine lv_goto (tgt := 25) hx hb dX2_keep_21 (by decide) ?_
    refine q_lt (fun M5 e_M5 => ?_)
    refine m_pI (k := 1) X hH hL okC2 t0 rfl rfl rfl rfl W206 dX2_keep_25 e_M5 (fun H locs hH hL => ?_)
    refine lv_aload_n hx hb dX2_keep_28 rfl (lv_at hl 0 rfl) ?_
    refine lv_aload_n hx hb dX2_keep_29 rfl (lv_at hl 0 rfl) ?_
    refine m_gI (k := 2) X hH inC2 t0 rfl W207 dX2_keep_30 ?_
    refine lv_iconst (v := 1) hx hb dX2_keep_33 (by decide) ?_
    refine lv_iadd hx hb dX2_keep_34 ?_
    refine lv_bipush (v := 8) hx hb dX2_keep_35 (by decide) ?_
    refine va_mmin hx hb (X.2.2.1.trans hl.1.symm) X.2.2.2.1 (hts _ W509) (hts _ W330) (hts _ W82) (hts _ W331) (Nat.le_of_ble_eq_true rfl) (Nat.le_of_ble_eq_true rfl) (Nat.zero_le _) (Nat.zero_le _) dX2_keep_37 ?_
    refine q_lt (fun M6 e_M6 => ?_)
    refine m_pI (k := 2) X hH hL okC2 t0 rfl rfl rfl rfl W207 dX2_keep_40 e_M6 (fun H locs hH hL => ?_)
    exact q_end1 (m_vret X hr hH hL dX2_keep_43)

set_option maxRecDepth 20000 in
set_option maxHeartbeats 4000000 in
theorem co_X8_settled (g : GP) (l : Launch) (hst : l.stackTraces = false) (a0 : Nat) (p1_ : Int32) (M : Mem) (t0 : tyT a0 = 8) (o : Int32 ⊕ String) (M' : Mem) (hF : F_X8_settled a0 p1_ M = some (o, M')) : CO g l yX8_settled cX8_settled 2 (some .int) 6 200 rvI [.ref (adr g a0), .int p1_] M o M' := by
  refine CO_of hst (by decide) (Nat.le_of_ble_eq_true rfl) ?_
  intro p e s m below meth c ls X hr htb hH hL hl
  have hx := X.1
  have hb := X.2.1
  have hts := X.2.2.2.2.1
  refine q_out hF ?_
  rw [F_X8_settled]
  replace hl : lv_has ls 2 [(0, .ref (adr g a0)), (1, .int p1_)] := hl
  refine lv_iload_n hx hb dX8_settled_0 rfl (lv_at hl 1 rfl) ?_
  refine lv_iconst (v := (-1)) hx hb dX8_settled_1 (by decide) ?_
  refine lv_icmp_ne (tgt := 16) hx hb dX8_settled_2 (by decide) (fun c1 => q_neg c1 ?_) (fun c1 => q_pos c1 ?_)
  · refine lv_iload_n hx hb dX8_settled_16 rfl (lv_at hl 1 rfl) ?_
    refine lv_bipush (v := (-2)) hx hb dX8_settled_17 (by decide) ?_
    refine lv_icmp_ne (tgt := 33) hx hb dX8_settled_19 (by decide) (fun c2 => q_neg c2 ?_) (fun c2 => q_pos c2 ?_)
    · refine lv_iload_n hx hb dX8_settled_33 rfl (lv_at hl 1 rfl) ?_
      refine lv_bipush (v := (-3)) hx hb dX8_settled_34 (by decide) ?_
      refine lv_icmp_ne (tgt := 50) hx hb dX8_settled_36 (by decide) (fun c3 => q_neg c3 ?_) (fun c3 => q_pos c3 ?_)
      · refine lv_iload_n hx hb dX8_settled_50 rfl (lv_at hl 1 rfl) ?_
        refine lv_bipush (v := (-4)) hx hb dX8_settled_51 (by decide) ?_
        refine lv_icmp_ne (tgt := 67) hx hb dX8_settled_53 (by decide) (fun c4 => q_neg c4 ?_) (fun c4 => q_pos c4 ?_)
        · refine lv_aload_n hx hb dX8_settled_67 rfl (lv_at hl 0 rfl) ?_
          refine m_gR (k := 4) X hH inC8 t0 rfl W283 dX8_settled_68 2 rfl (fun t5 => ?_)
          refine q_b1 (fun u7 M8 e6 => ?_)
          refine my_doneU hL (my_runV X hH hl.1 (co_X2_keep g l hst (mR M a0 4) M t5 u7 M8 e6) ok_X2_keep W505 t5 rfl (by decide) rfl rfl rfl ⟨Nat.le_of_ble_eq_true rfl, Nat.le_of_ble_eq_true rfl⟩ ⟨Nat.zero_le _, Nat.zero_le _⟩ (Nat.le_of_ble_eq_true rfl) dX8_settled_71) (fun H locs hH hL => ?_)
          refine lv_iload_n hx hb dX8_settled_74 rfl (lv_at hl 1 rfl) ?_
          exact q_end2 (m_iret X hr hH hL dX8_settled_75)
        · exact q_thr (m_throwW X htb hH hL hl.1 okT0 dX8_settled_56 dX8_settled_59 dX8_settled_60 dX8_settled_63 dX8_settled_66 (Nat.le_of_ble_eq_true rfl) (Nat.le_of_ble_eq_true rfl))
      · exact q_thr (m_throwW X htb hH hL hl.1 okT1 dX8_settled_39 dX8_settled_42 dX8_settled_43 dX8_settled_46 dX8_settled_49 (Nat.le_of_ble_eq_true rfl) (Nat.le_of_ble_eq_true rfl))
    · exact q_thr (m_throwW X htb hH hL hl.1 okT2 dX8_settled_22 dX8_settled_25 dX8_settled_26 dX8_settled_29 dX8_settled_32 (Nat.le_of_ble_eq_true rfl) (Nat.le_of_ble_eq_true rfl))
  · exact q_thr (m_throwW X htb hH hL hl.1 okT3 dX8_settled_5 dX8_settled_8 dX8_settled_9 dX8_settled_12 dX8_settled_15 (Nat.le_of_ble_eq_true rfl) (Nat.le_of_ble_eq_true rfl))

set_option maxRecDepth 20000 in
set_option maxHeartbeats 4000000 in
theorem co_X8_addSection (g : GP) (l : Launch) (hst : l.stackTraces = false) (a0 : Nat) (p1_ : Int32) (p2_ : Int32) (p3_ : Int32) (M : Mem) (t0 : tyT a0 = 8) (o : Int32 ⊕ String) (M' : Mem) (hF : F_X8_addSection a0 p1_ p2_ p3_ M = some (o, M')) : CO g l yX8_addSection cX8_addSection 4 (some .int) 7 221 rvI [.ref (adr g a0), .int p1_, .int p2_, .int p3_] M o M' := by
  refine CO_of hst (by decide) (Nat.le_of_ble_eq_true rfl) ?_
  intro p e s m below meth c ls X hr htb hH hL hl
  have hx := X.1
  have hb := X.2.1
  have hts := X.2.2.2.2.1
  refine q_out hF ?_
  rw [F_X8_addSection]
  replace hl : lv_has ls 4 [(0, .ref (adr g a0)), (1, .int p1_), (2, .int p2_), (3, .int p3_)] := hl
  refine lv_aload_n hx hb dX8_addSection_0 rfl (lv_at hl 0 rfl) ?_
  refine m_gR (k := 4) X hH inC8 t0 rfl W283 dX8_addSection_1 2 rfl (fun t1 => ?_)
  refine lv_aload_n hx hb dX8_addSection_4 rfl (lv_at hl 0 rfl) ?_
  refine m_gR (k := 0) X hH inC8 t0 rfl W279 dX8_addSection_5 5 rfl (fun t2 => ?_)
  refine q_b1 (fun u4 M5 e3 => ?_)
  refine my_doneU hL (my_runV X hH hl.1 (co_X2_prepare g l hst (mR M a0 4) (mR M a0 0) M t1 t2 u4 M5 e3) ok_X2_prepare W314 t1 rfl (by decide) rfl rfl rfl ⟨Nat.le_of_ble_eq_true rfl, Nat.le_of_ble_eq_true rfl⟩ ⟨Nat.zero_le _, Nat.zero_le _⟩ (Nat.le_of_ble_eq_true rfl) dX8_addSection_8) (fun H locs hH hL => ?_)
  refine lv_aload_n hx hb dX8_addSection_11 rfl (lv_at hl 0 rfl) ?_
  refine lv_aload_n hx hb dX8_addSection_12 rfl (lv_at hl 0 rfl) ?_
  refine m_gR (k := 0) X hH inC8 t0 rfl W279 dX8_addSection_13 5 rfl (fun t6 => ?_)
  refine lv_iload_n hx hb dX8_addSection_16 rfl (lv_at hl 1 rfl) ?_
  refine lv_iload_n hx hb dX8_addSection_17 rfl (lv_at hl 2 rfl) ?_
  refine lv_iload_n hx hb dX8_addSection_18 rfl (lv_at hl 3 rfl) ?_
  refine q_b1 (fun v8 M9 e7 => ?_)
  refine my_doneI hL (my_runV X hH hl.1 (co_X5_add g l hst (mR M5 a0 0) p1_ p2_ p3_ M5 t6 v8 M9 e7) ok_X5_add W659 t6 rfl (by decide) rfl rfl rfl ⟨Nat.le_of_ble_eq_true rfl, Nat.le_of_ble_eq_true rfl⟩ ⟨Nat.zero_le _, Nat.zero_le _⟩ (Nat.le_of_ble_eq_true rfl) dX8_addSection_19) (fun H locs hH hL => ?_)
  refine q_bx2 (fun v11 M12 e10 => ?_) (fun E13 M12 e10 => my_thrown X.2.2.2.2.2.2.1 htb hL (my_runV X hH hl.1 (co_X8_settled g l hst a0 v8 M9 t0 (.inr E13) M12 e10) ok_X8_settled W381 t0 rfl (by decide) rfl rfl rfl ⟨Nat.le_of_ble_eq_true rfl, Nat.le_of_ble_eq_true rfl⟩ ⟨Nat.le_refl _, Nat.le_refl _⟩ (Nat.le_of_ble_eq_true rfl) dX8_addSection_22))
  refine my_doneI hL (my_runV X hH hl.1 (co_X8_settled g l hst a0 v8 M9 t0 (.inl v11) M12 e10) ok_X8_settled W381 t0 rfl (by decide) rfl rfl rfl ⟨Nat.le_of_ble_eq_true rfl, Nat.le_of_ble_eq_true rfl⟩ ⟨Nat.zero_le _, Nat.zero_le _⟩ (Nat.le_of_ble_eq_true rfl) dX8_addSection_22) (fun H locs hH hL => ?_)
  exact q_end2 (m_iret X hr hH hL dX8_addSection_25)

set_option maxRecDepth 20000 in
set_option maxHeartbeats 4000000 in
theorem co_X5_hasSection (g : GP) (l : Launch) (hst : l.stackTraces = false) (a0 : Nat) (p1_ : Int32) (M : Mem) (t0 : tyT a0 = 5) (v : Int32) (hF : F_X5_hasSection a0 p1_ M = some v) : CO g l yX5_hasSection cX5_hasSection 2 (some .boolean) 0 0 rvI [.ref (adr g a0), .int p1_] M (.inl v : Int32 ⊕ String) M := by
  refine CO_of hst (by decide) (Nat.le_of_ble_eq_true rfl) ?_
  intro p e s m below meth c ls X hr htb hH hL hl
  have hx := X.1
  have hb := X.2.1
  have hts := X.2.2.2.2.1
  refine q_out hF ?_
  rw [F_X5_hasSection]
  replace hl : lv_has ls 2 [(0, .ref (adr g a0)), (1, .int p1_)] := hl
  refine lv_iload_n hx hb dX5_hasSection_0 rfl (lv_at hl 1 rfl) ?_
  refine lv_if_lt (tgt := 25) hx hb dX5_hasSection_1 (by decide) (fun c1 => q_pos c1 ?_) (fun c1 => q_neg c1 ?_)
  · refine lv_iconst (v := 0) hx hb dX5_hasSection_25 (by decide) ?_
    exact q_end0 (m_zret X hr hH hL (by decide) dX5_hasSection_26)
  · refine lv_iload_n hx hb dX5_hasSection_4 rfl (lv_at hl 1 rfl) ?_
    refine lv_aload_n hx hb dX5_hasSection_5 rfl (lv_at hl 0 rfl) ?_
    refine m_gI (k := 1) X hH inC5 t0 rfl W159 dX5_hasSection_6 ?_
    refine lv_icmp_ge (tgt := 25) hx hb dX5_hasSection_9 (by decide) (fun c2 => q_pos c2 ?_) (fun c2 => q_neg c2 ?_)
    · refine lv_iconst (v := 0) hx hb dX5_hasSection_25 (by decide) ?_
      exact q_end0 (m_zret X hr hH hL (by decide) dX5_hasSection_26)
    · refine lv_iload_n hx hb dX5_hasSection_12 rfl (lv_at hl 1 rfl) ?_
      refine lv_aload_n hx hb dX5_hasSection_13 rfl (lv_at hl 0 rfl) ?_
      refine m_gR (k := 0) X hH inC5 t0 rfl W157 dX5_hasSection_14 29 rfl (fun t3 => ?_)
      refine m_alen X hH t3 rfl (by decide) (v := 5) (by decide) dX5_hasSection_17 ?_
      refine lv_icmp_ge (tgt := 25) hx hb dX5_hasSection_18 (by decide) (fun c4 => q_pos c4 ?_) (fun c4 => q_neg c4 ?_)
      · refine lv_iconst (v := 0) hx hb dX5_hasSection_25 (by decide) ?_
        exact q_end0 (m_zret X hr hH hL (by decide) dX5_hasSection_26)
      · refine lv_iconst (v := 1) hx hb dX5_hasSection_21 (by decide) ?_
        refine lv_goto (tgt := 26) hx hb dX5_hasSection_22 (by decide) ?_
        exact q_end0 (m_zret X hr hH hL (by decide) dX5_hasSection_26)

set_option maxRecDepth 20000 in
set_option maxHeartbeats 4000000 in
theorem co_X5_drop (g : GP) (l : Launch) (hst : l.stackTraces = false) (a0 : Nat) (p1_ : Int32) (M : Mem) (t0 : tyT a0 = 5) (v : Int32) (M' : Mem) (hF : F_X5_drop a0 p1_ M = some (v, M')) : CO g l yX5_drop cX5_drop 4 (some .int) 1 21 rvI [.ref (adr g a0), .int p1_] M (.inl v : Int32 ⊕ String) M' := by
  refine CO_of hst (by decide) (Nat.le_of_ble_eq_true rfl) ?_
  intro p e s m below meth c ls X hr htb hH hL hl
  have hx := X.1
  have hb := X.2.1
  have hts := X.2.2.2.2.1
  refine q_out hF ?_
  rw [F_X5_drop]
  replace hl : lv_has ls 4 [(0, .ref (adr g a0)), (1, .int p1_)] := hl
  refine lv_aload_n hx hb dX5_drop_0 rfl (lv_at hl 0 rfl) ?_
  refine lv_iload_n hx hb dX5_drop_1 rfl (lv_at hl 1 rfl) ?_
  refine q_bind (fun v2 e1 => ?_)
  refine my_doneI hL (my_runV X hH hl.1 (co_X5_hasSection g l hst a0 p1_ M t0 v2 e1) ok_X5_hasSection W702 t0 rfl (by decide) rfl rfl rfl ⟨Nat.le_of_ble_eq_true rfl, Nat.le_of_ble_eq_true rfl⟩ ⟨Nat.zero_le _, Nat.zero_le _⟩ (Nat.le_of_ble_eq_true rfl) dX5_drop_2) (fun H locs hH hL => ?_)
  refine lv_if_ne (tgt := 10) hx hb dX5_drop_5 (by decide) (fun c3 => q_neg c3 ?_) (fun c3 => q_pos c3 ?_)
  · refine lv_aload_n hx hb dX5_drop_10 rfl (lv_at hl 0 rfl) ?_
    refine m_gR (k := 0) X hH inC5 t0 rfl W157 dX5_drop_11 29 rfl (fun t4 => ?_)
    refine lv_iload_n hx hb dX5_drop_14 rfl (lv_at hl 1 rfl) ?_
    refine q_chk (fun hb5 => ?_)
    refine m_aald X hH t4 rfl (by decide) (fun _ => rfl) rfl rfl (t2 := 4) (fun _ => rfl) hb5 dX5_drop_15 (fun t6 => ?_)
    refine q_lt (fun q7 e_q7 => ?_)
    refine q_topR e_q7 ?_
    have t_q7 : tyT q7 = 4 := by rw [e_q7]; exact t6
    refine lv_astore_n (lv' := [(2, .ref (adr g q7)), (0, .ref (adr g a0)), (1, .int p1_)]) hx hb dX5_drop_16 rfl hl (by decide) rfl (fun ls hl => ?_)
    refine lv_iload_n hx hb dX5_drop_17 rfl (lv_at hl 2 rfl) ?_
    refine lv_istore_n (lv' := [(3, .int p1_), (2, .ref (adr g q7)), (0, .ref (adr g a0)), (1, .int p1_)]) hx hb dX5_drop_18 rfl hl (by decide) rfl (fun ls hl => ?_)
    have L20 : ∀ (K : Int32 → Mem → Option (Int32 × Mem)) (_ : ∀ (i8 : Int32) (M9 : Mem) (H : Heap) (locs : List Loc) (ls : Array Slot), HR g M9 H → LK g s H locs → lv_has ls 4 [(0, .ref (adr g a0)), (1, .int p1_), (2, .ref (adr g q7)), (3, .int i8)] → W p l e (rmO (.inl v : Int32 ⊕ String) 1 21) s m ([.ref (adr g a0), .int p1_] : List Value).toArray below meth c H locs 0 0 (GQ (K i8 M9) (v, M') (MQO g below rvI (.inl v : Int32 ⊕ String) M' ([.ref (adr g a0), .int p1_] : List Value).toArray s)) (F0 m 50 ls [])) (n : Nat) (i8 : Int32) (M9 : Mem) (H : Heap) (locs : List Loc) (ls : Array Slot), HR g M9 H → LK g s H locs → lv_has ls 4 [(0, .ref (adr g a0)), (1, .int p1_), (2, .ref (adr g q7)), (3, .int i8)] → W p l e (rmO (.inl v : Int32 ⊕ String) 1 21) s m ([.ref (adr g a0), .int p1_] : List Value).toArray below meth c H locs 0 0 (GQ (F_X5_drop_L1 a0 K n i8 M9) (v, M') (MQO g below rvI (.inl v : Int32 ⊕ String) M' ([.ref (adr g a0), .int p1_] : List Value).toArray s)) (F0 m 19 ls []) := by
      intro K hK n
      induction n with
      | zero => intros; exact q_none
      | succ n ih =>
        intro i8 M9 H locs ls hH hL hl 
        rw [F_X5_drop_L1]
        refine lv_iload_n hx hb dX5_drop_19 rfl (lv_at hl 3 rfl) ?_
        refine lv_iconst (v := 1) hx hb dX5_drop_20 (by decide) ?_
        refine lv_iadd hx hb dX5_drop_21 ?_
        refine lv_aload_n hx hb dX5_drop_22 rfl (lv_at hl 0 rfl) ?_
        refine m_gR (k := 0) X hH inC5 t0 rfl W157 dX5_drop_23 29 rfl (fun t11 => ?_)
        refine m_alen X hH t11 rfl (by decide) (v := 5) (by decide) dX5_drop_26 ?_
        refine lv_icmp_ge (tgt := 50) hx hb dX5_drop_27 (by decide) (fun c12 => q_pos c12 ?_) (fun c12 => q_neg c12 ?_)
        · exact hK i8 M9 _ _ ls hH hL hl 
        · refine lv_aload_n hx hb dX5_drop_30 rfl (lv_at hl 0 rfl) ?_
          refine m_gR (k := 0) X hH inC5 t0 rfl W157 dX5_drop_31 29 rfl (fun t13 => ?_)
          refine lv_iload_n hx hb dX5_drop_34 rfl (lv_at hl 3 rfl) ?_
          refine lv_aload_n hx hb dX5_drop_35 rfl (lv_at hl 0 rfl) ?_
          refine m_gR (k := 0) X hH inC5 t0 rfl W157 dX5_drop_36 29 rfl (fun t14 => ?_)
          refine lv_iload_n hx hb dX5_drop_39 rfl (lv_at hl 3 rfl) ?_
          refine lv_iconst (v := 1) hx hb dX5_drop_40 (by decide) ?_
          refine lv_iadd hx hb dX5_drop_41 ?_
          refine q_chk (fun hb15 => ?_)
          refine m_aald X hH t14 rfl (by decide) (fun _ => rfl) rfl rfl (t2 := 4) (fun _ => rfl) hb15 dX5_drop_42 (fun t16 => ?_)
          refine q_chk (fun hb17 => ?_)
          refine q_lt (fun M18 e_M18 => ?_)
          refine m_as X hH hL t13 rfl (by decide) (fun _ => rfl) t16 rfl (by decide) rfl (fun _ => rfl) rfl hb17 dX5_drop_43 e_M18 (fun H locs hH hL => ?_)
          refine q_lt (fun v19 e_v19 => ?_)
          refine lv_iinc (v := v19) (lv' := [(3, .int v19), (0, .ref (adr g a0)), (1, .int p1_), (2, .ref (adr g q7))]) hx hb dX5_drop_44 hl (k := 3) rfl (by rw [e_v19]; rfl) (by decide) rfl (fun ls hl => ?_)
          refine lv_goto (tgt := 19) hx hb dX5_drop_47 (by decide) ?_
          exact ih v19 M18 _ _ ls hH hL (lv_sub hl [1, 2, 3, 0] rfl) 
    refine L20 _ (fun x21 M22 H locs ls hH hL hl  => ?_) 3000 p1_ M _ _ ls hH hL (lv_sub hl [2, 3, 1, 0] rfl) 
    refine lv_aload_n hx hb dX5_drop_50 rfl (lv_at hl 0 rfl) ?_
    refine m_gR (k := 0) X hH inC5 t0 rfl W157 dX5_drop_51 29 rfl (fun t23 => ?_)
    refine lv_aload_n hx hb dX5_drop_54 rfl (lv_at hl 0 rfl) ?_
    refine m_gR (k := 0) X hH inC5 t0 rfl W157 dX5_drop_55 29 rfl (fun t24 => ?_)
    refine m_alen X hH t24 rfl (by decide) (v := 5) (by decide) dX5_drop_58 ?_
    refine lv_iconst (v := 1) hx hb dX5_drop_59 (by decide) ?_
    refine lv_isub hx hb dX5_drop_60 ?_
    refine lv_aload_n hx hb dX5_drop_61 rfl (lv_at hl 2 rfl) ?_
    refine q_chk (fun hb25 => ?_)
    refine q_lt (fun M26 e_M26 => ?_)
    refine m_as X hH hL t23 rfl (by decide) (fun _ => rfl) t_q7 rfl (by decide) rfl (fun _ => rfl) rfl hb25 dX5_drop_62 e_M26 (fun H locs hH hL => ?_)
    refine lv_aload_n hx hb dX5_drop_63 rfl (lv_at hl 0 rfl) ?_
    refine lv_dup hx hb dX5_drop_64 rfl ?_
    refine m_gI (k := 1) X hH inC5 t0 rfl W159 dX5_drop_65 ?_
    refine lv_iconst (v := 1) hx hb dX5_drop_68 (by decide) ?_
    refine lv_isub hx hb dX5_drop_69 ?_
    refine q_lt (fun M27 e_M27 => ?_)
    refine m_pI (k := 1) X hH hL okC5 t0 rfl rfl rfl rfl W159 dX5_drop_70 e_M27 (fun H locs hH hL => ?_)
    refine lv_aload_n hx hb dX5_drop_73 rfl (lv_at hl 0 rfl) ?_
    refine m_gI (k := 1) X hH inC5 t0 rfl W159 dX5_drop_74 ?_
    exact q_end1 (m_iret X hr hH hL dX5_drop_77)
  · refine lv_iconst (v := (-1)) hx hb dX5_drop_8 (by decide) ?_
    exact q_end1 (m_iret X hr hH hL dX5_drop_9)

set_option maxRecDepth 20000 in
set_option maxHeartbeats 4000000 in
theorem co_X8_removeSection (g : GP) (l : Launch) (hst : l.stackTraces = false) (a0 : Nat) (p1_ : Int32) (M : Mem) (t0 : tyT a0 = 8) (o : Int32 ⊕ String) (M' : Mem) (hF : F_X8_removeSection a0 p1_ M = some (o, M')) : CO g l yX8_removeSection cX8_removeSection 2 (some .int) 7 221 rvI [.ref (adr g a0), .int p1_] M o M' := by
  refine CO_of hst (by decide) (Nat.le_of_ble_eq_true rfl) ?_
  intro p e s m below meth c ls X hr htb hH hL hl
  have hx := X.1
  have hb := X.2.1
  have hts := X.2.2.2.2.1
  refine q_out hF ?_
  rw [F_X8_removeSection]
  replace hl : lv_has ls 2 [(0, .ref (adr g a0)), (1, .int p1_)] := hl
  refine lv_aload_n hx hb dX8_removeSection_0 rfl (lv_at hl 0 rfl) ?_
  refine m_gR (k := 4) X hH inC8 t0 rfl W283 dX8_removeSection_1 2 rfl (fun t1 => ?_)
  refine lv_aload_n hx hb dX8_removeSection_4 rfl (lv_at hl 0 rfl) ?_
  refine m_gR (k := 0) X hH inC8 t0 rfl W279 dX8_removeSection_5 5 rfl (fun t2 => ?_)
  refine q_b1 (fun u4 M5 e3 => ?_)
  refine my_doneU hL (my_runV X hH hl.1 (co_X2_prepare g l hst (mR M a0 4) (mR M a0 0) M t1 t2 u4 M5 e3) ok_X2_prepare W314 t1 rfl (by decide) rfl rfl rfl ⟨Nat.le_of_ble_eq_true rfl, Nat.le_of_ble_eq_true rfl⟩ ⟨Nat.zero_le _, Nat.zero_le _⟩ (Nat.le_of_ble_eq_true rfl) dX8_removeSection_8) (fun H locs hH hL => ?_)
  refine lv_aload_n hx hb dX8_removeSection_11 rfl (lv_at hl 0 rfl) ?_
  refine lv_aload_n hx hb dX8_removeSection_12 rfl (lv_at hl 0 rfl) ?_
  refine m_gR (k := 0) X hH inC8 t0 rfl W279 dX8_removeSection_13 5 rfl (fun t6 => ?_)
  refine lv_iload_n hx hb dX8_removeSection_16 rfl (lv_at hl 1 rfl) ?_
  refine q_b1 (fun v8 M9 e7 => ?_)
  refine my_doneI hL (my_runV X hH hl.1 (co_X5_drop g l hst (mR M5 a0 0) p1_ M5 t6 v8 M9 e7) ok_X5_drop W698 t6 rfl (by decide) rfl rfl rfl ⟨Nat.le_of_ble_eq_true rfl, Nat.le_of_ble_eq_true rfl⟩ ⟨Nat.zero_le _, Nat.zero_le _⟩ (Nat.le_of_ble_eq_true rfl) dX8_removeSection_17) (fun H locs hH hL => ?_)
  refine q_bx2 (fun v11 M12 e10 => ?_) (fun E13 M12 e10 => my_thrown X.2.2.2.2.2.2.1 htb hL (my_runV X hH hl.1 (co_X8_settled g l hst a0 v8 M9 t0 (.inr E13) M12 e10) ok_X8_settled W381 t0 rfl (by decide) rfl rfl rfl ⟨Nat.le_of_ble_eq_true rfl, Nat.le_of_ble_eq_true rfl⟩ ⟨Nat.le_refl _, Nat.le_refl _⟩ (Nat.le_of_ble_eq_true rfl) dX8_removeSection_20))
  refine my_doneI hL (my_runV X hH hl.1 (co_X8_settled g l hst a0 v8 M9 t0 (.inl v11) M12 e10) ok_X8_settled W381 t0 rfl (by decide) rfl rfl rfl ⟨Nat.le_of_ble_eq_true rfl, Nat.le_of_ble_eq_true rfl⟩ ⟨Nat.zero_le _, Nat.zero_le _⟩ (Nat.le_of_ble_eq_true rfl) dX8_removeSection_20) (fun H locs hH hL => ?_)
  exact q_end2 (m_iret X hr hH hL dX8_removeSection_23)

set_option maxRecDepth 20000 in
set_option maxHeartbeats 4000000 in
theorem co_X4_hasRow (g : GP) (l : Launch) (hst : l.stackTraces = false) (a0 : Nat) (p1_ : Int32) (M : Mem) (t0 : tyT a0 = 4) (v : Int32) (hF : F_X4_hasRow a0 p1_ M = some v) : CO g l yX4_hasRow cX4_hasRow 2 (some .boolean) 0 0 rvI [.ref (adr g a0), .int p1_] M (.inl v : Int32 ⊕ String) M := by
  refine CO_of hst (by decide) (Nat.le_of_ble_eq_true rfl) ?_
  intro p e s m below meth c ls X hr htb hH hL hl
  have hx := X.1
  have hb := X.2.1
  have hts := X.2.2.2.2.1
  refine q_out hF ?_
  rw [F_X4_hasRow]
  replace hl : lv_has ls 2 [(0, .ref (adr g a0)), (1, .int p1_)] := hl
  refine lv_iload_n hx hb dX4_hasRow_0 rfl (lv_at hl 1 rfl) ?_
  refine lv_if_lt (tgt := 22) hx hb dX4_hasRow_1 (by decide) (fun c1 => q_pos c1 ?_) (fun c1 => q_neg c1 ?_)
  · refine lv_iconst (v := 0) hx hb dX4_hasRow_22 (by decide) ?_
    exact q_end0 (m_zret X hr hH hL (by decide) dX4_hasRow_23)
  · refine lv_iload_n hx hb dX4_hasRow_4 rfl (lv_at hl 1 rfl) ?_
    refine lv_aload_n hx hb dX4_hasRow_5 rfl (lv_at hl 0 rfl) ?_
    refine m_gI (k := 1) X hH inC4 t0 rfl W123 dX4_hasRow_6 ?_
    refine lv_icmp_ge (tgt := 22) hx hb dX4_hasRow_9 (by decide) (fun c2 => q_pos c2 ?_) (fun c2 => q_neg c2 ?_)
    · refine lv_iconst (v := 0) hx hb dX4_hasRow_22 (by decide) ?_
      exact q_end0 (m_zret X hr hH hL (by decide) dX4_hasRow_23)
    · refine lv_iload_n hx hb dX4_hasRow_12 rfl (lv_at hl 1 rfl) ?_
      refine lv_bipush (v := 6) hx hb dX4_hasRow_13 (by decide) ?_
      refine lv_icmp_ge (tgt := 22) hx hb dX4_hasRow_15 (by decide) (fun c3 => q_pos c3 ?_) (fun c3 => q_neg c3 ?_)
      · refine lv_iconst (v := 0) hx hb dX4_hasRow_22 (by decide) ?_
        exact q_end0 (m_zret X hr hH hL (by decide) dX4_hasRow_23)
      · refine lv_iconst (v := 1) hx hb dX4_hasRow_18 (by decide) ?_
        refine lv_goto (tgt := 23) hx hb dX4_hasRow_19 (by decide) ?_
        exact q_end0 (m_zret X hr hH hL (by decide) dX4_hasRow_23)

set_option maxRecDepth 20000 in
set_option maxHeartbeats 4000000 in
theorem co_X4_hasColumn (g : GP) (l : Launch) (hst : l.stackTraces = false) (a0 : Nat) (p1_ : Int32) (M : Mem) (t0 : tyT a0 = 4) (v : Int32) (hF : F_X4_hasColumn a0 p1_ M = some v) : CO g l yX4_hasColumn cX4_hasColumn 2 (some .boolean) 0 0 rvI [.ref (adr g a0), .int p1_] M (.inl v : Int32 ⊕ String) M := by
  refine CO_of hst (by decide) (Nat.le_of_ble_eq_true rfl) ?_
  intro p e s m below meth c ls X hr htb hH hL hl
  have hx := X.1
  have hb := X.2.1
  have hts := X.2.2.2.2.1
  refine q_out hF ?_
  rw [F_X4_hasColumn]
  replace hl : lv_has ls 2 [(0, .ref (adr g a0)), (1, .int p1_)] := hl
  refine lv_iload_n hx hb dX4_hasColumn_0 rfl (lv_at hl 1 rfl) ?_
  refine lv_if_lt (tgt := 22) hx hb dX4_hasColumn_1 (by decide) (fun c1 => q_pos c1 ?_) (fun c1 => q_neg c1 ?_)
  · refine lv_iconst (v := 0) hx hb dX4_hasColumn_22 (by decide) ?_
    exact q_end0 (m_zret X hr hH hL (by decide) dX4_hasColumn_23)
  · refine lv_iload_n hx hb dX4_hasColumn_4 rfl (lv_at hl 1 rfl) ?_
    refine lv_aload_n hx hb dX4_hasColumn_5 rfl (lv_at hl 0 rfl) ?_
    refine m_gI (k := 2) X hH inC4 t0 rfl W125 dX4_hasColumn_6 ?_
    refine lv_icmp_ge (tgt := 22) hx hb dX4_hasColumn_9 (by decide) (fun c2 => q_pos c2 ?_) (fun c2 => q_neg c2 ?_)
    · refine lv_iconst (v := 0) hx hb dX4_hasColumn_22 (by decide) ?_
      exact q_end0 (m_zret X hr hH hL (by decide) dX4_hasColumn_23)
    · refine lv_iload_n hx hb dX4_hasColumn_12 rfl (lv_at hl 1 rfl) ?_
      refine lv_bipush (v := 6) hx hb dX4_hasColumn_13 (by decide) ?_
      refine lv_icmp_ge (tgt := 22) hx hb dX4_hasColumn_15 (by decide) (fun c3 => q_pos c3 ?_) (fun c3 => q_neg c3 ?_)
      · refine lv_iconst (v := 0) hx hb dX4_hasColumn_22 (by decide) ?_
        exact q_end0 (m_zret X hr hH hL (by decide) dX4_hasColumn_23)
      · refine lv_iconst (v := 1) hx hb dX4_hasColumn_18 (by decide) ?_
        refine lv_goto (tgt := 23) hx hb dX4_hasColumn_19 (by decide) ?_
        exact q_end0 (m_zret X hr hH hL (by decide) dX4_hasColumn_23)

set_option maxRecDepth 20000 in
set_option maxHeartbeats 4000000 in
theorem co_X4_hasPlace (g : GP) (l : Launch) (hst : l.stackTraces = false) (a0 : Nat) (p1_ : Int32) (p2_ : Int32) (M : Mem) (t0 : tyT a0 = 4) (v : Int32) (hF : F_X4_hasPlace a0 p1_ p2_ M = some v) : CO g l yX4_hasPlace cX4_hasPlace 3 (some .boolean) 1 21 rvI [.ref (adr g a0), .int p1_, .int p2_] M (.inl v : Int32 ⊕ String) M := by
  refine CO_of hst (by decide) (Nat.le_of_ble_eq_true rfl) ?_
  intro p e s m below meth c ls X hr htb hH hL hl
  have hx := X.1
  have hb := X.2.1
  have hts := X.2.2.2.2.1
  refine q_out hF ?_
  rw [F_X4_hasPlace]
  replace hl : lv_has ls 3 [(0, .ref (adr g a0)), (1, .int p1_), (2, .int p2_)] := hl
  refine lv_aload_n hx hb dX4_hasPlace_0 rfl (lv_at hl 0 rfl) ?_
  refine lv_iload_n hx hb dX4_hasPlace_1 rfl (lv_at hl 1 rfl) ?_
  refine q_bind (fun v2 e1 => ?_)
  refine my_doneI hL (my_runV X hH hl.1 (co_X4_hasRow g l hst a0 p1_ M t0 v2 e1) ok_X4_hasRow W640 t0 rfl (by decide) rfl rfl rfl ⟨Nat.le_of_ble_eq_true rfl, Nat.le_of_ble_eq_true rfl⟩ ⟨Nat.zero_le _, Nat.zero_le _⟩ (Nat.le_of_ble_eq_true rfl) dX4_hasPlace_2) (fun H locs hH hL => ?_)
  refine lv_if_eq (tgt := 20) hx hb dX4_hasPlace_5 (by decide) (fun c3 => q_pos c3 ?_) (fun c3 => q_neg c3 ?_)
  · refine lv_iconst (v := 0) hx hb dX4_hasPlace_20 (by decide) ?_
    exact q_end0 (m_zret X hr hH hL (by decide) dX4_hasPlace_21)
  · refine lv_aload_n hx hb dX4_hasPlace_8 rfl (lv_at hl 0 rfl) ?_
    refine lv_iload_n hx hb dX4_hasPlace_9 rfl (lv_at hl 2 rfl) ?_
    refine q_bind (fun v5 e4 => ?_)
    refine my_doneI hL (my_runV X hH hl.1 (co_X4_hasColumn g l hst a0 p2_ M t0 v5 e4) ok_X4_hasColumn W644 t0 rfl (by decide) rfl rfl rfl ⟨Nat.le_of_ble_eq_true rfl, Nat.le_of_ble_eq_true rfl⟩ ⟨Nat.zero_le _, Nat.zero_le _⟩ (Nat.le_of_ble_eq_true rfl) dX4_hasPlace_10) (fun H locs hH hL => ?_)
    refine lv_if_eq (tgt := 20) hx hb dX4_hasPlace_13 (by decide) (fun c6 => q_pos c6 ?_) (fun c6 => q_neg c6 ?_)
    · refine lv_iconst (v := 0) hx hb dX4_hasPlace_20 (by decide) ?_
      exact q_end0 (m_zret X hr hH hL (by decide) dX4_hasPlace_21)
    · refine lv_iconst (v := 1) hx hb dX4_hasPlace_16 (by decide) ?_
      refine lv_goto (tgt := 21) hx hb dX4_hasPlace_17 (by decide) ?_
      exact q_end0 (m_zret X hr hH hL (by decide) dX4_hasPlace_21)

set_option maxRecDepth 20000 in
set_option maxHeartbeats 4000000 in
theorem co_X4_noteAt (g : GP) (l : Launch) (hst : l.stackTraces = false) (a0 : Nat) (p1_ : Int32) (p2_ : Int32) (M : Mem) (t0 : tyT a0 = 4) (v : Int32) (hF : F_X4_noteAt a0 p1_ p2_ M = some v) : CO g l yX4_noteAt cX4_noteAt 3 (some .int) 2 43 rvI [.ref (adr g a0), .int p1_, .int p2_] M (.inl v : Int32 ⊕ String) M := by
  refine CO_of hst (by decide) (Nat.le_of_ble_eq_true rfl) ?_
  intro p e s m below meth c ls X hr htb hH hL hl
  have hx := X.1
  have hb := X.2.1
  have hts := X.2.2.2.2.1
  refine q_out hF ?_
  rw [F_X4_noteAt]
  replace hl : lv_has ls 3 [(0, .ref (adr g a0)), (1, .int p1_), (2, .int p2_)] := hl
  refine lv_aload_n hx hb dX4_noteAt_0 rfl (lv_at hl 0 rfl) ?_
  refine lv_iload_n hx hb dX4_noteAt_1 rfl (lv_at hl 1 rfl) ?_
  refine lv_iload_n hx hb dX4_noteAt_2 rfl (lv_at hl 2 rfl) ?_
  refine q_bind (fun v2 e1 => ?_)
  refine my_doneI hL (my_runV X hH hl.1 (co_X4_hasPlace g l hst a0 p1_ p2_ M t0 v2 e1) ok_X4_hasPlace W636 t0 rfl (by decide) rfl rfl rfl ⟨Nat.le_of_ble_eq_true rfl, Nat.le_of_ble_eq_true rfl⟩ ⟨Nat.zero_le _, Nat.zero_le _⟩ (Nat.le_of_ble_eq_true rfl) dX4_noteAt_3) (fun H locs hH hL => ?_)
  refine lv_if_eq (tgt := 23) hx hb dX4_noteAt_6 (by decide) (fun c3 => q_pos c3 ?_) (fun c3 => q_neg c3 ?_)
  · refine lv_iconst (v := 0) hx hb dX4_noteAt_23 (by decide) ?_
    exact q_end0 (m_iret X hr hH hL dX4_noteAt_24)
  · refine lv_aload_n hx hb dX4_noteAt_9 rfl (lv_at hl 0 rfl) ?_
    refine m_gR (k := 3) X hH inC4 t0 rfl W128 dX4_noteAt_10 20 rfl (fun t4 => ?_)
    refine lv_iload_n hx hb dX4_noteAt_13 rfl (lv_at hl 1 rfl) ?_
    refine lv_bipush (v := 6) hx hb dX4_noteAt_14 (by decide) ?_
    refine lv_imul hx hb dX4_noteAt_16 ?_
    refine lv_iload_n hx hb dX4_noteAt_17 rfl (lv_at hl 2 rfl) ?_
    refine lv_iadd hx hb dX4_noteAt_18 ?_
    refine q_chk (fun hb5 => ?_)
    refine m_iald X hH t4 rfl (by decide) (fun _ => rfl) rfl rfl hb5 dX4_noteAt_19 ?_
    refine lv_goto (tgt := 24) hx hb dX4_noteAt_20 (by decide) ?_
    exact q_end0 (m_iret X hr hH hL dX4_noteAt_24)

set_option maxRecDepth 20000 in
set_option maxHeartbeats 4000000 in
theorem co_X4_putNote (g : GP) (l : Launch) (hst : l.stackTraces = false) (a0 : Nat) (p1_ : Int32) (p2_ : Int32) (p3_ : Int32) (M : Mem) (t0 : tyT a0 = 4) (v : Unit) (M' : Mem) (hF : F_X4_putNote a0 p1_ p2_ p3_ M = some (v, M')) : CO g l yX4_putNote cX4_putNote 4 none 2 43 rvU [.ref (adr g a0), .int p1_, .int p2_, .int p3_] M (.inl v : Unit ⊕ String) M' := by
  refine CO_of hst (by decide) (Nat.le_of_ble_eq_true rfl) ?_
  intro p e s m below meth c ls X hr htb hH hL hl
  have hx := X.1
  have hb := X.2.1
  have hts := X.2.2.2.2.1
  refine q_out hF ?_
  rw [F_X4_putNote]
  replace hl : lv_has ls 4 [(0, .ref (adr g a0)), (1, .int p1_), (2, .int p2_), (3, .int p3_)] := hl
  refine lv_aload_n hx hb dX4_putNote_0 rfl (lv_at hl 0 rfl) ?_
  refine lv_iload_n hx hb dX4_putNote_1 rfl (lv_at hl 1 rfl) ?_
  refine lv_iload_n hx hb dX4_putNote_2 rfl (lv_at hl 2 rfl) ?_
  refine q_bind (fun v2 e1 => ?_)
  refine my_doneI hL (my_runV X hH hl.1 (co_X4_hasPlace g l hst a0 p1_ p2_ M t0 v2 e1) ok_X4_hasPlace W636 t0 rfl (by decide) rfl rfl rfl ⟨Nat.le_of_ble_eq_true rfl, Nat.le_of_ble_eq_true rfl⟩ ⟨Nat.zero_le _, Nat.zero_le _⟩ (Nat.le_of_ble_eq_true rfl) dX4_putNote_3) (fun H locs hH hL => ?_)
  refine lv_if_eq (tgt := 21) hx hb dX4_putNote_6 (by decide) (fun c3 => q_pos c3 ?_) (fun c3 => q_neg c3 ?_)
  · exact q_end1 (m_vret X hr hH hL dX4_putNote_21)
  · refine lv_aload_n hx hb dX4_putNote_9 rfl (lv_at hl 0 rfl) ?_
    refine m_gR (k := 3) X hH inC4 t0 rfl W128 dX4_putNote_10 20 rfl (fun t4 => ?_)
    refine lv_iload_n hx hb dX4_putNote_13 rfl (lv_at hl 1 rfl) ?_
    refine lv_bipush (v := 6) hx hb dX4_putNote_14 (by decide) ?_
    refine lv_imul hx hb dX4_putNote_16 ?_
    refine lv_iload_n hx hb dX4_putNote_17 rfl (lv_at hl 2 rfl) ?_
    refine lv_iadd hx hb dX4_putNote_18 ?_
    refine lv_iload_n hx hb dX4_putNote_19 rfl (lv_at hl 3 rfl) ?_
    refine q_chk (fun hb5 => ?_)
    refine q_lt (fun M6 e_M6 => ?_)
    refine m_is X hH hL t4 rfl (by decide) (fun _ => rfl) rfl rfl hb5 dX4_putNote_20 e_M6 (fun H locs hH hL => ?_)
    exact q_end1 (m_vret X hr hH hL dX4_putNote_21)

set_option maxRecDepth 20000 in
set_option maxHeartbeats 4000000 in
theorem co_X5_write (g : GP) (l : Launch) (hst : l.stackTraces = false) (a0 : Nat) (p1_ : Int32) (p2_ : Int32) (p3_ : Int32) (p4_ : Int32) (M : Mem) (t0 : tyT a0 = 5) (v : Int32) (M' : Mem) (hF : F_X5_write a0 p1_ p2_ p3_ p4_ M = some (v, M')) : CO g l yX5_write cX5_write 6 (some .int) 3 66 rvI [.ref (adr g a0), .int p1_, .int p2_, .int p3_, .int p4_] M (.inl v : Int32 ⊕ String) M' := by
  refine CO_of hst (by decide) (Nat.le_of_ble_eq_true rfl) ?_
  intro p e s m below meth c ls X hr htb hH hL hl
  have hx := X.1
  have hb := X.2.1
  have hts := X.2.2.2.2.1
  refine q_out hF ?_
  rw [F_X5_write]
  replace hl : lv_has ls 6 [(0, .ref (adr g a0)), (1, .int p1_), (2, .int p2_), (3, .int p3_), (4, .int p4_)] := hl
  refine lv_aload_n hx hb dX5_write_0 rfl (lv_at hl 0 rfl) ?_
  refine lv_iload_n hx hb dX5_write_1 rfl (lv_at hl 1 rfl) ?_
  refine q_bind (fun v2 e1 => ?_)
  refine my_doneI hL (my_runV X hH hl.1 (co_X5_hasSection g l hst a0 p1_ M t0 v2 e1) ok_X5_hasSection W702 t0 rfl (by decide) rfl rfl rfl ⟨Nat.le_of_ble_eq_true rfl, Nat.le_of_ble_eq_true rfl⟩ ⟨Nat.zero_le _, Nat.zero_le _⟩ (Nat.le_of_ble_eq_true rfl) dX5_write_2) (fun H locs hH hL => ?_)
  refine lv_if_eq (tgt := 22) hx hb dX5_write_5 (by decide) (fun c3 => q_pos c3 ?_) (fun c3 => q_neg c3 ?_)
  · refine lv_iconst (v := (-1)) hx hb dX5_write_22 (by decide) ?_
    exact q_end1 (m_iret X hr hH hL dX5_write_23)
  · refine lv_aload_n hx hb dX5_write_8 rfl (lv_at hl 0 rfl) ?_
    refine m_gR (k := 0) X hH inC5 t0 rfl W157 dX5_write_9 29 rfl (fun t4 => ?_)
    refine lv_iload_n hx hb dX5_write_12 rfl (lv_at hl 1 rfl) ?_
    refine q_chk (fun hb5 => ?_)
    refine m_aald X hH t4 rfl (by decide) (fun _ => rfl) rfl rfl (t2 := 4) (fun _ => rfl) hb5 dX5_write_13 (fun t6 => ?_)
    refine lv_iload_n hx hb dX5_write_14 rfl (lv_at hl 2 rfl) ?_
    refine lv_iload_n hx hb dX5_write_15 rfl (lv_at hl 3 rfl) ?_
    refine q_bind (fun v8 e7 => ?_)
    refine my_doneI hL (my_runV X hH hl.1 (co_X4_hasPlace g l hst (mR M (mR M a0 0) p1_.toNatClampNeg) p2_ p3_ M t6 v8 e7) ok_X4_hasPlace W714 t6 rfl (by decide) rfl rfl rfl ⟨Nat.le_of_ble_eq_true rfl, Nat.le_of_ble_eq_true rfl⟩ ⟨Nat.zero_le _, Nat.zero_le _⟩ (Nat.le_of_ble_eq_true rfl) dX5_write_16) (fun H locs hH hL => ?_)
    refine lv_if_ne (tgt := 24) hx hb dX5_write_19 (by decide) (fun c9 => q_neg c9 ?_) (fun c9 => q_pos c9 ?_)
    · refine lv_iload hx hb dX5_write_24 (lv_at hl 4 rfl) ?_
      refine lv_if_lt (tgt := 36) hx hb dX5_write_26 (by decide) (fun c10 => q_pos c10 ?_) (fun c10 => q_neg c10 ?_)
      · refine lv_bipush (v := (-2)) hx hb dX5_write_36 (by decide) ?_
        exact q_end1 (m_iret X hr hH hL dX5_write_38)
      · refine lv_iload hx hb dX5_write_29 (lv_at hl 4 rfl) ?_
        refine lv_bipush (v := 9) hx hb dX5_write_31 (by decide) ?_
        refine lv_icmp_le (tgt := 39) hx hb dX5_write_33 (by decide) (fun c11 => q_pos c11 ?_) (fun c11 => q_neg c11 ?_)
        · refine lv_aload_n hx hb dX5_write_39 rfl (lv_at hl 0 rfl) ?_
          refine m_gR (k := 0) X hH inC5 t0 rfl W157 dX5_write_40 29 rfl (fun t12 => ?_)
          refine lv_iload_n hx hb dX5_write_43 rfl (lv_at hl 1 rfl) ?_
          refine q_chk (fun hb13 => ?_)
          refine m_aald X hH t12 rfl (by decide) (fun _ => rfl) rfl rfl (t2 := 4) (fun _ => rfl) hb13 dX5_write_44 (fun t14 => ?_)
          refine lv_iload_n hx hb dX5_write_45 rfl (lv_at hl 2 rfl) ?_
          refine lv_iload_n hx hb dX5_write_46 rfl (lv_at hl 3 rfl) ?_
          refine q_bind (fun v16 e15 => ?_)
          refine my_doneI hL (my_runV X hH hl.1 (co_X4_noteAt g l hst (mR M (mR M a0 0) p1_.toNatClampNeg) p2_ p3_ M t14 v16 e15) ok_X4_noteAt W715 t14 rfl (by decide) rfl rfl rfl ⟨Nat.le_of_ble_eq_true rfl, Nat.le_of_ble_eq_true rfl⟩ ⟨Nat.zero_le _, Nat.zero_le _⟩ (Nat.le_of_ble_eq_true rfl) dX5_write_47) (fun H locs hH hL => ?_)
          refine lv_istore (lv' := [(5, .int v16), (0, .ref (adr g a0)), (1, .int p1_), (2, .int p2_), (3, .int p3_), (4, .int p4_)]) hx hb dX5_write_50 hl (by decide) rfl (fun ls hl => ?_)
          refine lv_aload_n hx hb dX5_write_52 rfl (lv_at hl 1 rfl) ?_
          refine m_gR (k := 0) X hH inC5 t0 rfl W157 dX5_write_53 29 rfl (fun t17 => ?_)
          refine lv_iload_n hx hb dX5_write_56 rfl (lv_at hl 2 rfl) ?_
          refine q_chk (fun hb18 => ?_)
          refine m_aald X hH t17 rfl (by decide) (fun _ => rfl) rfl rfl (t2 := 4) (fun _ => rfl) hb18 dX5_write_57 (fun t19 => ?_)
          refine lv_iload_n hx hb dX5_write_58 rfl (lv_at hl 3 rfl) ?_
          refine lv_iload_n hx hb dX5_write_59 rfl (lv_at hl 4 rfl) ?_
          refine lv_iload hx hb dX5_write_60 (lv_at hl 5 rfl) ?_
          refine q_b1 (fun u21 M22 e20 => ?_)
          refine my_doneU hL (my_runV X hH hl.1 (co_X4_putNote g l hst (mR M (mR M a0 0) p1_.toNatClampNeg) p2_ p3_ p4_ M t19 u21 M22 e20) ok_X4_putNote W716 t19 rfl (by decide) rfl rfl rfl ⟨Nat.le_of_ble_eq_true rfl, Nat.le_of_ble_eq_true rfl⟩ ⟨Nat.zero_le _, Nat.zero_le _⟩ (Nat.le_of_ble_eq_true rfl) dX5_write_62) (fun H locs hH hL => ?_)
          refine lv_iload hx hb dX5_write_65 (lv_at hl 0 rfl) ?_
          exact q_end1 (m_iret X hr hH hL dX5_write_67)
        · refine lv_bipush (v := (-2)) hx hb dX5_write_36 (by decide) ?_
          exact q_end1 (m_iret X hr hH hL dX5_write_38)
    · refine lv_iconst (v := (-1)) hx hb dX5_write_22 (by decide) ?_
      exact q_end1 (m_iret X hr hH hL dX5_write_23)

set_option maxRecDepth 20000 in
set_option maxHeartbeats 4000000 in
theorem co_X8_setNote (g : GP) (l : Launch) (hst : l.stackTraces = false) (a0 : Nat) (p1_ : Int32) (p2_ : Int32) (p3_ : Int32) (p4_ : Int32) (M : Mem) (t0 : tyT a0 = 8) (o : Int32 ⊕ String) (M' : Mem) (hF : F_X8_setNote a0 p1_ p2_ p3_ p4_ M = some (o, M')) : CO g l yX8_setNote cX8_setNote 5 (some .int) 7 221 rvI [.ref (adr g a0), .int p1_, .int p2_, .int p3_, .int p4_] M o M' := by
  refine CO_of hst (by decide) (Nat.le_of_ble_eq_true rfl) ?_
  intro p e s m below meth c ls X hr htb hH hL hl
  have hx := X.1
  have hb := X.2.1
  have hts := X.2.2.2.2.1
  refine q_out hF ?_
  rw [F_X8_setNote]
  replace hl : lv_has ls 5 [(0, .ref (adr g a0)), (1, .int p1_), (2, .int p2_), (3, .int p3_), (4, .int p4_)] := hl
  refine lv_aload_n hx hb dX8_setNote_0 rfl (lv_at hl 0 rfl) ?_
  refine m_gR (k := 4) X hH inC8 t0 rfl W283 dX8_setNote_1 2 rfl (fun t1 => ?_)
  refine lv_aload_n hx hb dX8_setNote_4 rfl (lv_at hl 0 rfl) ?_
  refine m_gR (k := 0) X hH inC8 t0 rfl W279 dX8_setNote_5 5 rfl (fun t2 => ?_)
  refine q_b1 (fun u4 M5 e3 => ?_)
  refine my_doneU hL (my_runV X hH hl.1 (co_X2_prepare g l hst (mR M a0 4) (mR M a0 0) M t1 t2 u4 M5 e3) ok_X2_prepare W314 t1 rfl (by decide) rfl rfl rfl ⟨Nat.le_of_ble_eq_true rfl, Nat.le_of_ble_eq_true rfl⟩ ⟨Nat.zero_le _, Nat.zero_le _⟩ (Nat.le_of_ble_eq_true rfl) dX8_setNote_8) (fun H locs hH hL => ?_)
  refine lv_aload_n hx hb dX8_setNote_11 rfl (lv_at hl 0 rfl) ?_
  refine lv_aload_n hx hb dX8_setNote_12 rfl (lv_at hl 0 rfl) ?_
  refine m_gR (k := 0) X hH inC8 t0 rfl W279 dX8_setNote_13 5 rfl (fun t6 => ?_)
  refine lv_iload_n hx hb dX8_setNote_16 rfl (lv_at hl 1 rfl) ?_
  refine lv_iload_n hx hb dX8_setNote_17 rfl (lv_at hl 2 rfl) ?_
  refine lv_iload_n hx hb dX8_setNote_18 rfl (lv_at hl 3 rfl) ?_
  refine lv_iload hx hb dX8_setNote_19 (lv_at hl 4 rfl) ?_
  refine q_b1 (fun v8 M9 e7 => ?_)
  refine my_doneI hL (my_runV X hH hl.1 (co_X5_write g l hst (mR M5 a0 0) p1_ p2_ p3_ p4_ M5 t6 v8 M9 e7) ok_X5_write W710 t6 rfl (by decide) rfl rfl rfl ⟨Nat.le_of_ble_eq_true rfl, Nat.le_of_ble_eq_true rfl⟩ ⟨Nat.zero_le _, Nat.zero_le _⟩ (Nat.le_of_ble_eq_true rfl) dX8_setNote_21) (fun H locs hH hL => ?_)
  refine q_bx2 (fun v11 M12 e10 => ?_) (fun E13 M12 e10 => my_thrown X.2.2.2.2.2.2.1 htb hL (my_runV X hH hl.1 (co_X8_settled g l hst a0 v8 M9 t0 (.inr E13) M12 e10) ok_X8_settled W381 t0 rfl (by decide) rfl rfl rfl ⟨Nat.le_of_ble_eq_true rfl, Nat.le_of_ble_eq_true rfl⟩ ⟨Nat.le_refl _, Nat.le_refl _⟩ (Nat.le_of_ble_eq_true rfl) dX8_setNote_24))
  refine my_doneI hL (my_runV X hH hl.1 (co_X8_settled g l hst a0 v8 M9 t0 (.inl v11) M12 e10) ok_X8_settled W381 t0 rfl (by decide) rfl rfl rfl ⟨Nat.le_of_ble_eq_true rfl, Nat.le_of_ble_eq_true rfl⟩ ⟨Nat.zero_le _, Nat.zero_le _⟩ (Nat.le_of_ble_eq_true rfl) dX8_setNote_24) (fun H locs hH hL => ?_)
  exact q_end2 (m_iret X hr hH hL dX8_setNote_27)

set_option maxRecDepth 20000 in
set_option maxHeartbeats 4000000 in
theorem co_X8_isMaskColumn (g : GP) (l : Launch) (hst : l.stackTraces = false) (p1_ : Int32) (M : Mem)  (v : Int32) (hF : F_X8_isMaskColumn p1_ = some v) : CO g l yX8_isMaskColumn cX8_isMaskColumn 1 (some .boolean) 0 0 rvI [.int p1_] M (.inl v : Int32 ⊕ String) M := by
  refine CO_of hst (by decide) (Nat.le_of_ble_eq_true rfl) ?_
  intro p e s m below meth c ls X hr htb hH hL hl
  have hx := X.1
  have hb := X.2.1
  have hts := X.2.2.2.2.1
  refine q_out hF ?_
  rw [F_X8_isMaskColumn]
  replace hl : lv_has ls 1 [(0, .int p1_)] := hl
  refine lv_iload_n hx hb dX8_isMaskColumn_0 rfl (lv_at hl 0 rfl) ?_
  refine lv_if_lt (tgt := 14) hx hb dX8_isMaskColumn_1 (by decide) (fun c1 => q_pos c1 ?_) (fun c1 => q_neg c1 ?_)
  · refine lv_iconst (v := 0) hx hb dX8_isMaskColumn_14 (by decide) ?_
    exact q_end0 (m_zret X hr hH hL (by decide) dX8_isMaskColumn_15)
  · refine lv_iload_n hx hb dX8_isMaskColumn_4 rfl (lv_at hl 0 rfl) ?_
    refine lv_bipush (v := 6) hx hb dX8_isMaskColumn_5 (by decide) ?_
    refine lv_icmp_ge (tgt := 14) hx hb dX8_isMaskColumn_7 (by decide) (fun c2 => q_pos c2 ?_) (fun c2 => q_neg c2 ?_)
    · refine lv_iconst (v := 0) hx hb dX8_isMaskColumn_14 (by decide) ?_
      exact q_end0 (m_zret X hr hH hL (by decide) dX8_isMaskColumn_15)
    · refine lv_iconst (v := 1) hx hb dX8_isMaskColumn_10 (by decide) ?_
      refine lv_goto (tgt := 15) hx hb dX8_isMaskColumn_11 (by decide) ?_
      exact q_end0 (m_zret X hr hH hL (by decide) dX8_isMaskColumn_15)

set_option maxRecDepth 20000 in
set_option maxHeartbeats 4000000 in
theorem co_X4_masks (g : GP) (l : Launch) (hst : l.stackTraces = false) (a0 : Nat) (p1_ : Int32) (M : Mem) (t0 : tyT a0 = 4) (v : Int32) (hF : F_X4_masks a0 p1_ M = some v) : CO g l yX4_masks cX4_masks 2 (some .boolean) 0 0 rvI [.ref (adr g a0), .int p1_] M (.inl v : Int32 ⊕ String) M := by
  refine CO_of hst (by decide) (Nat.le_of_ble_eq_true rfl) ?_
  intro p e s m below meth c ls X hr htb hH hL hl
  have hx := X.1
  have hb := X.2.1
  have hts := X.2.2.2.2.1
  refine q_out hF ?_
  rw [F_X4_masks]
  replace hl : lv_has ls 2 [(0, .ref (adr g a0)), (1, .int p1_)] := hl
  refine lv_aload_n hx hb dX4_masks_0 rfl (lv_at hl 0 rfl) ?_
  refine m_gI (k := 4) X hH inC4 t0 rfl W130 dX4_masks_1 ?_
  refine lv_iload_n hx hb dX4_masks_4 rfl (lv_at hl 1 rfl) ?_
  refine lv_ishr hx hb dX4_masks_5 ?_
  refine lv_iconst (v := 1) hx hb dX4_masks_6 (by decide) ?_
  refine lv_iand hx hb dX4_masks_7 ?_
  refine lv_if_eq (tgt := 15) hx hb dX4_masks_8 (by decide) (fun c1 => q_pos c1 ?_) (fun c1 => q_neg c1 ?_)
  · refine lv_iconst (v := 0) hx hb dX4_masks_15 (by decide) ?_
    exact q_end0 (m_zret X hr hH hL (by decide) dX4_masks_16)
  · refine lv_iconst (v := 1) hx hb dX4_masks_11 (by decide) ?_
    refine lv_goto (tgt := 16) hx hb dX4_masks_12 (by decide) ?_
    exact q_end0 (m_zret X hr hH hL (by decide) dX4_masks_16)

set_option maxRecDepth 20000 in
set_option maxHeartbeats 4000000 in
theorem co_X4_putMask (g : GP) (l : Launch) (hst : l.stackTraces = false) (a0 : Nat) (p1_ : Int32) (p2_ : Int32) (M : Mem) (t0 : tyT a0 = 4) (v : Unit) (M' : Mem) (hF : F_X4_putMask a0 p1_ p2_ M = some (v, M')) : CO g l yX4_putMask cX4_putMask 3 none 0 0 rvU [.ref (adr g a0), .int p1_, .int p2_] M (.inl v : Unit ⊕ String) M' := by
  refine CO_of hst (by decide) (Nat.le_of_ble_eq_true rfl) ?_
  intro p e s m below meth c ls X hr htb hH hL hl
  have hx := X.1
  have hb := X.2.1
  have hts := X.2.2.2.2.1
  refine q_out hF ?_
  rw [F_X4_putMask]
  replace hl : lv_has ls 3 [(0, .ref (adr g a0)), (1, .int p1_), (2, .int p2_)] := hl
  refine lv_aload_n hx hb dX4_putMask_0 rfl (lv_at hl 0 rfl) ?_
  refine lv_iload_n hx hb dX4_putMask_1 rfl (lv_at hl 2 rfl) ?_
  refine lv_if_eq (tgt := 16) hx hb dX4_putMask_2 (by decide) (fun c1 => q_pos c1 ?_) (fun c1 => q_neg c1 ?_)
  · refine lv_aload_n hx hb dX4_putMask_16 rfl (lv_at hl 0 rfl) ?_
    refine m_gI (k := 4) X hH inC4 t0 rfl W130 dX4_putMask_17 ?_
    refine lv_iconst (v := 1) hx hb dX4_putMask_20 (by decide) ?_
    refine lv_iload_n hx hb dX4_putMask_21 rfl (lv_at hl 1 rfl) ?_
    refine lv_ishl hx hb dX4_putMask_22 ?_
    refine lv_iconst (v := (-1)) hx hb dX4_putMask_23 (by decide) ?_
    refine lv_ixor hx hb dX4_putMask_24 ?_
    refine lv_iand hx hb dX4_putMask_25 ?_
    refine q_lt (fun M2 e_M2 => ?_)
    refine m_pI (k := 4) X hH hL okC4 t0 rfl rfl rfl rfl W130 dX4_putMask_26 e_M2 (fun H locs hH hL => ?_)
    exact q_end1 (m_vret X hr hH hL dX4_putMask_29)
  · refine lv_aload_n hx hb dX4_putMask_5 rfl (lv_at hl 0 rfl) ?_
    refine m_gI (k := 4) X hH inC4 t0 rfl W130 dX4_putMask_6 ?_
    refine lv_iconst (v := 1) hx hb dX4_putMask_9 (by decide) ?_
    refine lv_iload_n hx hb dX4_putMask_10 rfl (lv_at hl 1 rfl) ?_
    refine lv_ishl hx hb dX4_putMask_11 ?_
    refine lv_ior hx hb dX4_putMask_12 ?_
    refine lv_goto (tgt := 26) hx hb dX4_putMask_13 (by decide) ?_
    refine q_lt (fun M3 e_M3 => ?_)
    refine m_pI (k := 4) X hH hL okC4 t0 rfl rfl rfl rfl W130 dX4_putMask_26 e_M3 (fun H locs hH hL => ?_)
    exact q_end1 (m_vret X hr hH hL dX4_putMask_29)

set_option maxRecDepth 20000 in
set_option maxHeartbeats 4000000 in
theorem co_X5_mask (g : GP) (l : Launch) (hst : l.stackTraces = false) (a0 : Nat) (p1_ : Int32) (p2_ : Int32) (p3_ : Int32) (M : Mem) (t0 : tyT a0 = 5) (v : Int32) (M' : Mem) (hF : F_X5_mask a0 p1_ p2_ p3_ M = some (v, M')) : CO g l yX5_mask cX5_mask 5 (some .int) 1 22 rvI [.ref (adr g a0), .int p1_, .int p2_, .int p3_] M (.inl v : Int32 ⊕ String) M' := by
  refine CO_of hst (by decide) (Nat.le_of_ble_eq_true rfl) ?_
  intro p e s m below meth c ls X hr htb hH hL hl
  have hx := X.1
  have hb := X.2.1
  have hts := X.2.2.2.2.1
  refine q_out hF ?_
  rw [F_X5_mask]
  replace hl : lv_has ls 5 [(0, .ref (adr g a0)), (1, .int p1_), (2, .int p2_), (3, .int p3_)] := hl
  refine lv_aload_n hx hb dX5_mask_0 rfl (lv_at hl 0 rfl) ?_
  refine lv_iload_n hx hb dX5_mask_1 rfl (lv_at hl 1 rfl) ?_
  refine q_bind (fun v2 e1 => ?_)
  refine my_doneI hL (my_runV X hH hl.1 (co_X5_hasSection g l hst a0 p1_ M t0 v2 e1) ok_X5_hasSection W702 t0 rfl (by decide) rfl rfl rfl ⟨Nat.le_of_ble_eq_true rfl, Nat.le_of_ble_eq_true rfl⟩ ⟨Nat.zero_le _, Nat.zero_le _⟩ (Nat.le_of_ble_eq_true rfl) dX5_mask_2) (fun H locs hH hL => ?_)
  refine lv_if_ne (tgt := 10) hx hb dX5_mask_5 (by decide) (fun c3 => q_neg c3 ?_) (fun c3 => q_pos c3 ?_)
  · refine lv_iload_n hx hb dX5_mask_10 rfl (lv_at hl 2 rfl) ?_
    refine q_bind (fun v5 e4 => ?_)
    refine my_doneI hL (my_runSN X hH hl.1 (co_X8_isMaskColumn g l hst p2_ M v5 e4) ok_X8_isMaskColumn N731 rfl rfl ⟨Nat.le_of_ble_eq_true rfl, Nat.le_of_ble_eq_true rfl⟩ ⟨Nat.zero_le _, Nat.zero_le _⟩ (Nat.le_of_ble_eq_true rfl) dX5_mask_11) (fun H locs hH hL => ?_)
    refine lv_if_ne (tgt := 20) hx hb dX5_mask_14 (by decide) (fun c6 => q_neg c6 ?_) (fun c6 => q_pos c6 ?_)
    · refine lv_aload_n hx hb dX5_mask_20 rfl (lv_at hl 0 rfl) ?_
      refine m_gR (k := 0) X hH inC5 t0 rfl W157 dX5_mask_21 29 rfl (fun t7 => ?_)
      refine lv_iload_n hx hb dX5_mask_24 rfl (lv_at hl 1 rfl) ?_
      refine q_chk (fun hb8 => ?_)
      refine m_aald X hH t7 rfl (by decide) (fun _ => rfl) rfl rfl (t2 := 4) (fun _ => rfl) hb8 dX5_mask_25 (fun t9 => ?_)
      refine lv_iload_n hx hb dX5_mask_26 rfl (lv_at hl 2 rfl) ?_
      refine q_bind (fun v11 e10 => ?_)
      refine my_doneI hL (my_runV X hH hl.1 (co_X4_masks g l hst (mR M (mR M a0 0) p1_.toNatClampNeg) p2_ M t9 v11 e10) ok_X4_masks W352 t9 rfl (by decide) rfl rfl rfl ⟨Nat.le_of_ble_eq_true rfl, Nat.le_of_ble_eq_true rfl⟩ ⟨Nat.zero_le _, Nat.zero_le _⟩ (Nat.le_of_ble_eq_true rfl) dX5_mask_27) (fun H locs hH hL => ?_)
      refine lv_istore (lv' := [(4, .int v11), (0, .ref (adr g a0)), (1, .int p1_), (2, .int p2_), (3, .int p3_)]) hx hb dX5_mask_30 hl (by decide) rfl (fun ls hl => ?_)
      refine lv_aload_n hx hb dX5_mask_32 rfl (lv_at hl 1 rfl) ?_
      refine m_gR (k := 0) X hH inC5 t0 rfl W157 dX5_mask_33 29 rfl (fun t12 => ?_)
      refine lv_iload_n hx hb dX5_mask_36 rfl (lv_at hl 2 rfl) ?_
      refine q_chk (fun hb13 => ?_)
      refine m_aald X hH t12 rfl (by decide) (fun _ => rfl) rfl rfl (t2 := 4) (fun _ => rfl) hb13 dX5_mask_37 (fun t14 => ?_)
      refine lv_iload_n hx hb dX5_mask_38 rfl (lv_at hl 3 rfl) ?_
      refine lv_iload_n hx hb dX5_mask_39 rfl (lv_at hl 4 rfl) ?_
      refine q_b1 (fun u16 M17 e15 => ?_)
      refine my_doneU hL (my_runV X hH hl.1 (co_X4_putMask g l hst (mR M (mR M a0 0) p1_.toNatClampNeg) p2_ p3_ M t14 u16 M17 e15) ok_X4_putMask W734 t14 rfl (by decide) rfl rfl rfl ⟨Nat.le_of_ble_eq_true rfl, Nat.le_of_ble_eq_true rfl⟩ ⟨Nat.zero_le _, Nat.zero_le _⟩ (Nat.le_of_ble_eq_true rfl) dX5_mask_40) (fun H locs hH hL => ?_)
      refine lv_iload hx hb dX5_mask_43 (lv_at hl 0 rfl) ?_
      refine lv_if_eq (tgt := 52) hx hb dX5_mask_45 (by decide) (fun c18 => q_pos c18 ?_) (fun c18 => q_neg c18 ?_)
      · refine lv_iconst (v := 0) hx hb dX5_mask_52 (by decide) ?_
        exact q_end1 (m_iret X hr hH hL dX5_mask_53)
      · refine lv_iconst (v := 1) hx hb dX5_mask_48 (by decide) ?_
        refine lv_goto (tgt := 53) hx hb dX5_mask_49 (by decide) ?_
        exact q_end1 (m_iret X hr hH hL dX5_mask_53)
    · refine lv_bipush (v := (-2)) hx hb dX5_mask_17 (by decide) ?_
      exact q_end1 (m_iret X hr hH hL dX5_mask_19)
  · refine lv_iconst (v := (-1)) hx hb dX5_mask_8 (by decide) ?_
    exact q_end1 (m_iret X hr hH hL dX5_mask_9)

set_option maxRecDepth 20000 in
set_option maxHeartbeats 4000000 in
theorem co_X8_setMasked (g : GP) (l : Launch) (hst : l.stackTraces = false) (a0 : Nat) (p1_ : Int32) (p2_ : Int32) (p3_ : Int32) (M : Mem) (t0 : tyT a0 = 8) (o : Int32 ⊕ String) (M' : Mem) (hF : F_X8_setMasked a0 p1_ p2_ p3_ M = some (o, M')) : CO g l yX8_setMasked cX8_setMasked 4 (some .boolean) 7 221 rvI [.ref (adr g a0), .int p1_, .int p2_, .int p3_] M o M' := by
  refine CO_of hst (by decide) (Nat.le_of_ble_eq_true rfl) ?_
  intro p e s m below meth c ls X hr htb hH hL hl
  have hx := X.1
  have hb := X.2.1
  have hts := X.2.2.2.2.1
  refine q_out hF ?_
  rw [F_X8_setMasked]
  replace hl : lv_has ls 4 [(0, .ref (adr g a0)), (1, .int p1_), (2, .int p2_), (3, .int p3_)] := hl
  refine lv_aload_n hx hb dX8_setMasked_0 rfl (lv_at hl 0 rfl) ?_
  refine m_gR (k := 4) X hH inC8 t0 rfl W283 dX8_setMasked_1 2 rfl (fun t1 => ?_)
  refine lv_aload_n hx hb dX8_setMasked_4 rfl (lv_at hl 0 rfl) ?_
  refine m_gR (k := 0) X hH inC8 t0 rfl W279 dX8_setMasked_5 5 rfl (fun t2 => ?_)
  refine q_b1 (fun u4 M5 e3 => ?_)
  refine my_doneU hL (my_runV X hH hl.1 (co_X2_prepare g l hst (mR M a0 4) (mR M a0 0) M t1 t2 u4 M5 e3) ok_X2_prepare W314 t1 rfl (by decide) rfl rfl rfl ⟨Nat.le_of_ble_eq_true rfl, Nat.le_of_ble_eq_true rfl⟩ ⟨Nat.zero_le _, Nat.zero_le _⟩ (Nat.le_of_ble_eq_true rfl) dX8_setMasked_8) (fun H locs hH hL => ?_)
  refine lv_aload_n hx hb dX8_setMasked_11 rfl (lv_at hl 0 rfl) ?_
  refine lv_aload_n hx hb dX8_setMasked_12 rfl (lv_at hl 0 rfl) ?_
  refine m_gR (k := 0) X hH inC8 t0 rfl W279 dX8_setMasked_13 5 rfl (fun t6 => ?_)
  refine lv_iload_n hx hb dX8_setMasked_16 rfl (lv_at hl 1 rfl) ?_
  refine lv_iload_n hx hb dX8_setMasked_17 rfl (lv_at hl 2 rfl) ?_
  refine lv_iload_n hx hb dX8_setMasked_18 rfl (lv_at hl 3 rfl) ?_
  refine q_b1 (fun v8 M9 e7 => ?_)
  refine my_doneI hL (my_runV X hH hl.1 (co_X5_mask g l hst (mR M5 a0 0) p1_ p2_ p3_ M5 t6 v8 M9 e7) ok_X5_mask W727 t6 rfl (by decide) rfl rfl rfl ⟨Nat.le_of_ble_eq_true rfl, Nat.le_of_ble_eq_true rfl⟩ ⟨Nat.zero_le _, Nat.zero_le _⟩ (Nat.le_of_ble_eq_true rfl) dX8_setMasked_19) (fun H locs hH hL => ?_)
  refine q_bx2 (fun v11 M12 e10 => ?_) (fun E13 M12 e10 => my_thrown X.2.2.2.2.2.2.1 htb hL (my_runV X hH hl.1 (co_X8_settled g l hst a0 v8 M9 t0 (.inr E13) M12 e10) ok_X8_settled W381 t0 rfl (by decide) rfl rfl rfl ⟨Nat.le_of_ble_eq_true rfl, Nat.le_of_ble_eq_true rfl⟩ ⟨Nat.le_refl _, Nat.le_refl _⟩ (Nat.le_of_ble_eq_true rfl) dX8_setMasked_22))
  refine my_doneI hL (my_runV X hH hl.1 (co_X8_settled g l hst a0 v8 M9 t0 (.inl v11) M12 e10) ok_X8_settled W381 t0 rfl (by decide) rfl rfl rfl ⟨Nat.le_of_ble_eq_true rfl, Nat.le_of_ble_eq_true rfl⟩ ⟨Nat.zero_le _, Nat.zero_le _⟩ (Nat.le_of_ble_eq_true rfl) dX8_setMasked_22) (fun H locs hH hL => ?_)
  refine lv_if_eq (tgt := 32) hx hb dX8_setMasked_25 (by decide) (fun c14 => q_pos c14 ?_) (fun c14 => q_neg c14 ?_)
  · refine lv_iconst (v := 0) hx hb dX8_setMasked_32 (by decide) ?_
    exact q_end2 (m_zret X hr hH hL (by decide) dX8_setMasked_33)
  · refine lv_iconst (v := 1) hx hb dX8_setMasked_28 (by decide) ?_
    refine lv_goto (tgt := 33) hx hb dX8_setMasked_29 (by decide) ?_
    exact q_end2 (m_zret X hr hH hL (by decide) dX8_setMasked_33)

set_option maxRecDepth 20000 in
set_option maxHeartbeats 4000000 in
theorem co_X4_flip (g : GP) (l : Launch) (hst : l.stackTraces = false) (a0 : Nat) (M : Mem) (t0 : tyT a0 = 4) (v : Unit) (M' : Mem) (hF : F_X4_flip a0 M = some (v, M')) : CO g l yX4_flip cX4_flip 6 none 0 0 rvU [.ref (adr g a0)] M (.inl v : Unit ⊕ String) M' := by
  refine CO_of hst (by decide) (Nat.le_of_ble_eq_true rfl) ?_
  intro p e s m below meth c ls X hr htb hH hL hl
  have hx := X.1
  have hb := X.2.1
  have hts := X.2.2.2.2.1
  refine q_out hF ?_
  rw [F_X4_flip]
  replace hl : lv_has ls 6 [(0, .ref (adr g a0))] := hl
  refine lv_iconst (v := 0) hx hb dX4_flip_0 (by decide) ?_
  refine lv_istore_n (lv' := [(1, .int 0), (0, .ref (adr g a0))]) hx hb dX4_flip_1 rfl hl (by decide) rfl (fun ls hl => ?_)
  have L27 : ∀ (K : Int32 → Mem → Option (Unit × Mem)) (_ : ∀ (i1 : Int32) (M2 : Mem) (H : Heap) (locs : List Loc) (ls : Array Slot), HR g M2 H → LK g s H locs → lv_has ls 6 [(0, .ref (adr g a0)), (1, .int i1)] → W p l e (rmO (.inl v : Unit ⊕ String) 0 0) s m ([.ref (adr g a0)] : List Value).toArray below meth c H locs 0 0 (GQ (K i1 M2) (v, M') (MQO g below rvU (.inl v : Unit ⊕ String) M' ([.ref (adr g a0)] : List Value).toArray s)) (F0 m 72 ls [])) (n : Nat) (i1 : Int32) (M2 : Mem) (H : Heap) (locs : List Loc) (ls : Array Slot), HR g M2 H → LK g s H locs → lv_has ls 6 [(0, .ref (adr g a0)), (1, .int i1)] → W p l e (rmO (.inl v : Unit ⊕ String) 0 0) s m ([.ref (adr g a0)] : List Value).toArray below meth c H locs 0 0 (GQ (F_X4_flip_L1 a0 K n i1 M2) (v, M') (MQO g below rvU (.inl v : Unit ⊕ String) M' ([.ref (adr g a0)] : List Value).toArray s)) (F0 m 2 ls []) := by
    intro K hK n
    induction n with
    | zero => intros; exact q_none
    | succ n ih =>
      intro i1 M2 H locs ls hH hL hl 
      rw [F_X4_flip_L1]
      refine lv_iload_n hx hb dX4_flip_2 rfl (lv_at hl 1 rfl) ?_
      refine lv_bipush (v := 6) hx hb dX4_flip_3 (by decide) ?_
      refine lv_icmp_ge (tgt := 72) hx hb dX4_flip_5 (by decide) (fun c4 => q_pos c4 ?_) (fun c4 => q_neg c4 ?_)
      · exact hK i1 M2 _ _ ls hH hL hl 
      · refine lv_iconst (v := 0) hx hb dX4_flip_8 (by decide) ?_
        refine lv_istore_n (lv' := [(2, .int 0), (0, .ref (adr g a0)), (1, .int i1)]) hx hb dX4_flip_9 rfl hl (by decide) rfl (fun ls hl => ?_)
        have L23 : ∀ (K : Int32 → Mem → Option (Unit × Mem)) (_ : ∀ (i5 : Int32) (M6 : Mem) (H : Heap) (locs : List Loc) (ls : Array Slot), HR g M6 H → LK g s H locs → lv_has ls 6 [(0, .ref (adr g a0)), (1, .int i1), (2, .int i5)] → W p l e (rmO (.inl v : Unit ⊕ String) 0 0) s m ([.ref (adr g a0)] : List Value).toArray below meth c H locs 0 0 (GQ (K i5 M6) (v, M') (MQO g below rvU (.inl v : Unit ⊕ String) M' ([.ref (adr g a0)] : List Value).toArray s)) (F0 m 66 ls [])) (n : Nat) (i5 : Int32) (M6 : Mem) (H : Heap) (locs : List Loc) (ls : Array Slot), HR g M6 H → LK g s H locs → lv_has ls 6 [(0, .ref (adr g a0)), (1, .int i1), (2, .int i5)] → W p l e (rmO (.inl v : Unit ⊕ String) 0 0) s m ([.ref (adr g a0)] : List Value).toArray below meth c H locs 0 0 (GQ (F_X4_flip_L2 a0 i1 K n i5 M6) (v, M') (MQO g below rvU (.inl v : Unit ⊕ String) M' ([.ref (adr g a0)] : List Value).toArray s)) (F0 m 10 ls []) := by
          intro K hK n
          induction n with
          | zero => intros; exact q_none
          | succ n ih =>
            intro i5 M6 H locs ls hH hL hl 
            rw [F_X4_flip_L2]
            refine lv_iload_n hx hb dX4_flip_10 rfl (lv_at hl 2 rfl) ?_
            refine lv_iload_n hx hb dX4_flip_11 rfl (lv_at hl 1 rfl) ?_
            refine lv_icmp_ge (tgt := 66) hx hb dX4_flip_12 (by decide) (fun c8 => q_pos c8 ?_) (fun c8 => q_neg c8 ?_)
            · exact hK i5 M6 _ _ ls hH hL hl 
            · refine lv_iload_n hx hb dX4_flip_15 rfl (lv_at hl 1 rfl) ?_
              refine lv_bipush (v := 6) hx hb dX4_flip_16 (by decide) ?_
              refine lv_imul hx hb dX4_flip_18 ?_
              refine lv_iload_n hx hb dX4_flip_19 rfl (lv_at hl 2 rfl) ?_
              refine lv_iadd hx hb dX4_flip_20 ?_
              refine q_lt (fun v9 e_v9 => ?_)
              refine q_topI e_v9 ?_
              refine lv_istore_n (lv' := [(3, .int v9), (0, .ref (adr g a0)), (1, .int i1), (2, .int i5)]) hx hb dX4_flip_21 rfl hl (by decide) rfl (fun ls hl => ?_)
              refine lv_iload_n hx hb dX4_flip_22 rfl (lv_at hl 3 rfl) ?_
              refine lv_bipush (v := 6) hx hb dX4_flip_23 (by decide) ?_
              refine lv_imul hx hb dX4_flip_25 ?_
              refine lv_iload_n hx hb dX4_flip_26 rfl (lv_at hl 2 rfl) ?_
              refine lv_iadd hx hb dX4_flip_27 ?_
              refine q_lt (fun v10 e_v10 => ?_)
              refine q_topI e_v10 ?_
              refine lv_istore (lv' := [(4, .int v10), (3, .int v9), (0, .ref (adr g a0)), (1, .int i1), (2, .int i5)]) hx hb dX4_flip_28 hl (by decide) rfl (fun ls hl => ?_)
              refine lv_aload_n hx hb dX4_flip_30 rfl (lv_at hl 2 rfl) ?_
              refine m_gR (k := 3) X hH inC4 t0 rfl W128 dX4_flip_31 20 rfl (fun t11 => ?_)
              refine lv_iload_n hx hb dX4_flip_34 rfl (lv_at hl 1 rfl) ?_
              refine q_chk (fun hb12 => ?_)
              refine m_iald X hH t11 rfl (by decide) (fun _ => rfl) rfl rfl hb12 dX4_flip_35 ?_
              refine q_lt (fun v13 e_v13 => ?_)
              refine q_topI e_v13 ?_
              refine lv_istore (lv' := [(5, .int v13), (4, .int v10), (3, .int v9), (0, .ref (adr g a0)), (1, .int i1), (2, .int i5)]) hx hb dX4_flip_36 hl (by decide) rfl (fun ls hl => ?_)
              refine lv_aload_n hx hb dX4_flip_38 rfl (lv_at hl 3 rfl) ?_
              refine m_gR (k := 3) X hH inC4 t0 rfl W128 dX4_flip_39 20 rfl (fun t14 => ?_)
              refine lv_iload_n hx hb dX4_flip_42 rfl (lv_at hl 2 rfl) ?_
              refine lv_aload_n hx hb dX4_flip_43 rfl (lv_at hl 3 rfl) ?_
              refine m_gR (k := 3) X hH inC4 t0 rfl W128 dX4_flip_44 20 rfl (fun t15 => ?_)
              refine lv_iload hx hb dX4_flip_47 (lv_at hl 1 rfl) ?_
              refine q_chk (fun hb16 => ?_)
              refine m_iald X hH t15 rfl (by decide) (fun _ => rfl) rfl rfl hb16 dX4_flip_49 ?_
              refine q_chk (fun hb17 => ?_)
              refine q_lt (fun M18 e_M18 => ?_)
              refine m_is X hH hL t14 rfl (by decide) (fun _ => rfl) rfl rfl hb17 dX4_flip_50 e_M18 (fun H locs hH hL => ?_)
              refine lv_aload_n hx hb dX4_flip_51 rfl (lv_at hl 3 rfl) ?_
              refine m_gR (k := 3) X hH inC4 t0 rfl W128 dX4_flip_52 20 rfl (fun t19 => ?_)
              refine lv_iload hx hb dX4_flip_55 (lv_at hl 1 rfl) ?_
              refine lv_iload hx hb dX4_flip_57 (lv_at hl 0 rfl) ?_
              refine q_chk (fun hb20 => ?_)
              refine q_lt (fun M21 e_M21 => ?_)
              refine m_is X hH hL t19 rfl (by decide) (fun _ => rfl) rfl rfl hb20 dX4_flip_59 e_M21 (fun H locs hH hL => ?_)
              refine q_lt (fun v22 e_v22 => ?_)
              refine lv_iinc (v := v22) (lv' := [(2, .int v22), (5, .int v13), (4, .int v10), (3, .int v9), (0, .ref (adr g a0)), (1, .int i1)]) hx hb dX4_flip_60 hl (k := 5) rfl (by rw [e_v22]; rfl) (by decide) rfl (fun ls hl => ?_)
              refine lv_goto (tgt := 10) hx hb dX4_flip_63 (by decide) ?_
              exact ih v22 M21 _ _ ls hH hL (lv_sub hl [4, 5, 0] rfl) 
        refine L23 _ (fun x24 M25 H locs ls hH hL hl  => ?_) 3000 0 M2 _ _ ls hH hL (lv_sub hl [1, 2, 0] rfl) 
        refine q_lt (fun v26 e_v26 => ?_)
        refine lv_iinc (v := v26) (lv' := [(1, .int v26), (0, .ref (adr g a0)), (2, .int x24)]) hx hb dX4_flip_66 hl (k := 1) rfl (by rw [e_v26]; rfl) (by decide) rfl (fun ls hl => ?_)
        refine lv_goto (tgt := 2) hx hb dX4_flip_69 (by decide) ?_
        exact ih v26 M25 _ _ ls hH hL (lv_sub hl [1, 0] rfl) 
  refine L27 _ (fun x28 M29 H locs ls hH hL hl  => ?_) 3000 0 M _ _ ls hH hL (lv_sub hl [1, 0] rfl) 
  refine lv_aload_n hx hb dX4_flip_72 rfl (lv_at hl 0 rfl) ?_
  refine m_gI (k := 1) X hH inC4 t0 rfl W123 dX4_flip_73 ?_
  refine q_lt (fun v30 e_v30 => ?_)
  refine q_topI e_v30 ?_
  refine lv_istore_n (lv' := [(1, .int v30), (0, .ref (adr g a0))]) hx hb dX4_flip_76 rfl hl (by decide) rfl (fun ls hl => ?_)
  refine lv_aload_n hx hb dX4_flip_77 rfl (lv_at hl 1 rfl) ?_
  refine lv_aload_n hx hb dX4_flip_78 rfl (lv_at hl 1 rfl) ?_
  refine m_gI (k := 2) X hH inC4 t0 rfl W125 dX4_flip_79 ?_
  refine q_lt (fun M31 e_M31 => ?_)
  refine m_pI (k := 1) X hH hL okC4 t0 rfl rfl rfl rfl W123 dX4_flip_82 e_M31 (fun H locs hH hL => ?_)
  refine lv_aload_n hx hb dX4_flip_85 rfl (lv_at hl 1 rfl) ?_
  refine lv_iload_n hx hb dX4_flip_86 rfl (lv_at hl 0 rfl) ?_
  refine q_lt (fun M32 e_M32 => ?_)
  refine m_pI (k := 2) X hH hL okC4 t0 rfl rfl rfl rfl W125 dX4_flip_87 e_M32 (fun H locs hH hL => ?_)
  exact q_end1 (m_vret X hr hH hL dX4_flip_90)

set_option maxRecDepth 20000 in
set_option maxHeartbeats 4000000 in
theorem co_X5_flip (g : GP) (l : Launch) (hst : l.stackTraces = false) (a0 : Nat) (p1_ : Int32) (M : Mem) (t0 : tyT a0 = 5) (v : Int32) (M' : Mem) (hF : F_X5_flip a0 p1_ M = some (v, M')) : CO g l yX5_flip cX5_flip 2 (some .int) 1 25 rvI [.ref (adr g a0), .int p1_] M (.inl v : Int32 ⊕ String) M' := by
  refine CO_of hst (by decide) (Nat.le_of_ble_eq_true rfl) ?_
  intro p e s m below meth c ls X hr htb hH hL hl
  have hx := X.1
  have hb := X.2.1
  have hts := X.2.2.2.2.1
  refine q_out hF ?_
  rw [F_X5_flip]
  replace hl : lv_has ls 2 [(0, .ref (adr g a0)), (1, .int p1_)] := hl
  refine lv_aload_n hx hb dX5_flip_0 rfl (lv_at hl 0 rfl) ?_
  refine lv_iload_n hx hb dX5_flip_1 rfl (lv_at hl 1 rfl) ?_
  refine q_bind (fun v2 e1 => ?_)
  refine my_doneI hL (my_runV X hH hl.1 (co_X5_hasSection g l hst a0 p1_ M t0 v2 e1) ok_X5_hasSection W702 t0 rfl (by decide) rfl rfl rfl ⟨Nat.le_of_ble_eq_true rfl, Nat.le_of_ble_eq_true rfl⟩ ⟨Nat.zero_le _, Nat.zero_le _⟩ (Nat.le_of_ble_eq_true rfl) dX5_flip_2) (fun H locs hH hL => ?_)
  refine lv_if_ne (tgt := 10) hx hb dX5_flip_5 (by decide) (fun c3 => q_neg c3 ?_) (fun c3 => q_pos c3 ?_)
  · refine lv_aload_n hx hb dX5_flip_10 rfl (lv_at hl 0 rfl) ?_
    refine m_gR (k := 0) X hH inC5 t0 rfl W157 dX5_flip_11 29 rfl (fun t4 => ?_)
    refine lv_iload_n hx hb dX5_flip_14 rfl (lv_at hl 1 rfl) ?_
    refine q_chk (fun hb5 => ?_)
    refine m_aald X hH t4 rfl (by decide) (fun _ => rfl) rfl rfl (t2 := 4) (fun _ => rfl) hb5 dX5_flip_15 (fun t6 => ?_)
    refine q_b1 (fun u8 M9 e7 => ?_)
    refine my_doneU hL (my_runV X hH hl.1 (co_X4_flip g l hst (mR M (mR M a0 0) p1_.toNatClampNeg) M t6 u8 M9 e7) ok_X4_flip W749 t6 rfl (by decide) rfl rfl rfl ⟨Nat.le_of_ble_eq_true rfl, Nat.le_of_ble_eq_true rfl⟩ ⟨Nat.zero_le _, Nat.zero_le _⟩ (Nat.le_of_ble_eq_true rfl) dX5_flip_16) (fun H locs hH hL => ?_)
    refine lv_aload_n hx hb dX5_flip_19 rfl (lv_at hl 0 rfl) ?_
    refine m_gR (k := 0) X hH inC5 t0 rfl W157 dX5_flip_20 29 rfl (fun t10 => ?_)
    refine lv_iload_n hx hb dX5_flip_23 rfl (lv_at hl 1 rfl) ?_
    refine q_chk (fun hb11 => ?_)
    refine m_aald X hH t10 rfl (by decide) (fun _ => rfl) rfl rfl (t2 := 4) (fun _ => rfl) hb11 dX5_flip_24 (fun t12 => ?_)
    refine m_gI (k := 2) X hH inC4 t12 rfl W126 dX5_flip_25 ?_
    exact q_end1 (m_iret X hr hH hL dX5_flip_28)
  · refine lv_iconst (v := (-1)) hx hb dX5_flip_8 (by decide) ?_
    exact q_end1 (m_iret X hr hH hL dX5_flip_9)

set_option maxRecDepth 20000 in
set_option maxHeartbeats 4000000 in
theorem co_X8_transpose (g : GP) (l : Launch) (hst : l.stackTraces = false) (a0 : Nat) (p1_ : Int32) (M : Mem) (t0 : tyT a0 = 8) (o : Int32 ⊕ String) (M' : Mem) (hF : F_X8_transpose a0 p1_ M = some (o, M')) : CO g l yX8_transpose cX8_transpose 2 (some .int) 7 221 rvI [.ref (adr g a0), .int p1_] M o M' := by
  refine CO_of hst (by decide) (Nat.le_of_ble_eq_true rfl) ?_
  intro p e s m below meth c ls X hr htb hH hL hl
  have hx := X.1
  have hb := X.2.1
  have hts := X.2.2.2.2.1
  refine q_out hF ?_
  rw [F_X8_transpose]
  replace hl : lv_has ls 2 [(0, .ref (adr g a0)), (1, .int p1_)] := hl
  refine lv_aload_n hx hb dX8_transpose_0 rfl (lv_at hl 0 rfl) ?_
  refine m_gR (k := 4) X hH inC8 t0 rfl W283 dX8_transpose_1 2 rfl (fun t1 => ?_)
  refine lv_aload_n hx hb dX8_transpose_4 rfl (lv_at hl 0 rfl) ?_
  refine m_gR (k := 0) X hH inC8 t0 rfl W279 dX8_transpose_5 5 rfl (fun t2 => ?_)
  refine q_b1 (fun u4 M5 e3 => ?_)
  refine my_doneU hL (my_runV X hH hl.1 (co_X2_prepare g l hst (mR M a0 4) (mR M a0 0) M t1 t2 u4 M5 e3) ok_X2_prepare W314 t1 rfl (by decide) rfl rfl rfl ⟨Nat.le_of_ble_eq_true rfl, Nat.le_of_ble_eq_true rfl⟩ ⟨Nat.zero_le _, Nat.zero_le _⟩ (Nat.le_of_ble_eq_true rfl) dX8_transpose_8) (fun H locs hH hL => ?_)
  refine lv_aload_n hx hb dX8_transpose_11 rfl (lv_at hl 0 rfl) ?_
  refine lv_aload_n hx hb dX8_transpose_12 rfl (lv_at hl 0 rfl) ?_
  refine m_gR (k := 0) X hH inC8 t0 rfl W279 dX8_transpose_13 5 rfl (fun t6 => ?_)
  refine lv_iload_n hx hb dX8_transpose_16 rfl (lv_at hl 1 rfl) ?_
  refine q_b1 (fun v8 M9 e7 => ?_)
  refine my_doneI hL (my_runV X hH hl.1 (co_X5_flip g l hst (mR M5 a0 0) p1_ M5 t6 v8 M9 e7) ok_X5_flip W745 t6 rfl (by decide) rfl rfl rfl ⟨Nat.le_of_ble_eq_true rfl, Nat.le_of_ble_eq_true rfl⟩ ⟨Nat.zero_le _, Nat.zero_le _⟩ (Nat.le_of_ble_eq_true rfl) dX8_transpose_17) (fun H locs hH hL => ?_)
  refine q_bx2 (fun v11 M12 e10 => ?_) (fun E13 M12 e10 => my_thrown X.2.2.2.2.2.2.1 htb hL (my_runV X hH hl.1 (co_X8_settled g l hst a0 v8 M9 t0 (.inr E13) M12 e10) ok_X8_settled W381 t0 rfl (by decide) rfl rfl rfl ⟨Nat.le_of_ble_eq_true rfl, Nat.le_of_ble_eq_true rfl⟩ ⟨Nat.le_refl _, Nat.le_refl _⟩ (Nat.le_of_ble_eq_true rfl) dX8_transpose_20))
  refine my_doneI hL (my_runV X hH hl.1 (co_X8_settled g l hst a0 v8 M9 t0 (.inl v11) M12 e10) ok_X8_settled W381 t0 rfl (by decide) rfl rfl rfl ⟨Nat.le_of_ble_eq_true rfl, Nat.le_of_ble_eq_true rfl⟩ ⟨Nat.zero_le _, Nat.zero_le _⟩ (Nat.le_of_ble_eq_true rfl) dX8_transpose_20) (fun H locs hH hL => ?_)
  exact q_end2 (m_iret X hr hH hL dX8_transpose_23)

set_option maxRecDepth 20000 in
set_option maxHeartbeats 4000000 in
theorem co_X4_turn (g : GP) (l : Launch) (hst : l.stackTraces = false) (a0 : Nat) (M : Mem) (t0 : tyT a0 = 4) (v : Int32) (M' : Mem) (hF : F_X4_turn a0 M = some (v, M')) : CO g l yX4_turn cX4_turn 6 (some .int) 3 66 rvI [.ref (adr g a0)] M (.inl v : Int32 ⊕ String) M' := by
  refine CO_of hst (by decide) (Nat.le_of_ble_eq_true rfl) ?_
  intro p e s m below meth c ls X hr htb hH hL hl
  have hx := X.1
  have hb := X.2.1
  have hts := X.2.2.2.2.1
  refine q_out hF ?_
  rw [F_X4_turn]
  replace hl : lv_has ls 6 [(0, .ref (adr g a0))] := hl
  refine lv_iconst (v := 0) hx hb dX4_turn_0 (by decide) ?_
  refine lv_istore_n (lv' := [(1, .int 0), (0, .ref (adr g a0))]) hx hb dX4_turn_1 rfl hl (by decide) rfl (fun ls hl => ?_)
  refine lv_iconst (v := 0) hx hb dX4_turn_2 (by decide) ?_
  refine lv_istore_n (lv' := [(2, .int 0), (1, .int 0), (0, .ref (adr g a0))]) hx hb dX4_turn_3 rfl hl (by decide) rfl (fun ls hl => ?_)
  have L33 : ∀ (K : Int32 → Int32 → Mem → Option (Int32 × Mem)) (_ : ∀ (i1 : Int32) (i2 : Int32) (M3 : Mem) (H : Heap) (locs : List Loc) (ls : Array Slot), HR g M3 H → LK g s H locs → lv_has ls 6 [(0, .ref (adr g a0)), (1, .int i1), (2, .int i2)] → W p l e (rmO (.inl v : Int32 ⊕ String) 3 66) s m ([.ref (adr g a0)] : List Value).toArray below meth c H locs 0 0 (GQ (K i1 i2 M3) (v, M') (MQO g below rvI (.inl v : Int32 ⊕ String) M' ([.ref (adr g a0)] : List Value).toArray s)) (F0 m 90 ls [])) (n : Nat) (i1 : Int32) (i2 : Int32) (M3 : Mem) (H : Heap) (locs : List Loc) (ls : Array Slot), HR g M3 H → LK g s H locs → lv_has ls 6 [(0, .ref (adr g a0)), (1, .int i1), (2, .int i2)] → W p l e (rmO (.inl v : Int32 ⊕ String) 3 66) s m ([.ref (adr g a0)] : List Value).toArray below meth c H locs 0 0 (GQ (F_X4_turn_L1 a0 K n i1 i2 M3) (v, M') (MQO g below rvI (.inl v : Int32 ⊕ String) M' ([.ref (adr g a0)] : List Value).toArray s)) (F0 m 4 ls []) := by
    intro K hK n
    induction n with
    | zero => intros; exact q_none
    | succ n ih =>
      intro i1 i2 M3 H locs ls hH hL hl 
      rw [F_X4_turn_L1]
      refine lv_iload_n hx hb dX4_turn_4 rfl (lv_at hl 2 rfl) ?_
      refine lv_aload_n hx hb dX4_turn_5 rfl (lv_at hl 0 rfl) ?_
      refine m_gI (k := 1) X hH inC4 t0 rfl W123 dX4_turn_6 ?_
      refine lv_icmp_ge (tgt := 90) hx hb dX4_turn_9 (by decide) (fun c5 => q_pos c5 ?_) (fun c5 => q_neg c5 ?_)
      · exact hK i1 i2 M3 _ _ ls hH hL hl 
      · refine lv_iconst (v := 0) hx hb dX4_turn_12 (by decide) ?_
        refine lv_istore_n (lv' := [(3, .int 0), (0, .ref (adr g a0)), (1, .int i1), (2, .int i2)]) hx hb dX4_turn_13 rfl hl (by decide) rfl (fun ls hl => ?_)
        have L28 : ∀ (K : Int32 → Int32 → Mem → Option (Int32 × Mem)) (_ : ∀ (i6 : Int32) (i7 : Int32) (M8 : Mem) (H : Heap) (locs : List Loc) (ls : Array Slot), HR g M8 H → LK g s H locs → lv_has ls 6 [(0, .ref (adr g a0)), (1, .int i6), (2, .int i2), (3, .int i7)] → W p l e (rmO (.inl v : Int32 ⊕ String) 3 66) s m ([.ref (adr g a0)] : List Value).toArray below meth c H locs 0 0 (GQ (K i6 i7 M8) (v, M') (MQO g below rvI (.inl v : Int32 ⊕ String) M' ([.ref (adr g a0)] : List Value).toArray s)) (F0 m 84 ls [])) (n : Nat) (i6 : Int32) (i7 : Int32) (M8 : Mem) (H : Heap) (locs : List Loc) (ls : Array Slot), HR g M8 H → LK g s H locs → lv_has ls 6 [(0, .ref (adr g a0)), (1, .int i6), (2, .int i2), (3, .int i7)] → W p l e (rmO (.inl v : Int32 ⊕ String) 3 66) s m ([.ref (adr g a0)] : List Value).toArray below meth c H locs 0 0 (GQ (F_X4_turn_L2 a0 i2 K n i6 i7 M8) (v, M') (MQO g below rvI (.inl v : Int32 ⊕ String) M' ([.ref (adr g a0)] : List Value).toArray s)) (F0 m 14 ls []) := by
          intro K hK n
          induction n with
          | zero => intros; exact q_none
          | succ n ih =>
            intro i6 i7 M8 H locs ls hH hL hl 
            rw [F_X4_turn_L2]
            refine lv_iload_n hx hb dX4_turn_14 rfl (lv_at hl 3 rfl) ?_
            refine lv_aload_n hx hb dX4_turn_15 rfl (lv_at hl 0 rfl) ?_
            refine m_gI (k := 2) X hH inC4 t0 rfl W125 dX4_turn_16 ?_
            refine lv_iconst (v := 2) hx hb dX4_turn_19 (by decide) ?_
            refine lv_idiv hx hb dX4_turn_20 (by decide) ?_
            refine lv_icmp_ge (tgt := 84) hx hb dX4_turn_21 (by decide) (fun c10 => q_pos c10 ?_) (fun c10 => q_neg c10 ?_)
            · exact hK i6 i7 M8 _ _ ls hH hL hl 
            · refine lv_aload_n hx hb dX4_turn_24 rfl (lv_at hl 0 rfl) ?_
              refine m_gI (k := 2) X hH inC4 t0 rfl W125 dX4_turn_25 ?_
              refine lv_iconst (v := 1) hx hb dX4_turn_28 (by decide) ?_
              refine lv_isub hx hb dX4_turn_29 ?_
              refine lv_iload_n hx hb dX4_turn_30 rfl (lv_at hl 3 rfl) ?_
              refine lv_isub hx hb dX4_turn_31 ?_
              refine q_lt (fun v11 e_v11 => ?_)
              refine q_topI e_v11 ?_
              refine lv_istore (lv' := [(4, .int v11), (0, .ref (adr g a0)), (1, .int i6), (2, .int i2), (3, .int i7)]) hx hb dX4_turn_32 hl (by decide) rfl (fun ls hl => ?_)
              refine lv_aload_n hx hb dX4_turn_34 rfl (lv_at hl 1 rfl) ?_
              refine lv_iload_n hx hb dX4_turn_35 rfl (lv_at hl 3 rfl) ?_
              refine lv_iload_n hx hb dX4_turn_36 rfl (lv_at hl 4 rfl) ?_
              refine q_bind (fun v13 e12 => ?_)
              refine my_doneI hL (my_runV X hH hl.1 (co_X4_noteAt g l hst a0 i2 i7 M8 t0 v13 e12) ok_X4_noteAt W632 t0 rfl (by decide) rfl rfl rfl ⟨Nat.le_of_ble_eq_true rfl, Nat.le_of_ble_eq_true rfl⟩ ⟨Nat.zero_le _, Nat.zero_le _⟩ (Nat.le_of_ble_eq_true rfl) dX4_turn_37) (fun H locs hH hL => ?_)
              refine lv_istore (lv' := [(5, .int v13), (4, .int v11), (0, .ref (adr g a0)), (1, .int i6), (2, .int i2), (3, .int i7)]) hx hb dX4_turn_40 hl (by decide) rfl (fun ls hl => ?_)
              refine lv_aload_n hx hb dX4_turn_42 rfl (lv_at hl 2 rfl) ?_
              refine lv_iload_n hx hb dX4_turn_43 rfl (lv_at hl 4 rfl) ?_
              refine lv_iload_n hx hb dX4_turn_44 rfl (lv_at hl 5 rfl) ?_
              refine lv_aload_n hx hb dX4_turn_45 rfl (lv_at hl 2 rfl) ?_
              refine lv_iload_n hx hb dX4_turn_46 rfl (lv_at hl 4 rfl) ?_
              refine lv_iload hx hb dX4_turn_47 (lv_at hl 1 rfl) ?_
              refine q_bind (fun v15 e14 => ?_)
              refine my_doneI hL (my_runV X hH hl.1 (co_X4_noteAt g l hst a0 i2 v11 M8 t0 v15 e14) ok_X4_noteAt W632 t0 rfl (by decide) rfl rfl rfl ⟨Nat.le_of_ble_eq_true rfl, Nat.le_of_ble_eq_true rfl⟩ ⟨Nat.zero_le _, Nat.zero_le _⟩ (Nat.le_of_ble_eq_true rfl) dX4_turn_49) (fun H locs hH hL => ?_)
              refine q_b1 (fun u17 M18 e16 => ?_)
              refine my_doneU hL (my_runV X hH hl.1 (co_X4_putNote g l hst a0 i2 i7 v15 M8 t0 u17 M18 e16) ok_X4_putNote W765 t0 rfl (by decide) rfl rfl rfl ⟨Nat.le_of_ble_eq_true rfl, Nat.le_of_ble_eq_true rfl⟩ ⟨Nat.zero_le _, Nat.zero_le _⟩ (Nat.le_of_ble_eq_true rfl) dX4_turn_52) (fun H locs hH hL => ?_)
              refine lv_aload_n hx hb dX4_turn_55 rfl (lv_at hl 2 rfl) ?_
              refine lv_iload_n hx hb dX4_turn_56 rfl (lv_at hl 4 rfl) ?_
              refine lv_iload hx hb dX4_turn_57 (lv_at hl 1 rfl) ?_
              refine lv_iload hx hb dX4_turn_59 (lv_at hl 0 rfl) ?_
              refine q_b1 (fun u20 M21 e19 => ?_)
              refine my_doneU hL (my_runV X hH hl.1 (co_X4_putNote g l hst a0 i2 v11 v13 M18 t0 u20 M21 e19) ok_X4_putNote W765 t0 rfl (by decide) rfl rfl rfl ⟨Nat.le_of_ble_eq_true rfl, Nat.le_of_ble_eq_true rfl⟩ ⟨Nat.zero_le _, Nat.zero_le _⟩ (Nat.le_of_ble_eq_true rfl) dX4_turn_61) (fun H locs hH hL => ?_)
              refine lv_aload_n hx hb dX4_turn_64 rfl (lv_at hl 2 rfl) ?_
              refine lv_iload_n hx hb dX4_turn_65 rfl (lv_at hl 4 rfl) ?_
              refine lv_iload_n hx hb dX4_turn_66 rfl (lv_at hl 5 rfl) ?_
              refine q_bind (fun v23 e22 => ?_)
              refine my_doneI hL (my_runV X hH hl.1 (co_X4_noteAt g l hst a0 i2 i7 M21 t0 v23 e22) ok_X4_noteAt W632 t0 rfl (by decide) rfl rfl rfl ⟨Nat.le_of_ble_eq_true rfl, Nat.le_of_ble_eq_true rfl⟩ ⟨Nat.zero_le _, Nat.zero_le _⟩ (Nat.le_of_ble_eq_true rfl) dX4_turn_67) (fun H locs hH hL => ?_)
              refine lv_iload hx hb dX4_turn_70 (lv_at hl 0 rfl) ?_
              refine lv_icmp_eq (tgt := 78) hx hb dX4_turn_72 (by decide) (fun c24 => q_pos c24 ?_) (fun c24 => q_neg c24 ?_)
              · refine q_lt (fun v25 e_v25 => ?_)
                refine lv_iinc (v := v25) (lv' := [(3, .int v25), (5, .int v13), (4, .int v11), (0, .ref (adr g a0)), (1, .int i6), (2, .int i2)]) hx hb dX4_turn_78 hl (k := 5) rfl (by rw [e_v25]; rfl) (by decide) rfl (fun ls hl => ?_)
                refine lv_goto (tgt := 14) hx hb dX4_turn_81 (by decide) ?_
                exact ih i6 v25 M21 _ _ ls hH hL (lv_sub hl [3, 4, 5, 0] rfl) 
              · refine q_lt (fun v26 e_v26 => ?_)
                refine lv_iinc (v := v26) (lv' := [(1, .int v26), (5, .int v13), (4, .int v11), (0, .ref (adr g a0)), (2, .int i2), (3, .int i7)]) hx hb dX4_turn_75 hl (k := 3) rfl (by rw [e_v26]; rfl) (by decide) rfl (fun ls hl => ?_)
                refine q_lt (fun v27 e_v27 => ?_)
                refine lv_iinc (v := v27) (lv' := [(3, .int v27), (1, .int v26), (5, .int v13), (4, .int v11), (0, .ref (adr g a0)), (2, .int i2)]) hx hb dX4_turn_78 hl (k := 5) rfl (by rw [e_v27]; rfl) (by decide) rfl (fun ls hl => ?_)
                refine lv_goto (tgt := 14) hx hb dX4_turn_81 (by decide) ?_
                exact ih v26 v27 M21 _ _ ls hH hL (lv_sub hl [4, 1, 5, 0] rfl) 
        refine L28 _ (fun x29 x30 M31 H locs ls hH hL hl  => ?_) 3000 i1 0 M3 _ _ ls hH hL (lv_sub hl [1, 2, 3, 0] rfl) 
        refine q_lt (fun v32 e_v32 => ?_)
        refine lv_iinc (v := v32) (lv' := [(2, .int v32), (0, .ref (adr g a0)), (1, .int x29), (3, .int x30)]) hx hb dX4_turn_84 hl (k := 2) rfl (by rw [e_v32]; rfl) (by decide) rfl (fun ls hl => ?_)
        refine lv_goto (tgt := 4) hx hb dX4_turn_87 (by decide) ?_
        exact ih x29 v32 M31 _ _ ls hH hL (lv_sub hl [1, 2, 0] rfl) 
  refine L33 _ (fun x34 x35 M36 H locs ls hH hL hl  => ?_) 3000 0 0 M _ _ ls hH hL (lv_sub hl [2, 1, 0] rfl) 
  refine lv_iload_n hx hb dX4_turn_90 rfl (lv_at hl 1 rfl) ?_
  exact q_end1 (m_iret X hr hH hL dX4_turn_91)

set_option maxRecDepth 20000 in
set_option maxHeartbeats 4000000 in
theorem co_X5_turn (g : GP) (l : Launch) (hst : l.stackTraces = false) (a0 : Nat) (p1_ : Int32) (M : Mem) (t0 : tyT a0 = 5) (v : Int32) (M' : Mem) (hF : F_X5_turn a0 p1_ M = some (v, M')) : CO g l yX5_turn cX5_turn 2 (some .int) 4 91 rvI [.ref (adr g a0), .int p1_] M (.inl v : Int32 ⊕ String) M' := by
  refine CO_of hst (by decide) (Nat.le_of_ble_eq_true rfl) ?_
  intro p e s m below meth c ls X hr htb hH hL hl
  have hx := X.1
  have hb := X.2.1
  have hts := X.2.2.2.2.1
  refine q_out hF ?_
  rw [F_X5_turn]
  replace hl : lv_has ls 2 [(0, .ref (adr g a0)), (1, .int p1_)] := hl
  refine lv_aload_n hx hb dX5_turn_0 rfl (lv_at hl 0 rfl) ?_
  refine lv_iload_n hx hb dX5_turn_1 rfl (lv_at hl 1 rfl) ?_
  refine q_bind (fun v2 e1 => ?_)
  refine my_doneI hL (my_runV X hH hl.1 (co_X5_hasSection g l hst a0 p1_ M t0 v2 e1) ok_X5_hasSection W702 t0 rfl (by decide) rfl rfl rfl ⟨Nat.le_of_ble_eq_true rfl, Nat.le_of_ble_eq_true rfl⟩ ⟨Nat.zero_le _, Nat.zero_le _⟩ (Nat.le_of_ble_eq_true rfl) dX5_turn_2) (fun H locs hH hL => ?_)
  refine lv_if_eq (tgt := 20) hx hb dX5_turn_5 (by decide) (fun c3 => q_pos c3 ?_) (fun c3 => q_neg c3 ?_)
  · refine lv_iconst (v := (-1)) hx hb dX5_turn_20 (by decide) ?_
    exact q_end1 (m_iret X hr hH hL dX5_turn_21)
  · refine lv_aload_n hx hb dX5_turn_8 rfl (lv_at hl 0 rfl) ?_
    refine m_gR (k := 0) X hH inC5 t0 rfl W157 dX5_turn_9 29 rfl (fun t4 => ?_)
    refine lv_iload_n hx hb dX5_turn_12 rfl (lv_at hl 1 rfl) ?_
    refine q_chk (fun hb5 => ?_)
    refine m_aald X hH t4 rfl (by decide) (fun _ => rfl) rfl rfl (t2 := 4) (fun _ => rfl) hb5 dX5_turn_13 (fun t6 => ?_)
    refine q_b1 (fun v8 M9 e7 => ?_)
    refine my_doneI hL (my_runV X hH hl.1 (co_X4_turn g l hst (mR M (mR M a0 0) p1_.toNatClampNeg) M t6 v8 M9 e7) ok_X4_turn W761 t6 rfl (by decide) rfl rfl rfl ⟨Nat.le_of_ble_eq_true rfl, Nat.le_of_ble_eq_true rfl⟩ ⟨Nat.zero_le _, Nat.zero_le _⟩ (Nat.le_of_ble_eq_true rfl) dX5_turn_14) (fun H locs hH hL => ?_)
    refine lv_goto (tgt := 21) hx hb dX5_turn_17 (by decide) ?_
    exact q_end1 (m_iret X hr hH hL dX5_turn_21)

set_option maxRecDepth 20000 in
set_option maxHeartbeats 4000000 in
theorem co_X8_reverse (g : GP) (l : Launch) (hst : l.stackTraces = false) (a0 : Nat) (p1_ : Int32) (M : Mem) (t0 : tyT a0 = 8) (o : Int32 ⊕ String) (M' : Mem) (hF : F_X8_reverse a0 p1_ M = some (o, M')) : CO g l yX8_reverse cX8_reverse 2 (some .int) 7 221 rvI [.ref (adr g a0), .int p1_] M o M' := by
  refine CO_of hst (by decide) (Nat.le_of_ble_eq_true rfl) ?_
  intro p e s m below meth c ls X hr htb hH hL hl
  have hx := X.1
  have hb := X.2.1
  have hts := X.2.2.2.2.1
  refine q_out hF ?_
  rw [F_X8_reverse]
  replace hl : lv_has ls 2 [(0, .ref (adr g a0)), (1, .int p1_)] := hl
  refine lv_aload_n hx hb dX8_reverse_0 rfl (lv_at hl 0 rfl) ?_
  refine m_gR (k := 4) X hH inC8 t0 rfl W283 dX8_reverse_1 2 rfl (fun t1 => ?_)
  refine lv_aload_n hx hb dX8_reverse_4 rfl (lv_at hl 0 rfl) ?_
  refine m_gR (k := 0) X hH inC8 t0 rfl W279 dX8_reverse_5 5 rfl (fun t2 => ?_)
  refine q_b1 (fun u4 M5 e3 => ?_)
  refine my_doneU hL (my_runV X hH hl.1 (co_X2_prepare g l hst (mR M a0 4) (mR M a0 0) M t1 t2 u4 M5 e3) ok_X2_prepare W314 t1 rfl (by decide) rfl rfl rfl ⟨Nat.le_of_ble_eq_true rfl, Nat.le_of_ble_eq_true rfl⟩ ⟨Nat.zero_le _, Nat.zero_le _⟩ (Nat.le_of_ble_eq_true rfl) dX8_reverse_8) (fun H locs hH hL => ?_)
  refine lv_aload_n hx hb dX8_reverse_11 rfl (lv_at hl 0 rfl) ?_
  refine lv_aload_n hx hb dX8_reverse_12 rfl (lv_at hl 0 rfl) ?_
  refine m_gR (k := 0) X hH inC8 t0 rfl W279 dX8_reverse_13 5 rfl (fun t6 => ?_)
  refine lv_iload_n hx hb dX8_reverse_16 rfl (lv_at hl 1 rfl) ?_
  refine q_b1 (fun v8 M9 e7 => ?_)
  refine my_doneI hL (my_runV X hH hl.1 (co_X5_turn g l hst (mR M5 a0 0) p1_ M5 t6 v8 M9 e7) ok_X5_turn W757 t6 rfl (by decide) rfl rfl rfl ⟨Nat.le_of_ble_eq_true rfl, Nat.le_of_ble_eq_true rfl⟩ ⟨Nat.zero_le _, Nat.zero_le _⟩ (Nat.le_of_ble_eq_true rfl) dX8_reverse_17) (fun H locs hH hL => ?_)
  refine q_bx2 (fun v11 M12 e10 => ?_) (fun E13 M12 e10 => my_thrown X.2.2.2.2.2.2.1 htb hL (my_runV X hH hl.1 (co_X8_settled g l hst a0 v8 M9 t0 (.inr E13) M12 e10) ok_X8_settled W381 t0 rfl (by decide) rfl rfl rfl ⟨Nat.le_of_ble_eq_true rfl, Nat.le_of_ble_eq_true rfl⟩ ⟨Nat.le_refl _, Nat.le_refl _⟩ (Nat.le_of_ble_eq_true rfl) dX8_reverse_20))
  refine my_doneI hL (my_runV X hH hl.1 (co_X8_settled g l hst a0 v8 M9 t0 (.inl v11) M12 e10) ok_X8_settled W381 t0 rfl (by decide) rfl rfl rfl ⟨Nat.le_of_ble_eq_true rfl, Nat.le_of_ble_eq_true rfl⟩ ⟨Nat.zero_le _, Nat.zero_le _⟩ (Nat.le_of_ble_eq_true rfl) dX8_reverse_20) (fun H locs hH hL => ?_)
  exact q_end2 (m_iret X hr hH hL dX8_reverse_23)

set_option maxRecDepth 20000 in
set_option maxHeartbeats 4000000 in
theorem co_X4_canLift (g : GP) (l : Launch) (hst : l.stackTraces = false) (a0 : Nat) (p1_ : Int32) (M : Mem) (t0 : tyT a0 = 4) (v : Int32) (hF : F_X4_canLift a0 p1_ M = some v) : CO g l yX4_canLift cX4_canLift 4 (some .boolean) 0 0 rvI [.ref (adr g a0), .int p1_] M (.inl v : Int32 ⊕ String) M := by
  refine CO_of hst (by decide) (Nat.le_of_ble_eq_true rfl) ?_
  intro p e s m below meth c ls X hr htb hH hL hl
  have hx := X.1
  have hb := X.2.1
  have hts := X.2.2.2.2.1
  refine q_out hF ?_
  rw [F_X4_canLift]
  replace hl : lv_has ls 4 [(0, .ref (adr g a0)), (1, .int p1_)] := hl
  refine lv_iconst (v := 0) hx hb dX4_canLift_0 (by decide) ?_
  refine lv_istore_n (lv' := [(2, .int 0), (0, .ref (adr g a0)), (1, .int p1_)]) hx hb dX4_canLift_1 rfl hl (by decide) rfl (fun ls hl => ?_)
  have L15 : ∀ (K : Int32 → Option Int32) (_ : ∀ (i1 : Int32) (H : Heap) (locs : List Loc) (ls : Array Slot), HR g M H → LK g s H locs → lv_has ls 4 [(0, .ref (adr g a0)), (1, .int p1_), (2, .int i1)] → W p l e (rmO (.inl v : Int32 ⊕ String) 0 0) s m ([.ref (adr g a0), .int p1_] : List Value).toArray below meth c H locs 0 0 (GQ (K i1) v (MQO g below rvI (.inl v : Int32 ⊕ String) M ([.ref (adr g a0), .int p1_] : List Value).toArray s)) (F0 m 48 ls [])) (n : Nat) (i1 : Int32) (H : Heap) (locs : List Loc) (ls : Array Slot), HR g M H → LK g s H locs → lv_has ls 4 [(0, .ref (adr g a0)), (1, .int p1_), (2, .int i1)] → W p l e (rmO (.inl v : Int32 ⊕ String) 0 0) s m ([.ref (adr g a0), .int p1_] : List Value).toArray below meth c H locs 0 0 (GQ (F_X4_canLift_L1 a0 p1_ M K n i1) v (MQO g below rvI (.inl v : Int32 ⊕ String) M ([.ref (adr g a0), .int p1_] : List Value).toArray s)) (F0 m 2 ls []) := by
    intro K hK n
    induction n with
    | zero => intros; exact q_none
    | succ n ih =>
      intro i1 H locs ls hH hL hl 
      rw [F_X4_canLift_L1]
      refine lv_iload_n hx hb dX4_canLift_2 rfl (lv_at hl 2 rfl) ?_
      refine lv_aload_n hx hb dX4_canLift_3 rfl (lv_at hl 0 rfl) ?_
      refine m_gR (k := 3) X hH inC4 t0 rfl W128 dX4_canLift_4 20 rfl (fun t3 => ?_)
      refine m_alen X hH t3 rfl (by decide) (v := 36) (by decide) dX4_canLift_7 ?_
      refine lv_icmp_ge (tgt := 48) hx hb dX4_canLift_8 (by decide) (fun c4 => q_pos c4 ?_) (fun c4 => q_neg c4 ?_)
      · exact hK i1 _ _ ls hH hL hl 
      · refine lv_aload_n hx hb dX4_canLift_11 rfl (lv_at hl 0 rfl) ?_
        refine m_gR (k := 3) X hH inC4 t0 rfl W128 dX4_canLift_12 20 rfl (fun t5 => ?_)
        refine lv_iload_n hx hb dX4_canLift_15 rfl (lv_at hl 2 rfl) ?_
        refine q_chk (fun hb6 => ?_)
        refine m_iald X hH t5 rfl (by decide) (fun _ => rfl) rfl rfl hb6 dX4_canLift_16 ?_
        refine lv_iload_n hx hb dX4_canLift_17 rfl (lv_at hl 1 rfl) ?_
        refine lv_iadd hx hb dX4_canLift_18 ?_
        refine q_lt (fun v7 e_v7 => ?_)
        refine q_topI e_v7 ?_
        refine lv_istore_n (lv' := [(3, .int v7), (0, .ref (adr g a0)), (1, .int p1_), (2, .int i1)]) hx hb dX4_canLift_19 rfl hl (by decide) rfl (fun ls hl => ?_)
        refine lv_aload_n hx hb dX4_canLift_20 rfl (lv_at hl 1 rfl) ?_
        refine m_gR (k := 3) X hH inC4 t0 rfl W128 dX4_canLift_21 20 rfl (fun t8 => ?_)
        refine lv_iload_n hx hb dX4_canLift_24 rfl (lv_at hl 3 rfl) ?_
        refine q_chk (fun hb9 => ?_)
        refine m_iald X hH t8 rfl (by decide) (fun _ => rfl) rfl rfl hb9 dX4_canLift_25 ?_
        refine lv_if_eq (tgt := 42) hx hb dX4_canLift_26 (by decide) (fun c10 => q_pos c10 ?_) (fun c10 => q_neg c10 ?_)
        · refine q_lt (fun v11 e_v11 => ?_)
          refine lv_iinc (v := v11) (lv' := [(2, .int v11), (3, .int v7), (0, .ref (adr g a0)), (1, .int p1_)]) hx hb dX4_canLift_42 hl (k := 3) rfl (by rw [e_v11]; rfl) (by decide) rfl (fun ls hl => ?_)
          refine lv_goto (tgt := 2) hx hb dX4_canLift_45 (by decide) ?_
          exact ih v11 _ _ ls hH hL (lv_sub hl [2, 3, 0] rfl) 
        · refine lv_iload_n hx hb dX4_canLift_29 rfl (lv_at hl 0 rfl) ?_
          refine lv_iconst (v := 1) hx hb dX4_canLift_30 (by decide) ?_
          refine lv_icmp_lt (tgt := 40) hx hb dX4_canLift_31 (by decide) (fun c12 => q_pos c12 ?_) (fun c12 => q_neg c12 ?_)
          · refine lv_iconst (v := 0) hx hb dX4_canLift_40 (by decide) ?_
            exact q_end0 (m_zret X hr hH hL (by decide) dX4_canLift_41)
          · refine lv_iload_n hx hb dX4_canLift_34 rfl (lv_at hl 0 rfl) ?_
            refine lv_bipush (v := 9) hx hb dX4_canLift_35 (by decide) ?_
            refine lv_icmp_le (tgt := 42) hx hb dX4_canLift_37 (by decide) (fun c13 => q_pos c13 ?_) (fun c13 => q_neg c13 ?_)
            · refine q_lt (fun v14 e_v14 => ?_)
              refine lv_iinc (v := v14) (lv' := [(2, .int v14), (3, .int v7), (0, .ref (adr g a0)), (1, .int p1_)]) hx hb dX4_canLift_42 hl (k := 3) rfl (by rw [e_v14]; rfl) (by decide) rfl (fun ls hl => ?_)
              refine lv_goto (tgt := 2) hx hb dX4_canLift_45 (by decide) ?_
              exact ih v14 _ _ ls hH hL (lv_sub hl [2, 3, 0] rfl) 
            · refine lv_iconst (v := 0) hx hb dX4_canLift_40 (by decide) ?_
              exact q_end0 (m_zret X hr hH hL (by decide) dX4_canLift_41)
  refine L15 _ (fun x16 H locs ls hH hL hl  => ?_) 3000 0 _ _ ls hH hL (lv_sub hl [1, 2, 0] rfl) 
  refine lv_iconst (v := 1) hx hb dX4_canLift_48 (by decide) ?_
  exact q_end0 (m_zret X hr hH hL (by decide) dX4_canLift_49)

