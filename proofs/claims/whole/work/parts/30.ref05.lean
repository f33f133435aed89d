set_option maxRecDepth 20000 in
set_option maxHeartbeats 4000000 in
theorem co_X9_readsAll (g : GP) (l : Launch) (hst : l.stackTraces = false) (a0 : Nat) (M : Mem) (t0 : tyT a0 = 9) (v : Int32) (M' : Mem) (hF : F_X9_readsAll a0 M = some (v, M')) : CO g l yX9_readsAll cX9_readsAll 2 (some .boolean) 5 104 rvI [.ref (adr g a0)] M (.inl v : Int32 ⊕ String) M' := by
  refine CO_of hst (by decide) (Nat.le_of_ble_eq_true rfl) ?_
  intro p e s m below meth c ls X hr htb hH hL hl
  have hx := X.1
  have hb := X.2.1
  have hts := X.2.2.2.2.1
  refine q_out hF ?_
  rw [F_X9_readsAll]
  replace hl : lv_has ls 2 [(0, .ref (adr g a0))] := hl
  refine lv_aload_n hx hb dX9_readsAll_0 rfl (lv_at hl 0 rfl) ?_
  refine lv_iconst (v := 0) hx hb dX9_readsAll_1 (by decide) ?_
  refine q_lt (fun M1 e_M1 => ?_)
  refine m_pI (k := 13) X hH hL okC9 t0 rfl rfl rfl rfl W1297 dX9_readsAll_2 e_M1 (fun H locs hH hL => ?_)
  refine lv_iconst (v := 1) hx hb dX9_readsAll_5 (by decide) ?_
  refine lv_istore_n (lv' := [(1, .int 1), (0, .ref (adr g a0))]) hx hb dX9_readsAll_6 rfl hl (by decide) rfl (fun ls hl => ?_)
  have L13 : ∀ (K : Int32 → Mem → Option (Int32 × Mem)) (_ : ∀ (i2 : Int32) (M3 : Mem) (H : Heap) (locs : List Loc) (ls : Array Slot), HR g M3 H → LK g s H locs → lv_has ls 2 [(0, .ref (adr g a0)), (1, .int i2)] → W p l e (rmO (.inl v : Int32 ⊕ String) 5 104) s m ([.ref (adr g a0)] : List Value).toArray below meth c H locs 0 0 (GQ (K i2 M3) (v, M') (MQO g below rvI (.inl v : Int32 ⊕ String) M' ([.ref (adr g a0)] : List Value).toArray s)) (F0 m 30 ls [])) (n : Nat) (i2 : Int32) (M3 : Mem) (H : Heap) (locs : List Loc) (ls : Array Slot), HR g M3 H → LK g s H locs → lv_has ls 2 [(0, .ref (adr g a0)), (1, .int i2)] → W p l e (rmO (.inl v : Int32 ⊕ String) 5 104) s m ([.ref (adr g a0)] : List Value).toArray below meth c H locs 0 0 (GQ (F_X9_readsAll_L1 a0 K n i2 M3) (v, M') (MQO g below rvI (.inl v : Int32 ⊕ String) M' ([.ref (adr g a0)] : List Value).toArray s)) (F0 m 7 ls []) := by
    intro K hK n
    induction n with
    | zero => intros; exact q_none
    | succ n ih =>
      intro i2 M3 H locs ls hH hL hl 
      rw [F_X9_readsAll_L1]
      refine lv_iload_n hx hb dX9_readsAll_7 rfl (lv_at hl 1 rfl) ?_
      refine lv_if_eq (tgt := 30) hx hb dX9_readsAll_8 (by decide) (fun c5 => q_pos c5 ?_) (fun c5 => q_neg c5 ?_)
      · exact hK i2 M3 _ _ ls hH hL hl 
      · refine lv_aload_n hx hb dX9_readsAll_11 rfl (lv_at hl 0 rfl) ?_
        refine q_b1 (fun v7 M8 e6 => ?_)
        refine my_doneI hL (my_runV X hH hl.1 (co_X9_readsCommand g l hst a0 M3 t0 v7 M8 e6) ok_X9_readsCommand W1737 t0 rfl (by decide) rfl rfl rfl ⟨Nat.le_of_ble_eq_true rfl, Nat.le_of_ble_eq_true rfl⟩ ⟨Nat.zero_le _, Nat.zero_le _⟩ (Nat.le_of_ble_eq_true rfl) dX9_readsAll_12) (fun H locs hH hL => ?_)
        refine lv_if_ne (tgt := 20) hx hb dX9_readsAll_15 (by decide) (fun c9 => q_neg c9 ?_) (fun c9 => q_pos c9 ?_)
        · refine lv_aload_n hx hb dX9_readsAll_20 rfl (lv_at hl 0 rfl) ?_
          refine lv_bipush (v := 59) hx hb dX9_readsAll_21 (by decide) ?_
          refine q_b1 (fun v11 M12 e10 => ?_)
          refine my_doneI hL (my_runV X hH hl.1 (co_X9_reads g l hst a0 59 M8 t0 v11 M12 e10) ok_X9_reads W1745 t0 rfl (by decide) rfl rfl rfl ⟨Nat.le_of_ble_eq_true rfl, Nat.le_of_ble_eq_true rfl⟩ ⟨Nat.zero_le _, Nat.zero_le _⟩ (Nat.le_of_ble_eq_true rfl) dX9_readsAll_23) (fun H locs hH hL => ?_)
          refine lv_istore_n (lv' := [(1, .int v11), (0, .ref (adr g a0))]) hx hb dX9_readsAll_26 rfl hl (by decide) rfl (fun ls hl => ?_)
          refine lv_goto (tgt := 7) hx hb dX9_readsAll_27 (by decide) ?_
          exact ih v11 M12 _ _ ls hH hL (lv_sub hl [1, 0] rfl) 
        · refine lv_iconst (v := 0) hx hb dX9_readsAll_18 (by decide) ?_
          exact q_end1 (m_zret X hr hH hL (by decide) dX9_readsAll_19)
  refine L13 _ (fun x14 M15 H locs ls hH hL hl  => ?_) 3000 1 M1 _ _ ls hH hL (lv_sub hl [1, 0] rfl) 
  refine lv_aload_n hx hb dX9_readsAll_30 rfl (lv_at hl 0 rfl) ?_
  refine m_gI (k := 13) X hH inC9 t0 rfl W1297 dX9_readsAll_31 ?_
  refine lv_aload_n hx hb dX9_readsAll_34 rfl (lv_at hl 0 rfl) ?_
  refine m_gI (k := 12) X hH inC9 t0 rfl W1296 dX9_readsAll_35 ?_
  refine lv_icmp_ne (tgt := 45) hx hb dX9_readsAll_38 (by decide) (fun c16 => q_neg c16 ?_) (fun c16 => q_pos c16 ?_)
  · refine lv_iconst (v := 0) hx hb dX9_readsAll_45 (by decide) ?_
    exact q_end1 (m_zret X hr hH hL (by decide) dX9_readsAll_46)
  · refine lv_iconst (v := 1) hx hb dX9_readsAll_41 (by decide) ?_
    refine lv_goto (tgt := 46) hx hb dX9_readsAll_42 (by decide) ?_
    exact q_end1 (m_zret X hr hH hL (by decide) dX9_readsAll_46)

set_option maxRecDepth 20000 in
set_option maxHeartbeats 4000000 in
theorem co_X9_notNow (g : GP) (l : Launch) (hst : l.stackTraces = false) (a0 : Nat) (M : Mem) (t0 : tyT a0 = 9) (v : Int32) (hF : F_X9_notNow a0 M = some v) : CO g l yX9_notNow cX9_notNow 3 (some .int) 4 90 rvI [.ref (adr g a0)] M (.inl v : Int32 ⊕ String) M := by
  refine CO_of hst (by decide) (Nat.le_of_ble_eq_true rfl) ?_
  intro p e s m below meth c ls X hr htb hH hL hl
  have hx := X.1
  have hb := X.2.1
  have hts := X.2.2.2.2.1
  refine q_out hF ?_
  rw [F_X9_notNow]
  replace hl : lv_has ls 3 [(0, .ref (adr g a0))] := hl
  refine lv_aload_n hx hb dX9_notNow_0 rfl (lv_at hl 0 rfl) ?_
  refine m_gR (k := 16) X hH inC9 t0 rfl W1300 dX9_notNow_1 23 rfl (fun t1 => ?_)
  refine lv_iconst (v := 0) hx hb dX9_notNow_4 (by decide) ?_
  refine q_chk (fun hb2 => ?_)
  refine m_iald X hH t1 rfl (by decide) (fun _ => rfl) rfl rfl hb2 dX9_notNow_5 ?_
  refine q_lt (fun v3 e_v3 => ?_)
  refine q_topI e_v3 ?_
  refine lv_istore_n (lv' := [(1, .int v3), (0, .ref (adr g a0))]) hx hb dX9_notNow_6 rfl hl (by decide) rfl (fun ls hl => ?_)
  refine lv_aload_n hx hb dX9_notNow_7 rfl (lv_at hl 1 rfl) ?_
  refine m_gR (k := 16) X hH inC9 t0 rfl W1300 dX9_notNow_8 23 rfl (fun t4 => ?_)
  refine lv_iconst (v := 1) hx hb dX9_notNow_11 (by decide) ?_
  refine q_chk (fun hb5 => ?_)
  refine m_iald X hH t4 rfl (by decide) (fun _ => rfl) rfl rfl hb5 dX9_notNow_12 ?_
  refine q_lt (fun v6 e_v6 => ?_)
  refine q_topI e_v6 ?_
  refine lv_istore_n (lv' := [(2, .int v6), (1, .int v3), (0, .ref (adr g a0))]) hx hb dX9_notNow_13 rfl hl (by decide) rfl (fun ls hl => ?_)
  refine lv_aload_n hx hb dX9_notNow_14 rfl (lv_at hl 2 rfl) ?_
  refine m_gI (k := 17) X hH inC9 t0 rfl W1301 dX9_notNow_15 ?_
  by_cases c7 : (mI M a0 17) = 97
  · refine q_pos c7 ?_
    refine m_table (tgt := 112) hx hb dX9_notNow_18 (by decide) (by rw [c7] <;> rfl) (by decide) ?_
    refine lv_aload_n hx hb dX9_notNow_112 rfl (lv_at hl 2 rfl) ?_
    refine lv_iload_n hx hb dX9_notNow_113 rfl (lv_at hl 1 rfl) ?_
    refine lv_iload_n hx hb dX9_notNow_114 rfl (lv_at hl 0 rfl) ?_
    refine lv_aload_n hx hb dX9_notNow_115 rfl (lv_at hl 2 rfl) ?_
    refine m_gR (k := 16) X hH inC9 t0 rfl W1300 dX9_notNow_116 23 rfl (fun t8 => ?_)
    refine lv_iconst (v := 2) hx hb dX9_notNow_119 (by decide) ?_
    refine q_chk (fun hb9 => ?_)
    refine m_iald X hH t8 rfl (by decide) (fun _ => rfl) rfl rfl hb9 dX9_notNow_120 ?_
    refine q_bind (fun v11 e10 => ?_)
    refine my_doneI hL (my_runV X hH hl.1 (co_X9_notAdd g l hst a0 v3 v6 (mI M (mR M a0 16) 2) M t0 v11 e10) ok_X9_notAdd W1346 t0 rfl (by decide) rfl rfl rfl ⟨Nat.le_of_ble_eq_true rfl, Nat.le_of_ble_eq_true rfl⟩ ⟨Nat.zero_le _, Nat.zero_le _⟩ (Nat.le_of_ble_eq_true rfl) dX9_notNow_121) (fun H locs hH hL => ?_)
    exact q_end0 (m_iret X hr hH hL dX9_notNow_124)
  refine q_neg c7 ?_
  by_cases c12 : (mI M a0 17) = 98
  · refine q_pos c12 ?_
    refine m_table (tgt := 174) hx hb dX9_notNow_18 (by decide) (by rw [c12] <;> rfl) (by decide) ?_
    refine lv_iload_n hx hb dX9_notNow_174 rfl (lv_at hl 1 rfl) ?_
    refine q_bind (fun v14 e13 => ?_)
    refine my_doneI hL (my_runS X hH hl.1 (co_X9_notBeats g l hst v3 M v14 e13) ok_X9_notBeats W1529 rfl rfl ⟨Nat.le_of_ble_eq_true rfl, Nat.le_of_ble_eq_true rfl⟩ ⟨Nat.zero_le _, Nat.zero_le _⟩ (Nat.le_of_ble_eq_true rfl) dX9_notNow_175) (fun H locs hH hL => ?_)
    exact q_end0 (m_iret X hr hH hL dX9_notNow_178)
  refine q_neg c12 ?_
  by_cases c15 : (mI M a0 17) = 100
  · refine q_pos c15 ?_
    refine m_table (tgt := 125) hx hb dX9_notNow_18 (by decide) (by rw [c15] <;> rfl) (by decide) ?_
    refine lv_aload_n hx hb dX9_notNow_125 rfl (lv_at hl 2 rfl) ?_
    refine lv_iload_n hx hb dX9_notNow_126 rfl (lv_at hl 1 rfl) ?_
    refine q_bind (fun v17 e16 => ?_)
    refine my_doneI hL (my_runV X hH hl.1 (co_X9_notSection g l hst a0 v3 M t0 v17 e16) ok_X9_notSection W1793 t0 rfl (by decide) rfl rfl rfl ⟨Nat.le_of_ble_eq_true rfl, Nat.le_of_ble_eq_true rfl⟩ ⟨Nat.zero_le _, Nat.zero_le _⟩ (Nat.le_of_ble_eq_true rfl) dX9_notNow_127) (fun H locs hH hL => ?_)
    exact q_end0 (m_iret X hr hH hL dX9_notNow_130)
  refine q_neg c15 ?_
  by_cases c18 : (mI M a0 17) = 101
  · refine q_pos c18 ?_
    refine m_table (tgt := 164) hx hb dX9_notNow_18 (by decide) (by rw [c18] <;> rfl) (by decide) ?_
    refine lv_iload_n hx hb dX9_notNow_164 rfl (lv_at hl 1 rfl) ?_
    refine q_bind (fun v20 e19 => ?_)
    refine my_doneI hL (my_runS X hH hl.1 (co_X9_notTempo g l hst v3 M v20 e19) ok_X9_notTempo W1468 rfl rfl ⟨Nat.le_of_ble_eq_true rfl, Nat.le_of_ble_eq_true rfl⟩ ⟨Nat.zero_le _, Nat.zero_le _⟩ (Nat.le_of_ble_eq_true rfl) dX9_notNow_165) (fun H locs hH hL => ?_)
    exact q_end0 (m_iret X hr hH hL dX9_notNow_168)
  refine q_neg c18 ?_
  by_cases c21 : (mI M a0 17) = 102
  · refine q_pos c21 ?_
    refine m_table (tgt := 125) hx hb dX9_notNow_18 (by decide) (by rw [c21] <;> rfl) (by decide) ?_
    refine lv_aload_n hx hb dX9_notNow_125 rfl (lv_at hl 2 rfl) ?_
    refine lv_iload_n hx hb dX9_notNow_126 rfl (lv_at hl 1 rfl) ?_
    refine q_bind (fun v23 e22 => ?_)
    refine my_doneI hL (my_runV X hH hl.1 (co_X9_notSection g l hst a0 v3 M t0 v23 e22) ok_X9_notSection W1793 t0 rfl (by decide) rfl rfl rfl ⟨Nat.le_of_ble_eq_true rfl, Nat.le_of_ble_eq_true rfl⟩ ⟨Nat.zero_le _, Nat.zero_le _⟩ (Nat.le_of_ble_eq_true rfl) dX9_notNow_127) (fun H locs hH hL => ?_)
    exact q_end0 (m_iret X hr hH hL dX9_notNow_130)
  refine q_neg c21 ?_
  by_cases c24 : (mI M a0 17) = 108
  · refine q_pos c24 ?_
    refine m_table (tgt := 169) hx hb dX9_notNow_18 (by decide) (by rw [c24] <;> rfl) (by decide) ?_
    refine lv_iload_n hx hb dX9_notNow_169 rfl (lv_at hl 1 rfl) ?_
    refine q_bind (fun v26 e25 => ?_)
    refine my_doneI hL (my_runS X hH hl.1 (co_X9_notLimit g l hst v3 M v26 e25) ok_X9_notLimit W1479 rfl rfl ⟨Nat.le_of_ble_eq_true rfl, Nat.le_of_ble_eq_true rfl⟩ ⟨Nat.zero_le _, Nat.zero_le _⟩ (Nat.le_of_ble_eq_true rfl) dX9_notNow_170) (fun H locs hH hL => ?_)
    exact q_end0 (m_iret X hr hH hL dX9_notNow_173)
  refine q_neg c24 ?_
  by_cases c27 : (mI M a0 17) = 109
  · refine q_pos c27 ?_
    refine m_table (tgt := 150) hx hb dX9_notNow_18 (by decide) (by rw [c27] <;> rfl) (by decide) ?_
    refine lv_aload_n hx hb dX9_notNow_150 rfl (lv_at hl 2 rfl) ?_
    refine lv_iload_n hx hb dX9_notNow_151 rfl (lv_at hl 1 rfl) ?_
    refine lv_iload_n hx hb dX9_notNow_152 rfl (lv_at hl 0 rfl) ?_
    refine q_bind (fun v29 e28 => ?_)
    refine my_doneI hL (my_runV X hH hl.1 (co_X9_notMask g l hst a0 v3 v6 M t0 v29 e28) ok_X9_notMask W1424 t0 rfl (by decide) rfl rfl rfl ⟨Nat.le_of_ble_eq_true rfl, Nat.le_of_ble_eq_true rfl⟩ ⟨Nat.zero_le _, Nat.zero_le _⟩ (Nat.le_of_ble_eq_true rfl) dX9_notNow_153) (fun H locs hH hL => ?_)
    exact q_end0 (m_iret X hr hH hL dX9_notNow_156)
  refine q_neg c27 ?_
  by_cases c30 : (mI M a0 17) = 110
  · refine q_pos c30 ?_
    refine m_table (tgt := 131) hx hb dX9_notNow_18 (by decide) (by rw [c30] <;> rfl) (by decide) ?_
    refine lv_aload_n hx hb dX9_notNow_131 rfl (lv_at hl 2 rfl) ?_
    refine lv_iload_n hx hb dX9_notNow_132 rfl (lv_at hl 1 rfl) ?_
    refine lv_iload_n hx hb dX9_notNow_133 rfl (lv_at hl 0 rfl) ?_
    refine lv_aload_n hx hb dX9_notNow_134 rfl (lv_at hl 2 rfl) ?_
    refine m_gR (k := 16) X hH inC9 t0 rfl W1300 dX9_notNow_135 23 rfl (fun t31 => ?_)
    refine lv_iconst (v := 2) hx hb dX9_notNow_138 (by decide) ?_
    refine q_chk (fun hb32 => ?_)
    refine m_iald X hH t31 rfl (by decide) (fun _ => rfl) rfl rfl hb32 dX9_notNow_139 ?_
    refine lv_aload_n hx hb dX9_notNow_140 rfl (lv_at hl 2 rfl) ?_
    refine m_gR (k := 16) X hH inC9 t0 rfl W1300 dX9_notNow_141 23 rfl (fun t33 => ?_)
    refine lv_iconst (v := 3) hx hb dX9_notNow_144 (by decide) ?_
    refine q_chk (fun hb34 => ?_)
    refine m_iald X hH t33 rfl (by decide) (fun _ => rfl) rfl rfl hb34 dX9_notNow_145 ?_
    refine q_bind (fun v36 e35 => ?_)
    refine my_doneI hL (my_runV X hH hl.1 (co_X9_notNote g l hst a0 v3 v6 (mI M (mR M a0 16) 2) (mI M (mR M a0 16) 3) M t0 v36 e35) ok_X9_notNote W1396 t0 rfl (by decide) rfl rfl rfl ⟨Nat.le_of_ble_eq_true rfl, Nat.le_of_ble_eq_true rfl⟩ ⟨Nat.zero_le _, Nat.zero_le _⟩ (Nat.le_of_ble_eq_true rfl) dX9_notNow_146) (fun H locs hH hL => ?_)
    exact q_end0 (m_iret X hr hH hL dX9_notNow_149)
  refine q_neg c30 ?_
  by_cases c37 : (mI M a0 17) = 114
  · refine q_pos c37 ?_
    refine m_table (tgt := 157) hx hb dX9_notNow_18 (by decide) (by rw [c37] <;> rfl) (by decide) ?_
    refine lv_aload_n hx hb dX9_notNow_157 rfl (lv_at hl 2 rfl) ?_
    refine lv_iload_n hx hb dX9_notNow_158 rfl (lv_at hl 1 rfl) ?_
    refine lv_iload_n hx hb dX9_notNow_159 rfl (lv_at hl 0 rfl) ?_
    refine q_bind (fun v39 e38 => ?_)
    refine my_doneI hL (my_runV X hH hl.1 (co_X9_notRaise g l hst a0 v3 v6 M t0 v39 e38) ok_X9_notRaise W1456 t0 rfl (by decide) rfl rfl rfl ⟨Nat.le_of_ble_eq_true rfl, Nat.le_of_ble_eq_true rfl⟩ ⟨Nat.zero_le _, Nat.zero_le _⟩ (Nat.le_of_ble_eq_true rfl) dX9_notNow_160) (fun H locs hH hL => ?_)
    exact q_end0 (m_iret X hr hH hL dX9_notNow_163)
  refine q_neg c37 ?_
  by_cases c40 : (mI M a0 17) = 116
  · refine q_pos c40 ?_
    refine m_table (tgt := 125) hx hb dX9_notNow_18 (by decide) (by rw [c40] <;> rfl) (by decide) ?_
    refine lv_aload_n hx hb dX9_notNow_125 rfl (lv_at hl 2 rfl) ?_
    refine lv_iload_n hx hb dX9_notNow_126 rfl (lv_at hl 1 rfl) ?_
    refine q_bind (fun v42 e41 => ?_)
    refine my_doneI hL (my_runV X hH hl.1 (co_X9_notSection g l hst a0 v3 M t0 v42 e41) ok_X9_notSection W1793 t0 rfl (by decide) rfl rfl rfl ⟨Nat.le_of_ble_eq_true rfl, Nat.le_of_ble_eq_true rfl⟩ ⟨Nat.zero_le _, Nat.zero_le _⟩ (Nat.le_of_ble_eq_true rfl) dX9_notNow_127) (fun H locs hH hL => ?_)
    exact q_end0 (m_iret X hr hH hL dX9_notNow_130)
  refine q_neg c40 ?_
  refine m_table (tgt := 179) hx hb dX9_notNow_18 (by decide) (tb_def [97, 98, 100, 101, 102, 108, 109, 110, 114, 116] (by decide) (List.forall_mem_cons.mpr ⟨sw_ne (z := 97) c7 (by decide), List.forall_mem_cons.mpr ⟨sw_ne (z := 98) c12 (by decide), List.forall_mem_cons.mpr ⟨sw_ne (z := 100) c15 (by decide), List.forall_mem_cons.mpr ⟨sw_ne (z := 101) c18 (by decide), List.forall_mem_cons.mpr ⟨sw_ne (z := 102) c21 (by decide), List.forall_mem_cons.mpr ⟨sw_ne (z := 108) c24 (by decide), List.forall_mem_cons.mpr ⟨sw_ne (z := 109) c27 (by decide), List.forall_mem_cons.mpr ⟨sw_ne (z := 110) c30 (by decide), List.forall_mem_cons.mpr ⟨sw_ne (z := 114) c37 (by decide), List.forall_mem_cons.mpr ⟨sw_ne (z := 116) c40 (by decide), List.forall_mem_nil _⟩⟩⟩⟩⟩⟩⟩⟩⟩⟩)) (by decide) ?_
  refine lv_iconst (v := 0) hx hb dX9_notNow_179 (by decide) ?_
  exact q_end0 (m_iret X hr hH hL dX9_notNow_180)

set_option maxRecDepth 20000 in
set_option maxHeartbeats 4000000 in
theorem co_X9_doesNow (g : GP) (l : Launch) (hst : l.stackTraces = false) (a0 : Nat) (M : Mem) (t0 : tyT a0 = 9) (v : Int32) (M' : Mem) (hF : F_X9_doesNow a0 M = some (v, M')) : CO g l yX9_doesNow cX9_doesNow 3 (some .int) 6 138 rvI [.ref (adr g a0)] M (.inl v : Int32 ⊕ String) M' := by
  refine CO_of hst (by decide) (Nat.le_of_ble_eq_true rfl) ?_
  intro p e s m below meth c ls X hr htb hH hL hl
  have hx := X.1
  have hb := X.2.1
  have hts := X.2.2.2.2.1
  refine q_out hF ?_
  rw [F_X9_doesNow]
  replace hl : lv_has ls 3 [(0, .ref (adr g a0))] := hl
  refine lv_aload_n hx hb dX9_doesNow_0 rfl (lv_at hl 0 rfl) ?_
  refine m_gR (k := 16) X hH inC9 t0 rfl W1300 dX9_doesNow_1 23 rfl (fun t1 => ?_)
  refine lv_iconst (v := 0) hx hb dX9_doesNow_4 (by decide) ?_
  refine q_chk (fun hb2 => ?_)
  refine m_iald X hH t1 rfl (by decide) (fun _ => rfl) rfl rfl hb2 dX9_doesNow_5 ?_
  refine q_lt (fun v3 e_v3 => ?_)
  refine q_topI e_v3 ?_
  refine lv_istore_n (lv' := [(1, .int v3), (0, .ref (adr g a0))]) hx hb dX9_doesNow_6 rfl hl (by decide) rfl (fun ls hl => ?_)
  refine lv_aload_n hx hb dX9_doesNow_7 rfl (lv_at hl 1 rfl) ?_
  refine m_gR (k := 16) X hH inC9 t0 rfl W1300 dX9_doesNow_8 23 rfl (fun t4 => ?_)
  refine lv_iconst (v := 1) hx hb dX9_doesNow_11 (by decide) ?_
  refine q_chk (fun hb5 => ?_)
  refine m_iald X hH t4 rfl (by decide) (fun _ => rfl) rfl rfl hb5 dX9_doesNow_12 ?_
  refine q_lt (fun v6 e_v6 => ?_)
  refine q_topI e_v6 ?_
  refine lv_istore_n (lv' := [(2, .int v6), (1, .int v3), (0, .ref (adr g a0))]) hx hb dX9_doesNow_13 rfl hl (by decide) rfl (fun ls hl => ?_)
  refine lv_aload_n hx hb dX9_doesNow_14 rfl (lv_at hl 2 rfl) ?_
  refine m_gI (k := 17) X hH inC9 t0 rfl W1301 dX9_doesNow_15 ?_
  by_cases c7 : (mI M a0 17) = 97
  · refine q_pos c7 ?_
    refine m_table (tgt := 124) hx hb dX9_doesNow_18 (by decide) (by rw [c7] <;> rfl) (by decide) ?_
    refine lv_aload_n hx hb dX9_doesNow_124 rfl (lv_at hl 2 rfl) ?_
    refine lv_iload_n hx hb dX9_doesNow_125 rfl (lv_at hl 1 rfl) ?_
    refine lv_iload_n hx hb dX9_doesNow_126 rfl (lv_at hl 0 rfl) ?_
    refine lv_aload_n hx hb dX9_doesNow_127 rfl (lv_at hl 2 rfl) ?_
    refine m_gR (k := 16) X hH inC9 t0 rfl W1300 dX9_doesNow_128 23 rfl (fun t8 => ?_)
    refine lv_iconst (v := 2) hx hb dX9_doesNow_131 (by decide) ?_
    refine q_chk (fun hb9 => ?_)
    refine m_iald X hH t8 rfl (by decide) (fun _ => rfl) rfl rfl hb9 dX9_doesNow_132 ?_
    refine q_b1 (fun v11 M12 e10 => ?_)
    refine my_doneI hL (my_runV X hH hl.1 (co_X9_addsSection g l hst a0 v3 v6 (mI M (mR M a0 16) 2) M t0 v11 M12 e10) ok_X9_addsSection W1372 t0 rfl (by decide) rfl rfl rfl ⟨Nat.le_of_ble_eq_true rfl, Nat.le_of_ble_eq_true rfl⟩ ⟨Nat.zero_le _, Nat.zero_le _⟩ (Nat.le_of_ble_eq_true rfl) dX9_doesNow_133) (fun H locs hH hL => ?_)
    exact q_end1 (m_iret X hr hH hL dX9_doesNow_136)
  refine q_neg c7 ?_
  by_cases c13 : (mI M a0 17) = 100
  · refine q_pos c13 ?_
    refine m_table (tgt := 137) hx hb dX9_doesNow_18 (by decide) (by rw [c13] <;> rfl) (by decide) ?_
    refine lv_aload_n hx hb dX9_doesNow_137 rfl (lv_at hl 2 rfl) ?_
    refine lv_iload_n hx hb dX9_doesNow_138 rfl (lv_at hl 1 rfl) ?_
    refine q_b1 (fun v15 M16 e14 => ?_)
    refine my_doneI hL (my_runV X hH hl.1 (co_X9_removesSection g l hst a0 v3 M t0 v15 M16 e14) ok_X9_removesSection W1388 t0 rfl (by decide) rfl rfl rfl ⟨Nat.le_of_ble_eq_true rfl, Nat.le_of_ble_eq_true rfl⟩ ⟨Nat.zero_le _, Nat.zero_le _⟩ (Nat.le_of_ble_eq_true rfl) dX9_doesNow_139) (fun H locs hH hL => ?_)
    exact q_end1 (m_iret X hr hH hL dX9_doesNow_142)
  refine q_neg c13 ?_
  by_cases c17 : (mI M a0 17) = 101
  · refine q_pos c17 ?_
    refine m_table (tgt := 194) hx hb dX9_doesNow_18 (by decide) (by rw [c17] <;> rfl) (by decide) ?_
    refine lv_aload_n hx hb dX9_doesNow_194 rfl (lv_at hl 2 rfl) ?_
    refine lv_iconst (v := 2) hx hb dX9_doesNow_195 (by decide) ?_
    refine lv_iload_n hx hb dX9_doesNow_196 rfl (lv_at hl 1 rfl) ?_
    refine q_b1 (fun v19 M20 e18 => ?_)
    refine my_doneI hL (my_runV X hH hl.1 (co_X9_sets g l hst a0 2 v3 M t0 v19 M20 e18) ok_X9_sets W1471 t0 rfl (by decide) rfl rfl rfl ⟨Nat.le_of_ble_eq_true rfl, Nat.le_of_ble_eq_true rfl⟩ ⟨Nat.zero_le _, Nat.zero_le _⟩ (Nat.le_of_ble_eq_true rfl) dX9_doesNow_197) (fun H locs hH hL => ?_)
    exact q_end1 (m_iret X hr hH hL dX9_doesNow_200)
  refine q_neg c17 ?_
  by_cases c21 : (mI M a0 17) = 102
  · refine q_pos c21 ?_
    refine m_table (tgt := 175) hx hb dX9_doesNow_18 (by decide) (by rw [c21] <;> rfl) (by decide) ?_
    refine lv_aload_n hx hb dX9_doesNow_175 rfl (lv_at hl 2 rfl) ?_
    refine lv_iload_n hx hb dX9_doesNow_176 rfl (lv_at hl 1 rfl) ?_
    refine q_b1 (fun v23 M24 e22 => ?_)
    refine my_doneI hL (my_runV X hH hl.1 (co_X9_transposes g l hst a0 v3 M t0 v23 M24 e22) ok_X9_transposes W1440 t0 rfl (by decide) rfl rfl rfl ⟨Nat.le_of_ble_eq_true rfl, Nat.le_of_ble_eq_true rfl⟩ ⟨Nat.zero_le _, Nat.zero_le _⟩ (Nat.le_of_ble_eq_true rfl) dX9_doesNow_177) (fun H locs hH hL => ?_)
    exact q_end1 (m_iret X hr hH hL dX9_doesNow_180)
  refine q_neg c21 ?_
  by_cases c25 : (mI M a0 17) = 108
  · refine q_pos c25 ?_
    refine m_table (tgt := 201) hx hb dX9_doesNow_18 (by decide) (by rw [c25] <;> rfl) (by decide) ?_
    refine lv_aload_n hx hb dX9_doesNow_201 rfl (lv_at hl 2 rfl) ?_
    refine lv_iconst (v := 3) hx hb dX9_doesNow_202 (by decide) ?_
    refine lv_iload_n hx hb dX9_doesNow_203 rfl (lv_at hl 1 rfl) ?_
    refine q_b1 (fun v27 M28 e26 => ?_)
    refine my_doneI hL (my_runV X hH hl.1 (co_X9_sets g l hst a0 3 v3 M t0 v27 M28 e26) ok_X9_sets W1471 t0 rfl (by decide) rfl rfl rfl ⟨Nat.le_of_ble_eq_true rfl, Nat.le_of_ble_eq_true rfl⟩ ⟨Nat.zero_le _, Nat.zero_le _⟩ (Nat.le_of_ble_eq_true rfl) dX9_doesNow_204) (fun H locs hH hL => ?_)
    exact q_end1 (m_iret X hr hH hL dX9_doesNow_207)
  refine q_neg c25 ?_
  by_cases c29 : (mI M a0 17) = 109
  · refine q_pos c29 ?_
    refine m_table (tgt := 162) hx hb dX9_doesNow_18 (by decide) (by rw [c29] <;> rfl) (by decide) ?_
    refine lv_aload_n hx hb dX9_doesNow_162 rfl (lv_at hl 2 rfl) ?_
    refine lv_iload_n hx hb dX9_doesNow_163 rfl (lv_at hl 1 rfl) ?_
    refine lv_iload_n hx hb dX9_doesNow_164 rfl (lv_at hl 0 rfl) ?_
    refine lv_aload_n hx hb dX9_doesNow_165 rfl (lv_at hl 2 rfl) ?_
    refine m_gR (k := 16) X hH inC9 t0 rfl W1300 dX9_doesNow_166 23 rfl (fun t30 => ?_)
    refine lv_iconst (v := 2) hx hb dX9_doesNow_169 (by decide) ?_
    refine q_chk (fun hb31 => ?_)
    refine m_iald X hH t30 rfl (by decide) (fun _ => rfl) rfl rfl hb31 dX9_doesNow_170 ?_
    refine q_b1 (fun v33 M34 e32 => ?_)
    refine my_doneI hL (my_runV X hH hl.1 (co_X9_setsMasked g l hst a0 v3 v6 (mI M (mR M a0 16) 2) M t0 v33 M34 e32) ok_X9_setsMasked W1428 t0 rfl (by decide) rfl rfl rfl ⟨Nat.le_of_ble_eq_true rfl, Nat.le_of_ble_eq_true rfl⟩ ⟨Nat.zero_le _, Nat.zero_le _⟩ (Nat.le_of_ble_eq_true rfl) dX9_doesNow_171) (fun H locs hH hL => ?_)
    exact q_end1 (m_iret X hr hH hL dX9_doesNow_174)
  refine q_neg c29 ?_
  by_cases c35 : (mI M a0 17) = 110
  · refine q_pos c35 ?_
    refine m_table (tgt := 143) hx hb dX9_doesNow_18 (by decide) (by rw [c35] <;> rfl) (by decide) ?_
    refine lv_aload_n hx hb dX9_doesNow_143 rfl (lv_at hl 2 rfl) ?_
    refine lv_iload_n hx hb dX9_doesNow_144 rfl (lv_at hl 1 rfl) ?_
    refine lv_iload_n hx hb dX9_doesNow_145 rfl (lv_at hl 0 rfl) ?_
    refine lv_aload_n hx hb dX9_doesNow_146 rfl (lv_at hl 2 rfl) ?_
    refine m_gR (k := 16) X hH inC9 t0 rfl W1300 dX9_doesNow_147 23 rfl (fun t36 => ?_)
    refine lv_iconst (v := 2) hx hb dX9_doesNow_150 (by decide) ?_
    refine q_chk (fun hb37 => ?_)
    refine m_iald X hH t36 rfl (by decide) (fun _ => rfl) rfl rfl hb37 dX9_doesNow_151 ?_
    refine lv_aload_n hx hb dX9_doesNow_152 rfl (lv_at hl 2 rfl) ?_
    refine m_gR (k := 16) X hH inC9 t0 rfl W1300 dX9_doesNow_153 23 rfl (fun t38 => ?_)
    refine lv_iconst (v := 3) hx hb dX9_doesNow_156 (by decide) ?_
    refine q_chk (fun hb39 => ?_)
    refine m_iald X hH t38 rfl (by decide) (fun _ => rfl) rfl rfl hb39 dX9_doesNow_157 ?_
    refine q_b1 (fun v41 M42 e40 => ?_)
    refine my_doneI hL (my_runV X hH hl.1 (co_X9_setsNote g l hst a0 v3 v6 (mI M (mR M a0 16) 2) (mI M (mR M a0 16) 3) M t0 v41 M42 e40) ok_X9_setsNote W1408 t0 rfl (by decide) rfl rfl rfl ⟨Nat.le_of_ble_eq_true rfl, Nat.le_of_ble_eq_true rfl⟩ ⟨Nat.zero_le _, Nat.zero_le _⟩ (Nat.le_of_ble_eq_true rfl) dX9_doesNow_158) (fun H locs hH hL => ?_)
    exact q_end1 (m_iret X hr hH hL dX9_doesNow_161)
  refine q_neg c35 ?_
  by_cases c43 : (mI M a0 17) = 114
  · refine q_pos c43 ?_
    refine m_table (tgt := 187) hx hb dX9_doesNow_18 (by decide) (by rw [c43] <;> rfl) (by decide) ?_
    refine lv_aload_n hx hb dX9_doesNow_187 rfl (lv_at hl 2 rfl) ?_
    refine lv_iload_n hx hb dX9_doesNow_188 rfl (lv_at hl 1 rfl) ?_
    refine lv_iload_n hx hb dX9_doesNow_189 rfl (lv_at hl 0 rfl) ?_
    refine q_b1 (fun v45 M46 e44 => ?_)
    refine my_doneI hL (my_runV X hH hl.1 (co_X9_raises g l hst a0 v3 v6 M t0 v45 M46 e44) ok_X9_raises W1460 t0 rfl (by decide) rfl rfl rfl ⟨Nat.le_of_ble_eq_true rfl, Nat.le_of_ble_eq_true rfl⟩ ⟨Nat.zero_le _, Nat.zero_le _⟩ (Nat.le_of_ble_eq_true rfl) dX9_doesNow_190) (fun H locs hH hL => ?_)
    exact q_end1 (m_iret X hr hH hL dX9_doesNow_193)
  refine q_neg c43 ?_
  by_cases c47 : (mI M a0 17) = 116
  · refine q_pos c47 ?_
    refine m_table (tgt := 181) hx hb dX9_doesNow_18 (by decide) (by rw [c47] <;> rfl) (by decide) ?_
    refine lv_aload_n hx hb dX9_doesNow_181 rfl (lv_at hl 2 rfl) ?_
    refine lv_iload_n hx hb dX9_doesNow_182 rfl (lv_at hl 1 rfl) ?_
    refine q_b1 (fun v49 M50 e48 => ?_)
    refine my_doneI hL (my_runV X hH hl.1 (co_X9_reverses g l hst a0 v3 M t0 v49 M50 e48) ok_X9_reverses W1448 t0 rfl (by decide) rfl rfl rfl ⟨Nat.le_of_ble_eq_true rfl, Nat.le_of_ble_eq_true rfl⟩ ⟨Nat.zero_le _, Nat.zero_le _⟩ (Nat.le_of_ble_eq_true rfl) dX9_doesNow_183) (fun H locs hH hL => ?_)
    exact q_end1 (m_iret X hr hH hL dX9_doesNow_186)
  refine q_neg c47 ?_
  by_cases c51 : (mI M a0 17) = 119
  · refine q_pos c51 ?_
    refine m_table (tgt := 208) hx hb dX9_doesNow_18 (by decide) (by rw [c51] <;> rfl) (by decide) ?_
    refine lv_aload_n hx hb dX9_doesNow_208 rfl (lv_at hl 2 rfl) ?_
    refine lv_aload_n hx hb dX9_doesNow_209 rfl (lv_at hl 2 rfl) ?_
    refine m_gR (k := 1) X hH inC9 t0 rfl W1285 dX9_doesNow_210 24 rfl (fun t52 => ?_)
    refine lv_iconst (v := 2) hx hb dX9_doesNow_213 (by decide) ?_
    refine q_chk (fun hb53 => ?_)
    refine m_iald X hH t52 rfl (by decide) (fun _ => rfl) rfl rfl hb53 dX9_doesNow_214 ?_
    refine q_b1 (fun v55 M56 e54 => ?_)
    refine my_doneI hL (my_runV X hH hl.1 (co_X9_beatsTimes g l hst a0 (mI M (mR M a0 1) 2) M t0 v55 M56 e54) ok_X9_beatsTimes W1486 t0 rfl (by decide) rfl rfl rfl ⟨Nat.le_of_ble_eq_true rfl, Nat.le_of_ble_eq_true rfl⟩ ⟨Nat.zero_le _, Nat.zero_le _⟩ (Nat.le_of_ble_eq_true rfl) dX9_doesNow_215) (fun H locs hH hL => ?_)
    exact q_end1 (m_iret X hr hH hL dX9_doesNow_218)
  refine q_neg c51 ?_
  refine m_table (tgt := 219) hx hb dX9_doesNow_18 (by decide) (tb_def [97, 100, 101, 102, 108, 109, 110, 114, 116, 119] (by decide) (List.forall_mem_cons.mpr ⟨sw_ne (z := 97) c7 (by decide), List.forall_mem_cons.mpr ⟨sw_ne (z := 100) c13 (by decide), List.forall_mem_cons.mpr ⟨sw_ne (z := 101) c17 (by decide), List.forall_mem_cons.mpr ⟨sw_ne (z := 102) c21 (by decide), List.forall_mem_cons.mpr ⟨sw_ne (z := 108) c25 (by decide), List.forall_mem_cons.mpr ⟨sw_ne (z := 109) c29 (by decide), List.forall_mem_cons.mpr ⟨sw_ne (z := 110) c35 (by decide), List.forall_mem_cons.mpr ⟨sw_ne (z := 114) c43 (by decide), List.forall_mem_cons.mpr ⟨sw_ne (z := 116) c47 (by decide), List.forall_mem_cons.mpr ⟨sw_ne (z := 119) c51 (by decide), List.forall_mem_nil _⟩⟩⟩⟩⟩⟩⟩⟩⟩⟩)) (by decide) ?_
  refine lv_aload_n hx hb dX9_doesNow_219 rfl (lv_at hl 2 rfl) ?_
  refine lv_iload_n hx hb dX9_doesNow_220 rfl (lv_at hl 1 rfl) ?_
  refine q_b1 (fun v58 M59 e57 => ?_)
  refine my_doneI hL (my_runV X hH hl.1 (co_X9_beatsTimes g l hst a0 v3 M t0 v58 M59 e57) ok_X9_beatsTimes W1486 t0 rfl (by decide) rfl rfl rfl ⟨Nat.le_of_ble_eq_true rfl, Nat.le_of_ble_eq_true rfl⟩ ⟨Nat.zero_le _, Nat.zero_le _⟩ (Nat.le_of_ble_eq_true rfl) dX9_doesNow_221) (fun H locs hH hL => ?_)
  exact q_end1 (m_iret X hr hH hL dX9_doesNow_224)

set_option maxRecDepth 20000 in
set_option maxHeartbeats 4000000 in
theorem co_X9_doesAll (g : GP) (l : Launch) (hst : l.stackTraces = false) (a0 : Nat) (M : Mem) (t0 : tyT a0 = 9) (v : Int32) (M' : Mem) (hF : F_X9_doesAll a0 M = some (v, M')) : CO g l yX9_doesAll cX9_doesAll 2 (some .boolean) 7 160 rvI [.ref (adr g a0)] M (.inl v : Int32 ⊕ String) M' := by
  refine CO_of hst (by decide) (Nat.le_of_ble_eq_true rfl) ?_
  intro p e s m below meth c ls X hr htb hH hL hl
  have hx := X.1
  have hb := X.2.1
  have hts := X.2.2.2.2.1
  refine q_out hF ?_
  rw [F_X9_doesAll]
  replace hl : lv_has ls 2 [(0, .ref (adr g a0))] := hl
  refine lv_aload_n hx hb dX9_doesAll_0 rfl (lv_at hl 0 rfl) ?_
  refine lv_iconst (v := 0) hx hb dX9_doesAll_1 (by decide) ?_
  refine q_lt (fun M1 e_M1 => ?_)
  refine m_pI (k := 18) X hH hL okC9 t0 rfl rfl rfl rfl W1302 dX9_doesAll_2 e_M1 (fun H locs hH hL => ?_)
  refine lv_aload_n hx hb dX9_doesAll_5 rfl (lv_at hl 0 rfl) ?_
  refine lv_iconst (v := 0) hx hb dX9_doesAll_6 (by decide) ?_
  refine q_lt (fun M2 e_M2 => ?_)
  refine m_pI (k := 13) X hH hL okC9 t0 rfl rfl rfl rfl W1297 dX9_doesAll_7 e_M2 (fun H locs hH hL => ?_)
  refine lv_iconst (v := 1) hx hb dX9_doesAll_10 (by decide) ?_
  refine lv_istore_n (lv' := [(1, .int 1), (0, .ref (adr g a0))]) hx hb dX9_doesAll_11 rfl hl (by decide) rfl (fun ls hl => ?_)
  have L20 : ∀ (K : Int32 → Mem → Option (Int32 × Mem)) (_ : ∀ (i3 : Int32) (M4 : Mem) (H : Heap) (locs : List Loc) (ls : Array Slot), HR g M4 H → LK g s H locs → lv_has ls 2 [(0, .ref (adr g a0)), (1, .int i3)] → W p l e (rmO (.inl v : Int32 ⊕ String) 7 160) s m ([.ref (adr g a0)] : List Value).toArray below meth c H locs 0 0 (GQ (K i3 M4) (v, M') (MQO g below rvI (.inl v : Int32 ⊕ String) M' ([.ref (adr g a0)] : List Value).toArray s)) (F0 m 55 ls [])) (n : Nat) (i3 : Int32) (M4 : Mem) (H : Heap) (locs : List Loc) (ls : Array Slot), HR g M4 H → LK g s H locs → lv_has ls 2 [(0, .ref (adr g a0)), (1, .int i3)] → W p l e (rmO (.inl v : Int32 ⊕ String) 7 160) s m ([.ref (adr g a0)] : List Value).toArray below meth c H locs 0 0 (GQ (F_X9_doesAll_L1 a0 K n i3 M4) (v, M') (MQO g below rvI (.inl v : Int32 ⊕ String) M' ([.ref (adr g a0)] : List Value).toArray s)) (F0 m 12 ls []) := by
    intro K hK n
    induction n with
    | zero => intros; exact q_none
    | succ n ih =>
      intro i3 M4 H locs ls hH hL hl 
      rw [F_X9_doesAll_L1]
      refine lv_iload_n hx hb dX9_doesAll_12 rfl (lv_at hl 1 rfl) ?_
      refine lv_if_eq (tgt := 55) hx hb dX9_doesAll_13 (by decide) (fun c6 => q_pos c6 ?_) (fun c6 => q_neg c6 ?_)
      · exact hK i3 M4 _ _ ls hH hL hl 
      · refine lv_aload_n hx hb dX9_doesAll_16 rfl (lv_at hl 0 rfl) ?_
        refine q_b1 (fun v8 M9 e7 => ?_)
        refine my_doneI hL (my_runV X hH hl.1 (co_X9_readsCommand g l hst a0 M4 t0 v8 M9 e7) ok_X9_readsCommand W1737 t0 rfl (by decide) rfl rfl rfl ⟨Nat.le_of_ble_eq_true rfl, Nat.le_of_ble_eq_true rfl⟩ ⟨Nat.zero_le _, Nat.zero_le _⟩ (Nat.le_of_ble_eq_true rfl) dX9_doesAll_17) (fun H locs hH hL => ?_)
        refine lv_pop hx hb dX9_doesAll_20 rfl ?_
        refine lv_aload_n hx hb dX9_doesAll_21 rfl (lv_at hl 0 rfl) ?_
        refine q_bind (fun v11 e10 => ?_)
        refine my_doneI hL (my_runV X hH hl.1 (co_X9_notNow g l hst a0 M9 t0 v11 e10) ok_X9_notNow W1789 t0 rfl (by decide) rfl rfl rfl ⟨Nat.le_of_ble_eq_true rfl, Nat.le_of_ble_eq_true rfl⟩ ⟨Nat.zero_le _, Nat.zero_le _⟩ (Nat.le_of_ble_eq_true rfl) dX9_doesAll_22) (fun H locs hH hL => ?_)
        refine lv_if_eq (tgt := 30) hx hb dX9_doesAll_25 (by decide) (fun c12 => q_pos c12 ?_) (fun c12 => q_neg c12 ?_)
        · refine lv_aload_n hx hb dX9_doesAll_30 rfl (lv_at hl 0 rfl) ?_
          refine q_b1 (fun v14 M15 e13 => ?_)
          refine my_doneI hL (my_runV X hH hl.1 (co_X9_doesNow g l hst a0 M9 t0 v14 M15 e13) ok_X9_doesNow W1797 t0 rfl (by decide) rfl rfl rfl ⟨Nat.le_of_ble_eq_true rfl, Nat.le_of_ble_eq_true rfl⟩ ⟨Nat.zero_le _, Nat.zero_le _⟩ (Nat.le_of_ble_eq_true rfl) dX9_doesAll_31) (fun H locs hH hL => ?_)
          refine lv_pop hx hb dX9_doesAll_34 rfl ?_
          refine lv_aload_n hx hb dX9_doesAll_35 rfl (lv_at hl 0 rfl) ?_
          refine lv_dup hx hb dX9_doesAll_36 rfl ?_
          refine m_gI (k := 18) X hH inC9 t0 rfl W1302 dX9_doesAll_37 ?_
          refine lv_iconst (v := 1) hx hb dX9_doesAll_40 (by decide) ?_
          refine lv_iadd hx hb dX9_doesAll_41 ?_
          refine q_lt (fun M16 e_M16 => ?_)
          refine m_pI (k := 18) X hH hL okC9 t0 rfl rfl rfl rfl W1302 dX9_doesAll_42 e_M16 (fun H locs hH hL => ?_)
          refine lv_aload_n hx hb dX9_doesAll_45 rfl (lv_at hl 0 rfl) ?_
          refine lv_bipush (v := 59) hx hb dX9_doesAll_46 (by decide) ?_
          refine q_b1 (fun v18 M19 e17 => ?_)
          refine my_doneI hL (my_runV X hH hl.1 (co_X9_reads g l hst a0 59 M16 t0 v18 M19 e17) ok_X9_reads W1745 t0 rfl (by decide) rfl rfl rfl ⟨Nat.le_of_ble_eq_true rfl, Nat.le_of_ble_eq_true rfl⟩ ⟨Nat.zero_le _, Nat.zero_le _⟩ (Nat.le_of_ble_eq_true rfl) dX9_doesAll_48) (fun H locs hH hL => ?_)
          refine lv_istore_n (lv' := [(1, .int v18), (0, .ref (adr g a0))]) hx hb dX9_doesAll_51 rfl hl (by decide) rfl (fun ls hl => ?_)
          refine lv_goto (tgt := 12) hx hb dX9_doesAll_52 (by decide) ?_
          exact ih v18 M19 _ _ ls hH hL (lv_sub hl [1, 0] rfl) 
        · refine lv_iconst (v := 0) hx hb dX9_doesAll_28 (by decide) ?_
          exact q_end1 (m_zret X hr hH hL (by decide) dX9_doesAll_29)
  refine L20 _ (fun x21 M22 H locs ls hH hL hl  => ?_) 3000 1 M2 _ _ ls hH hL (lv_sub hl [1, 0] rfl) 
  refine lv_iconst (v := 1) hx hb dX9_doesAll_55 (by decide) ?_
  exact q_end1 (m_zret X hr hH hL (by decide) dX9_doesAll_56)

set_option maxRecDepth 20000 in
set_option maxHeartbeats 4000000 in
theorem co_X9_runScript (g : GP) (l : Launch) (hst : l.stackTraces = false) (a0 : Nat) (M : Mem) (t0 : tyT a0 = 9) (v : Int32) (M' : Mem) (hF : F_X9_runScript a0 M = some (v, M')) : CO g l yX9_runScript cX9_runScript 2 (some .int) 8 181 rvI [.ref (adr g a0)] M (.inl v : Int32 ⊕ String) M' := by
  refine CO_of hst (by decide) (Nat.le_of_ble_eq_true rfl) ?_
  intro p e s m below meth c ls X hr htb hH hL hl
  have hx := X.1
  have hb := X.2.1
  have hts := X.2.2.2.2.1
  refine q_out hF ?_
  rw [F_X9_runScript]
  replace hl : lv_has ls 2 [(0, .ref (adr g a0))] := hl
  refine lv_aload_n hx hb dX9_runScript_0 rfl (lv_at hl 0 rfl) ?_
  refine lv_iconst (v := 0) hx hb dX9_runScript_1 (by decide) ?_
  refine q_lt (fun M1 e_M1 => ?_)
  refine m_pI (k := 0) X hH hL okC9 t0 rfl rfl rfl rfl W1284 dX9_runScript_2 e_M1 (fun H locs hH hL => ?_)
  refine lv_aload_n hx hb dX9_runScript_5 rfl (lv_at hl 0 rfl) ?_
  refine q_b1 (fun v3 M4 e2 => ?_)
  refine my_doneI hL (my_runV X hH hl.1 (co_X9_readsAll g l hst a0 M1 t0 v3 M4 e2) ok_X9_readsAll W1733 t0 rfl (by decide) rfl rfl rfl ⟨Nat.le_of_ble_eq_true rfl, Nat.le_of_ble_eq_true rfl⟩ ⟨Nat.zero_le _, Nat.zero_le _⟩ (Nat.le_of_ble_eq_true rfl) dX9_runScript_6) (fun H locs hH hL => ?_)
  refine lv_if_ne (tgt := 31) hx hb dX9_runScript_9 (by decide) (fun c5 => q_neg c5 ?_) (fun c5 => q_pos c5 ?_)
  · refine lv_aload_n hx hb dX9_runScript_31 rfl (lv_at hl 0 rfl) ?_
    refine q_b1 (fun u7 M8 e6 => ?_)
    refine my_doneU hL (my_runV X hH hl.1 (co_X9_copies g l hst a0 M4 t0 u7 M8 e6) ok_X9_copies W1364 t0 rfl (by decide) rfl rfl rfl ⟨Nat.le_of_ble_eq_true rfl, Nat.le_of_ble_eq_true rfl⟩ ⟨Nat.zero_le _, Nat.zero_le _⟩ (Nat.le_of_ble_eq_true rfl) dX9_runScript_32) (fun H locs hH hL => ?_)
    refine lv_aload_n hx hb dX9_runScript_35 rfl (lv_at hl 0 rfl) ?_
    refine q_b1 (fun v10 M11 e9 => ?_)
    refine my_doneI hL (my_runV X hH hl.1 (co_X9_doesAll g l hst a0 M8 t0 v10 M11 e9) ok_X9_doesAll W1785 t0 rfl (by decide) rfl rfl rfl ⟨Nat.le_of_ble_eq_true rfl, Nat.le_of_ble_eq_true rfl⟩ ⟨Nat.zero_le _, Nat.zero_le _⟩ (Nat.le_of_ble_eq_true rfl) dX9_runScript_36) (fun H locs hH hL => ?_)
    refine lv_istore_n (lv' := [(1, .int v10), (0, .ref (adr g a0))]) hx hb dX9_runScript_39 rfl hl (by decide) rfl (fun ls hl => ?_)
    refine lv_aload_n hx hb dX9_runScript_40 rfl (lv_at hl 1 rfl) ?_
    refine lv_iconst (v := 0) hx hb dX9_runScript_41 (by decide) ?_
    refine q_lt (fun M12 e_M12 => ?_)
    refine m_pI (k := 12) X hH hL okC9 t0 rfl rfl rfl rfl W1296 dX9_runScript_42 e_M12 (fun H locs hH hL => ?_)
    refine lv_iload_n hx hb dX9_runScript_45 rfl (lv_at hl 0 rfl) ?_
    refine lv_if_eq (tgt := 58) hx hb dX9_runScript_46 (by decide) (fun c13 => q_pos c13 ?_) (fun c13 => q_neg c13 ?_)
    · refine lv_aload_n hx hb dX9_runScript_58 rfl (lv_at hl 1 rfl) ?_
      refine q_b1 (fun u15 M16 e14 => ?_)
      refine my_doneU hL (my_runV X hH hl.1 (co_X9_goesBack g l hst a0 M12 t0 u15 M16 e14) ok_X9_goesBack W1801 t0 rfl (by decide) rfl rfl rfl ⟨Nat.le_of_ble_eq_true rfl, Nat.le_of_ble_eq_true rfl⟩ ⟨Nat.zero_le _, Nat.zero_le _⟩ (Nat.le_of_ble_eq_true rfl) dX9_runScript_59) (fun H locs hH hL => ?_)
      refine lv_aload_n hx hb dX9_runScript_62 rfl (lv_at hl 1 rfl) ?_
      refine lv_aload_n hx hb dX9_runScript_63 rfl (lv_at hl 1 rfl) ?_
      refine m_gI (k := 18) X hH inC9 t0 rfl W1302 dX9_runScript_64 ?_
      refine q_lt (fun M17 e_M17 => ?_)
      refine m_pI (k := 15) X hH hL okC9 t0 rfl rfl rfl rfl W1299 dX9_runScript_67 e_M17 (fun H locs hH hL => ?_)
      refine lv_aload_n hx hb dX9_runScript_70 rfl (lv_at hl 1 rfl) ?_
      refine lv_iconst (v := 2) hx hb dX9_runScript_71 (by decide) ?_
      refine q_b1 (fun v19 M20 e18 => ?_)
      refine my_doneI hL (my_runV X hH hl.1 (co_X9_fails g l hst a0 2 M17 t0 v19 M20 e18) ok_X9_fails W1356 t0 rfl (by decide) rfl rfl rfl ⟨Nat.le_of_ble_eq_true rfl, Nat.le_of_ble_eq_true rfl⟩ ⟨Nat.zero_le _, Nat.zero_le _⟩ (Nat.le_of_ble_eq_true rfl) dX9_runScript_72) (fun H locs hH hL => ?_)
      exact q_end1 (m_iret X hr hH hL dX9_runScript_75)
    · refine lv_aload_n hx hb dX9_runScript_49 rfl (lv_at hl 1 rfl) ?_
      refine q_b1 (fun u22 M23 e21 => ?_)
      refine my_doneU hL (my_runV X hH hl.1 (co_X9_keeps g l hst a0 M12 t0 u22 M23 e21) ok_X9_keeps W1368 t0 rfl (by decide) rfl rfl rfl ⟨Nat.le_of_ble_eq_true rfl, Nat.le_of_ble_eq_true rfl⟩ ⟨Nat.zero_le _, Nat.zero_le _⟩ (Nat.le_of_ble_eq_true rfl) dX9_runScript_50) (fun H locs hH hL => ?_)
      refine lv_aload_n hx hb dX9_runScript_53 rfl (lv_at hl 1 rfl) ?_
      refine m_gI (k := 18) X hH inC9 t0 rfl W1302 dX9_runScript_54 ?_
      exact q_end1 (m_iret X hr hH hL dX9_runScript_57)
  · refine lv_aload_n hx hb dX9_runScript_12 rfl (lv_at hl 0 rfl) ?_
    refine lv_aload_n hx hb dX9_runScript_13 rfl (lv_at hl 0 rfl) ?_
    refine m_gI (k := 13) X hH inC9 t0 rfl W1297 dX9_runScript_14 ?_
    refine q_lt (fun M24 e_M24 => ?_)
    refine m_pI (k := 14) X hH hL okC9 t0 rfl rfl rfl rfl W1298 dX9_runScript_17 e_M24 (fun H locs hH hL => ?_)
    refine lv_aload_n hx hb dX9_runScript_20 rfl (lv_at hl 0 rfl) ?_
    refine lv_iconst (v := 0) hx hb dX9_runScript_21 (by decide) ?_
    refine q_lt (fun M25 e_M25 => ?_)
    refine m_pI (k := 12) X hH hL okC9 t0 rfl rfl rfl rfl W1296 dX9_runScript_22 e_M25 (fun H locs hH hL => ?_)
    refine lv_aload_n hx hb dX9_runScript_25 rfl (lv_at hl 0 rfl) ?_
    refine lv_iconst (v := 1) hx hb dX9_runScript_26 (by decide) ?_
    refine q_b1 (fun v27 M28 e26 => ?_)
    refine my_doneI hL (my_runV X hH hl.1 (co_X9_fails g l hst a0 1 M25 t0 v27 M28 e26) ok_X9_fails W1356 t0 rfl (by decide) rfl rfl rfl ⟨Nat.le_of_ble_eq_true rfl, Nat.le_of_ble_eq_true rfl⟩ ⟨Nat.zero_le _, Nat.zero_le _⟩ (Nat.le_of_ble_eq_true rfl) dX9_runScript_27) (fun H locs hH hL => ?_)
    exact q_end1 (m_iret X hr hH hL dX9_runScript_30)

set_option maxRecDepth 20000 in
set_option maxHeartbeats 4000000 in
theorem co_X9_errorPosition (g : GP) (l : Launch) (hst : l.stackTraces = false) (a0 : Nat) (M : Mem) (t0 : tyT a0 = 9) (v : Int32) (M' : Mem) (hF : F_X9_errorPosition a0 M = some (v, M')) : CO g l yX9_errorPosition cX9_errorPosition 1 (some .int) 1 21 rvI [.ref (adr g a0)] M (.inl v : Int32 ⊕ String) M' := by
  refine CO_of hst (by decide) (Nat.le_of_ble_eq_true rfl) ?_
  intro p e s m below meth c ls X hr htb hH hL hl
  have hx := X.1
  have hb := X.2.1
  have hts := X.2.2.2.2.1
  refine q_out hF ?_
  rw [F_X9_errorPosition]
  replace hl : lv_has ls 1 [(0, .ref (adr g a0))] := hl
  refine lv_aload_n hx hb dX9_errorPosition_0 rfl (lv_at hl 0 rfl) ?_
  refine lv_iconst (v := 0) hx hb dX9_errorPosition_1 (by decide) ?_
  refine q_lt (fun M1 e_M1 => ?_)
  refine m_pI (k := 0) X hH hL okC9 t0 rfl rfl rfl rfl W1284 dX9_errorPosition_2 e_M1 (fun H locs hH hL => ?_)
  refine lv_aload_n hx hb dX9_errorPosition_5 rfl (lv_at hl 0 rfl) ?_
  refine m_gI (k := 14) X hH inC9 t0 rfl W1298 dX9_errorPosition_6 ?_
  refine lv_if_ge (tgt := 20) hx hb dX9_errorPosition_9 (by decide) (fun c2 => q_pos c2 ?_) (fun c2 => q_neg c2 ?_)
  · refine lv_aload_n hx hb dX9_errorPosition_20 rfl (lv_at hl 0 rfl) ?_
    refine m_gI (k := 14) X hH inC9 t0 rfl W1298 dX9_errorPosition_21 ?_
    exact q_end1 (m_iret X hr hH hL dX9_errorPosition_24)
  · refine lv_aload_n hx hb dX9_errorPosition_12 rfl (lv_at hl 0 rfl) ?_
    refine lv_iconst (v := 1) hx hb dX9_errorPosition_13 (by decide) ?_
    refine q_b1 (fun v4 M5 e3 => ?_)
    refine my_doneI hL (my_runV X hH hl.1 (co_X9_fails g l hst a0 1 M1 t0 v4 M5 e3) ok_X9_fails W1356 t0 rfl (by decide) rfl rfl rfl ⟨Nat.le_of_ble_eq_true rfl, Nat.le_of_ble_eq_true rfl⟩ ⟨Nat.zero_le _, Nat.zero_le _⟩ (Nat.le_of_ble_eq_true rfl) dX9_errorPosition_14) (fun H locs hH hL => ?_)
    refine lv_goto (tgt := 24) hx hb dX9_errorPosition_17 (by decide) ?_
    exact q_end1 (m_iret X hr hH hL dX9_errorPosition_24)

set_option maxRecDepth 20000 in
set_option maxHeartbeats 4000000 in
theorem co_X9_failedCommand (g : GP) (l : Launch) (hst : l.stackTraces = false) (a0 : Nat) (M : Mem) (t0 : tyT a0 = 9) (v : Int32) (M' : Mem) (hF : F_X9_failedCommand a0 M = some (v, M')) : CO g l yX9_failedCommand cX9_failedCommand 1 (some .int) 1 21 rvI [.ref (adr g a0)] M (.inl v : Int32 ⊕ String) M' := by
  refine CO_of hst (by decide) (Nat.le_of_ble_eq_true rfl) ?_
  intro p e s m below meth c ls X hr htb hH hL hl
  have hx := X.1
  have hb := X.2.1
  have hts := X.2.2.2.2.1
  refine q_out hF ?_
  rw [F_X9_failedCommand]
  replace hl : lv_has ls 1 [(0, .ref (adr g a0))] := hl
  refine lv_aload_n hx hb dX9_failedCommand_0 rfl (lv_at hl 0 rfl) ?_
  refine lv_iconst (v := 0) hx hb dX9_failedCommand_1 (by decide) ?_
  refine q_lt (fun M1 e_M1 => ?_)
  refine m_pI (k := 0) X hH hL okC9 t0 rfl rfl rfl rfl W1284 dX9_failedCommand_2 e_M1 (fun H locs hH hL => ?_)
  refine lv_aload_n hx hb dX9_failedCommand_5 rfl (lv_at hl 0 rfl) ?_
  refine m_gI (k := 15) X hH inC9 t0 rfl W1299 dX9_failedCommand_6 ?_
  refine lv_if_ge (tgt := 20) hx hb dX9_failedCommand_9 (by decide) (fun c2 => q_pos c2 ?_) (fun c2 => q_neg c2 ?_)
  · refine lv_aload_n hx hb dX9_failedCommand_20 rfl (lv_at hl 0 rfl) ?_
    refine m_gI (k := 15) X hH inC9 t0 rfl W1299 dX9_failedCommand_21 ?_
    exact q_end1 (m_iret X hr hH hL dX9_failedCommand_24)
  · refine lv_aload_n hx hb dX9_failedCommand_12 rfl (lv_at hl 0 rfl) ?_
    refine lv_iconst (v := 1) hx hb dX9_failedCommand_13 (by decide) ?_
    refine q_b1 (fun v4 M5 e3 => ?_)
    refine my_doneI hL (my_runV X hH hl.1 (co_X9_fails g l hst a0 1 M1 t0 v4 M5 e3) ok_X9_fails W1356 t0 rfl (by decide) rfl rfl rfl ⟨Nat.le_of_ble_eq_true rfl, Nat.le_of_ble_eq_true rfl⟩ ⟨Nat.zero_le _, Nat.zero_le _⟩ (Nat.le_of_ble_eq_true rfl) dX9_failedCommand_14) (fun H locs hH hL => ?_)
    refine lv_goto (tgt := 24) hx hb dX9_failedCommand_17 (by decide) ?_
    exact q_end1 (m_iret X hr hH hL dX9_failedCommand_24)

set_option maxRecDepth 20000 in
set_option maxHeartbeats 4000000 in
theorem co_X9_undo (g : GP) (l : Launch) (hst : l.stackTraces = false) (a0 : Nat) (M : Mem) (t0 : tyT a0 = 9) (v : Int32) (M' : Mem) (hF : F_X9_undo a0 M = some (v, M')) : CO g l yX9_undo cX9_undo 3 (some .int) 1 21 rvI [.ref (adr g a0)] M (.inl v : Int32 ⊕ String) M' := by
  refine CO_of hst (by decide) (Nat.le_of_ble_eq_true rfl) ?_
  intro p e s m below meth c ls X hr htb hH hL hl
  have hx := X.1
  have hb := X.2.1
  have hts := X.2.2.2.2.1
  refine q_out hF ?_
  rw [F_X9_undo]
  replace hl : lv_has ls 3 [(0, .ref (adr g a0))] := hl
  refine lv_aload_n hx hb dX9_undo_0 rfl (lv_at hl 0 rfl) ?_
  refine lv_iconst (v := 0) hx hb dX9_undo_1 (by decide) ?_
  refine q_lt (fun M1 e_M1 => ?_)
  refine m_pI (k := 0) X hH hL okC9 t0 rfl rfl rfl rfl W1284 dX9_undo_2 e_M1 (fun H locs hH hL => ?_)
  refine lv_aload_n hx hb dX9_undo_5 rfl (lv_at hl 0 rfl) ?_
  refine m_gI (k := 6) X hH inC9 t0 rfl W1290 dX9_undo_6 ?_
  refine lv_if_ne (tgt := 18) hx hb dX9_undo_9 (by decide) (fun c2 => q_neg c2 ?_) (fun c2 => q_pos c2 ?_)
  · refine lv_aload_n hx hb dX9_undo_18 rfl (lv_at hl 0 rfl) ?_
    refine lv_dup hx hb dX9_undo_19 rfl ?_
    refine m_gI (k := 6) X hH inC9 t0 rfl W1290 dX9_undo_20 ?_
    refine lv_iconst (v := 1) hx hb dX9_undo_23 (by decide) ?_
    refine lv_isub hx hb dX9_undo_24 ?_
    refine q_lt (fun M3 e_M3 => ?_)
    refine m_pI (k := 6) X hH hL okC9 t0 rfl rfl rfl rfl W1290 dX9_undo_25 e_M3 (fun H locs hH hL => ?_)
    refine lv_aload_n hx hb dX9_undo_28 rfl (lv_at hl 0 rfl) ?_
    refine m_gI (k := 7) X hH inC9 t0 rfl W1291 dX9_undo_29 ?_
    refine lv_aload_n hx hb dX9_undo_32 rfl (lv_at hl 0 rfl) ?_
    refine m_gI (k := 6) X hH inC9 t0 rfl W1290 dX9_undo_33 ?_
    refine lv_iadd hx hb dX9_undo_36 ?_
    refine lv_bipush (v := 8) hx hb dX9_undo_37 (by decide) ?_
    refine lv_irem hx hb dX9_undo_39 (by decide) ?_
    refine q_lt (fun v4 e_v4 => ?_)
    refine q_topI e_v4 ?_
    refine lv_istore_n (lv' := [(1, .int v4), (0, .ref (adr g a0))]) hx hb dX9_undo_40 rfl hl (by decide) rfl (fun ls hl => ?_)
    refine lv_iconst (v := 0) hx hb dX9_undo_41 (by decide) ?_
    refine lv_istore_n (lv' := [(2, .int 0), (1, .int v4), (0, .ref (adr g a0))]) hx hb dX9_undo_42 rfl hl (by decide) rfl (fun ls hl => ?_)
    have L15 : ∀ (K : Int32 → Mem → Option (Int32 × Mem)) (_ : ∀ (i5 : Int32) (M6 : Mem) (H : Heap) (locs : List Loc) (ls : Array Slot), HR g M6 H → LK g s H locs → lv_has ls 3 [(0, .ref (adr g a0)), (1, .int v4), (2, .int i5)] → W p l e (rmO (.inl v : Int32 ⊕ String) 1 21) s m ([.ref (adr g a0)] : List Value).toArray below meth c H locs 0 0 (GQ (K i5 M6) (v, M') (MQO g below rvI (.inl v : Int32 ⊕ String) M' ([.ref (adr g a0)] : List Value).toArray s)) (F0 m 74 ls [])) (n : Nat) (i5 : Int32) (M6 : Mem) (H : Heap) (locs : List Loc) (ls : Array Slot), HR g M6 H → LK g s H locs → lv_has ls 3 [(0, .ref (adr g a0)), (1, .int v4), (2, .int i5)] → W p l e (rmO (.inl v : Int32 ⊕ String) 1 21) s m ([.ref (adr g a0)] : List Value).toArray below meth c H locs 0 0 (GQ (F_X9_undo_L1 a0 v4 K n i5 M6) (v, M') (MQO g below rvI (.inl v : Int32 ⊕ String) M' ([.ref (adr g a0)] : List Value).toArray s)) (F0 m 43 ls []) := by
      intro K hK n
      induction n with
      | zero => intros; exact q_none
      | succ n ih =>
        intro i5 M6 H locs ls hH hL hl 
        rw [F_X9_undo_L1]
        refine lv_iload_n hx hb dX9_undo_43 rfl (lv_at hl 2 rfl) ?_
        refine lv_sipush (v := 260) hx hb dX9_undo_44 (by decide) ?_
        refine lv_icmp_ge (tgt := 74) hx hb dX9_undo_47 (by decide) (fun c8 => q_pos c8 ?_) (fun c8 => q_neg c8 ?_)
        · exact hK i5 M6 _ _ ls hH hL hl 
        · refine lv_aload_n hx hb dX9_undo_50 rfl (lv_at hl 0 rfl) ?_
          refine m_gR (k := 1) X hH inC9 t0 rfl W1285 dX9_undo_51 24 rfl (fun t9 => ?_)
          refine lv_iload_n hx hb dX9_undo_54 rfl (lv_at hl 2 rfl) ?_
          refine lv_aload_n hx hb dX9_undo_55 rfl (lv_at hl 0 rfl) ?_
          refine m_gR (k := 2) X hH inC9 t0 rfl W1286 dX9_undo_56 25 rfl (fun t10 => ?_)
          refine lv_sipush (v := 260) hx hb dX9_undo_59 (by decide) ?_
          refine lv_iload_n hx hb dX9_undo_62 rfl (lv_at hl 1 rfl) ?_
          refine lv_imul hx hb dX9_undo_63 ?_
          refine lv_iload_n hx hb dX9_undo_64 rfl (lv_at hl 2 rfl) ?_
          refine lv_iadd hx hb dX9_undo_65 ?_
          refine q_chk (fun hb11 => ?_)
          refine m_iald X hH t10 rfl (by decide) (fun _ => rfl) rfl rfl hb11 dX9_undo_66 ?_
          refine q_chk (fun hb12 => ?_)
          refine q_lt (fun M13 e_M13 => ?_)
          refine m_is X hH hL t9 rfl (by decide) (fun _ => rfl) rfl rfl hb12 dX9_undo_67 e_M13 (fun H locs hH hL => ?_)
          refine q_lt (fun v14 e_v14 => ?_)
          refine lv_iinc (v := v14) (lv' := [(2, .int v14), (0, .ref (adr g a0)), (1, .int v4)]) hx hb dX9_undo_68 hl (k := 2) rfl (by rw [e_v14]; rfl) (by decide) rfl (fun ls hl => ?_)
          refine lv_goto (tgt := 43) hx hb dX9_undo_71 (by decide) ?_
          exact ih v14 M13 _ _ ls hH hL (lv_sub hl [1, 2, 0] rfl) 
    refine L15 _ (fun x16 M17 H locs ls hH hL hl  => ?_) 3000 0 M3 _ _ ls hH hL (lv_sub hl [2, 1, 0] rfl) 
    refine lv_aload_n hx hb dX9_undo_74 rfl (lv_at hl 0 rfl) ?_
    refine m_gI (k := 6) X hH inC9 t0 rfl W1290 dX9_undo_75 ?_
    exact q_end1 (m_iret X hr hH hL dX9_undo_78)
  · refine lv_aload_n hx hb dX9_undo_12 rfl (lv_at hl 0 rfl) ?_
    refine lv_iconst (v := 1) hx hb dX9_undo_13 (by decide) ?_
    refine q_b1 (fun v19 M20 e18 => ?_)
    refine my_doneI hL (my_runV X hH hl.1 (co_X9_fails g l hst a0 1 M1 t0 v19 M20 e18) ok_X9_fails W1356 t0 rfl (by decide) rfl rfl rfl ⟨Nat.le_of_ble_eq_true rfl, Nat.le_of_ble_eq_true rfl⟩ ⟨Nat.zero_le _, Nat.zero_le _⟩ (Nat.le_of_ble_eq_true rfl) dX9_undo_14) (fun H locs hH hL => ?_)
    exact q_end1 (m_iret X hr hH hL dX9_undo_17)

set_option maxRecDepth 20000 in
set_option maxHeartbeats 4000000 in
theorem co_X9_save (g : GP) (l : Launch) (hst : l.stackTraces = false) (a0 : Nat) (M : Mem) (t0 : tyT a0 = 9) (v : Int32) (M' : Mem) (hF : F_X9_save a0 M = some (v, M')) : CO g l yX9_save cX9_save 2 (some .int) 0 0 rvI [.ref (adr g a0)] M (.inl v : Int32 ⊕ String) M' := by
  refine CO_of hst (by decide) (Nat.le_of_ble_eq_true rfl) ?_
  intro p e s m below meth c ls X hr htb hH hL hl
  have hx := X.1
  have hb := X.2.1
  have hts := X.2.2.2.2.1
  refine q_out hF ?_
  rw [F_X9_save]
  replace hl : lv_has ls 2 [(0, .ref (adr g a0))] := hl
  refine lv_aload_n hx hb dX9_save_0 rfl (lv_at hl 0 rfl) ?_
  refine lv_iconst (v := 0) hx hb dX9_save_1 (by decide) ?_
  refine q_lt (fun M1 e_M1 => ?_)
  refine m_pI (k := 0) X hH hL okC9 t0 rfl rfl rfl rfl W1284 dX9_save_2 e_M1 (fun H locs hH hL => ?_)
  refine lv_iconst (v := 0) hx hb dX9_save_5 (by decide) ?_
  refine lv_istore_n (lv' := [(1, .int 0), (0, .ref (adr g a0))]) hx hb dX9_save_6 rfl hl (by decide) rfl (fun ls hl => ?_)
  have L12 : ∀ (K : Int32 → Mem → Option (Int32 × Mem)) (_ : ∀ (i2 : Int32) (M3 : Mem) (H : Heap) (locs : List Loc) (ls : Array Slot), HR g M3 H → LK g s H locs → lv_has ls 2 [(0, .ref (adr g a0)), (1, .int i2)] → W p l e (rmO (.inl v : Int32 ⊕ String) 0 0) s m ([.ref (adr g a0)] : List Value).toArray below meth c H locs 0 0 (GQ (K i2 M3) (v, M') (MQO g below rvI (.inl v : Int32 ⊕ String) M' ([.ref (adr g a0)] : List Value).toArray s)) (F0 m 32 ls [])) (n : Nat) (i2 : Int32) (M3 : Mem) (H : Heap) (locs : List Loc) (ls : Array Slot), HR g M3 H → LK g s H locs → lv_has ls 2 [(0, .ref (adr g a0)), (1, .int i2)] → W p l e (rmO (.inl v : Int32 ⊕ String) 0 0) s m ([.ref (adr g a0)] : List Value).toArray below meth c H locs 0 0 (GQ (F_X9_save_L1 a0 K n i2 M3) (v, M') (MQO g below rvI (.inl v : Int32 ⊕ String) M' ([.ref (adr g a0)] : List Value).toArray s)) (F0 m 7 ls []) := by
    intro K hK n
    induction n with
    | zero => intros; exact q_none
    | succ n ih =>
      intro i2 M3 H locs ls hH hL hl 
      rw [F_X9_save_L1]
      refine lv_iload_n hx hb dX9_save_7 rfl (lv_at hl 1 rfl) ?_
      refine lv_sipush (v := 260) hx hb dX9_save_8 (by decide) ?_
      refine lv_icmp_ge (tgt := 32) hx hb dX9_save_11 (by decide) (fun c5 => q_pos c5 ?_) (fun c5 => q_neg c5 ?_)
      · exact hK i2 M3 _ _ ls hH hL hl 
      · refine lv_aload_n hx hb dX9_save_14 rfl (lv_at hl 0 rfl) ?_
        refine m_gR (k := 3) X hH inC9 t0 rfl W1287 dX9_save_15 24 rfl (fun t6 => ?_)
        refine lv_iload_n hx hb dX9_save_18 rfl (lv_at hl 1 rfl) ?_
        refine lv_aload_n hx hb dX9_save_19 rfl (lv_at hl 0 rfl) ?_
        refine m_gR (k := 1) X hH inC9 t0 rfl W1285 dX9_save_20 24 rfl (fun t7 => ?_)
        refine lv_iload_n hx hb dX9_save_23 rfl (lv_at hl 1 rfl) ?_
        refine q_chk (fun hb8 => ?_)
        refine m_iald X hH t7 rfl (by decide) (fun _ => rfl) rfl rfl hb8 dX9_save_24 ?_
        refine q_chk (fun hb9 => ?_)
        refine q_lt (fun M10 e_M10 => ?_)
        refine m_is X hH hL t6 rfl (by decide) (fun _ => rfl) rfl rfl hb9 dX9_save_25 e_M10 (fun H locs hH hL => ?_)
        refine q_lt (fun v11 e_v11 => ?_)
        refine lv_iinc (v := v11) (lv' := [(1, .int v11), (0, .ref (adr g a0))]) hx hb dX9_save_26 hl (k := 1) rfl (by rw [e_v11]; rfl) (by decide) rfl (fun ls hl => ?_)
        refine lv_goto (tgt := 7) hx hb dX9_save_29 (by decide) ?_
        exact ih v11 M10 _ _ ls hH hL (lv_sub hl [1, 0] rfl) 
  refine L12 _ (fun x13 M14 H locs ls hH hL hl  => ?_) 3000 0 M1 _ _ ls hH hL (lv_sub hl [1, 0] rfl) 
  refine lv_aload_n hx hb dX9_save_32 rfl (lv_at hl 0 rfl) ?_
  refine lv_iconst (v := 1) hx hb dX9_save_33 (by decide) ?_
  refine q_lt (fun M15 e_M15 => ?_)
  refine m_pI (k := 8) X hH hL okC9 t0 rfl rfl (by decide) (by decide) W1292 dX9_save_34 e_M15 (fun H locs hH hL => ?_)
  refine lv_aload_n hx hb dX9_save_37 rfl (lv_at hl 0 rfl) ?_
  refine m_gR (k := 1) X hH inC9 t0 rfl W1285 dX9_save_38 24 rfl (fun t16 => ?_)
  refine lv_iconst (v := 0) hx hb dX9_save_41 (by decide) ?_
  refine q_chk (fun hb17 => ?_)
  refine m_iald X hH t16 rfl (by decide) (fun _ => rfl) rfl rfl hb17 dX9_save_42 ?_
  exact q_end1 (m_iret X hr hH hL dX9_save_43)

set_option maxRecDepth 20000 in
set_option maxHeartbeats 4000000 in
theorem co_X9_restore (g : GP) (l : Launch) (hst : l.stackTraces = false) (a0 : Nat) (M : Mem) (t0 : tyT a0 = 9) (v : Int32) (M' : Mem) (hF : F_X9_restore a0 M = some (v, M')) : CO g l yX9_restore cX9_restore 2 (some .int) 1 21 rvI [.ref (adr g a0)] M (.inl v : Int32 ⊕ String) M' := by
  refine CO_of hst (by decide) (Nat.le_of_ble_eq_true rfl) ?_
  intro p e s m below meth c ls X hr htb hH hL hl
  have hx := X.1
  have hb := X.2.1
  have hts := X.2.2.2.2.1
  refine q_out hF ?_
  rw [F_X9_restore]
  replace hl : lv_has ls 2 [(0, .ref (adr g a0))] := hl
  refine lv_aload_n hx hb dX9_restore_0 rfl (lv_at hl 0 rfl) ?_
  refine lv_iconst (v := 0) hx hb dX9_restore_1 (by decide) ?_
  refine q_lt (fun M1 e_M1 => ?_)
  refine m_pI (k := 0) X hH hL okC9 t0 rfl rfl rfl rfl W1284 dX9_restore_2 e_M1 (fun H locs hH hL => ?_)
  refine lv_aload_n hx hb dX9_restore_5 rfl (lv_at hl 0 rfl) ?_
  refine m_gI (k := 8) X hH inC9 t0 rfl W1292 dX9_restore_6 ?_
  refine lv_if_ne (tgt := 18) hx hb dX9_restore_9 (by decide) (fun c2 => q_neg c2 ?_) (fun c2 => q_pos c2 ?_)
  · refine lv_iconst (v := 0) hx hb dX9_restore_18 (by decide) ?_
    refine lv_istore_n (lv' := [(1, .int 0), (0, .ref (adr g a0))]) hx hb dX9_restore_19 rfl hl (by decide) rfl (fun ls hl => ?_)
    have L13 : ∀ (K : Int32 → Mem → Option (Int32 × Mem)) (_ : ∀ (i3 : Int32) (M4 : Mem) (H : Heap) (locs : List Loc) (ls : Array Slot), HR g M4 H → LK g s H locs → lv_has ls 2 [(0, .ref (adr g a0)), (1, .int i3)] → W p l e (rmO (.inl v : Int32 ⊕ String) 1 21) s m ([.ref (adr g a0)] : List Value).toArray below meth c H locs 0 0 (GQ (K i3 M4) (v, M') (MQO g below rvI (.inl v : Int32 ⊕ String) M' ([.ref (adr g a0)] : List Value).toArray s)) (F0 m 45 ls [])) (n : Nat) (i3 : Int32) (M4 : Mem) (H : Heap) (locs : List Loc) (ls : Array Slot), HR g M4 H → LK g s H locs → lv_has ls 2 [(0, .ref (adr g a0)), (1, .int i3)] → W p l e (rmO (.inl v : Int32 ⊕ String) 1 21) s m ([.ref (adr g a0)] : List Value).toArray below meth c H locs 0 0 (GQ (F_X9_restore_L1 a0 K n i3 M4) (v, M') (MQO g below rvI (.inl v : Int32 ⊕ String) M' ([.ref (adr g a0)] : List Value).toArray s)) (F0 m 20 ls []) := by
      intro K hK n
      induction n with
      | zero => intros; exact q_none
      | succ n ih =>
        intro i3 M4 H locs ls hH hL hl 
        rw [F_X9_restore_L1]
        refine lv_iload_n hx hb dX9_restore_20 rfl (lv_at hl 1 rfl) ?_
        refine lv_sipush (v := 260) hx hb dX9_restore_21 (by decide) ?_
        refine lv_icmp_ge (tgt := 45) hx hb dX9_restore_24 (by decide) (fun c6 => q_pos c6 ?_) (fun c6 => q_neg c6 ?_)
        · exact hK i3 M4 _ _ ls hH hL hl 
        · refine lv_aload_n hx hb dX9_restore_27 rfl (lv_at hl 0 rfl) ?_
          refine m_gR (k := 1) X hH inC9 t0 rfl W1285 dX9_restore_28 24 rfl (fun t7 => ?_)
          refine lv_iload_n hx hb dX9_restore_31 rfl (lv_at hl 1 rfl) ?_
          refine lv_aload_n hx hb dX9_restore_32 rfl (lv_at hl 0 rfl) ?_
          refine m_gR (k := 3) X hH inC9 t0 rfl W1287 dX9_restore_33 24 rfl (fun t8 => ?_)
          refine lv_iload_n hx hb dX9_restore_36 rfl (lv_at hl 1 rfl) ?_
          refine q_chk (fun hb9 => ?_)
          refine m_iald X hH t8 rfl (by decide) (fun _ => rfl) rfl rfl hb9 dX9_restore_37 ?_
          refine q_chk (fun hb10 => ?_)
          refine q_lt (fun M11 e_M11 => ?_)
          refine m_is X hH hL t7 rfl (by decide) (fun _ => rfl) rfl rfl hb10 dX9_restore_38 e_M11 (fun H locs hH hL => ?_)
          refine q_lt (fun v12 e_v12 => ?_)
          refine lv_iinc (v := v12) (lv' := [(1, .int v12), (0, .ref (adr g a0))]) hx hb dX9_restore_39 hl (k := 1) rfl (by rw [e_v12]; rfl) (by decide) rfl (fun ls hl => ?_)
          refine lv_goto (tgt := 20) hx hb dX9_restore_42 (by decide) ?_
          exact ih v12 M11 _ _ ls hH hL (lv_sub hl [1, 0] rfl) 
    refine L13 _ (fun x14 M15 H locs ls hH hL hl  => ?_) 3000 0 M1 _ _ ls hH hL (lv_sub hl [1, 0] rfl) 
    refine lv_aload_n hx hb dX9_restore_45 rfl (lv_at hl 0 rfl) ?_
    refine lv_iconst (v := 0) hx hb dX9_restore_46 (by decide) ?_
    refine q_lt (fun M16 e_M16 => ?_)
    refine m_pI (k := 6) X hH hL okC9 t0 rfl rfl rfl rfl W1290 dX9_restore_47 e_M16 (fun H locs hH hL => ?_)
    refine lv_aload_n hx hb dX9_restore_50 rfl (lv_at hl 0 rfl) ?_
    refine lv_iconst (v := 0) hx hb dX9_restore_51 (by decide) ?_
    refine q_lt (fun M17 e_M17 => ?_)
    refine m_pI (k := 7) X hH hL okC9 t0 rfl rfl rfl rfl W1291 dX9_restore_52 e_M17 (fun H locs hH hL => ?_)
    refine lv_aload_n hx hb dX9_restore_55 rfl (lv_at hl 0 rfl) ?_
    refine m_gR (k := 1) X hH inC9 t0 rfl W1285 dX9_restore_56 24 rfl (fun t18 => ?_)
    refine lv_iconst (v := 0) hx hb dX9_restore_59 (by decide) ?_
    refine q_chk (fun hb19 => ?_)
    refine m_iald X hH t18 rfl (by decide) (fun _ => rfl) rfl rfl hb19 dX9_restore_60 ?_
    exact q_end1 (m_iret X hr hH hL dX9_restore_61)
  · refine lv_aload_n hx hb dX9_restore_12 rfl (lv_at hl 0 rfl) ?_
    refine lv_iconst (v := 1) hx hb dX9_restore_13 (by decide) ?_
    refine q_b1 (fun v21 M22 e20 => ?_)
    refine my_doneI hL (my_runV X hH hl.1 (co_X9_fails g l hst a0 1 M1 t0 v21 M22 e20) ok_X9_fails W1356 t0 rfl (by decide) rfl rfl rfl ⟨Nat.le_of_ble_eq_true rfl, Nat.le_of_ble_eq_true rfl⟩ ⟨Nat.zero_le _, Nat.zero_le _⟩ (Nat.le_of_ble_eq_true rfl) dX9_restore_14) (fun H locs hH hL => ?_)
    exact q_end1 (m_iret X hr hH hL dX9_restore_17)

