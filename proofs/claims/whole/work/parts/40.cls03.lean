set_option maxRecDepth 20000 in
set_option maxHeartbeats 4000000 in
theorem co_X8_columnVolumeByTransposing (g : GP) (l : Launch) (hst : l.stackTraces = false) (a0 : Nat) (p1_ : Int32) (p2_ : Int32) (M : Mem) (t0 : tyT a0 = 8) (o : Int32 ⊕ String) (M' : Mem) (hF : F_X8_columnVolumeByTransposing a0 p1_ p2_ M = some (o, M')) : CO g l yX8_columnVolumeByTransposing cX8_columnVolumeByTransposing 3 (some .int) 8 244 rvI [.ref (adr g a0), .int p1_, .int p2_] M o M' := by
  refine CO_of hst (by decide) (Nat.le_of_ble_eq_true rfl) ?_
  intro p e s m below meth c ls X hr htb hH hL hl
  have hx := X.1
  have hb := X.2.1
  have hts := X.2.2.2.2.1
  refine q_out hF ?_
  rw [F_X8_columnVolumeByTransposing]
  replace hl : lv_has ls 3 [(0, .ref (adr g a0)), (1, .int p1_), (2, .int p2_)] := hl
  refine lv_aload_n hx hb dX8_columnVolumeByTransposing_0 rfl (lv_at hl 0 rfl) ?_
  refine m_gR (k := 5) X hH inC8 t0 rfl W284 dX8_columnVolumeByTransposing_1 4 rfl (fun t1 => ?_)
  refine lv_aload_n hx hb dX8_columnVolumeByTransposing_4 rfl (lv_at hl 0 rfl) ?_
  refine lv_iload_n hx hb dX8_columnVolumeByTransposing_5 rfl (lv_at hl 1 rfl) ?_
  refine lv_iload_n hx hb dX8_columnVolumeByTransposing_6 rfl (lv_at hl 2 rfl) ?_
  refine q_bx2 (fun q3 M4 e2 => ?_) (fun E5 M4 e2 => my_thrown X.2.2.2.2.2.2.1 htb hL (my_runV X hH hl.1 (co_X8_sectionWithColumn g l hst a0 p1_ p2_ M t0 (.inr E5) M4 e2) ok_X8_sectionWithColumn W609 t0 rfl (by decide) rfl rfl rfl ⟨Nat.le_of_ble_eq_true rfl, Nat.le_of_ble_eq_true rfl⟩ ⟨Nat.le_refl _, Nat.le_refl _⟩ (Nat.le_of_ble_eq_true rfl) dX8_columnVolumeByTransposing_7))
  refine my_doneR hL (my_runV X hH hl.1 (co_X8_sectionWithColumn g l hst a0 p1_ p2_ M t0 (.inl q3) M4 e2) ok_X8_sectionWithColumn W609 t0 rfl (by decide) rfl rfl rfl ⟨Nat.le_of_ble_eq_true rfl, Nat.le_of_ble_eq_true rfl⟩ ⟨Nat.zero_le _, Nat.zero_le _⟩ (Nat.le_of_ble_eq_true rfl) dX8_columnVolumeByTransposing_7) (fun H locs hH hL => ?_)
  refine q_chk (fun hk6 => ?_)
  refine q_b1 (fun u8 M9 e7 => ?_)
  refine my_doneU hL (my_runV X hH hl.1 (co_X4_copyFrom g l hst (mR M a0 5) q3 M4 t1 (Nat.eq_of_beq_eq_true hk6) u8 M9 e7) ok_X4_copyFrom W623 t1 rfl (by decide) rfl rfl rfl ⟨Nat.le_of_ble_eq_true rfl, Nat.le_of_ble_eq_true rfl⟩ ⟨Nat.zero_le _, Nat.zero_le _⟩ (Nat.le_of_ble_eq_true rfl) dX8_columnVolumeByTransposing_10) (fun H locs hH hL => ?_)
  refine lv_aload_n hx hb dX8_columnVolumeByTransposing_13 rfl (lv_at hl 0 rfl) ?_
  refine m_gR (k := 5) X hH inC8 t0 rfl W284 dX8_columnVolumeByTransposing_14 4 rfl (fun t10 => ?_)
  refine q_b1 (fun u12 M13 e11 => ?_)
  refine my_doneU hL (my_runV X hH hl.1 (co_X4_flip g l hst (mR M9 a0 5) M9 t10 u12 M13 e11) ok_X4_flip W624 t10 rfl (by decide) rfl rfl rfl ⟨Nat.le_of_ble_eq_true rfl, Nat.le_of_ble_eq_true rfl⟩ ⟨Nat.zero_le _, Nat.zero_le _⟩ (Nat.le_of_ble_eq_true rfl) dX8_columnVolumeByTransposing_17) (fun H locs hH hL => ?_)
  refine lv_aload_n hx hb dX8_columnVolumeByTransposing_20 rfl (lv_at hl 0 rfl) ?_
  refine m_gR (k := 5) X hH inC8 t0 rfl W284 dX8_columnVolumeByTransposing_21 4 rfl (fun t14 => ?_)
  refine lv_iload_n hx hb dX8_columnVolumeByTransposing_24 rfl (lv_at hl 2 rfl) ?_
  refine q_bind (fun v16 e15 => ?_)
  refine my_doneI hL (my_runV X hH hl.1 (co_X4_volumeOfRow g l hst (mR M13 a0 5) p2_ M13 t14 v16 e15) ok_X4_volumeOfRow W628 t14 rfl (by decide) rfl rfl rfl ⟨Nat.le_of_ble_eq_true rfl, Nat.le_of_ble_eq_true rfl⟩ ⟨Nat.zero_le _, Nat.zero_le _⟩ (Nat.le_of_ble_eq_true rfl) dX8_columnVolumeByTransposing_25) (fun H locs hH hL => ?_)
  exact q_end2 (m_iret X hr hH hL dX8_columnVolumeByTransposing_28)

set_option maxRecDepth 20000 in
set_option maxHeartbeats 4000000 in
theorem co_X4_volumeIn (g : GP) (l : Launch) (hst : l.stackTraces = false) (a0 : Nat) (p1_ : Int32) (M : Mem) (t0 : tyT a0 = 4) (v : Int32) (hF : F_X4_volumeIn a0 p1_ M = some v) : CO g l yX4_volumeIn cX4_volumeIn 3 (some .int) 2 44 rvI [.ref (adr g a0), .int p1_] M (.inl v : Int32 ⊕ String) M := by
  refine CO_of hst (by decide) (Nat.le_of_ble_eq_true rfl) ?_
  intro p e s m below meth c ls X hr htb hH hL hl
  have hx := X.1
  have hb := X.2.1
  have hts := X.2.2.2.2.1
  refine q_out hF ?_
  rw [F_X4_volumeIn]
  replace hl : lv_has ls 3 [(0, .ref (adr g a0)), (1, .int p1_)] := hl
  refine lv_aload_n hx hb dX4_volumeIn_0 rfl (lv_at hl 0 rfl) ?_
  refine lv_iload_n hx hb dX4_volumeIn_1 rfl (lv_at hl 1 rfl) ?_
  refine q_bind (fun v2 e1 => ?_)
  refine my_doneI hL (my_runV X hH hl.1 (co_X4_columnIn g l hst a0 p1_ M t0 v2 e1) ok_X4_columnIn W547 t0 rfl (by decide) rfl rfl rfl ⟨Nat.le_of_ble_eq_true rfl, Nat.le_of_ble_eq_true rfl⟩ ⟨Nat.zero_le _, Nat.zero_le _⟩ (Nat.le_of_ble_eq_true rfl) dX4_volumeIn_2) (fun H locs hH hL => ?_)
  refine lv_istore_n (lv' := [(2, .int v2), (0, .ref (adr g a0)), (1, .int p1_)]) hx hb dX4_volumeIn_5 rfl hl (by decide) rfl (fun ls hl => ?_)
  refine lv_aload_n hx hb dX4_volumeIn_6 rfl (lv_at hl 1 rfl) ?_
  refine m_gI (k := 6) X hH inC4 t0 rfl W133 dX4_volumeIn_7 ?_
  refine lv_if_gt (tgt := 21) hx hb dX4_volumeIn_10 (by decide) (fun c3 => q_pos c3 ?_) (fun c3 => q_neg c3 ?_)
  · refine lv_iconst (v := 0) hx hb dX4_volumeIn_21 (by decide) ?_
    refine lv_goto (tgt := 30) hx hb dX4_volumeIn_22 (by decide) ?_
    exact q_end0 (m_iret X hr hH hL dX4_volumeIn_30)
  · refine lv_aload_n hx hb dX4_volumeIn_13 rfl (lv_at hl 1 rfl) ?_
    refine lv_iload_n hx hb dX4_volumeIn_14 rfl (lv_at hl 0 rfl) ?_
    refine q_bind (fun v5 e4 => ?_)
    refine my_doneI hL (my_runV X hH hl.1 (co_X4_masks g l hst a0 v2 M t0 v5 e4) ok_X4_masks W548 t0 rfl (by decide) rfl rfl rfl ⟨Nat.le_of_ble_eq_true rfl, Nat.le_of_ble_eq_true rfl⟩ ⟨Nat.zero_le _, Nat.zero_le _⟩ (Nat.le_of_ble_eq_true rfl) dX4_volumeIn_15) (fun H locs hH hL => ?_)
    refine lv_if_eq (tgt := 25) hx hb dX4_volumeIn_18 (by decide) (fun c6 => q_pos c6 ?_) (fun c6 => q_neg c6 ?_)
    · refine lv_aload_n hx hb dX4_volumeIn_25 rfl (lv_at hl 1 rfl) ?_
      refine lv_iload_n hx hb dX4_volumeIn_26 rfl (lv_at hl 0 rfl) ?_
      refine q_bind (fun v8 e7 => ?_)
      refine my_doneI hL (my_runV X hH hl.1 (co_X4_volumeOfColumn g l hst a0 v2 M t0 v8 e7) ok_X4_volumeOfColumn W549 t0 rfl (by decide) rfl rfl rfl ⟨Nat.le_of_ble_eq_true rfl, Nat.le_of_ble_eq_true rfl⟩ ⟨Nat.zero_le _, Nat.zero_le _⟩ (Nat.le_of_ble_eq_true rfl) dX4_volumeIn_27) (fun H locs hH hL => ?_)
      exact q_end0 (m_iret X hr hH hL dX4_volumeIn_30)
    · refine lv_iconst (v := 0) hx hb dX4_volumeIn_21 (by decide) ?_
      refine lv_goto (tgt := 30) hx hb dX4_volumeIn_22 (by decide) ?_
      exact q_end0 (m_iret X hr hH hL dX4_volumeIn_30)

set_option maxRecDepth 20000 in
set_option maxHeartbeats 4000000 in
theorem co_X8_nextVolume (g : GP) (l : Launch) (hst : l.stackTraces = false) (a0 : Nat) (p1_ : Int32) (M : Mem) (t0 : tyT a0 = 8) (o : Int32 ⊕ String) (M' : Mem) (hF : F_X8_nextVolume a0 p1_ M = some (o, M')) : CO g l yX8_nextVolume cX8_nextVolume 2 (some .int) 7 221 rvI [.ref (adr g a0), .int p1_] M o M' := by
  refine CO_of hst (by decide) (Nat.le_of_ble_eq_true rfl) ?_
  intro p e s m below meth c ls X hr htb hH hL hl
  have hx := X.1
  have hb := X.2.1
  have hts := X.2.2.2.2.1
  refine q_out hF ?_
  rw [F_X8_nextVolume]
  replace hl : lv_has ls 2 [(0, .ref (adr g a0)), (1, .int p1_)] := hl
  refine lv_aload_n hx hb dX8_nextVolume_0 rfl (lv_at hl 0 rfl) ?_
  refine lv_iload_n hx hb dX8_nextVolume_1 rfl (lv_at hl 1 rfl) ?_
  refine q_bx2 (fun q2 M3 e1 => ?_) (fun E4 M3 e1 => my_thrown X.2.2.2.2.2.2.1 htb hL (my_runV X hH hl.1 (co_X8_presentSection g l hst a0 p1_ M t0 (.inr E4) M3 e1) ok_X8_presentSection W534 t0 rfl (by decide) rfl rfl rfl ⟨Nat.le_of_ble_eq_true rfl, Nat.le_of_ble_eq_true rfl⟩ ⟨Nat.le_refl _, Nat.le_refl _⟩ (Nat.le_of_ble_eq_true rfl) dX8_nextVolume_2))
  refine my_doneR hL (my_runV X hH hl.1 (co_X8_presentSection g l hst a0 p1_ M t0 (.inl q2) M3 e1) ok_X8_presentSection W534 t0 rfl (by decide) rfl rfl rfl ⟨Nat.le_of_ble_eq_true rfl, Nat.le_of_ble_eq_true rfl⟩ ⟨Nat.zero_le _, Nat.zero_le _⟩ (Nat.le_of_ble_eq_true rfl) dX8_nextVolume_2) (fun H locs hH hL => ?_)
  refine q_chk (fun hk5 => ?_)
  refine lv_aload_n hx hb dX8_nextVolume_5 rfl (lv_at hl 0 rfl) ?_
  refine m_gR (k := 0) X hH inC8 t0 rfl W279 dX8_nextVolume_6 5 rfl (fun t6 => ?_)
  refine m_gI (k := 4) X hH inC5 t6 rfl W166 dX8_nextVolume_9 ?_
  refine q_bind (fun v8 e7 => ?_)
  refine my_doneI hL (my_runV X hH hl.1 (co_X4_volumeIn g l hst q2 (mI M3 (mR M3 a0 0) 4) M3 (Nat.eq_of_beq_eq_true hk5) v8 e7) ok_X4_volumeIn W543 (Nat.eq_of_beq_eq_true hk5) rfl (by decide) rfl rfl rfl ⟨Nat.le_of_ble_eq_true rfl, Nat.le_of_ble_eq_true rfl⟩ ⟨Nat.zero_le _, Nat.zero_le _⟩ (Nat.le_of_ble_eq_true rfl) dX8_nextVolume_12) (fun H locs hH hL => ?_)
  exact q_end2 (m_iret X hr hH hL dX8_nextVolume_15)

set_option maxRecDepth 20000 in
set_option maxHeartbeats 4000000 in
theorem co_X8_nextTotal (g : GP) (l : Launch) (hst : l.stackTraces = false) (a0 : Nat) (M : Mem) (t0 : tyT a0 = 8) (o : Int32 ⊕ String) (M' : Mem) (hF : F_X8_nextTotal a0 M = some (o, M')) : CO g l yX8_nextTotal cX8_nextTotal 3 (some .int) 8 242 rvI [.ref (adr g a0)] M o M' := by
  refine CO_of hst (by decide) (Nat.le_of_ble_eq_true rfl) ?_
  intro p e s m below meth c ls X hr htb hH hL hl
  have hx := X.1
  have hb := X.2.1
  have hts := X.2.2.2.2.1
  refine q_out hF ?_
  rw [F_X8_nextTotal]
  replace hl : lv_has ls 3 [(0, .ref (adr g a0))] := hl
  refine lv_iconst (v := 0) hx hb dX8_nextTotal_0 (by decide) ?_
  refine lv_istore_n (lv' := [(1, .int 0), (0, .ref (adr g a0))]) hx hb dX8_nextTotal_1 rfl hl (by decide) rfl (fun ls hl => ?_)
  refine lv_iconst (v := 0) hx hb dX8_nextTotal_2 (by decide) ?_
  refine lv_istore_n (lv' := [(2, .int 0), (1, .int 0), (0, .ref (adr g a0))]) hx hb dX8_nextTotal_3 rfl hl (by decide) rfl (fun ls hl => ?_)
  have L13 : ∀ (K : Int32 → Int32 → Mem → Option ((Int32 ⊕ String) × Mem)) (_ : ∀ (i1 : Int32) (i2 : Int32) (M3 : Mem) (H : Heap) (locs : List Loc) (ls : Array Slot), HR g M3 H → LK g s H locs → lv_has ls 3 [(0, .ref (adr g a0)), (1, .int i1), (2, .int i2)] → W p l e (rmO o 8 242) s m ([.ref (adr g a0)] : List Value).toArray below meth c H locs 0 0 (GQ (K i1 i2 M3) (o, M') (MQO g below rvI o M' ([.ref (adr g a0)] : List Value).toArray s)) (F0 m 29 ls [])) (n : Nat) (i1 : Int32) (i2 : Int32) (M3 : Mem) (H : Heap) (locs : List Loc) (ls : Array Slot), HR g M3 H → LK g s H locs → lv_has ls 3 [(0, .ref (adr g a0)), (1, .int i1), (2, .int i2)] → W p l e (rmO o 8 242) s m ([.ref (adr g a0)] : List Value).toArray below meth c H locs 0 0 (GQ (F_X8_nextTotal_L1 a0 K n i1 i2 M3) (o, M') (MQO g below rvI o M' ([.ref (adr g a0)] : List Value).toArray s)) (F0 m 4 ls []) := by
    intro K hK n
    induction n with
    | zero => intros; exact q_none
    | succ n ih =>
      intro i1 i2 M3 H locs ls hH hL hl 
      rw [F_X8_nextTotal_L1]
      refine lv_iload_n hx hb dX8_nextTotal_4 rfl (lv_at hl 2 rfl) ?_
      refine lv_aload_n hx hb dX8_nextTotal_5 rfl (lv_at hl 0 rfl) ?_
      refine m_gR (k := 0) X hH inC8 t0 rfl W279 dX8_nextTotal_6 5 rfl (fun t5 => ?_)
      refine m_gI (k := 1) X hH inC5 t5 rfl W160 dX8_nextTotal_9 ?_
      refine lv_icmp_ge (tgt := 29) hx hb dX8_nextTotal_12 (by decide) (fun c6 => q_pos c6 ?_) (fun c6 => q_neg c6 ?_)
      · exact hK i1 i2 M3 _ _ ls hH hL hl 
      · refine lv_iload_n hx hb dX8_nextTotal_15 rfl (lv_at hl 1 rfl) ?_
        refine lv_aload_n hx hb dX8_nextTotal_16 rfl (lv_at hl 0 rfl) ?_
        refine lv_iload_n hx hb dX8_nextTotal_17 rfl (lv_at hl 2 rfl) ?_
        refine q_bx2 (fun v8 M9 e7 => ?_) (fun E10 M9 e7 => my_thrown X.2.2.2.2.2.2.1 htb hL (my_runV X hH hl.1 (co_X8_nextVolume g l hst a0 i2 M3 t0 (.inr E10) M9 e7) ok_X8_nextVolume W530 t0 rfl (by decide) rfl rfl rfl ⟨Nat.le_of_ble_eq_true rfl, Nat.le_of_ble_eq_true rfl⟩ ⟨Nat.le_refl _, Nat.le_refl _⟩ (Nat.le_of_ble_eq_true rfl) dX8_nextTotal_18))
        refine my_doneI hL (my_runV X hH hl.1 (co_X8_nextVolume g l hst a0 i2 M3 t0 (.inl v8) M9 e7) ok_X8_nextVolume W530 t0 rfl (by decide) rfl rfl rfl ⟨Nat.le_of_ble_eq_true rfl, Nat.le_of_ble_eq_true rfl⟩ ⟨Nat.zero_le _, Nat.zero_le _⟩ (Nat.le_of_ble_eq_true rfl) dX8_nextTotal_18) (fun H locs hH hL => ?_)
        refine lv_iadd hx hb dX8_nextTotal_21 ?_
        refine q_lt (fun v11 e_v11 => ?_)
        refine q_topI e_v11 ?_
        refine lv_istore_n (lv' := [(1, .int v11), (0, .ref (adr g a0)), (2, .int i2)]) hx hb dX8_nextTotal_22 rfl hl (by decide) rfl (fun ls hl => ?_)
        refine q_lt (fun v12 e_v12 => ?_)
        refine lv_iinc (v := v12) (lv' := [(2, .int v12), (1, .int v11), (0, .ref (adr g a0))]) hx hb dX8_nextTotal_23 hl (k := 2) rfl (by rw [e_v12]; rfl) (by decide) rfl (fun ls hl => ?_)
        refine lv_goto (tgt := 4) hx hb dX8_nextTotal_26 (by decide) ?_
        exact ih v11 v12 M9 _ _ ls hH hL (lv_sub hl [2, 1, 0] rfl) 
  refine L13 _ (fun x14 x15 M16 H locs ls hH hL hl  => ?_) 3000 0 0 M _ _ ls hH hL (lv_sub hl [2, 1, 0] rfl) 
  refine lv_iload_n hx hb dX8_nextTotal_29 rfl (lv_at hl 1 rfl) ?_
  exact q_end2 (m_iret X hr hH hL dX8_nextTotal_30)

set_option maxRecDepth 20000 in
set_option maxHeartbeats 4000000 in
theorem co_X8_greatestCommonDivisor (g : GP) (l : Launch) (hst : l.stackTraces = false) (p1_ : Int32) (p2_ : Int32) (M : Mem)  (v : Int32) (hF : F_X8_greatestCommonDivisor p1_ p2_ = some v) : CO g l yX8_greatestCommonDivisor cX8_greatestCommonDivisor 6 (some .int) 0 0 rvI [.int p1_, .int p2_] M (.inl v : Int32 ⊕ String) M := by
  refine CO_of hst (by decide) (Nat.le_of_ble_eq_true rfl) ?_
  intro p e s m below meth c ls X hr htb hH hL hl
  have hx := X.1
  have hb := X.2.1
  have hts := X.2.2.2.2.1
  refine q_out hF ?_
  rw [F_X8_greatestCommonDivisor]
  replace hl : lv_has ls 6 [(0, .int p1_), (1, .int p2_)] := hl
  refine lv_iload_n hx hb dX8_greatestCommonDivisor_0 rfl (lv_at hl 0 rfl) ?_
  refine lv_istore_n (lv' := [(2, .int p1_), (0, .int p1_), (1, .int p2_)]) hx hb dX8_greatestCommonDivisor_1 rfl hl (by decide) rfl (fun ls hl => ?_)
  refine lv_iload_n hx hb dX8_greatestCommonDivisor_2 rfl (lv_at hl 2 rfl) ?_
  refine lv_istore_n (lv' := [(3, .int p2_), (2, .int p1_), (0, .int p1_), (1, .int p2_)]) hx hb dX8_greatestCommonDivisor_3 rfl hl (by decide) rfl (fun ls hl => ?_)
  refine lv_iconst (v := 0) hx hb dX8_greatestCommonDivisor_4 (by decide) ?_
  refine lv_istore (lv' := [(4, .int 0), (3, .int p2_), (2, .int p1_), (0, .int p1_), (1, .int p2_)]) hx hb dX8_greatestCommonDivisor_5 hl (by decide) rfl (fun ls hl => ?_)
  have L10 : ∀ (K : Int32 → Int32 → Int32 → Option Int32) (_ : ∀ (i1 : Int32) (i2 : Int32) (i3 : Int32) (H : Heap) (locs : List Loc) (ls : Array Slot), HR g M H → LK g s H locs → lv_has ls 6 [(0, .int p1_), (1, .int p2_), (2, .int i1), (3, .int i2), (4, .int i3)] → W p l e (rmO (.inl v : Int32 ⊕ String) 0 0) s m ([.int p1_, .int p2_] : List Value).toArray below meth c H locs 0 0 (GQ (K i1 i2 i3) v (MQO g below rvI (.inl v : Int32 ⊕ String) M ([.int p1_, .int p2_] : List Value).toArray s)) (F0 m 34 ls [])) (n : Nat) (i1 : Int32) (i2 : Int32) (i3 : Int32) (H : Heap) (locs : List Loc) (ls : Array Slot), HR g M H → LK g s H locs → lv_has ls 6 [(0, .int p1_), (1, .int p2_), (2, .int i1), (3, .int i2), (4, .int i3)] → W p l e (rmO (.inl v : Int32 ⊕ String) 0 0) s m ([.int p1_, .int p2_] : List Value).toArray below meth c H locs 0 0 (GQ (F_X8_greatestCommonDivisor_L1 K n i1 i2 i3) v (MQO g below rvI (.inl v : Int32 ⊕ String) M ([.int p1_, .int p2_] : List Value).toArray s)) (F0 m 7 ls []) := by
    intro K hK n
    induction n with
    | zero => intros; exact q_none
    | succ n ih =>
      intro i1 i2 i3 H locs ls hH hL hl 
      rw [F_X8_greatestCommonDivisor_L1]
      refine lv_iload hx hb dX8_greatestCommonDivisor_7 (lv_at hl 4 rfl) ?_
      refine lv_bipush (v := 100) hx hb dX8_greatestCommonDivisor_9 (by decide) ?_
      refine lv_icmp_ge (tgt := 34) hx hb dX8_greatestCommonDivisor_11 (by decide) (fun c5 => q_pos c5 ?_) (fun c5 => q_neg c5 ?_)
      · exact hK i1 i2 i3 _ _ ls hH hL hl 
      · refine lv_iload_n hx hb dX8_greatestCommonDivisor_14 rfl (lv_at hl 3 rfl) ?_
        refine lv_if_eq (tgt := 34) hx hb dX8_greatestCommonDivisor_15 (by decide) (fun c6 => q_pos c6 ?_) (fun c6 => q_neg c6 ?_)
        · exact hK i1 i2 i3 _ _ ls hH hL hl 
        · refine lv_iload_n hx hb dX8_greatestCommonDivisor_18 rfl (lv_at hl 2 rfl) ?_
          refine lv_iload_n hx hb dX8_greatestCommonDivisor_19 rfl (lv_at hl 3 rfl) ?_
          refine q_chk (fun hz7 => ?_)
          refine lv_irem hx hb dX8_greatestCommonDivisor_20 (nz_n hz7) ?_
          refine q_lt (fun v8 e_v8 => ?_)
          refine q_topI e_v8 ?_
          refine lv_istore (lv' := [(5, .int v8), (0, .int p1_), (1, .int p2_), (2, .int i1), (3, .int i2), (4, .int i3)]) hx hb dX8_greatestCommonDivisor_21 hl (by decide) rfl (fun ls hl => ?_)
          refine lv_iload_n hx hb dX8_greatestCommonDivisor_23 rfl (lv_at hl 4 rfl) ?_
          refine lv_istore_n (lv' := [(2, .int i2), (5, .int v8), (0, .int p1_), (1, .int p2_), (3, .int i2), (4, .int i3)]) hx hb dX8_greatestCommonDivisor_24 rfl hl (by decide) rfl (fun ls hl => ?_)
          refine lv_iload hx hb dX8_greatestCommonDivisor_25 (lv_at hl 1 rfl) ?_
          refine lv_istore_n (lv' := [(3, .int v8), (2, .int i2), (5, .int v8), (0, .int p1_), (1, .int p2_), (4, .int i3)]) hx hb dX8_greatestCommonDivisor_27 rfl hl (by decide) rfl (fun ls hl => ?_)
          refine q_lt (fun v9 e_v9 => ?_)
          refine lv_iinc (v := v9) (lv' := [(4, .int v9), (3, .int v8), (2, .int i2), (5, .int v8), (0, .int p1_), (1, .int p2_)]) hx hb dX8_greatestCommonDivisor_28 hl (k := 5) rfl (by rw [e_v9]; rfl) (by decide) rfl (fun ls hl => ?_)
          refine lv_goto (tgt := 7) hx hb dX8_greatestCommonDivisor_31 (by decide) ?_
          exact ih i2 v8 v9 _ _ ls hH hL (lv_sub hl [4, 5, 2, 1, 0] rfl) 
  refine L10 _ (fun x11 x12 x13 H locs ls hH hL hl  => ?_) 3000 p1_ p2_ 0 _ _ ls hH hL (lv_sub hl [3, 4, 2, 1, 0] rfl) 
  refine lv_iload_n hx hb dX8_greatestCommonDivisor_34 rfl (lv_at hl 2 rfl) ?_
  exact q_end0 (m_iret X hr hH hL dX8_greatestCommonDivisor_35)

set_option maxRecDepth 20000 in
set_option maxHeartbeats 4000000 in
theorem co_X8_leastCommonMultiple (g : GP) (l : Launch) (hst : l.stackTraces = false) (p1_ : Int32) (p2_ : Int32) (M : Mem)  (v : Int32) (hF : F_X8_leastCommonMultiple p1_ p2_ = some v) : CO g l yX8_leastCommonMultiple cX8_leastCommonMultiple 3 (some .int) 1 25 rvI [.int p1_, .int p2_] M (.inl v : Int32 ⊕ String) M := by
  refine CO_of hst (by decide) (Nat.le_of_ble_eq_true rfl) ?_
  intro p e s m below meth c ls X hr htb hH hL hl
  have hx := X.1
  have hb := X.2.1
  have hts := X.2.2.2.2.1
  refine q_out hF ?_
  rw [F_X8_leastCommonMultiple]
  replace hl : lv_has ls 3 [(0, .int p1_), (1, .int p2_)] := hl
  refine lv_iload_n hx hb dX8_leastCommonMultiple_0 rfl (lv_at hl 0 rfl) ?_
  refine lv_iload_n hx hb dX8_leastCommonMultiple_1 rfl (lv_at hl 1 rfl) ?_
  refine q_bind (fun v2 e1 => ?_)
  refine my_doneI hL (my_runS X hH hl.1 (co_X8_greatestCommonDivisor g l hst p1_ p2_ M v2 e1) ok_X8_greatestCommonDivisor W561 rfl rfl ⟨Nat.le_of_ble_eq_true rfl, Nat.le_of_ble_eq_true rfl⟩ ⟨Nat.zero_le _, Nat.zero_le _⟩ (Nat.le_of_ble_eq_true rfl) dX8_leastCommonMultiple_2) (fun H locs hH hL => ?_)
  refine lv_istore_n (lv' := [(2, .int v2), (0, .int p1_), (1, .int p2_)]) hx hb dX8_leastCommonMultiple_5 rfl hl (by decide) rfl (fun ls hl => ?_)
  refine lv_iload_n hx hb dX8_leastCommonMultiple_6 rfl (lv_at hl 0 rfl) ?_
  refine lv_if_ne (tgt := 14) hx hb dX8_leastCommonMultiple_7 (by decide) (fun c3 => q_neg c3 ?_) (fun c3 => q_pos c3 ?_)
  · refine lv_iload_n hx hb dX8_leastCommonMultiple_14 rfl (lv_at hl 1 rfl) ?_
    refine lv_iload_n hx hb dX8_leastCommonMultiple_15 rfl (lv_at hl 0 rfl) ?_
    refine q_chk (fun hz4 => ?_)
    refine lv_idiv hx hb dX8_leastCommonMultiple_16 (nz_n hz4) ?_
    refine lv_iload_n hx hb dX8_leastCommonMultiple_17 rfl (lv_at hl 2 rfl) ?_
    refine lv_imul hx hb dX8_leastCommonMultiple_18 ?_
    exact q_end0 (m_iret X hr hH hL dX8_leastCommonMultiple_19)
  · refine lv_iconst (v := 0) hx hb dX8_leastCommonMultiple_10 (by decide) ?_
    refine lv_goto (tgt := 19) hx hb dX8_leastCommonMultiple_11 (by decide) ?_
    exact q_end0 (m_iret X hr hH hL dX8_leastCommonMultiple_19)

set_option maxRecDepth 20000 in
set_option maxHeartbeats 4000000 in
theorem co_X8_period (g : GP) (l : Launch) (hst : l.stackTraces = false) (a0 : Nat) (M : Mem) (t0 : tyT a0 = 8) (o : Int32 ⊕ String) (M' : Mem) (hF : F_X8_period a0 M = some (o, M')) : CO g l yX8_period cX8_period 3 (some .int) 8 242 rvI [.ref (adr g a0)] M o M' := by
  refine CO_of hst (by decide) (Nat.le_of_ble_eq_true rfl) ?_
  intro p e s m below meth c ls X hr htb hH hL hl
  have hx := X.1
  have hb := X.2.1
  have hts := X.2.2.2.2.1
  refine q_out hF ?_
  rw [F_X8_period]
  replace hl : lv_has ls 3 [(0, .ref (adr g a0))] := hl
  refine lv_iconst (v := 1) hx hb dX8_period_0 (by decide) ?_
  refine lv_istore_n (lv' := [(1, .int 1), (0, .ref (adr g a0))]) hx hb dX8_period_1 rfl hl (by decide) rfl (fun ls hl => ?_)
  refine lv_iconst (v := 0) hx hb dX8_period_2 (by decide) ?_
  refine lv_istore_n (lv' := [(2, .int 0), (1, .int 1), (0, .ref (adr g a0))]) hx hb dX8_period_3 rfl hl (by decide) rfl (fun ls hl => ?_)
  have L14 : ∀ (K : Int32 → Int32 → Mem → Option ((Int32 ⊕ String) × Mem)) (_ : ∀ (i1 : Int32) (i2 : Int32) (M3 : Mem) (H : Heap) (locs : List Loc) (ls : Array Slot), HR g M3 H → LK g s H locs → lv_has ls 3 [(0, .ref (adr g a0)), (1, .int i1), (2, .int i2)] → W p l e (rmO o 8 242) s m ([.ref (adr g a0)] : List Value).toArray below meth c H locs 0 0 (GQ (K i1 i2 M3) (o, M') (MQO g below rvI o M' ([.ref (adr g a0)] : List Value).toArray s)) (F0 m 31 ls [])) (n : Nat) (i1 : Int32) (i2 : Int32) (M3 : Mem) (H : Heap) (locs : List Loc) (ls : Array Slot), HR g M3 H → LK g s H locs → lv_has ls 3 [(0, .ref (adr g a0)), (1, .int i1), (2, .int i2)] → W p l e (rmO o 8 242) s m ([.ref (adr g a0)] : List Value).toArray below meth c H locs 0 0 (GQ (F_X8_period_L1 a0 K n i1 i2 M3) (o, M') (MQO g below rvI o M' ([.ref (adr g a0)] : List Value).toArray s)) (F0 m 4 ls []) := by
    intro K hK n
    induction n with
    | zero => intros; exact q_none
    | succ n ih =>
      intro i1 i2 M3 H locs ls hH hL hl 
      rw [F_X8_period_L1]
      refine lv_iload_n hx hb dX8_period_4 rfl (lv_at hl 2 rfl) ?_
      refine lv_aload_n hx hb dX8_period_5 rfl (lv_at hl 0 rfl) ?_
      refine m_gR (k := 0) X hH inC8 t0 rfl W279 dX8_period_6 5 rfl (fun t5 => ?_)
      refine m_gI (k := 1) X hH inC5 t5 rfl W160 dX8_period_9 ?_
      refine lv_icmp_ge (tgt := 31) hx hb dX8_period_12 (by decide) (fun c6 => q_pos c6 ?_) (fun c6 => q_neg c6 ?_)
      · exact hK i1 i2 M3 _ _ ls hH hL hl 
      · refine lv_iload_n hx hb dX8_period_15 rfl (lv_at hl 1 rfl) ?_
        refine lv_aload_n hx hb dX8_period_16 rfl (lv_at hl 0 rfl) ?_
        refine lv_iload_n hx hb dX8_period_17 rfl (lv_at hl 2 rfl) ?_
        refine q_bx2 (fun v8 M9 e7 => ?_) (fun E10 M9 e7 => my_thrown X.2.2.2.2.2.2.1 htb hL (my_runV X hH hl.1 (co_X8_columns g l hst a0 i2 M3 t0 (.inr E10) M9 e7) ok_X8_columns W554 t0 rfl (by decide) rfl rfl rfl ⟨Nat.le_of_ble_eq_true rfl, Nat.le_of_ble_eq_true rfl⟩ ⟨Nat.le_refl _, Nat.le_refl _⟩ (Nat.le_of_ble_eq_true rfl) dX8_period_18))
        refine my_doneI hL (my_runV X hH hl.1 (co_X8_columns g l hst a0 i2 M3 t0 (.inl v8) M9 e7) ok_X8_columns W554 t0 rfl (by decide) rfl rfl rfl ⟨Nat.le_of_ble_eq_true rfl, Nat.le_of_ble_eq_true rfl⟩ ⟨Nat.zero_le _, Nat.zero_le _⟩ (Nat.le_of_ble_eq_true rfl) dX8_period_18) (fun H locs hH hL => ?_)
        refine q_bind (fun v12 e11 => ?_)
        refine my_doneI hL (my_runS X hH hl.1 (co_X8_leastCommonMultiple g l hst i1 v8 M9 v12 e11) ok_X8_leastCommonMultiple W558 rfl rfl ⟨Nat.le_of_ble_eq_true rfl, Nat.le_of_ble_eq_true rfl⟩ ⟨Nat.zero_le _, Nat.zero_le _⟩ (Nat.le_of_ble_eq_true rfl) dX8_period_21) (fun H locs hH hL => ?_)
        refine lv_istore_n (lv' := [(1, .int v12), (0, .ref (adr g a0)), (2, .int i2)]) hx hb dX8_period_24 rfl hl (by decide) rfl (fun ls hl => ?_)
        refine q_lt (fun v13 e_v13 => ?_)
        refine lv_iinc (v := v13) (lv' := [(2, .int v13), (1, .int v12), (0, .ref (adr g a0))]) hx hb dX8_period_25 hl (k := 2) rfl (by rw [e_v13]; rfl) (by decide) rfl (fun ls hl => ?_)
        refine lv_goto (tgt := 4) hx hb dX8_period_28 (by decide) ?_
        exact ih v12 v13 M9 _ _ ls hH hL (lv_sub hl [2, 1, 0] rfl) 
  refine L14 _ (fun x15 x16 M17 H locs ls hH hL hl  => ?_) 3000 1 0 M _ _ ls hH hL (lv_sub hl [2, 1, 0] rfl) 
  refine lv_iload_n hx hb dX8_period_31 rfl (lv_at hl 1 rfl) ?_
  exact q_end2 (m_iret X hr hH hL dX8_period_32)

set_option maxRecDepth 20000 in
set_option maxHeartbeats 4000000 in
theorem co_X8_isPeriod (g : GP) (l : Launch) (hst : l.stackTraces = false) (a0 : Nat) (p1_ : Int32) (M : Mem) (t0 : tyT a0 = 8) (o : Int32 ⊕ String) (M' : Mem) (hF : F_X8_isPeriod a0 p1_ M = some (o, M')) : CO g l yX8_isPeriod cX8_isPeriod 4 (some .boolean) 8 242 rvI [.ref (adr g a0), .int p1_] M o M' := by
  refine CO_of hst (by decide) (Nat.le_of_ble_eq_true rfl) ?_
  intro p e s m below meth c ls X hr htb hH hL hl
  have hx := X.1
  have hb := X.2.1
  have hts := X.2.2.2.2.1
  refine q_out hF ?_
  rw [F_X8_isPeriod]
  replace hl : lv_has ls 4 [(0, .ref (adr g a0)), (1, .int p1_)] := hl
  refine lv_iconst (v := 0) hx hb dX8_isPeriod_0 (by decide) ?_
  refine lv_istore_n (lv' := [(2, .int 0), (0, .ref (adr g a0)), (1, .int p1_)]) hx hb dX8_isPeriod_1 rfl hl (by decide) rfl (fun ls hl => ?_)
  have L14 : ∀ (K : Int32 → Mem → Option ((Int32 ⊕ String) × Mem)) (_ : ∀ (i1 : Int32) (M2 : Mem) (H : Heap) (locs : List Loc) (ls : Array Slot), HR g M2 H → LK g s H locs → lv_has ls 4 [(0, .ref (adr g a0)), (1, .int p1_), (2, .int i1)] → W p l e (rmO o 8 242) s m ([.ref (adr g a0), .int p1_] : List Value).toArray below meth c H locs 0 0 (GQ (K i1 M2) (o, M') (MQO g below rvI o M' ([.ref (adr g a0), .int p1_] : List Value).toArray s)) (F0 m 37 ls [])) (n : Nat) (i1 : Int32) (M2 : Mem) (H : Heap) (locs : List Loc) (ls : Array Slot), HR g M2 H → LK g s H locs → lv_has ls 4 [(0, .ref (adr g a0)), (1, .int p1_), (2, .int i1)] → W p l e (rmO o 8 242) s m ([.ref (adr g a0), .int p1_] : List Value).toArray below meth c H locs 0 0 (GQ (F_X8_isPeriod_L1 a0 p1_ K n i1 M2) (o, M') (MQO g below rvI o M' ([.ref (adr g a0), .int p1_] : List Value).toArray s)) (F0 m 2 ls []) := by
    intro K hK n
    induction n with
    | zero => intros; exact q_none
    | succ n ih =>
      intro i1 M2 H locs ls hH hL hl 
      rw [F_X8_isPeriod_L1]
      refine lv_iload_n hx hb dX8_isPeriod_2 rfl (lv_at hl 2 rfl) ?_
      refine lv_aload_n hx hb dX8_isPeriod_3 rfl (lv_at hl 0 rfl) ?_
      refine m_gR (k := 0) X hH inC8 t0 rfl W279 dX8_isPeriod_4 5 rfl (fun t4 => ?_)
      refine m_gI (k := 1) X hH inC5 t4 rfl W160 dX8_isPeriod_7 ?_
      refine lv_icmp_ge (tgt := 37) hx hb dX8_isPeriod_10 (by decide) (fun c5 => q_pos c5 ?_) (fun c5 => q_neg c5 ?_)
      · exact hK i1 M2 _ _ ls hH hL hl 
      · refine lv_aload_n hx hb dX8_isPeriod_13 rfl (lv_at hl 0 rfl) ?_
        refine lv_iload_n hx hb dX8_isPeriod_14 rfl (lv_at hl 2 rfl) ?_
        refine q_bx2 (fun v7 M8 e6 => ?_) (fun E9 M8 e6 => my_thrown X.2.2.2.2.2.2.1 htb hL (my_runV X hH hl.1 (co_X8_columns g l hst a0 i1 M2 t0 (.inr E9) M8 e6) ok_X8_columns W554 t0 rfl (by decide) rfl rfl rfl ⟨Nat.le_of_ble_eq_true rfl, Nat.le_of_ble_eq_true rfl⟩ ⟨Nat.le_refl _, Nat.le_refl _⟩ (Nat.le_of_ble_eq_true rfl) dX8_isPeriod_15))
        refine my_doneI hL (my_runV X hH hl.1 (co_X8_columns g l hst a0 i1 M2 t0 (.inl v7) M8 e6) ok_X8_columns W554 t0 rfl (by decide) rfl rfl rfl ⟨Nat.le_of_ble_eq_true rfl, Nat.le_of_ble_eq_true rfl⟩ ⟨Nat.zero_le _, Nat.zero_le _⟩ (Nat.le_of_ble_eq_true rfl) dX8_isPeriod_15) (fun H locs hH hL => ?_)
        refine lv_istore_n (lv' := [(3, .int v7), (0, .ref (adr g a0)), (1, .int p1_), (2, .int i1)]) hx hb dX8_isPeriod_18 rfl hl (by decide) rfl (fun ls hl => ?_)
        refine lv_iload_n hx hb dX8_isPeriod_19 rfl (lv_at hl 0 rfl) ?_
        refine lv_if_eq (tgt := 29) hx hb dX8_isPeriod_20 (by decide) (fun c10 => q_pos c10 ?_) (fun c10 => q_neg c10 ?_)
        · refine lv_iconst (v := 0) hx hb dX8_isPeriod_29 (by decide) ?_
          exact q_end2 (m_zret X hr hH hL (by decide) dX8_isPeriod_30)
        · refine lv_iload_n hx hb dX8_isPeriod_23 rfl (lv_at hl 2 rfl) ?_
          refine lv_iload_n hx hb dX8_isPeriod_24 rfl (lv_at hl 0 rfl) ?_
          refine q_chk (fun hz11 => ?_)
          refine lv_irem hx hb dX8_isPeriod_25 (nz_n hz11) ?_
          refine lv_if_eq (tgt := 31) hx hb dX8_isPeriod_26 (by decide) (fun c12 => q_pos c12 ?_) (fun c12 => q_neg c12 ?_)
          · refine q_lt (fun v13 e_v13 => ?_)
            refine lv_iinc (v := v13) (lv' := [(2, .int v13), (3, .int v7), (0, .ref (adr g a0)), (1, .int p1_)]) hx hb dX8_isPeriod_31 hl (k := 3) rfl (by rw [e_v13]; rfl) (by decide) rfl (fun ls hl => ?_)
            refine lv_goto (tgt := 2) hx hb dX8_isPeriod_34 (by decide) ?_
            exact ih v13 M8 _ _ ls hH hL (lv_sub hl [2, 3, 0] rfl) 
          · refine lv_iconst (v := 0) hx hb dX8_isPeriod_29 (by decide) ?_
            exact q_end2 (m_zret X hr hH hL (by decide) dX8_isPeriod_30)
  refine L14 _ (fun x15 M16 H locs ls hH hL hl  => ?_) 3000 0 M _ _ ls hH hL (lv_sub hl [1, 2, 0] rfl) 
  refine lv_iconst (v := 1) hx hb dX8_isPeriod_37 (by decide) ?_
  exact q_end2 (m_zret X hr hH hL (by decide) dX8_isPeriod_38)

set_option maxRecDepth 20000 in
set_option maxHeartbeats 4000000 in
theorem co_X8_periodBySearch (g : GP) (l : Launch) (hst : l.stackTraces = false) (a0 : Nat) (M : Mem) (t0 : tyT a0 = 8) (o : Int32 ⊕ String) (M' : Mem) (hF : F_X8_periodBySearch a0 M = some (o, M')) : CO g l yX8_periodBySearch cX8_periodBySearch 2 (some .int) 9 265 rvI [.ref (adr g a0)] M o M' := by
  refine CO_of hst (by decide) (Nat.le_of_ble_eq_true rfl) ?_
  intro p e s m below meth c ls X hr htb hH hL hl
  have hx := X.1
  have hb := X.2.1
  have hts := X.2.2.2.2.1
  refine q_out hF ?_
  rw [F_X8_periodBySearch]
  replace hl : lv_has ls 2 [(0, .ref (adr g a0))] := hl
  refine lv_iconst (v := 1) hx hb dX8_periodBySearch_0 (by decide) ?_
  refine lv_istore_n (lv' := [(1, .int 1), (0, .ref (adr g a0))]) hx hb dX8_periodBySearch_1 rfl hl (by decide) rfl (fun ls hl => ?_)
  have L11 : ∀ (K : Int32 → Mem → Option ((Int32 ⊕ String) × Mem)) (_ : ∀ (i1 : Int32) (M2 : Mem) (H : Heap) (locs : List Loc) (ls : Array Slot), HR g M2 H → LK g s H locs → lv_has ls 2 [(0, .ref (adr g a0)), (1, .int i1)] → W p l e (rmO o 9 265) s m ([.ref (adr g a0)] : List Value).toArray below meth c H locs 0 0 (GQ (K i1 M2) (o, M') (MQO g below rvI o M' ([.ref (adr g a0)] : List Value).toArray s)) (F0 m 24 ls [])) (n : Nat) (i1 : Int32) (M2 : Mem) (H : Heap) (locs : List Loc) (ls : Array Slot), HR g M2 H → LK g s H locs → lv_has ls 2 [(0, .ref (adr g a0)), (1, .int i1)] → W p l e (rmO o 9 265) s m ([.ref (adr g a0)] : List Value).toArray below meth c H locs 0 0 (GQ (F_X8_periodBySearch_L1 a0 K n i1 M2) (o, M') (MQO g below rvI o M' ([.ref (adr g a0)] : List Value).toArray s)) (F0 m 2 ls []) := by
    intro K hK n
    induction n with
    | zero => intros; exact q_none
    | succ n ih =>
      intro i1 M2 H locs ls hH hL hl 
      rw [F_X8_periodBySearch_L1]
      refine lv_iload_n hx hb dX8_periodBySearch_2 rfl (lv_at hl 1 rfl) ?_
      refine lv_bipush (v := 60) hx hb dX8_periodBySearch_3 (by decide) ?_
      refine lv_icmp_ge (tgt := 24) hx hb dX8_periodBySearch_5 (by decide) (fun c4 => q_pos c4 ?_) (fun c4 => q_neg c4 ?_)
      · exact hK i1 M2 _ _ ls hH hL hl 
      · refine lv_aload_n hx hb dX8_periodBySearch_8 rfl (lv_at hl 0 rfl) ?_
        refine lv_iload_n hx hb dX8_periodBySearch_9 rfl (lv_at hl 1 rfl) ?_
        refine q_bx2 (fun v6 M7 e5 => ?_) (fun E8 M7 e5 => my_thrown X.2.2.2.2.2.2.1 htb hL (my_runV X hH hl.1 (co_X8_isPeriod g l hst a0 i1 M2 t0 (.inr E8) M7 e5) ok_X8_isPeriod W568 t0 rfl (by decide) rfl rfl rfl ⟨Nat.le_of_ble_eq_true rfl, Nat.le_of_ble_eq_true rfl⟩ ⟨Nat.le_refl _, Nat.le_refl _⟩ (Nat.le_of_ble_eq_true rfl) dX8_periodBySearch_10))
        refine my_doneI hL (my_runV X hH hl.1 (co_X8_isPeriod g l hst a0 i1 M2 t0 (.inl v6) M7 e5) ok_X8_isPeriod W568 t0 rfl (by decide) rfl rfl rfl ⟨Nat.le_of_ble_eq_true rfl, Nat.le_of_ble_eq_true rfl⟩ ⟨Nat.zero_le _, Nat.zero_le _⟩ (Nat.le_of_ble_eq_true rfl) dX8_periodBySearch_10) (fun H locs hH hL => ?_)
        refine lv_if_eq (tgt := 18) hx hb dX8_periodBySearch_13 (by decide) (fun c9 => q_pos c9 ?_) (fun c9 => q_neg c9 ?_)
        · refine q_lt (fun v10 e_v10 => ?_)
          refine lv_iinc (v := v10) (lv' := [(1, .int v10), (0, .ref (adr g a0))]) hx hb dX8_periodBySearch_18 hl (k := 1) rfl (by rw [e_v10]; rfl) (by decide) rfl (fun ls hl => ?_)
          refine lv_goto (tgt := 2) hx hb dX8_periodBySearch_21 (by decide) ?_
          exact ih v10 M7 _ _ ls hH hL (lv_sub hl [1, 0] rfl) 
        · refine lv_iload_n hx hb dX8_periodBySearch_16 rfl (lv_at hl 1 rfl) ?_
          exact q_end2 (m_iret X hr hH hL dX8_periodBySearch_17)
  refine L11 _ (fun x12 M13 H locs ls hH hL hl  => ?_) 3000 1 M _ _ ls hH hL (lv_sub hl [1, 0] rfl) 
  refine lv_bipush (v := 60) hx hb dX8_periodBySearch_24 (by decide) ?_
  exact q_end2 (m_iret X hr hH hL dX8_periodBySearch_26)

set_option maxRecDepth 20000 in
set_option maxHeartbeats 4000000 in
theorem co_X8_beatsUntilBreak (g : GP) (l : Launch) (hst : l.stackTraces = false) (a0 : Nat) (M : Mem) (t0 : tyT a0 = 8) (o : Int32 ⊕ String) (M' : Mem) (hF : F_X8_beatsUntilBreak a0 M = some (o, M')) : CO g l yX8_beatsUntilBreak cX8_beatsUntilBreak 2 (some .int) 6 200 rvI [.ref (adr g a0)] M o M' := by
  refine CO_of hst (by decide) (Nat.le_of_ble_eq_true rfl) ?_
  intro p e s m below meth c ls X hr htb hH hL hl
  have hx := X.1
  have hb := X.2.1
  have hts := X.2.2.2.2.1
  refine q_out hF ?_
  rw [F_X8_beatsUntilBreak]
  replace hl : lv_has ls 2 [(0, .ref (adr g a0))] := hl
  refine lv_aload_n hx hb dX8_beatsUntilBreak_0 rfl (lv_at hl 0 rfl) ?_
  refine m_gR (k := 1) X hH inC8 t0 rfl W280 dX8_beatsUntilBreak_1 5 rfl (fun t1 => ?_)
  refine lv_aload_n hx hb dX8_beatsUntilBreak_4 rfl (lv_at hl 0 rfl) ?_
  refine m_gR (k := 0) X hH inC8 t0 rfl W279 dX8_beatsUntilBreak_5 5 rfl (fun t2 => ?_)
  refine q_b1 (fun u4 M5 e3 => ?_)
  refine my_doneU hL (my_runV X hH hl.1 (co_X5_copyFrom g l hst (mR M a0 1) (mR M a0 0) M t1 t2 u4 M5 e3) ok_X5_copyFrom W649 t1 rfl (by decide) rfl rfl rfl ⟨Nat.le_of_ble_eq_true rfl, Nat.le_of_ble_eq_true rfl⟩ ⟨Nat.zero_le _, Nat.zero_le _⟩ (Nat.le_of_ble_eq_true rfl) dX8_beatsUntilBreak_8) (fun H locs hH hL => ?_)
  refine lv_iconst (v := 1) hx hb dX8_beatsUntilBreak_11 (by decide) ?_
  refine lv_istore_n (lv' := [(1, .int 1), (0, .ref (adr g a0))]) hx hb dX8_beatsUntilBreak_12 rfl hl (by decide) rfl (fun ls hl => ?_)
  have L17 : ∀ (K : Int32 → Mem → Option ((Int32 ⊕ String) × Mem)) (_ : ∀ (i6 : Int32) (M7 : Mem) (H : Heap) (locs : List Loc) (ls : Array Slot), HR g M7 H → LK g s H locs → lv_has ls 2 [(0, .ref (adr g a0)), (1, .int i6)] → W p l e (rmO o 6 200) s m ([.ref (adr g a0)] : List Value).toArray below meth c H locs 0 0 (GQ (K i6 M7) (o, M') (MQO g below rvI o M' ([.ref (adr g a0)] : List Value).toArray s)) (F0 m 44 ls [])) (n : Nat) (i6 : Int32) (M7 : Mem) (H : Heap) (locs : List Loc) (ls : Array Slot), HR g M7 H → LK g s H locs → lv_has ls 2 [(0, .ref (adr g a0)), (1, .int i6)] → W p l e (rmO o 6 200) s m ([.ref (adr g a0)] : List Value).toArray below meth c H locs 0 0 (GQ (F_X8_beatsUntilBreak_L1 a0 K n i6 M7) (o, M') (MQO g below rvI o M' ([.ref (adr g a0)] : List Value).toArray s)) (F0 m 13 ls []) := by
    intro K hK n
    induction n with
    | zero => intros; exact q_none
    | succ n ih =>
      intro i6 M7 H locs ls hH hL hl 
      rw [F_X8_beatsUntilBreak_L1]
      refine lv_iload_n hx hb dX8_beatsUntilBreak_13 rfl (lv_at hl 1 rfl) ?_
      refine lv_bipush (v := 60) hx hb dX8_beatsUntilBreak_14 (by decide) ?_
      refine lv_icmp_gt (tgt := 44) hx hb dX8_beatsUntilBreak_16 (by decide) (fun c9 => q_pos c9 ?_) (fun c9 => q_neg c9 ?_)
      · exact hK i6 M7 _ _ ls hH hL hl 
      · refine lv_aload_n hx hb dX8_beatsUntilBreak_19 rfl (lv_at hl 0 rfl) ?_
        refine m_gR (k := 1) X hH inC8 t0 rfl W280 dX8_beatsUntilBreak_20 5 rfl (fun t10 => ?_)
        refine q_b1 (fun v12 M13 e11 => ?_)
        refine my_doneI hL (my_runV X hH hl.1 (co_X5_playBeat g l hst (mR M7 a0 1) M7 t10 v12 M13 e11) ok_X5_playBeat W917 t10 rfl (by decide) rfl rfl rfl ⟨Nat.le_of_ble_eq_true rfl, Nat.le_of_ble_eq_true rfl⟩ ⟨Nat.zero_le _, Nat.zero_le _⟩ (Nat.le_of_ble_eq_true rfl) dX8_beatsUntilBreak_23) (fun H locs hH hL => ?_)
        refine lv_aload_n hx hb dX8_beatsUntilBreak_26 rfl (lv_at hl 0 rfl) ?_
        refine m_gR (k := 1) X hH inC8 t0 rfl W280 dX8_beatsUntilBreak_27 5 rfl (fun t14 => ?_)
        refine m_gI (k := 3) X hH inC5 t14 rfl W164 dX8_beatsUntilBreak_30 ?_
        refine lv_icmp_le (tgt := 38) hx hb dX8_beatsUntilBreak_33 (by decide) (fun c15 => q_pos c15 ?_) (fun c15 => q_neg c15 ?_)
        · refine q_lt (fun v16 e_v16 => ?_)
          refine lv_iinc (v := v16) (lv' := [(1, .int v16), (0, .ref (adr g a0))]) hx hb dX8_beatsUntilBreak_38 hl (k := 1) rfl (by rw [e_v16]; rfl) (by decide) rfl (fun ls hl => ?_)
          refine lv_goto (tgt := 13) hx hb dX8_beatsUntilBreak_41 (by decide) ?_
          exact ih v16 M13 _ _ ls hH hL (lv_sub hl [1, 0] rfl) 
        · refine lv_iload_n hx hb dX8_beatsUntilBreak_36 rfl (lv_at hl 1 rfl) ?_
          exact q_end2 (m_iret X hr hH hL dX8_beatsUntilBreak_37)
  refine L17 _ (fun x18 M19 H locs ls hH hL hl  => ?_) 3000 1 M5 _ _ ls hH hL (lv_sub hl [1, 0] rfl) 
  exact q_thr (m_throwN X htb hH hL hl.1 okT9 dX8_beatsUntilBreak_44 dX8_beatsUntilBreak_47 dX8_beatsUntilBreak_48 dX8_beatsUntilBreak_50 dX8_beatsUntilBreak_53 (Nat.le_of_ble_eq_true rfl) (Nat.le_of_ble_eq_true rfl))

set_option maxRecDepth 20000 in
set_option maxHeartbeats 4000000 in
theorem co_X8_totalWithin (g : GP) (l : Launch) (hst : l.stackTraces = false) (a0 : Nat) (p1_ : Int32) (M : Mem) (t0 : tyT a0 = 8) (o : Int32 ⊕ String) (M' : Mem) (hF : F_X8_totalWithin a0 p1_ M = some (o, M')) : CO g l yX8_totalWithin cX8_totalWithin 2 (some .int) 6 200 rvI [.ref (adr g a0), .int p1_] M o M' := by
  refine CO_of hst (by decide) (Nat.le_of_ble_eq_true rfl) ?_
  intro p e s m below meth c ls X hr htb hH hL hl
  have hx := X.1
  have hb := X.2.1
  have hts := X.2.2.2.2.1
  refine q_out hF ?_
  rw [F_X8_totalWithin]
  replace hl : lv_has ls 2 [(0, .ref (adr g a0)), (1, .int p1_)] := hl
  refine lv_iload_n hx hb dX8_totalWithin_0 rfl (lv_at hl 1 rfl) ?_
  refine lv_if_lt (tgt := 10) hx hb dX8_totalWithin_1 (by decide) (fun c1 => q_pos c1 ?_) (fun c1 => q_neg c1 ?_)
  · exact q_thr (m_throw X htb hH hL hl.1 okT10 dX8_totalWithin_10 dX8_totalWithin_13 dX8_totalWithin_14 dX8_totalWithin_16 dX8_totalWithin_19 (Nat.le_of_ble_eq_true rfl) (Nat.le_of_ble_eq_true rfl))
  · refine lv_iload_n hx hb dX8_totalWithin_4 rfl (lv_at hl 1 rfl) ?_
    refine lv_bipush (v := 60) hx hb dX8_totalWithin_5 (by decide) ?_
    refine lv_icmp_le (tgt := 20) hx hb dX8_totalWithin_7 (by decide) (fun c2 => q_pos c2 ?_) (fun c2 => q_neg c2 ?_)
    · refine lv_aload_n hx hb dX8_totalWithin_20 rfl (lv_at hl 0 rfl) ?_
      refine m_gR (k := 1) X hH inC8 t0 rfl W280 dX8_totalWithin_21 5 rfl (fun t3 => ?_)
      refine lv_aload_n hx hb dX8_totalWithin_24 rfl (lv_at hl 0 rfl) ?_
      refine m_gR (k := 0) X hH inC8 t0 rfl W279 dX8_totalWithin_25 5 rfl (fun t4 => ?_)
      refine q_b1 (fun u6 M7 e5 => ?_)
      refine my_doneU hL (my_runV X hH hl.1 (co_X5_copyFrom g l hst (mR M a0 1) (mR M a0 0) M t3 t4 u6 M7 e5) ok_X5_copyFrom W649 t3 rfl (by decide) rfl rfl rfl ⟨Nat.le_of_ble_eq_true rfl, Nat.le_of_ble_eq_true rfl⟩ ⟨Nat.zero_le _, Nat.zero_le _⟩ (Nat.le_of_ble_eq_true rfl) dX8_totalWithin_28) (fun H locs hH hL => ?_)
      refine lv_aload_n hx hb dX8_totalWithin_31 rfl (lv_at hl 0 rfl) ?_
      refine m_gR (k := 1) X hH inC8 t0 rfl W280 dX8_totalWithin_32 5 rfl (fun t8 => ?_)
      refine lv_iload_n hx hb dX8_totalWithin_35 rfl (lv_at hl 1 rfl) ?_
      refine q_b1 (fun v10 M11 e9 => ?_)
      refine my_doneI hL (my_runV X hH hl.1 (co_X5_play g l hst (mR M7 a0 1) p1_ M7 t8 v10 M11 e9) ok_X5_play W336 t8 rfl (by decide) rfl rfl rfl ⟨Nat.le_of_ble_eq_true rfl, Nat.le_of_ble_eq_true rfl⟩ ⟨Nat.zero_le _, Nat.zero_le _⟩ (Nat.le_of_ble_eq_true rfl) dX8_totalWithin_36) (fun H locs hH hL => ?_)
      exact q_end2 (m_iret X hr hH hL dX8_totalWithin_39)
    · exact q_thr (m_throw X htb hH hL hl.1 okT10 dX8_totalWithin_10 dX8_totalWithin_13 dX8_totalWithin_14 dX8_totalWithin_16 dX8_totalWithin_19 (Nat.le_of_ble_eq_true rfl) (Nat.le_of_ble_eq_true rfl))

set_option maxRecDepth 20000 in
set_option maxHeartbeats 4000000 in
theorem co_X8_breakCount (g : GP) (l : Launch) (hst : l.stackTraces = false) (a0 : Nat) (M : Mem) (t0 : tyT a0 = 8) (v : Int32) (hF : F_X8_breakCount a0 M = some v) : CO g l yX8_breakCount cX8_breakCount 1 (some .int) 0 0 rvI [.ref (adr g a0)] M (.inl v : Int32 ⊕ String) M := by
  refine CO_of hst (by decide) (Nat.le_of_ble_eq_true rfl) ?_
  intro p e s m below meth c ls X hr htb hH hL hl
  have hx := X.1
  have hb := X.2.1
  have hts := X.2.2.2.2.1
  refine q_out hF ?_
  rw [F_X8_breakCount]
  replace hl : lv_has ls 1 [(0, .ref (adr g a0))] := hl
  refine lv_aload_n hx hb dX8_breakCount_0 rfl (lv_at hl 0 rfl) ?_
  refine m_gR (k := 0) X hH inC8 t0 rfl W279 dX8_breakCount_1 5 rfl (fun t1 => ?_)
  refine m_gI (k := 5) X hH inC5 t1 rfl W168 dX8_breakCount_4 ?_
  exact q_end0 (m_iret X hr hH hL dX8_breakCount_7)

set_option maxRecDepth 20000 in
set_option maxHeartbeats 4000000 in
theorem co_X8_playedVolume (g : GP) (l : Launch) (hst : l.stackTraces = false) (a0 : Nat) (p1_ : Int32) (M : Mem) (t0 : tyT a0 = 8) (o : Int32 ⊕ String) (M' : Mem) (hF : F_X8_playedVolume a0 p1_ M = some (o, M')) : CO g l yX8_playedVolume cX8_playedVolume 2 (some .int) 7 221 rvI [.ref (adr g a0), .int p1_] M o M' := by
  refine CO_of hst (by decide) (Nat.le_of_ble_eq_true rfl) ?_
  intro p e s m below meth c ls X hr htb hH hL hl
  have hx := X.1
  have hb := X.2.1
  have hts := X.2.2.2.2.1
  refine q_out hF ?_
  rw [F_X8_playedVolume]
  replace hl : lv_has ls 2 [(0, .ref (adr g a0)), (1, .int p1_)] := hl
  refine lv_aload_n hx hb dX8_playedVolume_0 rfl (lv_at hl 0 rfl) ?_
  refine lv_iload_n hx hb dX8_playedVolume_1 rfl (lv_at hl 1 rfl) ?_
  refine q_bx2 (fun q2 M3 e1 => ?_) (fun E4 M3 e1 => my_thrown X.2.2.2.2.2.2.1 htb hL (my_runV X hH hl.1 (co_X8_presentSection g l hst a0 p1_ M t0 (.inr E4) M3 e1) ok_X8_presentSection W534 t0 rfl (by decide) rfl rfl rfl ⟨Nat.le_of_ble_eq_true rfl, Nat.le_of_ble_eq_true rfl⟩ ⟨Nat.le_refl _, Nat.le_refl _⟩ (Nat.le_of_ble_eq_true rfl) dX8_playedVolume_2))
  refine my_doneR hL (my_runV X hH hl.1 (co_X8_presentSection g l hst a0 p1_ M t0 (.inl q2) M3 e1) ok_X8_presentSection W534 t0 rfl (by decide) rfl rfl rfl ⟨Nat.le_of_ble_eq_true rfl, Nat.le_of_ble_eq_true rfl⟩ ⟨Nat.zero_le _, Nat.zero_le _⟩ (Nat.le_of_ble_eq_true rfl) dX8_playedVolume_2) (fun H locs hH hL => ?_)
  refine q_chk (fun hk5 => ?_)
  refine m_gI (k := 7) X hH inC4 (Nat.eq_of_beq_eq_true hk5) rfl W138 dX8_playedVolume_5 ?_
  exact q_end2 (m_iret X hr hH hL dX8_playedVolume_8)

set_option maxRecDepth 20000 in
set_option maxHeartbeats 4000000 in
theorem co_X8_totalVolume (g : GP) (l : Launch) (hst : l.stackTraces = false) (a0 : Nat) (M : Mem) (t0 : tyT a0 = 8) (v : Int64) (hF : F_X8_totalVolume a0 M = some v) : CO g l yX8_totalVolume cX8_totalVolume 1 (some .long) 0 0 rvJ [.ref (adr g a0)] M (.inl v : Int64 ⊕ String) M := by
  refine CO_of hst (by decide) (Nat.le_of_ble_eq_true rfl) ?_
  intro p e s m below meth c ls X hr htb hH hL hl
  have hx := X.1
  have hb := X.2.1
  have hts := X.2.2.2.2.1
  refine q_out hF ?_
  rw [F_X8_totalVolume]
  replace hl : lv_has ls 1 [(0, .ref (adr g a0))] := hl
  refine lv_aload_n hx hb dX8_totalVolume_0 rfl (lv_at hl 0 rfl) ?_
  refine m_gR (k := 0) X hH inC8 t0 rfl W279 dX8_totalVolume_1 5 rfl (fun t1 => ?_)
  refine m_gJ (k := 7) X hH inC5 t1 rfl W172 dX8_totalVolume_4 ?_
  exact q_end0 (m_lret X hr hH hL dX8_totalVolume_7)

set_option maxRecDepth 20000 in
set_option maxHeartbeats 4000000 in
theorem co_X5_soundsOf (g : GP) (l : Launch) (hst : l.stackTraces = false) (a0 : Nat) (p1_ : Int32) (p2_ : Int32) (M : Mem) (t0 : tyT a0 = 5) (v : Int32) (hF : F_X5_soundsOf a0 p1_ p2_ M = some v) : CO g l yX5_soundsOf cX5_soundsOf 4 (some .int) 1 20 rvI [.ref (adr g a0), .int p1_, .int p2_] M (.inl v : Int32 ⊕ String) M := by
  refine CO_of hst (by decide) (Nat.le_of_ble_eq_true rfl) ?_
  intro p e s m below meth c ls X hr htb hH hL hl
  have hx := X.1
  have hb := X.2.1
  have hts := X.2.2.2.2.1
  refine q_out hF ?_
  rw [F_X5_soundsOf]
  replace hl : lv_has ls 4 [(0, .ref (adr g a0)), (1, .int p1_), (2, .int p2_)] := hl
  refine lv_iload_n hx hb dX5_soundsOf_0 rfl (lv_at hl 1 rfl) ?_
  refine q_bind (fun v2 e1 => ?_)
  refine my_doneI hL (my_runSN X hH hl.1 (co_X8_kindIndex g l hst p1_ M v2 e1) ok_X8_kindIndex N360 rfl rfl ⟨Nat.le_of_ble_eq_true rfl, Nat.le_of_ble_eq_true rfl⟩ ⟨Nat.zero_le _, Nat.zero_le _⟩ (Nat.le_of_ble_eq_true rfl) dX5_soundsOf_1) (fun H locs hH hL => ?_)
  refine lv_bipush (v := 10) hx hb dX5_soundsOf_4 (by decide) ?_
  refine lv_imul hx hb dX5_soundsOf_6 ?_
  refine lv_iload_n hx hb dX5_soundsOf_7 rfl (lv_at hl 2 rfl) ?_
  refine lv_iadd hx hb dX5_soundsOf_8 ?_
  refine q_lt (fun v3 e_v3 => ?_)
  refine q_topI e_v3 ?_
  refine lv_istore_n (lv' := [(3, .int v3), (0, .ref (adr g a0)), (1, .int p1_), (2, .int p2_)]) hx hb dX5_soundsOf_9 rfl hl (by decide) rfl (fun ls hl => ?_)
  refine lv_iload_n hx hb dX5_soundsOf_10 rfl (lv_at hl 0 rfl) ?_
  refine lv_if_lt (tgt := 32) hx hb dX5_soundsOf_11 (by decide) (fun c4 => q_pos c4 ?_) (fun c4 => q_neg c4 ?_)
  · refine lv_iconst (v := 0) hx hb dX5_soundsOf_32 (by decide) ?_
    exact q_end0 (m_iret X hr hH hL dX5_soundsOf_33)
  · refine lv_iload_n hx hb dX5_soundsOf_14 rfl (lv_at hl 0 rfl) ?_
    refine lv_aload_n hx hb dX5_soundsOf_15 rfl (lv_at hl 1 rfl) ?_
    refine m_gR (k := 8) X hH inC5 t0 rfl W173 dX5_soundsOf_16 21 rfl (fun t5 => ?_)
    refine m_alen X hH t5 rfl (by decide) (v := 30) (by decide) dX5_soundsOf_19 ?_
    refine lv_icmp_ge (tgt := 32) hx hb dX5_soundsOf_20 (by decide) (fun c6 => q_pos c6 ?_) (fun c6 => q_neg c6 ?_)
    · refine lv_iconst (v := 0) hx hb dX5_soundsOf_32 (by decide) ?_
      exact q_end0 (m_iret X hr hH hL dX5_soundsOf_33)
    · refine lv_aload_n hx hb dX5_soundsOf_23 rfl (lv_at hl 1 rfl) ?_
      refine m_gR (k := 8) X hH inC5 t0 rfl W173 dX5_soundsOf_24 21 rfl (fun t7 => ?_)
      refine lv_iload_n hx hb dX5_soundsOf_27 rfl (lv_at hl 0 rfl) ?_
      refine q_chk (fun hb8 => ?_)
      refine m_iald X hH t7 rfl (by decide) (fun _ => rfl) rfl rfl hb8 dX5_soundsOf_28 ?_
      refine lv_goto (tgt := 33) hx hb dX5_soundsOf_29 (by decide) ?_
      exact q_end0 (m_iret X hr hH hL dX5_soundsOf_33)

set_option maxRecDepth 20000 in
set_option maxHeartbeats 4000000 in
theorem co_X8_soundsVolume (g : GP) (l : Launch) (hst : l.stackTraces = false) (a0 : Nat) (p1_ : Int32) (M : Mem) (t0 : tyT a0 = 8) (v : Int64) (hF : F_X8_soundsVolume a0 p1_ M = some v) : CO g l yX8_soundsVolume cX8_soundsVolume 5 (some .long) 2 43 rvJ [.ref (adr g a0), .int p1_] M (.inl v : Int64 ⊕ String) M := by
  refine CO_of hst (by decide) (Nat.le_of_ble_eq_true rfl) ?_
  intro p e s m below meth c ls X hr htb hH hL hl
  have hx := X.1
  have hb := X.2.1
  have hts := X.2.2.2.2.1
  refine q_out hF ?_
  rw [F_X8_soundsVolume]
  replace hl : lv_has ls 5 [(0, .ref (adr g a0)), (1, .int p1_)] := hl
  refine lv_lconst (v := 0) hx hb dX8_soundsVolume_0 (by decide) ?_
  refine lv_lstore_n (lv' := [(2, .long 0), (0, .ref (adr g a0)), (1, .int p1_)]) hx hb dX8_soundsVolume_1 rfl hl (by decide) rfl (fun ls hl => ?_)
  refine lv_iconst (v := 1) hx hb dX8_soundsVolume_2 (by decide) ?_
  refine lv_istore (lv' := [(4, .int 1), (2, .long 0), (0, .ref (adr g a0)), (1, .int p1_)]) hx hb dX8_soundsVolume_3 hl (by decide) rfl (fun ls hl => ?_)
  have L12 : ∀ (K : Int64 → Int32 → Option Int64) (_ : ∀ (w1 : Int64) (i2 : Int32) (H : Heap) (locs : List Loc) (ls : Array Slot), HR g M H → LK g s H locs → lv_has ls 5 [(0, .ref (adr g a0)), (1, .int p1_), (2, .long w1), (4, .int i2)] → W p l e (rmO (.inl v : Int64 ⊕ String) 2 43) s m ([.ref (adr g a0), .int p1_] : List Value).toArray below meth c H locs 0 0 (GQ (K w1 i2) v (MQO g below rvJ (.inl v : Int64 ⊕ String) M ([.ref (adr g a0), .int p1_] : List Value).toArray s)) (F0 m 40 ls [])) (n : Nat) (w1 : Int64) (i2 : Int32) (H : Heap) (locs : List Loc) (ls : Array Slot), HR g M H → LK g s H locs → lv_has ls 5 [(0, .ref (adr g a0)), (1, .int p1_), (2, .long w1), (4, .int i2)] → W p l e (rmO (.inl v : Int64 ⊕ String) 2 43) s m ([.ref (adr g a0), .int p1_] : List Value).toArray below meth c H locs 0 0 (GQ (F_X8_soundsVolume_L1 a0 p1_ M K n w1 i2) v (MQO g below rvJ (.inl v : Int64 ⊕ String) M ([.ref (adr g a0), .int p1_] : List Value).toArray s)) (F0 m 5 ls []) := by
    intro K hK n
    induction n with
    | zero => intros; exact q_none
    | succ n ih =>
      intro w1 i2 H locs ls hH hL hl 
      rw [F_X8_soundsVolume_L1]
      refine lv_iload hx hb dX8_soundsVolume_5 (lv_at hl 3 rfl) ?_
      refine lv_bipush (v := 9) hx hb dX8_soundsVolume_7 (by decide) ?_
      refine lv_icmp_gt (tgt := 40) hx hb dX8_soundsVolume_9 (by decide) (fun c4 => q_pos c4 ?_) (fun c4 => q_neg c4 ?_)
      · exact hK w1 i2 _ _ ls hH hL hl 
      · refine lv_lload_n hx hb dX8_soundsVolume_12 rfl (lv_at hl 2 rfl) ?_
        refine lv_aload_n hx hb dX8_soundsVolume_13 rfl (lv_at hl 0 rfl) ?_
        refine m_gR (k := 0) X hH inC8 t0 rfl W279 dX8_soundsVolume_14 5 rfl (fun t5 => ?_)
        refine lv_iload_n hx hb dX8_soundsVolume_17 rfl (lv_at hl 1 rfl) ?_
        refine lv_iload hx hb dX8_soundsVolume_18 (lv_at hl 3 rfl) ?_
        refine q_bind (fun v7 e6 => ?_)
        refine my_doneI hL (my_runV X hH hl.1 (co_X5_soundsOf g l hst (mR M a0 0) p1_ i2 M t5 v7 e6) ok_X5_soundsOf W588 t5 rfl (by decide) rfl rfl rfl ⟨Nat.le_of_ble_eq_true rfl, Nat.le_of_ble_eq_true rfl⟩ ⟨Nat.zero_le _, Nat.zero_le _⟩ (Nat.le_of_ble_eq_true rfl) dX8_soundsVolume_20) (fun H locs hH hL => ?_)
        refine lv_i2l hx hb dX8_soundsVolume_23 rfl ?_
        refine lv_iload_n hx hb dX8_soundsVolume_24 rfl (lv_at hl 1 rfl) ?_
        refine lv_iload hx hb dX8_soundsVolume_25 (lv_at hl 3 rfl) ?_
        refine q_bind (fun v9 e8 => ?_)
        refine my_doneI hL (my_runS X hH hl.1 (co_X8_volumeOf g l hst p1_ i2 M v9 e8) ok_X8_volumeOf W592 rfl rfl ⟨Nat.le_of_ble_eq_true rfl, Nat.le_of_ble_eq_true rfl⟩ ⟨Nat.zero_le _, Nat.zero_le _⟩ (Nat.le_of_ble_eq_true rfl) dX8_soundsVolume_27) (fun H locs hH hL => ?_)
        refine lv_i2l hx hb dX8_soundsVolume_30 rfl ?_
        refine lv_lmul hx hb dX8_soundsVolume_31 ?_
        refine lv_ladd hx hb dX8_soundsVolume_32 ?_
        refine q_lt (fun w10 e_w10 => ?_)
        refine q_topJ e_w10 ?_
        refine lv_lstore_n (lv' := [(2, .long w10), (0, .ref (adr g a0)), (1, .int p1_), (4, .int i2)]) hx hb dX8_soundsVolume_33 rfl hl (by decide) rfl (fun ls hl => ?_)
        refine q_lt (fun v11 e_v11 => ?_)
        refine lv_iinc (v := v11) (lv' := [(4, .int v11), (2, .long w10), (0, .ref (adr g a0)), (1, .int p1_)]) hx hb dX8_soundsVolume_34 hl (k := 3) rfl (by rw [e_v11]; rfl) (by decide) rfl (fun ls hl => ?_)
        refine lv_goto (tgt := 5) hx hb dX8_soundsVolume_37 (by decide) ?_
        exact ih w10 v11 _ _ ls hH hL (lv_sub hl [2, 3, 1, 0] rfl) 
  refine L12 _ (fun w13 x14 H locs ls hH hL hl  => ?_) 3000 0 1 _ _ ls hH hL (lv_sub hl [2, 3, 1, 0] rfl) 
  refine lv_lload_n hx hb dX8_soundsVolume_40 rfl (lv_at hl 2 rfl) ?_
  exact q_end0 (m_lret X hr hH hL dX8_soundsVolume_41)

set_option maxRecDepth 20000 in
set_option maxHeartbeats 4000000 in
theorem co_X8_totalVolumeBySounds (g : GP) (l : Launch) (hst : l.stackTraces = false) (a0 : Nat) (M : Mem) (t0 : tyT a0 = 8) (v : Int64) (hF : F_X8_totalVolumeBySounds a0 M = some v) : CO g l yX8_totalVolumeBySounds cX8_totalVolumeBySounds 1 (some .long) 3 67 rvJ [.ref (adr g a0)] M (.inl v : Int64 ⊕ String) M := by
  refine CO_of hst (by decide) (Nat.le_of_ble_eq_true rfl) ?_
  intro p e s m below meth c ls X hr htb hH hL hl
  have hx := X.1
  have hb := X.2.1
  have hts := X.2.2.2.2.1
  refine q_out hF ?_
  rw [F_X8_totalVolumeBySounds]
  replace hl : lv_has ls 1 [(0, .ref (adr g a0))] := hl
  refine lv_aload_n hx hb dX8_totalVolumeBySounds_0 rfl (lv_at hl 0 rfl) ?_
  refine lv_bipush (v := 115) hx hb dX8_totalVolumeBySounds_1 (by decide) ?_
  refine q_bind (fun w2 e1 => ?_)
  refine my_doneJ hL (my_runV X hH hl.1 (co_X8_soundsVolume g l hst a0 115 M t0 w2 e1) ok_X8_soundsVolume W584 t0 rfl (by decide) rfl rfl rfl ⟨Nat.le_of_ble_eq_true rfl, Nat.le_of_ble_eq_true rfl⟩ ⟨Nat.zero_le _, Nat.zero_le _⟩ (Nat.le_of_ble_eq_true rfl) dX8_totalVolumeBySounds_3) (fun H locs hH hL => ?_)
  refine lv_aload_n hx hb dX8_totalVolumeBySounds_6 rfl (lv_at hl 0 rfl) ?_
  refine lv_bipush (v := 119) hx hb dX8_totalVolumeBySounds_7 (by decide) ?_
  refine q_bind (fun w4 e3 => ?_)
  refine my_doneJ hL (my_runV X hH hl.1 (co_X8_soundsVolume g l hst a0 119 M t0 w4 e3) ok_X8_soundsVolume W584 t0 rfl (by decide) rfl rfl rfl ⟨Nat.le_of_ble_eq_true rfl, Nat.le_of_ble_eq_true rfl⟩ ⟨Nat.zero_le _, Nat.zero_le _⟩ (Nat.le_of_ble_eq_true rfl) dX8_totalVolumeBySounds_9) (fun H locs hH hL => ?_)
  refine lv_ladd hx hb dX8_totalVolumeBySounds_12 ?_
  refine lv_aload_n hx hb dX8_totalVolumeBySounds_13 rfl (lv_at hl 0 rfl) ?_
  refine lv_bipush (v := 100) hx hb dX8_totalVolumeBySounds_14 (by decide) ?_
  refine q_bind (fun w6 e5 => ?_)
  refine my_doneJ hL (my_runV X hH hl.1 (co_X8_soundsVolume g l hst a0 100 M t0 w6 e5) ok_X8_soundsVolume W584 t0 rfl (by decide) rfl rfl rfl ⟨Nat.le_of_ble_eq_true rfl, Nat.le_of_ble_eq_true rfl⟩ ⟨Nat.zero_le _, Nat.zero_le _⟩ (Nat.le_of_ble_eq_true rfl) dX8_totalVolumeBySounds_16) (fun H locs hH hL => ?_)
  refine lv_ladd hx hb dX8_totalVolumeBySounds_19 ?_
  exact q_end0 (m_lret X hr hH hL dX8_totalVolumeBySounds_20)

set_option maxRecDepth 20000 in
set_option maxHeartbeats 4000000 in
theorem co_X8_soundCount (g : GP) (l : Launch) (hst : l.stackTraces = false) (a0 : Nat) (p1_ : Int32) (p2_ : Int32) (M : Mem) (t0 : tyT a0 = 8) (o : Int32 ⊕ String) (M' : Mem) (hF : F_X8_soundCount a0 p1_ p2_ M = some (o, M')) : CO g l yX8_soundCount cX8_soundCount 3 (some .int) 6 200 rvI [.ref (adr g a0), .int p1_, .int p2_] M o M' := by
  refine CO_of hst (by decide) (Nat.le_of_ble_eq_true rfl) ?_
  intro p e s m below meth c ls X hr htb hH hL hl
  have hx := X.1
  have hb := X.2.1
  have hts := X.2.2.2.2.1
  refine q_out hF ?_
  rw [F_X8_soundCount]
  replace hl : lv_has ls 3 [(0, .ref (adr g a0)), (1, .int p1_), (2, .int p2_)] := hl
  refine lv_iload_n hx hb dX8_soundCount_0 rfl (lv_at hl 1 rfl) ?_
  refine q_bind (fun v2 e1 => ?_)
  refine my_doneI hL (my_runS X hH hl.1 (co_X8_kindIndex g l hst p1_ M v2 e1) ok_X8_kindIndex W895 rfl rfl ⟨Nat.le_of_ble_eq_true rfl, Nat.le_of_ble_eq_true rfl⟩ ⟨Nat.zero_le _, Nat.zero_le _⟩ (Nat.le_of_ble_eq_true rfl) dX8_soundCount_1) (fun H locs hH hL => ?_)
  refine lv_if_lt (tgt := 18) hx hb dX8_soundCount_4 (by decide) (fun c3 => q_pos c3 ?_) (fun c3 => q_neg c3 ?_)
  · exact q_thr (m_throw X htb hH hL hl.1 okT7 dX8_soundCount_18 dX8_soundCount_21 dX8_soundCount_22 dX8_soundCount_24 dX8_soundCount_27 (Nat.le_of_ble_eq_true rfl) (Nat.le_of_ble_eq_true rfl))
  · refine lv_iload_n hx hb dX8_soundCount_7 rfl (lv_at hl 2 rfl) ?_
    refine lv_iconst (v := 1) hx hb dX8_soundCount_8 (by decide) ?_
    refine lv_icmp_lt (tgt := 18) hx hb dX8_soundCount_9 (by decide) (fun c4 => q_pos c4 ?_) (fun c4 => q_neg c4 ?_)
    · exact q_thr (m_throw X htb hH hL hl.1 okT7 dX8_soundCount_18 dX8_soundCount_21 dX8_soundCount_22 dX8_soundCount_24 dX8_soundCount_27 (Nat.le_of_ble_eq_true rfl) (Nat.le_of_ble_eq_true rfl))
    · refine lv_iload_n hx hb dX8_soundCount_12 rfl (lv_at hl 2 rfl) ?_
      refine lv_bipush (v := 9) hx hb dX8_soundCount_13 (by decide) ?_
      refine lv_icmp_le (tgt := 28) hx hb dX8_soundCount_15 (by decide) (fun c5 => q_pos c5 ?_) (fun c5 => q_neg c5 ?_)
      · refine lv_aload_n hx hb dX8_soundCount_28 rfl (lv_at hl 0 rfl) ?_
        refine m_gR (k := 0) X hH inC8 t0 rfl W279 dX8_soundCount_29 5 rfl (fun t6 => ?_)
        refine lv_iload_n hx hb dX8_soundCount_32 rfl (lv_at hl 1 rfl) ?_
        refine lv_iload_n hx hb dX8_soundCount_33 rfl (lv_at hl 2 rfl) ?_
        refine q_bind (fun v8 e7 => ?_)
        refine my_doneI hL (my_runV X hH hl.1 (co_X5_soundsOf g l hst (mR M a0 0) p1_ p2_ M t6 v8 e7) ok_X5_soundsOf W588 t6 rfl (by decide) rfl rfl rfl ⟨Nat.le_of_ble_eq_true rfl, Nat.le_of_ble_eq_true rfl⟩ ⟨Nat.zero_le _, Nat.zero_le _⟩ (Nat.le_of_ble_eq_true rfl) dX8_soundCount_34) (fun H locs hH hL => ?_)
        exact q_end2 (m_iret X hr hH hL dX8_soundCount_37)
      · exact q_thr (m_throw X htb hH hL hl.1 okT7 dX8_soundCount_18 dX8_soundCount_21 dX8_soundCount_22 dX8_soundCount_24 dX8_soundCount_27 (Nat.le_of_ble_eq_true rfl) (Nat.le_of_ble_eq_true rfl))

set_option maxRecDepth 20000 in
set_option maxHeartbeats 4000000 in
theorem co_X8_greatestTotal (g : GP) (l : Launch) (hst : l.stackTraces = false) (a0 : Nat) (M : Mem) (t0 : tyT a0 = 8) (o : Int32 ⊕ String) (M' : Mem) (hF : F_X8_greatestTotal a0 M = some (o, M')) : CO g l yX8_greatestTotal cX8_greatestTotal 1 (some .int) 6 200 rvI [.ref (adr g a0)] M o M' := by
  refine CO_of hst (by decide) (Nat.le_of_ble_eq_true rfl) ?_
  intro p e s m below meth c ls X hr htb hH hL hl
  have hx := X.1
  have hb := X.2.1
  have hts := X.2.2.2.2.1
  refine q_out hF ?_
  rw [F_X8_greatestTotal]
  replace hl : lv_has ls 1 [(0, .ref (adr g a0))] := hl
  refine lv_aload_n hx hb dX8_greatestTotal_0 rfl (lv_at hl 0 rfl) ?_
  refine m_gR (k := 0) X hH inC8 t0 rfl W279 dX8_greatestTotal_1 5 rfl (fun t1 => ?_)
  refine m_gI (k := 4) X hH inC5 t1 rfl W166 dX8_greatestTotal_4 ?_
  refine lv_if_ne (tgt := 20) hx hb dX8_greatestTotal_7 (by decide) (fun c2 => q_neg c2 ?_) (fun c2 => q_pos c2 ?_)
  · refine lv_aload_n hx hb dX8_greatestTotal_20 rfl (lv_at hl 0 rfl) ?_
    refine m_gR (k := 0) X hH inC8 t0 rfl W279 dX8_greatestTotal_21 5 rfl (fun t3 => ?_)
    refine m_gI (k := 6) X hH inC5 t3 rfl W170 dX8_greatestTotal_24 ?_
    exact q_end2 (m_iret X hr hH hL dX8_greatestTotal_27)
  · exact q_thr (m_throwN X htb hH hL hl.1 okT11 dX8_greatestTotal_10 dX8_greatestTotal_13 dX8_greatestTotal_14 dX8_greatestTotal_16 dX8_greatestTotal_19 (Nat.le_of_ble_eq_true rfl) (Nat.le_of_ble_eq_true rfl))

set_option maxRecDepth 20000 in
set_option maxHeartbeats 4000000 in
theorem co_X5_totalOf (g : GP) (l : Launch) (hst : l.stackTraces = false) (a0 : Nat) (p1_ : Int32) (M : Mem) (t0 : tyT a0 = 5) (v : Int32) (hF : F_X5_totalOf a0 p1_ M = some v) : CO g l yX5_totalOf cX5_totalOf 3 (some .int) 0 0 rvI [.ref (adr g a0), .int p1_] M (.inl v : Int32 ⊕ String) M := by
  refine CO_of hst (by decide) (Nat.le_of_ble_eq_true rfl) ?_
  intro p e s m below meth c ls X hr htb hH hL hl
  have hx := X.1
  have hb := X.2.1
  have hts := X.2.2.2.2.1
  refine q_out hF ?_
  rw [F_X5_totalOf]
  replace hl : lv_has ls 3 [(0, .ref (adr g a0)), (1, .int p1_)] := hl
  refine lv_iload_n hx hb dX5_totalOf_0 rfl (lv_at hl 1 rfl) ?_
  refine lv_bipush (v := 10) hx hb dX5_totalOf_1 (by decide) ?_
  refine lv_irem hx hb dX5_totalOf_3 (by decide) ?_
  refine q_lt (fun v1 e_v1 => ?_)
  refine q_topI e_v1 ?_
  refine lv_istore_n (lv' := [(2, .int v1), (0, .ref (adr g a0)), (1, .int p1_)]) hx hb dX5_totalOf_4 rfl hl (by decide) rfl (fun ls hl => ?_)
  refine lv_iload_n hx hb dX5_totalOf_5 rfl (lv_at hl 0 rfl) ?_
  refine lv_if_lt (tgt := 27) hx hb dX5_totalOf_6 (by decide) (fun c2 => q_pos c2 ?_) (fun c2 => q_neg c2 ?_)
  · refine lv_iconst (v := 0) hx hb dX5_totalOf_27 (by decide) ?_
    exact q_end0 (m_iret X hr hH hL dX5_totalOf_28)
  · refine lv_iload_n hx hb dX5_totalOf_9 rfl (lv_at hl 0 rfl) ?_
    refine lv_aload_n hx hb dX5_totalOf_10 rfl (lv_at hl 1 rfl) ?_
    refine m_gR (k := 9) X hH inC5 t0 rfl W174 dX5_totalOf_11 22 rfl (fun t3 => ?_)
    refine m_alen X hH t3 rfl (by decide) (v := 10) (by decide) dX5_totalOf_14 ?_
    refine lv_icmp_ge (tgt := 27) hx hb dX5_totalOf_15 (by decide) (fun c4 => q_pos c4 ?_) (fun c4 => q_neg c4 ?_)
    · refine lv_iconst (v := 0) hx hb dX5_totalOf_27 (by decide) ?_
      exact q_end0 (m_iret X hr hH hL dX5_totalOf_28)
    · refine lv_aload_n hx hb dX5_totalOf_18 rfl (lv_at hl 1 rfl) ?_
      refine m_gR (k := 9) X hH inC5 t0 rfl W174 dX5_totalOf_19 22 rfl (fun t5 => ?_)
      refine lv_iload_n hx hb dX5_totalOf_22 rfl (lv_at hl 0 rfl) ?_
      refine q_chk (fun hb6 => ?_)
      refine m_iald X hH t5 rfl (by decide) (fun _ => rfl) rfl rfl hb6 dX5_totalOf_23 ?_
      refine lv_goto (tgt := 28) hx hb dX5_totalOf_24 (by decide) ?_
      exact q_end0 (m_iret X hr hH hL dX5_totalOf_28)

set_option maxRecDepth 20000 in
set_option maxHeartbeats 4000000 in
theorem co_X8_loggedTotal (g : GP) (l : Launch) (hst : l.stackTraces = false) (a0 : Nat) (p1_ : Int32) (M : Mem) (t0 : tyT a0 = 8) (o : Int32 ⊕ String) (M' : Mem) (hF : F_X8_loggedTotal a0 p1_ M = some (o, M')) : CO g l yX8_loggedTotal cX8_loggedTotal 2 (some .int) 6 200 rvI [.ref (adr g a0), .int p1_] M o M' := by
  refine CO_of hst (by decide) (Nat.le_of_ble_eq_true rfl) ?_
  intro p e s m below meth c ls X hr htb hH hL hl
  have hx := X.1
  have hb := X.2.1
  have hts := X.2.2.2.2.1
  refine q_out hF ?_
  rw [F_X8_loggedTotal]
  replace hl : lv_has ls 2 [(0, .ref (adr g a0)), (1, .int p1_)] := hl
  refine lv_iload_n hx hb dX8_loggedTotal_0 rfl (lv_at hl 1 rfl) ?_
  refine lv_if_lt (tgt := 21) hx hb dX8_loggedTotal_1 (by decide) (fun c1 => q_pos c1 ?_) (fun c1 => q_neg c1 ?_)
  · exact q_thr (m_throwN X htb hH hL hl.1 okT12 dX8_loggedTotal_21 dX8_loggedTotal_24 dX8_loggedTotal_25 dX8_loggedTotal_27 dX8_loggedTotal_30 (Nat.le_of_ble_eq_true rfl) (Nat.le_of_ble_eq_true rfl))
  · refine lv_iload_n hx hb dX8_loggedTotal_4 rfl (lv_at hl 1 rfl) ?_
    refine lv_bipush (v := 10) hx hb dX8_loggedTotal_5 (by decide) ?_
    refine lv_icmp_ge (tgt := 21) hx hb dX8_loggedTotal_7 (by decide) (fun c2 => q_pos c2 ?_) (fun c2 => q_neg c2 ?_)
    · exact q_thr (m_throwN X htb hH hL hl.1 okT12 dX8_loggedTotal_21 dX8_loggedTotal_24 dX8_loggedTotal_25 dX8_loggedTotal_27 dX8_loggedTotal_30 (Nat.le_of_ble_eq_true rfl) (Nat.le_of_ble_eq_true rfl))
    · refine lv_iload_n hx hb dX8_loggedTotal_10 rfl (lv_at hl 1 rfl) ?_
      refine lv_aload_n hx hb dX8_loggedTotal_11 rfl (lv_at hl 0 rfl) ?_
      refine m_gR (k := 0) X hH inC8 t0 rfl W279 dX8_loggedTotal_12 5 rfl (fun t3 => ?_)
      refine m_gI (k := 4) X hH inC5 t3 rfl W166 dX8_loggedTotal_15 ?_
      refine lv_icmp_lt (tgt := 31) hx hb dX8_loggedTotal_18 (by decide) (fun c4 => q_pos c4 ?_) (fun c4 => q_neg c4 ?_)
      · refine lv_aload_n hx hb dX8_loggedTotal_31 rfl (lv_at hl 0 rfl) ?_
        refine m_gR (k := 0) X hH inC8 t0 rfl W279 dX8_loggedTotal_32 5 rfl (fun t5 => ?_)
        refine lv_aload_n hx hb dX8_loggedTotal_35 rfl (lv_at hl 0 rfl) ?_
        refine m_gR (k := 0) X hH inC8 t0 rfl W279 dX8_loggedTotal_36 5 rfl (fun t6 => ?_)
        refine m_gI (k := 4) X hH inC5 t6 rfl W166 dX8_loggedTotal_39 ?_
        refine lv_iconst (v := 1) hx hb dX8_loggedTotal_42 (by decide) ?_
        refine lv_isub hx hb dX8_loggedTotal_43 ?_
        refine lv_iload_n hx hb dX8_loggedTotal_44 rfl (lv_at hl 1 rfl) ?_
        refine lv_isub hx hb dX8_loggedTotal_45 ?_
        refine q_bind (fun v8 e7 => ?_)
        refine my_doneI hL (my_runV X hH hl.1 (co_X5_totalOf g l hst (mR M a0 0) (((mI M (mR M a0 0) 4) - 1) - p1_) M t5 v8 e7) ok_X5_totalOf W972 t5 rfl (by decide) rfl rfl rfl ⟨Nat.le_of_ble_eq_true rfl, Nat.le_of_ble_eq_true rfl⟩ ⟨Nat.zero_le _, Nat.zero_le _⟩ (Nat.le_of_ble_eq_true rfl) dX8_loggedTotal_46) (fun H locs hH hL => ?_)
        exact q_end2 (m_iret X hr hH hL dX8_loggedTotal_49)
      · exact q_thr (m_throwN X htb hH hL hl.1 okT12 dX8_loggedTotal_21 dX8_loggedTotal_24 dX8_loggedTotal_25 dX8_loggedTotal_27 dX8_loggedTotal_30 (Nat.le_of_ble_eq_true rfl) (Nat.le_of_ble_eq_true rfl))

set_option maxRecDepth 20000 in
set_option maxHeartbeats 4000000 in
theorem co_X8_precedes (g : GP) (l : Launch) (hst : l.stackTraces = false) (a0 : Nat) (p1_ : Int32) (p2_ : Int32) (M : Mem) (t0 : tyT a0 = 8) (o : Int32 ⊕ String) (M' : Mem) (hF : F_X8_precedes a0 p1_ p2_ M = some (o, M')) : CO g l yX8_precedes cX8_precedes 3 (some .boolean) 8 242 rvI [.ref (adr g a0), .int p1_, .int p2_] M o M' := by
  refine CO_of hst (by decide) (Nat.le_of_ble_eq_true rfl) ?_
  intro p e s m below meth c ls X hr htb hH hL hl
  have hx := X.1
  have hb := X.2.1
  have hts := X.2.2.2.2.1
  refine q_out hF ?_
  rw [F_X8_precedes]
  replace hl : lv_has ls 3 [(0, .ref (adr g a0)), (1, .int p1_), (2, .int p2_)] := hl
  refine lv_aload_n hx hb dX8_precedes_0 rfl (lv_at hl 0 rfl) ?_
  refine lv_iload_n hx hb dX8_precedes_1 rfl (lv_at hl 1 rfl) ?_
  refine q_bx2 (fun v2 M3 e1 => ?_) (fun E4 M3 e1 => my_thrown X.2.2.2.2.2.2.1 htb hL (my_runV X hH hl.1 (co_X8_playedVolume g l hst a0 p1_ M t0 (.inr E4) M3 e1) ok_X8_playedVolume W991 t0 rfl (by decide) rfl rfl rfl ⟨Nat.le_of_ble_eq_true rfl, Nat.le_of_ble_eq_true rfl⟩ ⟨Nat.le_refl _, Nat.le_refl _⟩ (Nat.le_of_ble_eq_true rfl) dX8_precedes_2))
  refine my_doneI hL (my_runV X hH hl.1 (co_X8_playedVolume g l hst a0 p1_ M t0 (.inl v2) M3 e1) ok_X8_playedVolume W991 t0 rfl (by decide) rfl rfl rfl ⟨Nat.le_of_ble_eq_true rfl, Nat.le_of_ble_eq_true rfl⟩ ⟨Nat.zero_le _, Nat.zero_le _⟩ (Nat.le_of_ble_eq_true rfl) dX8_precedes_2) (fun H locs hH hL => ?_)
  refine lv_aload_n hx hb dX8_precedes_5 rfl (lv_at hl 0 rfl) ?_
  refine lv_iload_n hx hb dX8_precedes_6 rfl (lv_at hl 2 rfl) ?_
  refine q_bx2 (fun v6 M7 e5 => ?_) (fun E8 M7 e5 => my_thrown X.2.2.2.2.2.2.1 htb hL (my_runV X hH hl.1 (co_X8_playedVolume g l hst a0 p2_ M3 t0 (.inr E8) M7 e5) ok_X8_playedVolume W991 t0 rfl (by decide) rfl rfl rfl ⟨Nat.le_of_ble_eq_true rfl, Nat.le_of_ble_eq_true rfl⟩ ⟨Nat.le_refl _, Nat.le_refl _⟩ (Nat.le_of_ble_eq_true rfl) dX8_precedes_7))
  refine my_doneI hL (my_runV X hH hl.1 (co_X8_playedVolume g l hst a0 p2_ M3 t0 (.inl v6) M7 e5) ok_X8_playedVolume W991 t0 rfl (by decide) rfl rfl rfl ⟨Nat.le_of_ble_eq_true rfl, Nat.le_of_ble_eq_true rfl⟩ ⟨Nat.zero_le _, Nat.zero_le _⟩ (Nat.le_of_ble_eq_true rfl) dX8_precedes_7) (fun H locs hH hL => ?_)
  refine lv_icmp_eq (tgt := 32) hx hb dX8_precedes_10 (by decide) (fun c9 => q_pos c9 ?_) (fun c9 => q_neg c9 ?_)
  · refine lv_aload_n hx hb dX8_precedes_32 rfl (lv_at hl 0 rfl) ?_
    refine lv_iload_n hx hb dX8_precedes_33 rfl (lv_at hl 1 rfl) ?_
    refine q_bx2 (fun v11 M12 e10 => ?_) (fun E13 M12 e10 => my_thrown X.2.2.2.2.2.2.1 htb hL (my_runV X hH hl.1 (co_X8_fatigue g l hst a0 p1_ M7 t0 (.inr E13) M12 e10) ok_X8_fatigue W992 t0 rfl (by decide) rfl rfl rfl ⟨Nat.le_of_ble_eq_true rfl, Nat.le_of_ble_eq_true rfl⟩ ⟨Nat.le_refl _, Nat.le_refl _⟩ (Nat.le_of_ble_eq_true rfl) dX8_precedes_34))
    refine my_doneI hL (my_runV X hH hl.1 (co_X8_fatigue g l hst a0 p1_ M7 t0 (.inl v11) M12 e10) ok_X8_fatigue W992 t0 rfl (by decide) rfl rfl rfl ⟨Nat.le_of_ble_eq_true rfl, Nat.le_of_ble_eq_true rfl⟩ ⟨Nat.zero_le _, Nat.zero_le _⟩ (Nat.le_of_ble_eq_true rfl) dX8_precedes_34) (fun H locs hH hL => ?_)
    refine lv_aload_n hx hb dX8_precedes_37 rfl (lv_at hl 0 rfl) ?_
    refine lv_iload_n hx hb dX8_precedes_38 rfl (lv_at hl 2 rfl) ?_
    refine q_bx2 (fun v15 M16 e14 => ?_) (fun E17 M16 e14 => my_thrown X.2.2.2.2.2.2.1 htb hL (my_runV X hH hl.1 (co_X8_fatigue g l hst a0 p2_ M12 t0 (.inr E17) M16 e14) ok_X8_fatigue W992 t0 rfl (by decide) rfl rfl rfl ⟨Nat.le_of_ble_eq_true rfl, Nat.le_of_ble_eq_true rfl⟩ ⟨Nat.le_refl _, Nat.le_refl _⟩ (Nat.le_of_ble_eq_true rfl) dX8_precedes_39))
    refine my_doneI hL (my_runV X hH hl.1 (co_X8_fatigue g l hst a0 p2_ M12 t0 (.inl v15) M16 e14) ok_X8_fatigue W992 t0 rfl (by decide) rfl rfl rfl ⟨Nat.le_of_ble_eq_true rfl, Nat.le_of_ble_eq_true rfl⟩ ⟨Nat.zero_le _, Nat.zero_le _⟩ (Nat.le_of_ble_eq_true rfl) dX8_precedes_39) (fun H locs hH hL => ?_)
    refine lv_icmp_eq (tgt := 64) hx hb dX8_precedes_42 (by decide) (fun c18 => q_pos c18 ?_) (fun c18 => q_neg c18 ?_)
    · refine lv_iload_n hx hb dX8_precedes_64 rfl (lv_at hl 1 rfl) ?_
      refine lv_iload_n hx hb dX8_precedes_65 rfl (lv_at hl 2 rfl) ?_
      refine lv_icmp_ge (tgt := 73) hx hb dX8_precedes_66 (by decide) (fun c19 => q_pos c19 ?_) (fun c19 => q_neg c19 ?_)
      · refine lv_iconst (v := 0) hx hb dX8_precedes_73 (by decide) ?_
        exact q_end2 (m_zret X hr hH hL (by decide) dX8_precedes_74)
      · refine lv_iconst (v := 1) hx hb dX8_precedes_69 (by decide) ?_
        refine lv_goto (tgt := 74) hx hb dX8_precedes_70 (by decide) ?_
        exact q_end2 (m_zret X hr hH hL (by decide) dX8_precedes_74)
    · refine lv_aload_n hx hb dX8_precedes_45 rfl (lv_at hl 0 rfl) ?_
      refine lv_iload_n hx hb dX8_precedes_46 rfl (lv_at hl 1 rfl) ?_
      refine q_bx2 (fun v21 M22 e20 => ?_) (fun E23 M22 e20 => my_thrown X.2.2.2.2.2.2.1 htb hL (my_runV X hH hl.1 (co_X8_fatigue g l hst a0 p1_ M16 t0 (.inr E23) M22 e20) ok_X8_fatigue W992 t0 rfl (by decide) rfl rfl rfl ⟨Nat.le_of_ble_eq_true rfl, Nat.le_of_ble_eq_true rfl⟩ ⟨Nat.le_refl _, Nat.le_refl _⟩ (Nat.le_of_ble_eq_true rfl) dX8_precedes_47))
      refine my_doneI hL (my_runV X hH hl.1 (co_X8_fatigue g l hst a0 p1_ M16 t0 (.inl v21) M22 e20) ok_X8_fatigue W992 t0 rfl (by decide) rfl rfl rfl ⟨Nat.le_of_ble_eq_true rfl, Nat.le_of_ble_eq_true rfl⟩ ⟨Nat.zero_le _, Nat.zero_le _⟩ (Nat.le_of_ble_eq_true rfl) dX8_precedes_47) (fun H locs hH hL => ?_)
      refine lv_aload_n hx hb dX8_precedes_50 rfl (lv_at hl 0 rfl) ?_
      refine lv_iload_n hx hb dX8_precedes_51 rfl (lv_at hl 2 rfl) ?_
      refine q_bx2 (fun v25 M26 e24 => ?_) (fun E27 M26 e24 => my_thrown X.2.2.2.2.2.2.1 htb hL (my_runV X hH hl.1 (co_X8_fatigue g l hst a0 p2_ M22 t0 (.inr E27) M26 e24) ok_X8_fatigue W992 t0 rfl (by decide) rfl rfl rfl ⟨Nat.le_of_ble_eq_true rfl, Nat.le_of_ble_eq_true rfl⟩ ⟨Nat.le_refl _, Nat.le_refl _⟩ (Nat.le_of_ble_eq_true rfl) dX8_precedes_52))
      refine my_doneI hL (my_runV X hH hl.1 (co_X8_fatigue g l hst a0 p2_ M22 t0 (.inl v25) M26 e24) ok_X8_fatigue W992 t0 rfl (by decide) rfl rfl rfl ⟨Nat.le_of_ble_eq_true rfl, Nat.le_of_ble_eq_true rfl⟩ ⟨Nat.zero_le _, Nat.zero_le _⟩ (Nat.le_of_ble_eq_true rfl) dX8_precedes_52) (fun H locs hH hL => ?_)
      refine lv_icmp_ge (tgt := 62) hx hb dX8_precedes_55 (by decide) (fun c28 => q_pos c28 ?_) (fun c28 => q_neg c28 ?_)
      · refine lv_iconst (v := 0) hx hb dX8_precedes_62 (by decide) ?_
        exact q_end2 (m_zret X hr hH hL (by decide) dX8_precedes_63)
      · refine lv_iconst (v := 1) hx hb dX8_precedes_58 (by decide) ?_
        refine lv_goto (tgt := 63) hx hb dX8_precedes_59 (by decide) ?_
        exact q_end2 (m_zret X hr hH hL (by decide) dX8_precedes_63)
  · refine lv_aload_n hx hb dX8_precedes_13 rfl (lv_at hl 0 rfl) ?_
    refine lv_iload_n hx hb dX8_precedes_14 rfl (lv_at hl 1 rfl) ?_
    refine q_bx2 (fun v30 M31 e29 => ?_) (fun E32 M31 e29 => my_thrown X.2.2.2.2.2.2.1 htb hL (my_runV X hH hl.1 (co_X8_playedVolume g l hst a0 p1_ M7 t0 (.inr E32) M31 e29) ok_X8_playedVolume W991 t0 rfl (by decide) rfl rfl rfl ⟨Nat.le_of_ble_eq_true rfl, Nat.le_of_ble_eq_true rfl⟩ ⟨Nat.le_refl _, Nat.le_refl _⟩ (Nat.le_of_ble_eq_true rfl) dX8_precedes_15))
    refine my_doneI hL (my_runV X hH hl.1 (co_X8_playedVolume g l hst a0 p1_ M7 t0 (.inl v30) M31 e29) ok_X8_playedVolume W991 t0 rfl (by decide) rfl rfl rfl ⟨Nat.le_of_ble_eq_true rfl, Nat.le_of_ble_eq_true rfl⟩ ⟨Nat.zero_le _, Nat.zero_le _⟩ (Nat.le_of_ble_eq_true rfl) dX8_precedes_15) (fun H locs hH hL => ?_)
    refine lv_aload_n hx hb dX8_precedes_18 rfl (lv_at hl 0 rfl) ?_
    refine lv_iload_n hx hb dX8_precedes_19 rfl (lv_at hl 2 rfl) ?_
    refine q_bx2 (fun v34 M35 e33 => ?_) (fun E36 M35 e33 => my_thrown X.2.2.2.2.2.2.1 htb hL (my_runV X hH hl.1 (co_X8_playedVolume g l hst a0 p2_ M31 t0 (.inr E36) M35 e33) ok_X8_playedVolume W991 t0 rfl (by decide) rfl rfl rfl ⟨Nat.le_of_ble_eq_true rfl, Nat.le_of_ble_eq_true rfl⟩ ⟨Nat.le_refl _, Nat.le_refl _⟩ (Nat.le_of_ble_eq_true rfl) dX8_precedes_20))
    refine my_doneI hL (my_runV X hH hl.1 (co_X8_playedVolume g l hst a0 p2_ M31 t0 (.inl v34) M35 e33) ok_X8_playedVolume W991 t0 rfl (by decide) rfl rfl rfl ⟨Nat.le_of_ble_eq_true rfl, Nat.le_of_ble_eq_true rfl⟩ ⟨Nat.zero_le _, Nat.zero_le _⟩ (Nat.le_of_ble_eq_true rfl) dX8_precedes_20) (fun H locs hH hL => ?_)
    refine lv_icmp_le (tgt := 30) hx hb dX8_precedes_23 (by decide) (fun c37 => q_pos c37 ?_) (fun c37 => q_neg c37 ?_)
    · refine lv_iconst (v := 0) hx hb dX8_precedes_30 (by decide) ?_
      exact q_end2 (m_zret X hr hH hL (by decide) dX8_precedes_31)
    · refine lv_iconst (v := 1) hx hb dX8_precedes_26 (by decide) ?_
      refine lv_goto (tgt := 31) hx hb dX8_precedes_27 (by decide) ?_
      exact q_end2 (m_zret X hr hH hL (by decide) dX8_precedes_31)

set_option maxRecDepth 20000 in
set_option maxHeartbeats 4000000 in
theorem co_X8_sectionRank (g : GP) (l : Launch) (hst : l.stackTraces = false) (a0 : Nat) (p1_ : Int32) (M : Mem) (t0 : tyT a0 = 8) (o : Int32 ⊕ String) (M' : Mem) (hF : F_X8_sectionRank a0 p1_ M = some (o, M')) : CO g l yX8_sectionRank cX8_sectionRank 4 (some .int) 9 264 rvI [.ref (adr g a0), .int p1_] M o M' := by
  refine CO_of hst (by decide) (Nat.le_of_ble_eq_true rfl) ?_
  intro p e s m below meth c ls X hr htb hH hL hl
  have hx := X.1
  have hb := X.2.1
  have hts := X.2.2.2.2.1
  refine q_out hF ?_
  rw [F_X8_sectionRank]
  replace hl : lv_has ls 4 [(0, .ref (adr g a0)), (1, .int p1_)] := hl
  refine lv_iconst (v := 0) hx hb dX8_sectionRank_0 (by decide) ?_
  refine lv_istore_n (lv' := [(2, .int 0), (0, .ref (adr g a0)), (1, .int p1_)]) hx hb dX8_sectionRank_1 rfl hl (by decide) rfl (fun ls hl => ?_)
  refine lv_iconst (v := 0) hx hb dX8_sectionRank_2 (by decide) ?_
  refine lv_istore_n (lv' := [(3, .int 0), (2, .int 0), (0, .ref (adr g a0)), (1, .int p1_)]) hx hb dX8_sectionRank_3 rfl hl (by decide) rfl (fun ls hl => ?_)
  have L15 : ∀ (K : Int32 → Int32 → Mem → Option ((Int32 ⊕ String) × Mem)) (_ : ∀ (i1 : Int32) (i2 : Int32) (M3 : Mem) (H : Heap) (locs : List Loc) (ls : Array Slot), HR g M3 H → LK g s H locs → lv_has ls 4 [(0, .ref (adr g a0)), (1, .int p1_), (2, .int i1), (3, .int i2)] → W p l e (rmO o 9 264) s m ([.ref (adr g a0), .int p1_] : List Value).toArray below meth c H locs 0 0 (GQ (K i1 i2 M3) (o, M') (MQO g below rvI o M' ([.ref (adr g a0), .int p1_] : List Value).toArray s)) (F0 m 33 ls [])) (n : Nat) (i1 : Int32) (i2 : Int32) (M3 : Mem) (H : Heap) (locs : List Loc) (ls : Array Slot), HR g M3 H → LK g s H locs → lv_has ls 4 [(0, .ref (adr g a0)), (1, .int p1_), (2, .int i1), (3, .int i2)] → W p l e (rmO o 9 264) s m ([.ref (adr g a0), .int p1_] : List Value).toArray below meth c H locs 0 0 (GQ (F_X8_sectionRank_L1 a0 p1_ K n i1 i2 M3) (o, M') (MQO g below rvI o M' ([.ref (adr g a0), .int p1_] : List Value).toArray s)) (F0 m 4 ls []) := by
    intro K hK n
    induction n with
    | zero => intros; exact q_none
    | succ n ih =>
      intro i1 i2 M3 H locs ls hH hL hl 
      rw [F_X8_sectionRank_L1]
      refine lv_iload_n hx hb dX8_sectionRank_4 rfl (lv_at hl 3 rfl) ?_
      refine lv_aload_n hx hb dX8_sectionRank_5 rfl (lv_at hl 0 rfl) ?_
      refine m_gR (k := 0) X hH inC8 t0 rfl W279 dX8_sectionRank_6 5 rfl (fun t5 => ?_)
      refine m_gI (k := 1) X hH inC5 t5 rfl W160 dX8_sectionRank_9 ?_
      refine lv_icmp_ge (tgt := 33) hx hb dX8_sectionRank_12 (by decide) (fun c6 => q_pos c6 ?_) (fun c6 => q_neg c6 ?_)
      · exact hK i1 i2 M3 _ _ ls hH hL hl 
      · refine lv_aload_n hx hb dX8_sectionRank_15 rfl (lv_at hl 0 rfl) ?_
        refine lv_iload_n hx hb dX8_sectionRank_16 rfl (lv_at hl 3 rfl) ?_
        refine lv_iload_n hx hb dX8_sectionRank_17 rfl (lv_at hl 1 rfl) ?_
        refine q_bx2 (fun v8 M9 e7 => ?_) (fun E10 M9 e7 => my_thrown X.2.2.2.2.2.2.1 htb hL (my_runV X hH hl.1 (co_X8_precedes g l hst a0 i2 p1_ M3 t0 (.inr E10) M9 e7) ok_X8_precedes W987 t0 rfl (by decide) rfl rfl rfl ⟨Nat.le_of_ble_eq_true rfl, Nat.le_of_ble_eq_true rfl⟩ ⟨Nat.le_refl _, Nat.le_refl _⟩ (Nat.le_of_ble_eq_true rfl) dX8_sectionRank_18))
        refine my_doneI hL (my_runV X hH hl.1 (co_X8_precedes g l hst a0 i2 p1_ M3 t0 (.inl v8) M9 e7) ok_X8_precedes W987 t0 rfl (by decide) rfl rfl rfl ⟨Nat.le_of_ble_eq_true rfl, Nat.le_of_ble_eq_true rfl⟩ ⟨Nat.zero_le _, Nat.zero_le _⟩ (Nat.le_of_ble_eq_true rfl) dX8_sectionRank_18) (fun H locs hH hL => ?_)
        refine lv_if_eq (tgt := 27) hx hb dX8_sectionRank_21 (by decide) (fun c11 => q_pos c11 ?_) (fun c11 => q_neg c11 ?_)
        · refine q_lt (fun v12 e_v12 => ?_)
          refine lv_iinc (v := v12) (lv' := [(3, .int v12), (0, .ref (adr g a0)), (1, .int p1_), (2, .int i1)]) hx hb dX8_sectionRank_27 hl (k := 3) rfl (by rw [e_v12]; rfl) (by decide) rfl (fun ls hl => ?_)
          refine lv_goto (tgt := 4) hx hb dX8_sectionRank_30 (by decide) ?_
          exact ih i1 v12 M9 _ _ ls hH hL (lv_sub hl [1, 2, 3, 0] rfl) 
        · refine q_lt (fun v13 e_v13 => ?_)
          refine lv_iinc (v := v13) (lv' := [(2, .int v13), (0, .ref (adr g a0)), (1, .int p1_), (3, .int i2)]) hx hb dX8_sectionRank_24 hl (k := 2) rfl (by rw [e_v13]; rfl) (by decide) rfl (fun ls hl => ?_)
          refine q_lt (fun v14 e_v14 => ?_)
          refine lv_iinc (v := v14) (lv' := [(3, .int v14), (2, .int v13), (0, .ref (adr g a0)), (1, .int p1_)]) hx hb dX8_sectionRank_27 hl (k := 3) rfl (by rw [e_v14]; rfl) (by decide) rfl (fun ls hl => ?_)
          refine lv_goto (tgt := 4) hx hb dX8_sectionRank_30 (by decide) ?_
          exact ih v13 v14 M9 _ _ ls hH hL (lv_sub hl [2, 3, 1, 0] rfl) 
  refine L15 _ (fun x16 x17 M18 H locs ls hH hL hl  => ?_) 3000 0 0 M _ _ ls hH hL (lv_sub hl [2, 3, 1, 0] rfl) 
  refine lv_iload_n hx hb dX8_sectionRank_33 rfl (lv_at hl 2 rfl) ?_
  exact q_end2 (m_iret X hr hH hL dX8_sectionRank_34)

set_option maxRecDepth 20000 in
set_option maxHeartbeats 4000000 in
theorem co_X8_sectionByVolume (g : GP) (l : Launch) (hst : l.stackTraces = false) (a0 : Nat) (p1_ : Int32) (M : Mem) (t0 : tyT a0 = 8) (o : Int32 ⊕ String) (M' : Mem) (hF : F_X8_sectionByVolume a0 p1_ M = some (o, M')) : CO g l yX8_sectionByVolume cX8_sectionByVolume 3 (some .int) 10 287 rvI [.ref (adr g a0), .int p1_] M o M' := by
  refine CO_of hst (by decide) (Nat.le_of_ble_eq_true rfl) ?_
  intro p e s m below meth c ls X hr htb hH hL hl
  have hx := X.1
  have hb := X.2.1
  have hts := X.2.2.2.2.1
  refine q_out hF ?_
  rw [F_X8_sectionByVolume]
  replace hl : lv_has ls 3 [(0, .ref (adr g a0)), (1, .int p1_)] := hl
  refine lv_iconst (v := 0) hx hb dX8_sectionByVolume_0 (by decide) ?_
  refine lv_istore_n (lv' := [(2, .int 0), (0, .ref (adr g a0)), (1, .int p1_)]) hx hb dX8_sectionByVolume_1 rfl hl (by decide) rfl (fun ls hl => ?_)
  have L12 : ∀ (K : Int32 → Mem → Option ((Int32 ⊕ String) × Mem)) (_ : ∀ (i1 : Int32) (M2 : Mem) (H : Heap) (locs : List Loc) (ls : Array Slot), HR g M2 H → LK g s H locs → lv_has ls 3 [(0, .ref (adr g a0)), (1, .int p1_), (2, .int i1)] → W p l e (rmO o 10 287) s m ([.ref (adr g a0), .int p1_] : List Value).toArray below meth c H locs 0 0 (GQ (K i1 M2) (o, M') (MQO g below rvI o M' ([.ref (adr g a0), .int p1_] : List Value).toArray s)) (F0 m 30 ls [])) (n : Nat) (i1 : Int32) (M2 : Mem) (H : Heap) (locs : List Loc) (ls : Array Slot), HR g M2 H → LK g s H locs → lv_has ls 3 [(0, .ref (adr g a0)), (1, .int p1_), (2, .int i1)] → W p l e (rmO o 10 287) s m ([.ref (adr g a0), .int p1_] : List Value).toArray below meth c H locs 0 0 (GQ (F_X8_sectionByVolume_L1 a0 p1_ K n i1 M2) (o, M') (MQO g below rvI o M' ([.ref (adr g a0), .int p1_] : List Value).toArray s)) (F0 m 2 ls []) := by
    intro K hK n
    induction n with
    | zero => intros; exact q_none
    | succ n ih =>
      intro i1 M2 H locs ls hH hL hl 
      rw [F_X8_sectionByVolume_L1]
      refine lv_iload_n hx hb dX8_sectionByVolume_2 rfl (lv_at hl 2 rfl) ?_
      refine lv_aload_n hx hb dX8_sectionByVolume_3 rfl (lv_at hl 0 rfl) ?_
      refine m_gR (k := 0) X hH inC8 t0 rfl W279 dX8_sectionByVolume_4 5 rfl (fun t4 => ?_)
      refine m_gI (k := 1) X hH inC5 t4 rfl W160 dX8_sectionByVolume_7 ?_
      refine lv_icmp_ge (tgt := 30) hx hb dX8_sectionByVolume_10 (by decide) (fun c5 => q_pos c5 ?_) (fun c5 => q_neg c5 ?_)
      · exact hK i1 M2 _ _ ls hH hL hl 
      · refine lv_aload_n hx hb dX8_sectionByVolume_13 rfl (lv_at hl 0 rfl) ?_
        refine lv_iload_n hx hb dX8_sectionByVolume_14 rfl (lv_at hl 2 rfl) ?_
        refine q_bx2 (fun v7 M8 e6 => ?_) (fun E9 M8 e6 => my_thrown X.2.2.2.2.2.2.1 htb hL (my_runV X hH hl.1 (co_X8_sectionRank g l hst a0 i1 M2 t0 (.inr E9) M8 e6) ok_X8_sectionRank W983 t0 rfl (by decide) rfl rfl rfl ⟨Nat.le_of_ble_eq_true rfl, Nat.le_of_ble_eq_true rfl⟩ ⟨Nat.le_refl _, Nat.le_refl _⟩ (Nat.le_of_ble_eq_true rfl) dX8_sectionByVolume_15))
        refine my_doneI hL (my_runV X hH hl.1 (co_X8_sectionRank g l hst a0 i1 M2 t0 (.inl v7) M8 e6) ok_X8_sectionRank W983 t0 rfl (by decide) rfl rfl rfl ⟨Nat.le_of_ble_eq_true rfl, Nat.le_of_ble_eq_true rfl⟩ ⟨Nat.zero_le _, Nat.zero_le _⟩ (Nat.le_of_ble_eq_true rfl) dX8_sectionByVolume_15) (fun H locs hH hL => ?_)
        refine lv_iload_n hx hb dX8_sectionByVolume_18 rfl (lv_at hl 1 rfl) ?_
        refine lv_icmp_ne (tgt := 24) hx hb dX8_sectionByVolume_19 (by decide) (fun c10 => q_neg c10 ?_) (fun c10 => q_pos c10 ?_)
        · refine q_lt (fun v11 e_v11 => ?_)
          refine lv_iinc (v := v11) (lv' := [(2, .int v11), (0, .ref (adr g a0)), (1, .int p1_)]) hx hb dX8_sectionByVolume_24 hl (k := 2) rfl (by rw [e_v11]; rfl) (by decide) rfl (fun ls hl => ?_)
          refine lv_goto (tgt := 2) hx hb dX8_sectionByVolume_27 (by decide) ?_
          exact ih v11 M8 _ _ ls hH hL (lv_sub hl [1, 2, 0] rfl) 
        · refine lv_iload_n hx hb dX8_sectionByVolume_22 rfl (lv_at hl 2 rfl) ?_
          exact q_end2 (m_iret X hr hH hL dX8_sectionByVolume_23)
  refine L12 _ (fun x13 M14 H locs ls hH hL hl  => ?_) 3000 0 M _ _ ls hH hL (lv_sub hl [1, 2, 0] rfl) 
  exact q_thr (m_throwN X htb hH hL hl.1 okT13 dX8_sectionByVolume_30 dX8_sectionByVolume_33 dX8_sectionByVolume_34 dX8_sectionByVolume_36 dX8_sectionByVolume_39 (Nat.le_of_ble_eq_true rfl) (Nat.le_of_ble_eq_true rfl))

set_option maxRecDepth 20000 in
set_option maxHeartbeats 4000000 in
theorem co_X5_soundsOfAllKinds (g : GP) (l : Launch) (hst : l.stackTraces = false) (a0 : Nat) (p1_ : Int32) (M : Mem) (t0 : tyT a0 = 5) (v : Int32) (hF : F_X5_soundsOfAllKinds a0 p1_ M = some v) : CO g l yX5_soundsOfAllKinds cX5_soundsOfAllKinds 2 (some .int) 2 43 rvI [.ref (adr g a0), .int p1_] M (.inl v : Int32 ⊕ String) M := by
  refine CO_of hst (by decide) (Nat.le_of_ble_eq_true rfl) ?_
  intro p e s m below meth c ls X hr htb hH hL hl
  have hx := X.1
  have hb := X.2.1
  have hts := X.2.2.2.2.1
  refine q_out hF ?_
  rw [F_X5_soundsOfAllKinds]
  replace hl : lv_has ls 2 [(0, .ref (adr g a0)), (1, .int p1_)] := hl
  refine lv_aload_n hx hb dX5_soundsOfAllKinds_0 rfl (lv_at hl 0 rfl) ?_
  refine lv_bipush (v := 115) hx hb dX5_soundsOfAllKinds_1 (by decide) ?_
  refine lv_iload_n hx hb dX5_soundsOfAllKinds_3 rfl (lv_at hl 1 rfl) ?_
  refine q_bind (fun v2 e1 => ?_)
  refine my_doneI hL (my_runV X hH hl.1 (co_X5_soundsOf g l hst a0 115 p1_ M t0 v2 e1) ok_X5_soundsOf W1009 t0 rfl (by decide) rfl rfl rfl ⟨Nat.le_of_ble_eq_true rfl, Nat.le_of_ble_eq_true rfl⟩ ⟨Nat.zero_le _, Nat.zero_le _⟩ (Nat.le_of_ble_eq_true rfl) dX5_soundsOfAllKinds_4) (fun H locs hH hL => ?_)
  refine lv_aload_n hx hb dX5_soundsOfAllKinds_7 rfl (lv_at hl 0 rfl) ?_
  refine lv_bipush (v := 119) hx hb dX5_soundsOfAllKinds_8 (by decide) ?_
  refine lv_iload_n hx hb dX5_soundsOfAllKinds_10 rfl (lv_at hl 1 rfl) ?_
  refine q_bind (fun v4 e3 => ?_)
  refine my_doneI hL (my_runV X hH hl.1 (co_X5_soundsOf g l hst a0 119 p1_ M t0 v4 e3) ok_X5_soundsOf W1009 t0 rfl (by decide) rfl rfl rfl ⟨Nat.le_of_ble_eq_true rfl, Nat.le_of_ble_eq_true rfl⟩ ⟨Nat.zero_le _, Nat.zero_le _⟩ (Nat.le_of_ble_eq_true rfl) dX5_soundsOfAllKinds_11) (fun H locs hH hL => ?_)
  refine lv_iadd hx hb dX5_soundsOfAllKinds_14 ?_
  refine lv_aload_n hx hb dX5_soundsOfAllKinds_15 rfl (lv_at hl 0 rfl) ?_
  refine lv_bipush (v := 100) hx hb dX5_soundsOfAllKinds_16 (by decide) ?_
  refine lv_iload_n hx hb dX5_soundsOfAllKinds_18 rfl (lv_at hl 1 rfl) ?_
  refine q_bind (fun v6 e5 => ?_)
  refine my_doneI hL (my_runV X hH hl.1 (co_X5_soundsOf g l hst a0 100 p1_ M t0 v6 e5) ok_X5_soundsOf W1009 t0 rfl (by decide) rfl rfl rfl ⟨Nat.le_of_ble_eq_true rfl, Nat.le_of_ble_eq_true rfl⟩ ⟨Nat.zero_le _, Nat.zero_le _⟩ (Nat.le_of_ble_eq_true rfl) dX5_soundsOfAllKinds_19) (fun H locs hH hL => ?_)
  refine lv_iadd hx hb dX5_soundsOfAllKinds_22 ?_
  exact q_end0 (m_iret X hr hH hL dX5_soundsOfAllKinds_23)

set_option maxRecDepth 20000 in
set_option maxHeartbeats 4000000 in
theorem co_X8_noteRank (g : GP) (l : Launch) (hst : l.stackTraces = false) (a0 : Nat) (p1_ : Int32) (M : Mem) (t0 : tyT a0 = 8) (v : Int32) (hF : F_X8_noteRank a0 p1_ M = some v) : CO g l yX8_noteRank cX8_noteRank 6 (some .int) 3 64 rvI [.ref (adr g a0), .int p1_] M (.inl v : Int32 ⊕ String) M := by
  refine CO_of hst (by decide) (Nat.le_of_ble_eq_true rfl) ?_
  intro p e s m below meth c ls X hr htb hH hL hl
  have hx := X.1
  have hb := X.2.1
  have hts := X.2.2.2.2.1
  refine q_out hF ?_
  rw [F_X8_noteRank]
  replace hl : lv_has ls 6 [(0, .ref (adr g a0)), (1, .int p1_)] := hl
  refine lv_aload_n hx hb dX8_noteRank_0 rfl (lv_at hl 0 rfl) ?_
  refine m_gR (k := 0) X hH inC8 t0 rfl W279 dX8_noteRank_1 5 rfl (fun t1 => ?_)
  refine lv_iload_n hx hb dX8_noteRank_4 rfl (lv_at hl 1 rfl) ?_
  refine q_bind (fun v3 e2 => ?_)
  refine my_doneI hL (my_runV X hH hl.1 (co_X5_soundsOfAllKinds g l hst (mR M a0 0) p1_ M t1 v3 e2) ok_X5_soundsOfAllKinds W1005 t1 rfl (by decide) rfl rfl rfl ⟨Nat.le_of_ble_eq_true rfl, Nat.le_of_ble_eq_true rfl⟩ ⟨Nat.zero_le _, Nat.zero_le _⟩ (Nat.le_of_ble_eq_true rfl) dX8_noteRank_5) (fun H locs hH hL => ?_)
  refine lv_istore_n (lv' := [(2, .int v3), (0, .ref (adr g a0)), (1, .int p1_)]) hx hb dX8_noteRank_8 rfl hl (by decide) rfl (fun ls hl => ?_)
  refine lv_iconst (v := 0) hx hb dX8_noteRank_9 (by decide) ?_
  refine lv_istore_n (lv' := [(3, .int 0), (2, .int v3), (0, .ref (adr g a0)), (1, .int p1_)]) hx hb dX8_noteRank_10 rfl hl (by decide) rfl (fun ls hl => ?_)
  refine lv_iconst (v := 1) hx hb dX8_noteRank_11 (by decide) ?_
  refine lv_istore (lv' := [(4, .int 1), (3, .int 0), (2, .int v3), (0, .ref (adr g a0)), (1, .int p1_)]) hx hb dX8_noteRank_12 hl (by decide) rfl (fun ls hl => ?_)
  have L20 : ∀ (K : Int32 → Int32 → Option Int32) (_ : ∀ (i4 : Int32) (i5 : Int32) (H : Heap) (locs : List Loc) (ls : Array Slot), HR g M H → LK g s H locs → lv_has ls 6 [(0, .ref (adr g a0)), (1, .int p1_), (2, .int v3), (3, .int i4), (4, .int i5)] → W p l e (rmO (.inl v : Int32 ⊕ String) 3 64) s m ([.ref (adr g a0), .int p1_] : List Value).toArray below meth c H locs 0 0 (GQ (K i4 i5) v (MQO g below rvI (.inl v : Int32 ⊕ String) M ([.ref (adr g a0), .int p1_] : List Value).toArray s)) (F0 m 59 ls [])) (n : Nat) (i4 : Int32) (i5 : Int32) (H : Heap) (locs : List Loc) (ls : Array Slot), HR g M H → LK g s H locs → lv_has ls 6 [(0, .ref (adr g a0)), (1, .int p1_), (2, .int v3), (3, .int i4), (4, .int i5)] → W p l e (rmO (.inl v : Int32 ⊕ String) 3 64) s m ([.ref (adr g a0), .int p1_] : List Value).toArray below meth c H locs 0 0 (GQ (F_X8_noteRank_L1 a0 p1_ M v3 K n i4 i5) v (MQO g below rvI (.inl v : Int32 ⊕ String) M ([.ref (adr g a0), .int p1_] : List Value).toArray s)) (F0 m 14 ls []) := by
    intro K hK n
    induction n with
    | zero => intros; exact q_none
    | succ n ih =>
      intro i4 i5 H locs ls hH hL hl 
      rw [F_X8_noteRank_L1]
      refine lv_iload hx hb dX8_noteRank_14 (lv_at hl 4 rfl) ?_
      refine lv_bipush (v := 9) hx hb dX8_noteRank_16 (by decide) ?_
      refine lv_icmp_gt (tgt := 59) hx hb dX8_noteRank_18 (by decide) (fun c7 => q_pos c7 ?_) (fun c7 => q_neg c7 ?_)
      · exact hK i4 i5 _ _ ls hH hL hl 
      · refine lv_aload_n hx hb dX8_noteRank_21 rfl (lv_at hl 0 rfl) ?_
        refine m_gR (k := 0) X hH inC8 t0 rfl W279 dX8_noteRank_22 5 rfl (fun t8 => ?_)
        refine lv_iload hx hb dX8_noteRank_25 (lv_at hl 4 rfl) ?_
        refine q_bind (fun v10 e9 => ?_)
        refine my_doneI hL (my_runV X hH hl.1 (co_X5_soundsOfAllKinds g l hst (mR M a0 0) i5 M t8 v10 e9) ok_X5_soundsOfAllKinds W1005 t8 rfl (by decide) rfl rfl rfl ⟨Nat.le_of_ble_eq_true rfl, Nat.le_of_ble_eq_true rfl⟩ ⟨Nat.zero_le _, Nat.zero_le _⟩ (Nat.le_of_ble_eq_true rfl) dX8_noteRank_27) (fun H locs hH hL => ?_)
        refine lv_istore (lv' := [(5, .int v10), (0, .ref (adr g a0)), (1, .int p1_), (2, .int v3), (3, .int i4), (4, .int i5)]) hx hb dX8_noteRank_30 hl (by decide) rfl (fun ls hl => ?_)
        refine lv_iload hx hb dX8_noteRank_32 (lv_at hl 0 rfl) ?_
        refine lv_iload_n hx hb dX8_noteRank_34 rfl (lv_at hl 3 rfl) ?_
        refine lv_icmp_gt (tgt := 50) hx hb dX8_noteRank_35 (by decide) (fun c11 => q_pos c11 ?_) (fun c11 => q_neg c11 ?_)
        · refine q_lt (fun v12 e_v12 => ?_)
          refine lv_iinc (v := v12) (lv' := [(3, .int v12), (5, .int v10), (0, .ref (adr g a0)), (1, .int p1_), (2, .int v3), (4, .int i5)]) hx hb dX8_noteRank_50 hl (k := 4) rfl (by rw [e_v12]; rfl) (by decide) rfl (fun ls hl => ?_)
          refine q_lt (fun v13 e_v13 => ?_)
          refine lv_iinc (v := v13) (lv' := [(4, .int v13), (3, .int v12), (5, .int v10), (0, .ref (adr g a0)), (1, .int p1_), (2, .int v3)]) hx hb dX8_noteRank_53 hl (k := 5) rfl (by rw [e_v13]; rfl) (by decide) rfl (fun ls hl => ?_)
          refine lv_goto (tgt := 14) hx hb dX8_noteRank_56 (by decide) ?_
          exact ih v12 v13 _ _ ls hH hL (lv_sub hl [3, 4, 5, 1, 0] rfl) 
        · refine lv_iload hx hb dX8_noteRank_38 (lv_at hl 0 rfl) ?_
          refine lv_iload_n hx hb dX8_noteRank_40 rfl (lv_at hl 3 rfl) ?_
          refine lv_icmp_ne (tgt := 53) hx hb dX8_noteRank_41 (by decide) (fun c14 => q_neg c14 ?_) (fun c14 => q_pos c14 ?_)
          · refine q_lt (fun v15 e_v15 => ?_)
            refine lv_iinc (v := v15) (lv' := [(4, .int v15), (5, .int v10), (0, .ref (adr g a0)), (1, .int p1_), (2, .int v3), (3, .int i4)]) hx hb dX8_noteRank_53 hl (k := 5) rfl (by rw [e_v15]; rfl) (by decide) rfl (fun ls hl => ?_)
            refine lv_goto (tgt := 14) hx hb dX8_noteRank_56 (by decide) ?_
            exact ih i4 v15 _ _ ls hH hL (lv_sub hl [2, 3, 4, 5, 0] rfl) 
          · refine lv_iload hx hb dX8_noteRank_44 (lv_at hl 5 rfl) ?_
            refine lv_iload_n hx hb dX8_noteRank_46 rfl (lv_at hl 2 rfl) ?_
            refine lv_icmp_le (tgt := 53) hx hb dX8_noteRank_47 (by decide) (fun c16 => q_pos c16 ?_) (fun c16 => q_neg c16 ?_)
            · refine q_lt (fun v17 e_v17 => ?_)
              refine lv_iinc (v := v17) (lv' := [(4, .int v17), (5, .int v10), (0, .ref (adr g a0)), (1, .int p1_), (2, .int v3), (3, .int i4)]) hx hb dX8_noteRank_53 hl (k := 5) rfl (by rw [e_v17]; rfl) (by decide) rfl (fun ls hl => ?_)
              refine lv_goto (tgt := 14) hx hb dX8_noteRank_56 (by decide) ?_
              exact ih i4 v17 _ _ ls hH hL (lv_sub hl [2, 3, 4, 5, 0] rfl) 
            · refine q_lt (fun v18 e_v18 => ?_)
              refine lv_iinc (v := v18) (lv' := [(3, .int v18), (5, .int v10), (0, .ref (adr g a0)), (1, .int p1_), (2, .int v3), (4, .int i5)]) hx hb dX8_noteRank_50 hl (k := 4) rfl (by rw [e_v18]; rfl) (by decide) rfl (fun ls hl => ?_)
              refine q_lt (fun v19 e_v19 => ?_)
              refine lv_iinc (v := v19) (lv' := [(4, .int v19), (3, .int v18), (5, .int v10), (0, .ref (adr g a0)), (1, .int p1_), (2, .int v3)]) hx hb dX8_noteRank_53 hl (k := 5) rfl (by rw [e_v19]; rfl) (by decide) rfl (fun ls hl => ?_)
              refine lv_goto (tgt := 14) hx hb dX8_noteRank_56 (by decide) ?_
              exact ih v18 v19 _ _ ls hH hL (lv_sub hl [3, 4, 5, 1, 0] rfl) 
  refine L20 _ (fun x21 x22 H locs ls hH hL hl  => ?_) 3000 0 1 _ _ ls hH hL (lv_sub hl [3, 4, 2, 1, 0] rfl) 
  refine lv_iload_n hx hb dX8_noteRank_59 rfl (lv_at hl 3 rfl) ?_
  exact q_end0 (m_iret X hr hH hL dX8_noteRank_60)

set_option maxRecDepth 20000 in
set_option maxHeartbeats 4000000 in
theorem co_X8_noteBySounds (g : GP) (l : Launch) (hst : l.stackTraces = false) (a0 : Nat) (p1_ : Int32) (M : Mem) (t0 : tyT a0 = 8) (o : Int32 ⊕ String) (M' : Mem) (hF : F_X8_noteBySounds a0 p1_ M = some (o, M')) : CO g l yX8_noteBySounds cX8_noteBySounds 3 (some .int) 6 200 rvI [.ref (adr g a0), .int p1_] M o M' := by
  refine CO_of hst (by decide) (Nat.le_of_ble_eq_true rfl) ?_
  intro p e s m below meth c ls X hr htb hH hL hl
  have hx := X.1
  have hb := X.2.1
  have hts := X.2.2.2.2.1
  refine q_out hF ?_
  rw [F_X8_noteBySounds]
  replace hl : lv_has ls 3 [(0, .ref (adr g a0)), (1, .int p1_)] := hl
  refine lv_iconst (v := 1) hx hb dX8_noteBySounds_0 (by decide) ?_
  refine lv_istore_n (lv' := [(2, .int 1), (0, .ref (adr g a0)), (1, .int p1_)]) hx hb dX8_noteBySounds_1 rfl hl (by decide) rfl (fun ls hl => ?_)
  have L8 : ∀ (K : Int32 → Option ((Int32 ⊕ String) × Mem)) (_ : ∀ (i1 : Int32) (H : Heap) (locs : List Loc) (ls : Array Slot), HR g M H → LK g s H locs → lv_has ls 3 [(0, .ref (adr g a0)), (1, .int p1_), (2, .int i1)] → W p l e (rmO o 6 200) s m ([.ref (adr g a0), .int p1_] : List Value).toArray below meth c H locs 0 0 (GQ (K i1) (o, M') (MQO g below rvI o M' ([.ref (adr g a0), .int p1_] : List Value).toArray s)) (F0 m 25 ls [])) (n : Nat) (i1 : Int32) (H : Heap) (locs : List Loc) (ls : Array Slot), HR g M H → LK g s H locs → lv_has ls 3 [(0, .ref (adr g a0)), (1, .int p1_), (2, .int i1)] → W p l e (rmO o 6 200) s m ([.ref (adr g a0), .int p1_] : List Value).toArray below meth c H locs 0 0 (GQ (F_X8_noteBySounds_L1 a0 p1_ M K n i1) (o, M') (MQO g below rvI o M' ([.ref (adr g a0), .int p1_] : List Value).toArray s)) (F0 m 2 ls []) := by
    intro K hK n
    induction n with
    | zero => intros; exact q_none
    | succ n ih =>
      intro i1 H locs ls hH hL hl 
      rw [F_X8_noteBySounds_L1]
      refine lv_iload_n hx hb dX8_noteBySounds_2 rfl (lv_at hl 2 rfl) ?_
      refine lv_bipush (v := 9) hx hb dX8_noteBySounds_3 (by decide) ?_
      refine lv_icmp_gt (tgt := 25) hx hb dX8_noteBySounds_5 (by decide) (fun c3 => q_pos c3 ?_) (fun c3 => q_neg c3 ?_)
      · exact hK i1 _ _ ls hH hL hl 
      · refine lv_aload_n hx hb dX8_noteBySounds_8 rfl (lv_at hl 0 rfl) ?_
        refine lv_iload_n hx hb dX8_noteBySounds_9 rfl (lv_at hl 2 rfl) ?_
        refine q_bind (fun v5 e4 => ?_)
        refine my_doneI hL (my_runV X hH hl.1 (co_X8_noteRank g l hst a0 i1 M t0 v5 e4) ok_X8_noteRank W1001 t0 rfl (by decide) rfl rfl rfl ⟨Nat.le_of_ble_eq_true rfl, Nat.le_of_ble_eq_true rfl⟩ ⟨Nat.zero_le _, Nat.zero_le _⟩ (Nat.le_of_ble_eq_true rfl) dX8_noteBySounds_10) (fun H locs hH hL => ?_)
        refine lv_iload_n hx hb dX8_noteBySounds_13 rfl (lv_at hl 1 rfl) ?_
        refine lv_icmp_ne (tgt := 19) hx hb dX8_noteBySounds_14 (by decide) (fun c6 => q_neg c6 ?_) (fun c6 => q_pos c6 ?_)
        · refine q_lt (fun v7 e_v7 => ?_)
          refine lv_iinc (v := v7) (lv' := [(2, .int v7), (0, .ref (adr g a0)), (1, .int p1_)]) hx hb dX8_noteBySounds_19 hl (k := 2) rfl (by rw [e_v7]; rfl) (by decide) rfl (fun ls hl => ?_)
          refine lv_goto (tgt := 2) hx hb dX8_noteBySounds_22 (by decide) ?_
          exact ih v7 _ _ ls hH hL (lv_sub hl [1, 2, 0] rfl) 
        · refine lv_iload_n hx hb dX8_noteBySounds_17 rfl (lv_at hl 2 rfl) ?_
          exact q_end2 (m_iret X hr hH hL dX8_noteBySounds_18)
  refine L8 _ (fun x9 H locs ls hH hL hl  => ?_) 3000 1 _ _ ls hH hL (lv_sub hl [1, 2, 0] rfl) 
  exact q_thr (m_throwNW X htb hH hL hl.1 okT14 dX8_noteBySounds_25 dX8_noteBySounds_28 dX8_noteBySounds_29 dX8_noteBySounds_32 dX8_noteBySounds_35 (Nat.le_of_ble_eq_true rfl) (Nat.le_of_ble_eq_true rfl))

set_option maxRecDepth 20000 in
set_option maxHeartbeats 4000000 in
theorem co_X8_meanTotal (g : GP) (l : Launch) (hst : l.stackTraces = false) (a0 : Nat) (M : Mem) (t0 : tyT a0 = 8) (o : UInt64 ⊕ String) (M' : Mem) (hF : F_X8_meanTotal a0 M = some (o, M')) : CO g l yX8_meanTotal cX8_meanTotal 1 (some .double) 6 200 rvD [.ref (adr g a0)] M o M' := by
  refine CO_of hst (by decide) (Nat.le_of_ble_eq_true rfl) ?_
  intro p e s m below meth c ls X hr htb hH hL hl
  have hx := X.1
  have hb := X.2.1
  have hts := X.2.2.2.2.1
  refine q_out hF ?_
  rw [F_X8_meanTotal]
  replace hl : lv_has ls 1 [(0, .ref (adr g a0))] := hl
  refine lv_aload_n hx hb dX8_meanTotal_0 rfl (lv_at hl 0 rfl) ?_
  refine m_gR (k := 0) X hH inC8 t0 rfl W279 dX8_meanTotal_1 5 rfl (fun t1 => ?_)
  refine m_gI (k := 4) X hH inC5 t1 rfl W166 dX8_meanTotal_4 ?_
  refine lv_if_ne (tgt := 20) hx hb dX8_meanTotal_7 (by decide) (fun c2 => q_neg c2 ?_) (fun c2 => q_pos c2 ?_)
  · refine lv_aload_n hx hb dX8_meanTotal_20 rfl (lv_at hl 0 rfl) ?_
    refine m_gR (k := 0) X hH inC8 t0 rfl W279 dX8_meanTotal_21 5 rfl (fun t3 => ?_)
    refine m_gJ (k := 7) X hH inC5 t3 rfl W172 dX8_meanTotal_24 ?_
    refine lv_l2d hx hb dX8_meanTotal_27 ?_
    refine lv_aload_n hx hb dX8_meanTotal_28 rfl (lv_at hl 0 rfl) ?_
    refine m_gR (k := 0) X hH inC8 t0 rfl W279 dX8_meanTotal_29 5 rfl (fun t4 => ?_)
    refine m_gI (k := 4) X hH inC5 t4 rfl W166 dX8_meanTotal_32 ?_
    refine lv_i2d hx hb dX8_meanTotal_35 ?_
    refine q_chk (fun hz5 => ?_)
    refine lv_ddiv hx hb dX8_meanTotal_36 (nn64_n hz5) ?_
    exact q_end2 (m_dret X hr hH hL dX8_meanTotal_37)
  · exact q_thr (m_throw X htb hH hL hl.1 okT15 dX8_meanTotal_10 dX8_meanTotal_13 dX8_meanTotal_14 dX8_meanTotal_16 dX8_meanTotal_19 (Nat.le_of_ble_eq_true rfl) (Nat.le_of_ble_eq_true rfl))

set_option maxRecDepth 20000 in
set_option maxHeartbeats 4000000 in
theorem co_X4_maskedColumns (g : GP) (l : Launch) (hst : l.stackTraces = false) (a0 : Nat) (M : Mem) (t0 : tyT a0 = 4) (v : Int32) (hF : F_X4_maskedColumns a0 M = some v) : CO g l yX4_maskedColumns cX4_maskedColumns 3 (some .int) 1 21 rvI [.ref (adr g a0)] M (.inl v : Int32 ⊕ String) M := by
  refine CO_of hst (by decide) (Nat.le_of_ble_eq_true rfl) ?_
  intro p e s m below meth c ls X hr htb hH hL hl
  have hx := X.1
  have hb := X.2.1
  have hts := X.2.2.2.2.1
  refine q_out hF ?_
  rw [F_X4_maskedColumns]
  replace hl : lv_has ls 3 [(0, .ref (adr g a0))] := hl
  refine lv_iconst (v := 0) hx hb dX4_maskedColumns_0 (by decide) ?_
  refine lv_istore_n (lv' := [(1, .int 0), (0, .ref (adr g a0))]) hx hb dX4_maskedColumns_1 rfl hl (by decide) rfl (fun ls hl => ?_)
  refine lv_iconst (v := 0) hx hb dX4_maskedColumns_2 (by decide) ?_
  refine lv_istore_n (lv' := [(2, .int 0), (1, .int 0), (0, .ref (adr g a0))]) hx hb dX4_maskedColumns_3 rfl hl (by decide) rfl (fun ls hl => ?_)
  have L11 : ∀ (K : Int32 → Int32 → Option Int32) (_ : ∀ (i1 : Int32) (i2 : Int32) (H : Heap) (locs : List Loc) (ls : Array Slot), HR g M H → LK g s H locs → lv_has ls 3 [(0, .ref (adr g a0)), (1, .int i1), (2, .int i2)] → W p l e (rmO (.inl v : Int32 ⊕ String) 1 21) s m ([.ref (adr g a0)] : List Value).toArray below meth c H locs 0 0 (GQ (K i1 i2) v (MQO g below rvI (.inl v : Int32 ⊕ String) M ([.ref (adr g a0)] : List Value).toArray s)) (F0 m 29 ls [])) (n : Nat) (i1 : Int32) (i2 : Int32) (H : Heap) (locs : List Loc) (ls : Array Slot), HR g M H → LK g s H locs → lv_has ls 3 [(0, .ref (adr g a0)), (1, .int i1), (2, .int i2)] → W p l e (rmO (.inl v : Int32 ⊕ String) 1 21) s m ([.ref (adr g a0)] : List Value).toArray below meth c H locs 0 0 (GQ (F_X4_maskedColumns_L1 a0 M K n i1 i2) v (MQO g below rvI (.inl v : Int32 ⊕ String) M ([.ref (adr g a0)] : List Value).toArray s)) (F0 m 4 ls []) := by
    intro K hK n
    induction n with
    | zero => intros; exact q_none
    | succ n ih =>
      intro i1 i2 H locs ls hH hL hl 
      rw [F_X4_maskedColumns_L1]
      refine lv_iload_n hx hb dX4_maskedColumns_4 rfl (lv_at hl 2 rfl) ?_
      refine lv_aload_n hx hb dX4_maskedColumns_5 rfl (lv_at hl 0 rfl) ?_
      refine m_gI (k := 2) X hH inC4 t0 rfl W125 dX4_maskedColumns_6 ?_
      refine lv_icmp_ge (tgt := 29) hx hb dX4_maskedColumns_9 (by decide) (fun c4 => q_pos c4 ?_) (fun c4 => q_neg c4 ?_)
      · exact hK i1 i2 _ _ ls hH hL hl 
      · refine lv_aload_n hx hb dX4_maskedColumns_12 rfl (lv_at hl 0 rfl) ?_
        refine lv_iload_n hx hb dX4_maskedColumns_13 rfl (lv_at hl 2 rfl) ?_
        refine q_bind (fun v6 e5 => ?_)
        refine my_doneI hL (my_runV X hH hl.1 (co_X4_masks g l hst a0 i2 M t0 v6 e5) ok_X4_masks W548 t0 rfl (by decide) rfl rfl rfl ⟨Nat.le_of_ble_eq_true rfl, Nat.le_of_ble_eq_true rfl⟩ ⟨Nat.zero_le _, Nat.zero_le _⟩ (Nat.le_of_ble_eq_true rfl) dX4_maskedColumns_14) (fun H locs hH hL => ?_)
        refine lv_if_eq (tgt := 23) hx hb dX4_maskedColumns_17 (by decide) (fun c7 => q_pos c7 ?_) (fun c7 => q_neg c7 ?_)
        · refine q_lt (fun v8 e_v8 => ?_)
          refine lv_iinc (v := v8) (lv' := [(2, .int v8), (0, .ref (adr g a0)), (1, .int i1)]) hx hb dX4_maskedColumns_23 hl (k := 2) rfl (by rw [e_v8]; rfl) (by decide) rfl (fun ls hl => ?_)
          refine lv_goto (tgt := 4) hx hb dX4_maskedColumns_26 (by decide) ?_
          exact ih i1 v8 _ _ ls hH hL (lv_sub hl [1, 2, 0] rfl) 
        · refine q_lt (fun v9 e_v9 => ?_)
          refine lv_iinc (v := v9) (lv' := [(1, .int v9), (0, .ref (adr g a0)), (2, .int i2)]) hx hb dX4_maskedColumns_20 hl (k := 1) rfl (by rw [e_v9]; rfl) (by decide) rfl (fun ls hl => ?_)
          refine q_lt (fun v10 e_v10 => ?_)
          refine lv_iinc (v := v10) (lv' := [(2, .int v10), (1, .int v9), (0, .ref (adr g a0))]) hx hb dX4_maskedColumns_23 hl (k := 2) rfl (by rw [e_v10]; rfl) (by decide) rfl (fun ls hl => ?_)
          refine lv_goto (tgt := 4) hx hb dX4_maskedColumns_26 (by decide) ?_
          exact ih v9 v10 _ _ ls hH hL (lv_sub hl [2, 1, 0] rfl) 
  refine L11 _ (fun x12 x13 H locs ls hH hL hl  => ?_) 3000 0 0 _ _ ls hH hL (lv_sub hl [2, 1, 0] rfl) 
  refine lv_iload_n hx hb dX4_maskedColumns_29 rfl (lv_at hl 1 rfl) ?_
  exact q_end0 (m_iret X hr hH hL dX4_maskedColumns_30)

set_option maxRecDepth 20000 in
set_option maxHeartbeats 4000000 in
theorem co_X8_maskedShare (g : GP) (l : Launch) (hst : l.stackTraces = false) (a0 : Nat) (p1_ : Int32) (M : Mem) (t0 : tyT a0 = 8) (o : UInt32 ⊕ String) (M' : Mem) (hF : F_X8_maskedShare a0 p1_ M = some (o, M')) : CO g l yX8_maskedShare cX8_maskedShare 3 (some .float) 7 221 rvF [.ref (adr g a0), .int p1_] M o M' := by
  refine CO_of hst (by decide) (Nat.le_of_ble_eq_true rfl) ?_
  intro p e s m below meth c ls X hr htb hH hL hl
  have hx := X.1
  have hb := X.2.1
  have hts := X.2.2.2.2.1
  refine q_out hF ?_
  rw [F_X8_maskedShare]
  replace hl : lv_has ls 3 [(0, .ref (adr g a0)), (1, .int p1_)] := hl
  refine lv_aload_n hx hb dX8_maskedShare_0 rfl (lv_at hl 0 rfl) ?_
  refine lv_iload_n hx hb dX8_maskedShare_1 rfl (lv_at hl 1 rfl) ?_
  refine q_bx2 (fun q2 M3 e1 => ?_) (fun E4 M3 e1 => my_thrown X.2.2.2.2.2.2.1 htb hL (my_runV X hH hl.1 (co_X8_presentSection g l hst a0 p1_ M t0 (.inr E4) M3 e1) ok_X8_presentSection W534 t0 rfl (by decide) rfl rfl rfl ⟨Nat.le_of_ble_eq_true rfl, Nat.le_of_ble_eq_true rfl⟩ ⟨Nat.le_refl _, Nat.le_refl _⟩ (Nat.le_of_ble_eq_true rfl) dX8_maskedShare_2))
  refine my_doneR hL (my_runV X hH hl.1 (co_X8_presentSection g l hst a0 p1_ M t0 (.inl q2) M3 e1) ok_X8_presentSection W534 t0 rfl (by decide) rfl rfl rfl ⟨Nat.le_of_ble_eq_true rfl, Nat.le_of_ble_eq_true rfl⟩ ⟨Nat.zero_le _, Nat.zero_le _⟩ (Nat.le_of_ble_eq_true rfl) dX8_maskedShare_2) (fun H locs hH hL => ?_)
  refine q_chk (fun hk5 => ?_)
  refine lv_astore_n (lv' := [(2, .ref (adr g q2)), (0, .ref (adr g a0)), (1, .int p1_)]) hx hb dX8_maskedShare_5 rfl hl (by decide) rfl (fun ls hl => ?_)
  refine lv_aload_n hx hb dX8_maskedShare_6 rfl (lv_at hl 0 rfl) ?_
  refine m_gI (k := 2) X hH inC4 (Nat.eq_of_beq_eq_true hk5) rfl W127 dX8_maskedShare_7 ?_
  refine lv_if_ne (tgt := 15) hx hb dX8_maskedShare_10 (by decide) (fun c6 => q_neg c6 ?_) (fun c6 => q_pos c6 ?_)
  · refine lv_aload_n hx hb dX8_maskedShare_15 rfl (lv_at hl 0 rfl) ?_
    refine q_bind (fun v8 e7 => ?_)
    refine my_doneI hL (my_runV X hH hl.1 (co_X4_maskedColumns g l hst q2 M3 (Nat.eq_of_beq_eq_true hk5) v8 e7) ok_X4_maskedColumns W1041 (Nat.eq_of_beq_eq_true hk5) rfl (by decide) rfl rfl rfl ⟨Nat.le_of_ble_eq_true rfl, Nat.le_of_ble_eq_true rfl⟩ ⟨Nat.zero_le _, Nat.zero_le _⟩ (Nat.le_of_ble_eq_true rfl) dX8_maskedShare_16) (fun H locs hH hL => ?_)
    refine lv_i2f hx hb dX8_maskedShare_19 ?_
    refine lv_aload_n hx hb dX8_maskedShare_20 rfl (lv_at hl 0 rfl) ?_
    refine m_gI (k := 2) X hH inC4 (Nat.eq_of_beq_eq_true hk5) rfl W127 dX8_maskedShare_21 ?_
    refine lv_i2f hx hb dX8_maskedShare_24 ?_
    refine q_chk (fun hz9 => ?_)
    refine lv_fdiv hx hb dX8_maskedShare_25 (nn32_n hz9) ?_
    exact q_end2 (m_fret X hr hH hL dX8_maskedShare_26)
  · refine lv_fconst0 hx hb dX8_maskedShare_13 ?_
    exact q_end2 (m_fret X hr hH hL dX8_maskedShare_14)

set_option maxRecDepth 20000 in
set_option maxHeartbeats 4000000 in
theorem co_X8_columnVolumesAgree (g : GP) (l : Launch) (hst : l.stackTraces = false) (a0 : Nat) (M : Mem) (t0 : tyT a0 = 8) (o : Int32 ⊕ String) (M' : Mem) (hF : F_X8_columnVolumesAgree a0 M = some (o, M')) : CO g l yX8_columnVolumesAgree cX8_columnVolumesAgree 3 (some .boolean) 9 266 rvI [.ref (adr g a0)] M o M' := by
  refine CO_of hst (by decide) (Nat.le_of_ble_eq_true rfl) ?_
  intro p e s m below meth c ls X hr htb hH hL hl
  have hx := X.1
  have hb := X.2.1
  have hts := X.2.2.2.2.1
  refine q_out hF ?_
  rw [F_X8_columnVolumesAgree]
  replace hl : lv_has ls 3 [(0, .ref (adr g a0))] := hl
  refine lv_iconst (v := 0) hx hb dX8_columnVolumesAgree_0 (by decide) ?_
  refine lv_istore_n (lv' := [(1, .int 0), (0, .ref (adr g a0))]) hx hb dX8_columnVolumesAgree_1 rfl hl (by decide) rfl (fun ls hl => ?_)
  have L28 : ∀ (K : Int32 → Mem → Option ((Int32 ⊕ String) × Mem)) (_ : ∀ (i1 : Int32) (M2 : Mem) (H : Heap) (locs : List Loc) (ls : Array Slot), HR g M2 H → LK g s H locs → lv_has ls 3 [(0, .ref (adr g a0)), (1, .int i1)] → W p l e (rmO o 9 266) s m ([.ref (adr g a0)] : List Value).toArray below meth c H locs 0 0 (GQ (K i1 M2) (o, M') (MQO g below rvI o M' ([.ref (adr g a0)] : List Value).toArray s)) (F0 m 53 ls [])) (n : Nat) (i1 : Int32) (M2 : Mem) (H : Heap) (locs : List Loc) (ls : Array Slot), HR g M2 H → LK g s H locs → lv_has ls 3 [(0, .ref (adr g a0)), (1, .int i1)] → W p l e (rmO o 9 266) s m ([.ref (adr g a0)] : List Value).toArray below meth c H locs 0 0 (GQ (F_X8_columnVolumesAgree_L1 a0 K n i1 M2) (o, M') (MQO g below rvI o M' ([.ref (adr g a0)] : List Value).toArray s)) (F0 m 2 ls []) := by
    intro K hK n
    induction n with
    | zero => intros; exact q_none
    | succ n ih =>
      intro i1 M2 H locs ls hH hL hl 
      rw [F_X8_columnVolumesAgree_L1]
      refine lv_iload_n hx hb dX8_columnVolumesAgree_2 rfl (lv_at hl 1 rfl) ?_
      refine lv_aload_n hx hb dX8_columnVolumesAgree_3 rfl (lv_at hl 0 rfl) ?_
      refine m_gR (k := 0) X hH inC8 t0 rfl W279 dX8_columnVolumesAgree_4 5 rfl (fun t4 => ?_)
      refine m_gI (k := 1) X hH inC5 t4 rfl W160 dX8_columnVolumesAgree_7 ?_
      refine lv_icmp_ge (tgt := 53) hx hb dX8_columnVolumesAgree_10 (by decide) (fun c5 => q_pos c5 ?_) (fun c5 => q_neg c5 ?_)
      · exact hK i1 M2 _ _ ls hH hL hl 
      · refine lv_iconst (v := 0) hx hb dX8_columnVolumesAgree_13 (by decide) ?_
        refine lv_istore_n (lv' := [(2, .int 0), (0, .ref (adr g a0)), (1, .int i1)]) hx hb dX8_columnVolumesAgree_14 rfl hl (by decide) rfl (fun ls hl => ?_)
        have L24 : ∀ (K : Int32 → Mem → Option ((Int32 ⊕ String) × Mem)) (_ : ∀ (i6 : Int32) (M7 : Mem) (H : Heap) (locs : List Loc) (ls : Array Slot), HR g M7 H → LK g s H locs → lv_has ls 3 [(0, .ref (adr g a0)), (1, .int i1), (2, .int i6)] → W p l e (rmO o 9 266) s m ([.ref (adr g a0)] : List Value).toArray below meth c H locs 0 0 (GQ (K i6 M7) (o, M') (MQO g below rvI o M' ([.ref (adr g a0)] : List Value).toArray s)) (F0 m 47 ls [])) (n : Nat) (i6 : Int32) (M7 : Mem) (H : Heap) (locs : List Loc) (ls : Array Slot), HR g M7 H → LK g s H locs → lv_has ls 3 [(0, .ref (adr g a0)), (1, .int i1), (2, .int i6)] → W p l e (rmO o 9 266) s m ([.ref (adr g a0)] : List Value).toArray below meth c H locs 0 0 (GQ (F_X8_columnVolumesAgree_L2 a0 i1 K n i6 M7) (o, M') (MQO g below rvI o M' ([.ref (adr g a0)] : List Value).toArray s)) (F0 m 15 ls []) := by
          intro K hK n
          induction n with
          | zero => intros; exact q_none
          | succ n ih =>
            intro i6 M7 H locs ls hH hL hl 
            rw [F_X8_columnVolumesAgree_L2]
            refine lv_iload_n hx hb dX8_columnVolumesAgree_15 rfl (lv_at hl 2 rfl) ?_
            refine lv_aload_n hx hb dX8_columnVolumesAgree_16 rfl (lv_at hl 0 rfl) ?_
            refine lv_iload_n hx hb dX8_columnVolumesAgree_17 rfl (lv_at hl 1 rfl) ?_
            refine q_bx2 (fun v10 M11 e9 => ?_) (fun E12 M11 e9 => my_thrown X.2.2.2.2.2.2.1 htb hL (my_runV X hH hl.1 (co_X8_columns g l hst a0 i1 M7 t0 (.inr E12) M11 e9) ok_X8_columns W554 t0 rfl (by decide) rfl rfl rfl ⟨Nat.le_of_ble_eq_true rfl, Nat.le_of_ble_eq_true rfl⟩ ⟨Nat.le_refl _, Nat.le_refl _⟩ (Nat.le_of_ble_eq_true rfl) dX8_columnVolumesAgree_18))
            refine my_doneI hL (my_runV X hH hl.1 (co_X8_columns g l hst a0 i1 M7 t0 (.inl v10) M11 e9) ok_X8_columns W554 t0 rfl (by decide) rfl rfl rfl ⟨Nat.le_of_ble_eq_true rfl, Nat.le_of_ble_eq_true rfl⟩ ⟨Nat.zero_le _, Nat.zero_le _⟩ (Nat.le_of_ble_eq_true rfl) dX8_columnVolumesAgree_18) (fun H locs hH hL => ?_)
            refine lv_icmp_ge (tgt := 47) hx hb dX8_columnVolumesAgree_21 (by decide) (fun c13 => q_pos c13 ?_) (fun c13 => q_neg c13 ?_)
            · exact hK i6 M11 _ _ ls hH hL hl 
            · refine lv_aload_n hx hb dX8_columnVolumesAgree_24 rfl (lv_at hl 0 rfl) ?_
              refine lv_iload_n hx hb dX8_columnVolumesAgree_25 rfl (lv_at hl 1 rfl) ?_
              refine lv_iload_n hx hb dX8_columnVolumesAgree_26 rfl (lv_at hl 2 rfl) ?_
              refine q_bx2 (fun v15 M16 e14 => ?_) (fun E17 M16 e14 => my_thrown X.2.2.2.2.2.2.1 htb hL (my_runV X hH hl.1 (co_X8_columnVolume g l hst a0 i1 i6 M11 t0 (.inr E17) M16 e14) ok_X8_columnVolume W605 t0 rfl (by decide) rfl rfl rfl ⟨Nat.le_of_ble_eq_true rfl, Nat.le_of_ble_eq_true rfl⟩ ⟨Nat.le_refl _, Nat.le_refl _⟩ (Nat.le_of_ble_eq_true rfl) dX8_columnVolumesAgree_27))
              refine my_doneI hL (my_runV X hH hl.1 (co_X8_columnVolume g l hst a0 i1 i6 M11 t0 (.inl v15) M16 e14) ok_X8_columnVolume W605 t0 rfl (by decide) rfl rfl rfl ⟨Nat.le_of_ble_eq_true rfl, Nat.le_of_ble_eq_true rfl⟩ ⟨Nat.zero_le _, Nat.zero_le _⟩ (Nat.le_of_ble_eq_true rfl) dX8_columnVolumesAgree_27) (fun H locs hH hL => ?_)
              refine lv_aload_n hx hb dX8_columnVolumesAgree_30 rfl (lv_at hl 0 rfl) ?_
              refine lv_iload_n hx hb dX8_columnVolumesAgree_31 rfl (lv_at hl 1 rfl) ?_
              refine lv_iload_n hx hb dX8_columnVolumesAgree_32 rfl (lv_at hl 2 rfl) ?_
              refine q_bx2 (fun v19 M20 e18 => ?_) (fun E21 M20 e18 => my_thrown X.2.2.2.2.2.2.1 htb hL (my_runV X hH hl.1 (co_X8_columnVolumeByTransposing g l hst a0 i1 i6 M16 t0 (.inr E21) M20 e18) ok_X8_columnVolumeByTransposing W619 t0 rfl (by decide) rfl rfl rfl ⟨Nat.le_of_ble_eq_true rfl, Nat.le_of_ble_eq_true rfl⟩ ⟨Nat.le_refl _, Nat.le_refl _⟩ (Nat.le_of_ble_eq_true rfl) dX8_columnVolumesAgree_33))
              refine my_doneI hL (my_runV X hH hl.1 (co_X8_columnVolumeByTransposing g l hst a0 i1 i6 M16 t0 (.inl v19) M20 e18) ok_X8_columnVolumeByTransposing W619 t0 rfl (by decide) rfl rfl rfl ⟨Nat.le_of_ble_eq_true rfl, Nat.le_of_ble_eq_true rfl⟩ ⟨Nat.zero_le _, Nat.zero_le _⟩ (Nat.le_of_ble_eq_true rfl) dX8_columnVolumesAgree_33) (fun H locs hH hL => ?_)
              refine lv_icmp_eq (tgt := 41) hx hb dX8_columnVolumesAgree_36 (by decide) (fun c22 => q_pos c22 ?_) (fun c22 => q_neg c22 ?_)
              · refine q_lt (fun v23 e_v23 => ?_)
                refine lv_iinc (v := v23) (lv' := [(2, .int v23), (0, .ref (adr g a0)), (1, .int i1)]) hx hb dX8_columnVolumesAgree_41 hl (k := 2) rfl (by rw [e_v23]; rfl) (by decide) rfl (fun ls hl => ?_)
                refine lv_goto (tgt := 15) hx hb dX8_columnVolumesAgree_44 (by decide) ?_
                exact ih v23 M20 _ _ ls hH hL (lv_sub hl [1, 2, 0] rfl) 
              · refine lv_iconst (v := 0) hx hb dX8_columnVolumesAgree_39 (by decide) ?_
                exact q_end2 (m_zret X hr hH hL (by decide) dX8_columnVolumesAgree_40)
        refine L24 _ (fun x25 M26 H locs ls hH hL hl  => ?_) 3000 0 M2 _ _ ls hH hL (lv_sub hl [1, 2, 0] rfl) 
        refine q_lt (fun v27 e_v27 => ?_)
        refine lv_iinc (v := v27) (lv' := [(1, .int v27), (0, .ref (adr g a0)), (2, .int x25)]) hx hb dX8_columnVolumesAgree_47 hl (k := 1) rfl (by rw [e_v27]; rfl) (by decide) rfl (fun ls hl => ?_)
        refine lv_goto (tgt := 2) hx hb dX8_columnVolumesAgree_50 (by decide) ?_
        exact ih v27 M26 _ _ ls hH hL (lv_sub hl [1, 0] rfl) 
  refine L28 _ (fun x29 M30 H locs ls hH hL hl  => ?_) 3000 0 M _ _ ls hH hL (lv_sub hl [1, 0] rfl) 
  refine lv_iconst (v := 1) hx hb dX8_columnVolumesAgree_53 (by decide) ?_
  exact q_end2 (m_zret X hr hH hL (by decide) dX8_columnVolumesAgree_54)

set_option maxRecDepth 20000 in
set_option maxHeartbeats 4000000 in
theorem co_X8_isConsistent (g : GP) (l : Launch) (hst : l.stackTraces = false) (a0 : Nat) (M : Mem) (t0 : tyT a0 = 8) (o : Int32 ⊕ String) (M' : Mem) (hF : F_X8_isConsistent a0 M = some (o, M')) : CO g l yX8_isConsistent cX8_isConsistent 1 (some .boolean) 10 288 rvI [.ref (adr g a0)] M o M' := by
  refine CO_of hst (by decide) (Nat.le_of_ble_eq_true rfl) ?_
  intro p e s m below meth c ls X hr htb hH hL hl
  have hx := X.1
  have hb := X.2.1
  have hts := X.2.2.2.2.1
  refine q_out hF ?_
  rw [F_X8_isConsistent]
  replace hl : lv_has ls 1 [(0, .ref (adr g a0))] := hl
  refine lv_aload_n hx hb dX8_isConsistent_0 rfl (lv_at hl 0 rfl) ?_
  refine q_bind (fun w2 e1 => ?_)
  refine my_doneJ hL (my_runV X hH hl.1 (co_X8_totalVolume g l hst a0 M t0 w2 e1) ok_X8_totalVolume W597 t0 rfl (by decide) rfl rfl rfl ⟨Nat.le_of_ble_eq_true rfl, Nat.le_of_ble_eq_true rfl⟩ ⟨Nat.zero_le _, Nat.zero_le _⟩ (Nat.le_of_ble_eq_true rfl) dX8_isConsistent_1) (fun H locs hH hL => ?_)
  refine lv_aload_n hx hb dX8_isConsistent_4 rfl (lv_at hl 0 rfl) ?_
  refine q_bind (fun w4 e3 => ?_)
  refine my_doneJ hL (my_runV X hH hl.1 (co_X8_totalVolumeBySounds g l hst a0 M t0 w4 e3) ok_X8_totalVolumeBySounds W598 t0 rfl (by decide) rfl rfl rfl ⟨Nat.le_of_ble_eq_true rfl, Nat.le_of_ble_eq_true rfl⟩ ⟨Nat.zero_le _, Nat.zero_le _⟩ (Nat.le_of_ble_eq_true rfl) dX8_isConsistent_5) (fun H locs hH hL => ?_)
  refine W.lcmp hx hb dX8_isConsistent_8 ?_
  refine lv_if_ne (tgt := 34) hx hb dX8_isConsistent_9 (by decide) (fun c5 => q_neg c5 ?_) (fun c5 => q_pos c5 ?_)
  · refine lv_iconst (v := 0) hx hb dX8_isConsistent_34 (by decide) ?_
    exact q_end2 (m_zret X hr hH hL (by decide) dX8_isConsistent_35)
  · refine lv_aload_n hx hb dX8_isConsistent_12 rfl (lv_at hl 0 rfl) ?_
    refine q_bx2 (fun v7 M8 e6 => ?_) (fun E9 M8 e6 => my_thrown X.2.2.2.2.2.2.1 htb hL (my_runV X hH hl.1 (co_X8_period g l hst a0 M t0 (.inr E9) M8 e6) ok_X8_period W599 t0 rfl (by decide) rfl rfl rfl ⟨Nat.le_of_ble_eq_true rfl, Nat.le_of_ble_eq_true rfl⟩ ⟨Nat.le_refl _, Nat.le_refl _⟩ (Nat.le_of_ble_eq_true rfl) dX8_isConsistent_13))
    refine my_doneI hL (my_runV X hH hl.1 (co_X8_period g l hst a0 M t0 (.inl v7) M8 e6) ok_X8_period W599 t0 rfl (by decide) rfl rfl rfl ⟨Nat.le_of_ble_eq_true rfl, Nat.le_of_ble_eq_true rfl⟩ ⟨Nat.zero_le _, Nat.zero_le _⟩ (Nat.le_of_ble_eq_true rfl) dX8_isConsistent_13) (fun H locs hH hL => ?_)
    refine lv_aload_n hx hb dX8_isConsistent_16 rfl (lv_at hl 0 rfl) ?_
    refine q_bx2 (fun v11 M12 e10 => ?_) (fun E13 M12 e10 => my_thrown X.2.2.2.2.2.2.1 htb hL (my_runV X hH hl.1 (co_X8_periodBySearch g l hst a0 M8 t0 (.inr E13) M12 e10) ok_X8_periodBySearch W600 t0 rfl (by decide) rfl rfl rfl ⟨Nat.le_of_ble_eq_true rfl, Nat.le_of_ble_eq_true rfl⟩ ⟨Nat.le_refl _, Nat.le_refl _⟩ (Nat.le_of_ble_eq_true rfl) dX8_isConsistent_17))
    refine my_doneI hL (my_runV X hH hl.1 (co_X8_periodBySearch g l hst a0 M8 t0 (.inl v11) M12 e10) ok_X8_periodBySearch W600 t0 rfl (by decide) rfl rfl rfl ⟨Nat.le_of_ble_eq_true rfl, Nat.le_of_ble_eq_true rfl⟩ ⟨Nat.zero_le _, Nat.zero_le _⟩ (Nat.le_of_ble_eq_true rfl) dX8_isConsistent_17) (fun H locs hH hL => ?_)
    refine lv_icmp_ne (tgt := 34) hx hb dX8_isConsistent_20 (by decide) (fun c14 => q_neg c14 ?_) (fun c14 => q_pos c14 ?_)
    · refine lv_iconst (v := 0) hx hb dX8_isConsistent_34 (by decide) ?_
      exact q_end2 (m_zret X hr hH hL (by decide) dX8_isConsistent_35)
    · refine lv_aload_n hx hb dX8_isConsistent_23 rfl (lv_at hl 0 rfl) ?_
      refine q_bx2 (fun v16 M17 e15 => ?_) (fun E18 M17 e15 => my_thrown X.2.2.2.2.2.2.1 htb hL (my_runV X hH hl.1 (co_X8_columnVolumesAgree g l hst a0 M12 t0 (.inr E18) M17 e15) ok_X8_columnVolumesAgree W601 t0 rfl (by decide) rfl rfl rfl ⟨Nat.le_of_ble_eq_true rfl, Nat.le_of_ble_eq_true rfl⟩ ⟨Nat.le_refl _, Nat.le_refl _⟩ (Nat.le_of_ble_eq_true rfl) dX8_isConsistent_24))
      refine my_doneI hL (my_runV X hH hl.1 (co_X8_columnVolumesAgree g l hst a0 M12 t0 (.inl v16) M17 e15) ok_X8_columnVolumesAgree W601 t0 rfl (by decide) rfl rfl rfl ⟨Nat.le_of_ble_eq_true rfl, Nat.le_of_ble_eq_true rfl⟩ ⟨Nat.zero_le _, Nat.zero_le _⟩ (Nat.le_of_ble_eq_true rfl) dX8_isConsistent_24) (fun H locs hH hL => ?_)
      refine lv_if_eq (tgt := 34) hx hb dX8_isConsistent_27 (by decide) (fun c19 => q_pos c19 ?_) (fun c19 => q_neg c19 ?_)
      · refine lv_iconst (v := 0) hx hb dX8_isConsistent_34 (by decide) ?_
        exact q_end2 (m_zret X hr hH hL (by decide) dX8_isConsistent_35)
      · refine lv_iconst (v := 1) hx hb dX8_isConsistent_30 (by decide) ?_
        refine lv_goto (tgt := 35) hx hb dX8_isConsistent_31 (by decide) ?_
        exact q_end2 (m_zret X hr hH hL (by decide) dX8_isConsistent_35)

set_option maxRecDepth 20000 in
set_option maxHeartbeats 4000000 in
theorem co_X6_clear (g : GP) (l : Launch) (hst : l.stackTraces = false) (a0 : Nat) (M : Mem) (t0 : tyT a0 = 6) (v : Unit) (M' : Mem) (hF : F_X6_clear a0 M = some (v, M')) : CO g l yX6_clear cX6_clear 1 none 0 0 rvU [.ref (adr g a0)] M (.inl v : Unit ⊕ String) M' := by
  refine CO_of hst (by decide) (Nat.le_of_ble_eq_true rfl) ?_
  intro p e s m below meth c ls X hr htb hH hL hl
  have hx := X.1
  have hb := X.2.1
  have hts := X.2.2.2.2.1
  refine q_out hF ?_
  rw [F_X6_clear]
  replace hl : lv_has ls 1 [(0, .ref (adr g a0))] := hl
  refine lv_aload_n hx hb dX6_clear_0 rfl (lv_at hl 0 rfl) ?_
  refine lv_iconst (v := 0) hx hb dX6_clear_1 (by decide) ?_
  refine q_lt (fun M1 e_M1 => ?_)
  refine m_pI (k := 1) X hH hL okC6 t0 rfl rfl rfl rfl W231 dX6_clear_2 e_M1 (fun H locs hH hL => ?_)
  exact q_end1 (m_vret X hr hH hL dX6_clear_5)

set_option maxRecDepth 20000 in
set_option maxHeartbeats 4000000 in
theorem co_X6_append (g : GP) (l : Launch) (hst : l.stackTraces = false) (a0 : Nat) (p1_ : Int32) (M : Mem) (t0 : tyT a0 = 6) (v : Unit) (M' : Mem) (hF : F_X6_append a0 p1_ M = some (v, M')) : CO g l yX6_append cX6_append 2 none 0 0 rvU [.ref (adr g a0), .int p1_] M (.inl v : Unit ⊕ String) M' := by
  refine CO_of hst (by decide) (Nat.le_of_ble_eq_true rfl) ?_
  intro p e s m below meth c ls X hr htb hH hL hl
  have hx := X.1
  have hb := X.2.1
  have hts := X.2.2.2.2.1
  refine q_out hF ?_
  rw [F_X6_append]
  replace hl : lv_has ls 2 [(0, .ref (adr g a0)), (1, .int p1_)] := hl
  refine lv_aload_n hx hb dX6_append_0 rfl (lv_at hl 0 rfl) ?_
  refine m_gI (k := 1) X hH inC6 t0 rfl W231 dX6_append_1 ?_
  refine lv_if_lt (tgt := 39) hx hb dX6_append_4 (by decide) (fun c1 => q_pos c1 ?_) (fun c1 => q_neg c1 ?_)
  · exact q_end1 (m_vret X hr hH hL dX6_append_39)
  · refine lv_aload_n hx hb dX6_append_7 rfl (lv_at hl 0 rfl) ?_
    refine m_gI (k := 1) X hH inC6 t0 rfl W231 dX6_append_8 ?_
    refine lv_aload_n hx hb dX6_append_11 rfl (lv_at hl 0 rfl) ?_
    refine m_gR (k := 0) X hH inC6 t0 rfl W230 dX6_append_12 26 rfl (fun t2 => ?_)
    refine m_alen X hH t2 rfl (by decide) (v := 60) (by decide) dX6_append_15 ?_
    refine lv_icmp_ge (tgt := 39) hx hb dX6_append_16 (by decide) (fun c3 => q_pos c3 ?_) (fun c3 => q_neg c3 ?_)
    · exact q_end1 (m_vret X hr hH hL dX6_append_39)
    · refine lv_aload_n hx hb dX6_append_19 rfl (lv_at hl 0 rfl) ?_
      refine m_gR (k := 0) X hH inC6 t0 rfl W230 dX6_append_20 26 rfl (fun t4 => ?_)
      refine lv_aload_n hx hb dX6_append_23 rfl (lv_at hl 0 rfl) ?_
      refine m_gI (k := 1) X hH inC6 t0 rfl W231 dX6_append_24 ?_
      refine lv_iload_n hx hb dX6_append_27 rfl (lv_at hl 1 rfl) ?_
      refine q_chk (fun hb5 => ?_)
      refine q_lt (fun M6 e_M6 => ?_)
      refine m_cs X hH hL t4 rfl (by decide) (fun _ => rfl) rfl rfl hb5 dX6_append_28 e_M6 (fun H locs hH hL => ?_)
      refine lv_aload_n hx hb dX6_append_29 rfl (lv_at hl 0 rfl) ?_
      refine lv_dup hx hb dX6_append_30 rfl ?_
      refine m_gI (k := 1) X hH inC6 t0 rfl W231 dX6_append_31 ?_
      refine lv_iconst (v := 1) hx hb dX6_append_34 (by decide) ?_
      refine lv_iadd hx hb dX6_append_35 ?_
      refine q_lt (fun M7 e_M7 => ?_)
      refine m_pI (k := 1) X hH hL okC6 t0 rfl rfl rfl rfl W231 dX6_append_36 e_M7 (fun H locs hH hL => ?_)
      exact q_end1 (m_vret X hr hH hL dX6_append_39)

