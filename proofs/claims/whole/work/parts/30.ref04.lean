set_option maxRecDepth 20000 in
set_option maxHeartbeats 4000000 in
theorem co_X9_maskedShare (g : GP) (l : Launch) (hst : l.stackTraces = false) (a0 : Nat) (p1_ : Int32) (M : Mem) (t0 : tyT a0 = 9) (v : UInt32) (M' : Mem) (hF : F_X9_maskedShare a0 p1_ M = some (v, M')) : CO g l yX9_maskedShare cX9_maskedShare 4 (some .float) 2 44 rvF [.ref (adr g a0), .int p1_] M (.inl v : UInt32 ⊕ String) M' := by
  refine CO_of hst (by decide) (Nat.le_of_ble_eq_true rfl) ?_
  intro p e s m below meth c ls X hr htb hH hL hl
  have hx := X.1
  have hb := X.2.1
  have hts := X.2.2.2.2.1
  refine q_out hF ?_
  rw [F_X9_maskedShare]
  replace hl : lv_has ls 4 [(0, .ref (adr g a0)), (1, .int p1_)] := hl
  refine lv_aload_n hx hb dX9_maskedShare_0 rfl (lv_at hl 0 rfl) ?_
  refine lv_iconst (v := 0) hx hb dX9_maskedShare_1 (by decide) ?_
  refine q_lt (fun M1 e_M1 => ?_)
  refine m_pI (k := 0) X hH hL okC9 t0 rfl rfl rfl rfl W1284 dX9_maskedShare_2 e_M1 (fun H locs hH hL => ?_)
  refine lv_aload_n hx hb dX9_maskedShare_5 rfl (lv_at hl 0 rfl) ?_
  refine lv_iload_n hx hb dX9_maskedShare_6 rfl (lv_at hl 1 rfl) ?_
  refine q_bind (fun v3 e2 => ?_)
  refine my_doneI hL (my_runV X hH hl.1 (co_X9_isSection g l hst a0 p1_ M1 t0 v3 e2) ok_X9_isSection W1384 t0 rfl (by decide) rfl rfl rfl ⟨Nat.le_of_ble_eq_true rfl, Nat.le_of_ble_eq_true rfl⟩ ⟨Nat.zero_le _, Nat.zero_le _⟩ (Nat.le_of_ble_eq_true rfl) dX9_maskedShare_7) (fun H locs hH hL => ?_)
  refine lv_if_ne (tgt := 20) hx hb dX9_maskedShare_10 (by decide) (fun c4 => q_neg c4 ?_) (fun c4 => q_pos c4 ?_)
  · refine lv_iconst (v := 0) hx hb dX9_maskedShare_20 (by decide) ?_
    refine lv_istore_n (lv' := [(2, .int 0), (0, .ref (adr g a0)), (1, .int p1_)]) hx hb dX9_maskedShare_21 rfl hl (by decide) rfl (fun ls hl => ?_)
    refine lv_iconst (v := 0) hx hb dX9_maskedShare_22 (by decide) ?_
    refine lv_istore_n (lv' := [(3, .int 0), (2, .int 0), (0, .ref (adr g a0)), (1, .int p1_)]) hx hb dX9_maskedShare_23 rfl hl (by decide) rfl (fun ls hl => ?_)
    have L18 : ∀ (K : Int32 → Int32 → Option (UInt32 × Mem)) (_ : ∀ (i5 : Int32) (i6 : Int32) (H : Heap) (locs : List Loc) (ls : Array Slot), HR g M1 H → LK g s H locs → lv_has ls 4 [(0, .ref (adr g a0)), (1, .int p1_), (2, .int i5), (3, .int i6)] → W p l e (rmO (.inl v : UInt32 ⊕ String) 2 44) s m ([.ref (adr g a0), .int p1_] : List Value).toArray below meth c H locs 0 0 (GQ (K i5 i6) (v, M') (MQO g below rvF (.inl v : UInt32 ⊕ String) M' ([.ref (adr g a0), .int p1_] : List Value).toArray s)) (F0 m 57 ls [])) (n : Nat) (i5 : Int32) (i6 : Int32) (H : Heap) (locs : List Loc) (ls : Array Slot), HR g M1 H → LK g s H locs → lv_has ls 4 [(0, .ref (adr g a0)), (1, .int p1_), (2, .int i5), (3, .int i6)] → W p l e (rmO (.inl v : UInt32 ⊕ String) 2 44) s m ([.ref (adr g a0), .int p1_] : List Value).toArray below meth c H locs 0 0 (GQ (F_X9_maskedShare_L1 a0 p1_ M1 K n i5 i6) (v, M') (MQO g below rvF (.inl v : UInt32 ⊕ String) M' ([.ref (adr g a0), .int p1_] : List Value).toArray s)) (F0 m 24 ls []) := by
      intro K hK n
      induction n with
      | zero => intros; exact q_none
      | succ n ih =>
        intro i5 i6 H locs ls hH hL hl 
        rw [F_X9_maskedShare_L1]
        refine lv_iload_n hx hb dX9_maskedShare_24 rfl (lv_at hl 3 rfl) ?_
        refine lv_aload_n hx hb dX9_maskedShare_25 rfl (lv_at hl 0 rfl) ?_
        refine lv_iload_n hx hb dX9_maskedShare_26 rfl (lv_at hl 1 rfl) ?_
        refine lv_iconst (v := 2) hx hb dX9_maskedShare_27 (by decide) ?_
        refine q_bind (fun v9 e8 => ?_)
        refine my_doneI hL (my_runV X hH hl.1 (co_X9_of g l hst a0 p1_ 2 M1 t0 v9 e8) ok_X9_of W1404 t0 rfl (by decide) rfl rfl rfl ⟨Nat.le_of_ble_eq_true rfl, Nat.le_of_ble_eq_true rfl⟩ ⟨Nat.zero_le _, Nat.zero_le _⟩ (Nat.le_of_ble_eq_true rfl) dX9_maskedShare_28) (fun H locs hH hL => ?_)
        refine lv_icmp_ge (tgt := 57) hx hb dX9_maskedShare_31 (by decide) (fun c10 => q_pos c10 ?_) (fun c10 => q_neg c10 ?_)
        · exact hK i5 i6 _ _ ls hH hL hl 
        · refine lv_iload_n hx hb dX9_maskedShare_34 rfl (lv_at hl 2 rfl) ?_
          refine lv_aload_n hx hb dX9_maskedShare_35 rfl (lv_at hl 0 rfl) ?_
          refine lv_iload_n hx hb dX9_maskedShare_36 rfl (lv_at hl 1 rfl) ?_
          refine lv_iload_n hx hb dX9_maskedShare_37 rfl (lv_at hl 3 rfl) ?_
          refine q_bind (fun v12 e11 => ?_)
          refine my_doneI hL (my_runV X hH hl.1 (co_X9_isMaskedAt g l hst a0 p1_ i6 M1 t0 v12 e11) ok_X9_isMaskedAt W1432 t0 rfl (by decide) rfl rfl rfl ⟨Nat.le_of_ble_eq_true rfl, Nat.le_of_ble_eq_true rfl⟩ ⟨Nat.zero_le _, Nat.zero_le _⟩ (Nat.le_of_ble_eq_true rfl) dX9_maskedShare_38) (fun H locs hH hL => ?_)
          refine lv_if_eq (tgt := 48) hx hb dX9_maskedShare_41 (by decide) (fun c13 => q_pos c13 ?_) (fun c13 => q_neg c13 ?_)
          · refine lv_iconst (v := 0) hx hb dX9_maskedShare_48 (by decide) ?_
            refine lv_iadd hx hb dX9_maskedShare_49 ?_
            refine q_lt (fun v14 e_v14 => ?_)
            refine q_topI e_v14 ?_
            refine lv_istore_n (lv' := [(2, .int v14), (0, .ref (adr g a0)), (1, .int p1_), (3, .int i6)]) hx hb dX9_maskedShare_50 rfl hl (by decide) rfl (fun ls hl => ?_)
            refine q_lt (fun v15 e_v15 => ?_)
            refine lv_iinc (v := v15) (lv' := [(3, .int v15), (2, .int v14), (0, .ref (adr g a0)), (1, .int p1_)]) hx hb dX9_maskedShare_51 hl (k := 3) rfl (by rw [e_v15]; rfl) (by decide) rfl (fun ls hl => ?_)
            refine lv_goto (tgt := 24) hx hb dX9_maskedShare_54 (by decide) ?_
            exact ih v14 v15 _ _ ls hH hL (lv_sub hl [2, 3, 1, 0] rfl) 
          · refine lv_iconst (v := 1) hx hb dX9_maskedShare_44 (by decide) ?_
            refine lv_goto (tgt := 49) hx hb dX9_maskedShare_45 (by decide) ?_
            refine lv_iadd hx hb dX9_maskedShare_49 ?_
            refine q_lt (fun v16 e_v16 => ?_)
            refine q_topI e_v16 ?_
            refine lv_istore_n (lv' := [(2, .int v16), (0, .ref (adr g a0)), (1, .int p1_), (3, .int i6)]) hx hb dX9_maskedShare_50 rfl hl (by decide) rfl (fun ls hl => ?_)
            refine q_lt (fun v17 e_v17 => ?_)
            refine lv_iinc (v := v17) (lv' := [(3, .int v17), (2, .int v16), (0, .ref (adr g a0)), (1, .int p1_)]) hx hb dX9_maskedShare_51 hl (k := 3) rfl (by rw [e_v17]; rfl) (by decide) rfl (fun ls hl => ?_)
            refine lv_goto (tgt := 24) hx hb dX9_maskedShare_54 (by decide) ?_
            exact ih v16 v17 _ _ ls hH hL (lv_sub hl [2, 3, 1, 0] rfl) 
    refine L18 _ (fun x19 x20 H locs ls hH hL hl  => ?_) 3000 0 0 _ _ ls hH hL (lv_sub hl [2, 3, 1, 0] rfl) 
    refine lv_iload_n hx hb dX9_maskedShare_57 rfl (lv_at hl 2 rfl) ?_
    refine lv_i2f hx hb dX9_maskedShare_58 ?_
    refine lv_aload_n hx hb dX9_maskedShare_59 rfl (lv_at hl 0 rfl) ?_
    refine lv_iload_n hx hb dX9_maskedShare_60 rfl (lv_at hl 1 rfl) ?_
    refine lv_iconst (v := 2) hx hb dX9_maskedShare_61 (by decide) ?_
    refine q_bind (fun v22 e21 => ?_)
    refine my_doneI hL (my_runV X hH hl.1 (co_X9_of g l hst a0 p1_ 2 M1 t0 v22 e21) ok_X9_of W1404 t0 rfl (by decide) rfl rfl rfl ⟨Nat.le_of_ble_eq_true rfl, Nat.le_of_ble_eq_true rfl⟩ ⟨Nat.zero_le _, Nat.zero_le _⟩ (Nat.le_of_ble_eq_true rfl) dX9_maskedShare_62) (fun H locs hH hL => ?_)
    refine lv_i2f hx hb dX9_maskedShare_65 ?_
    refine q_chk (fun hz23 => ?_)
    refine lv_fdiv hx hb dX9_maskedShare_66 (nn32_n hz23) ?_
    exact q_end1 (m_fret X hr hH hL dX9_maskedShare_67)
  · refine lv_aload_n hx hb dX9_maskedShare_13 rfl (lv_at hl 0 rfl) ?_
    refine lv_iconst (v := 1) hx hb dX9_maskedShare_14 (by decide) ?_
    refine q_b1 (fun v25 M26 e24 => ?_)
    refine my_doneI hL (my_runV X hH hl.1 (co_X9_fails g l hst a0 1 M1 t0 v25 M26 e24) ok_X9_fails W1356 t0 rfl (by decide) rfl rfl rfl ⟨Nat.le_of_ble_eq_true rfl, Nat.le_of_ble_eq_true rfl⟩ ⟨Nat.zero_le _, Nat.zero_le _⟩ (Nat.le_of_ble_eq_true rfl) dX9_maskedShare_15) (fun H locs hH hL => ?_)
    refine lv_i2f hx hb dX9_maskedShare_18 ?_
    exact q_end1 (m_fret X hr hH hL dX9_maskedShare_19)

set_option maxRecDepth 20000 in
set_option maxHeartbeats 4000000 in
theorem co_X9_isConsistent (g : GP) (l : Launch) (hst : l.stackTraces = false) (a0 : Nat) (M : Mem) (t0 : tyT a0 = 9) (v : Int32) (M' : Mem) (hF : F_X9_isConsistent a0 M = some (v, M')) : CO g l yX9_isConsistent cX9_isConsistent 1 (some .boolean) 2 45 rvI [.ref (adr g a0)] M (.inl v : Int32 ⊕ String) M' := by
  refine CO_of hst (by decide) (Nat.le_of_ble_eq_true rfl) ?_
  intro p e s m below meth c ls X hr htb hH hL hl
  have hx := X.1
  have hb := X.2.1
  have hts := X.2.2.2.2.1
  refine q_out hF ?_
  rw [F_X9_isConsistent]
  replace hl : lv_has ls 1 [(0, .ref (adr g a0))] := hl
  refine lv_aload_n hx hb dX9_isConsistent_0 rfl (lv_at hl 0 rfl) ?_
  refine lv_iconst (v := 0) hx hb dX9_isConsistent_1 (by decide) ?_
  refine q_lt (fun M1 e_M1 => ?_)
  refine m_pI (k := 0) X hH hL okC9 t0 rfl rfl rfl rfl W1284 dX9_isConsistent_2 e_M1 (fun H locs hH hL => ?_)
  refine lv_aload_n hx hb dX9_isConsistent_5 rfl (lv_at hl 0 rfl) ?_
  refine m_gR (k := 1) X hH inC9 t0 rfl W1285 dX9_isConsistent_6 24 rfl (fun t2 => ?_)
  refine lv_iconst (v := 5) hx hb dX9_isConsistent_9 (by decide) ?_
  refine q_chk (fun hb3 => ?_)
  refine m_iald X hH t2 rfl (by decide) (fun _ => rfl) rfl rfl hb3 dX9_isConsistent_10 ?_
  refine lv_aload_n hx hb dX9_isConsistent_11 rfl (lv_at hl 0 rfl) ?_
  refine q_bind (fun v5 e4 => ?_)
  refine my_doneI hL (my_runV X hH hl.1 (co_X9_volumeBySounds g l hst a0 M1 t0 v5 e4) ok_X9_volumeBySounds W1661 t0 rfl (by decide) rfl rfl rfl ⟨Nat.le_of_ble_eq_true rfl, Nat.le_of_ble_eq_true rfl⟩ ⟨Nat.zero_le _, Nat.zero_le _⟩ (Nat.le_of_ble_eq_true rfl) dX9_isConsistent_12) (fun H locs hH hL => ?_)
  refine lv_icmp_ne (tgt := 22) hx hb dX9_isConsistent_15 (by decide) (fun c6 => q_neg c6 ?_) (fun c6 => q_pos c6 ?_)
  · refine lv_iconst (v := 0) hx hb dX9_isConsistent_22 (by decide) ?_
    exact q_end1 (m_zret X hr hH hL (by decide) dX9_isConsistent_23)
  · refine lv_iconst (v := 1) hx hb dX9_isConsistent_18 (by decide) ?_
    refine lv_goto (tgt := 23) hx hb dX9_isConsistent_19 (by decide) ?_
    exact q_end1 (m_zret X hr hH hL (by decide) dX9_isConsistent_23)

set_option maxRecDepth 20000 in
set_option maxHeartbeats 4000000 in
theorem co_X9_writes (g : GP) (l : Launch) (hst : l.stackTraces = false) (a0 : Nat) (p1_ : Int32) (M : Mem) (t0 : tyT a0 = 9) (v : Unit) (M' : Mem) (hF : F_X9_writes a0 p1_ M = some (v, M')) : CO g l yX9_writes cX9_writes 2 none 0 0 rvU [.ref (adr g a0), .int p1_] M (.inl v : Unit ⊕ String) M' := by
  refine CO_of hst (by decide) (Nat.le_of_ble_eq_true rfl) ?_
  intro p e s m below meth c ls X hr htb hH hL hl
  have hx := X.1
  have hb := X.2.1
  have hts := X.2.2.2.2.1
  refine q_out hF ?_
  rw [F_X9_writes]
  replace hl : lv_has ls 2 [(0, .ref (adr g a0)), (1, .int p1_)] := hl
  refine lv_aload_n hx hb dX9_writes_0 rfl (lv_at hl 0 rfl) ?_
  refine m_gR (k := 9) X hH inC9 t0 rfl W1293 dX9_writes_1 26 rfl (fun t1 => ?_)
  refine lv_aload_n hx hb dX9_writes_4 rfl (lv_at hl 0 rfl) ?_
  refine m_gI (k := 10) X hH inC9 t0 rfl W1294 dX9_writes_5 ?_
  refine lv_iload_n hx hb dX9_writes_8 rfl (lv_at hl 1 rfl) ?_
  refine lv_i2c hx hb dX9_writes_9 rfl ?_
  refine q_chk (fun hb2 => ?_)
  refine q_lt (fun M3 e_M3 => ?_)
  refine m_cs X hH hL t1 rfl (by decide) (fun _ => rfl) rfl rfl hb2 dX9_writes_10 e_M3 (fun H locs hH hL => ?_)
  refine lv_aload_n hx hb dX9_writes_11 rfl (lv_at hl 0 rfl) ?_
  refine lv_dup hx hb dX9_writes_12 rfl ?_
  refine m_gI (k := 10) X hH inC9 t0 rfl W1294 dX9_writes_13 ?_
  refine lv_iconst (v := 1) hx hb dX9_writes_16 (by decide) ?_
  refine lv_iadd hx hb dX9_writes_17 ?_
  refine q_lt (fun M4 e_M4 => ?_)
  refine m_pI (k := 10) X hH hL okC9 t0 rfl rfl rfl rfl W1294 dX9_writes_18 e_M4 (fun H locs hH hL => ?_)
  exact q_end1 (m_vret X hr hH hL dX9_writes_21)

set_option maxRecDepth 20000 in
set_option maxHeartbeats 4000000 in
theorem co_X9_renderScore (g : GP) (l : Launch) (hst : l.stackTraces = false) (a0 : Nat) (p1_ : Int32) (M : Mem) (t0 : tyT a0 = 9) (v : Int32) (M' : Mem) (hF : F_X9_renderScore a0 p1_ M = some (v, M')) : CO g l yX9_renderScore cX9_renderScore 4 (some .int) 2 45 rvI [.ref (adr g a0), .int p1_] M (.inl v : Int32 ⊕ String) M' := by
  refine CO_of hst (by decide) (Nat.le_of_ble_eq_true rfl) ?_
  intro p e s m below meth c ls X hr htb hH hL hl
  have hx := X.1
  have hb := X.2.1
  have hts := X.2.2.2.2.1
  refine q_out hF ?_
  rw [F_X9_renderScore]
  replace hl : lv_has ls 4 [(0, .ref (adr g a0)), (1, .int p1_)] := hl
  refine lv_aload_n hx hb dX9_renderScore_0 rfl (lv_at hl 0 rfl) ?_
  refine lv_iconst (v := 0) hx hb dX9_renderScore_1 (by decide) ?_
  refine q_lt (fun M1 e_M1 => ?_)
  refine m_pI (k := 0) X hH hL okC9 t0 rfl rfl rfl rfl W1284 dX9_renderScore_2 e_M1 (fun H locs hH hL => ?_)
  refine lv_aload_n hx hb dX9_renderScore_5 rfl (lv_at hl 0 rfl) ?_
  refine lv_iload_n hx hb dX9_renderScore_6 rfl (lv_at hl 1 rfl) ?_
  refine q_bind (fun v3 e2 => ?_)
  refine my_doneI hL (my_runV X hH hl.1 (co_X9_isSection g l hst a0 p1_ M1 t0 v3 e2) ok_X9_isSection W1384 t0 rfl (by decide) rfl rfl rfl ⟨Nat.le_of_ble_eq_true rfl, Nat.le_of_ble_eq_true rfl⟩ ⟨Nat.zero_le _, Nat.zero_le _⟩ (Nat.le_of_ble_eq_true rfl) dX9_renderScore_7) (fun H locs hH hL => ?_)
  refine lv_if_ne (tgt := 19) hx hb dX9_renderScore_10 (by decide) (fun c4 => q_neg c4 ?_) (fun c4 => q_pos c4 ?_)
  · refine lv_aload_n hx hb dX9_renderScore_19 rfl (lv_at hl 0 rfl) ?_
    refine lv_iconst (v := 0) hx hb dX9_renderScore_20 (by decide) ?_
    refine q_lt (fun M5 e_M5 => ?_)
    refine m_pI (k := 10) X hH hL okC9 t0 rfl rfl rfl rfl W1294 dX9_renderScore_21 e_M5 (fun H locs hH hL => ?_)
    refine lv_aload_n hx hb dX9_renderScore_24 rfl (lv_at hl 0 rfl) ?_
    refine lv_aload_n hx hb dX9_renderScore_25 rfl (lv_at hl 0 rfl) ?_
    refine lv_iload_n hx hb dX9_renderScore_26 rfl (lv_at hl 1 rfl) ?_
    refine lv_iconst (v := 0) hx hb dX9_renderScore_27 (by decide) ?_
    refine q_bind (fun v7 e6 => ?_)
    refine my_doneI hL (my_runV X hH hl.1 (co_X9_of g l hst a0 p1_ 0 M5 t0 v7 e6) ok_X9_of W1404 t0 rfl (by decide) rfl rfl rfl ⟨Nat.le_of_ble_eq_true rfl, Nat.le_of_ble_eq_true rfl⟩ ⟨Nat.zero_le _, Nat.zero_le _⟩ (Nat.le_of_ble_eq_true rfl) dX9_renderScore_28) (fun H locs hH hL => ?_)
    refine q_bind (fun v9 e8 => ?_)
    refine my_doneI hL (my_runS X hH hl.1 (co_X9_letterOf g l hst v7 M5 v9 e8) ok_X9_letterOf W1560 rfl rfl ⟨Nat.le_of_ble_eq_true rfl, Nat.le_of_ble_eq_true rfl⟩ ⟨Nat.zero_le _, Nat.zero_le _⟩ (Nat.le_of_ble_eq_true rfl) dX9_renderScore_31) (fun H locs hH hL => ?_)
    refine q_b1 (fun u11 M12 e10 => ?_)
    refine my_doneU hL (my_runV X hH hl.1 (co_X9_writes g l hst a0 v9 M5 t0 u11 M12 e10) ok_X9_writes W1713 t0 rfl (by decide) rfl rfl rfl ⟨Nat.le_of_ble_eq_true rfl, Nat.le_of_ble_eq_true rfl⟩ ⟨Nat.zero_le _, Nat.zero_le _⟩ (Nat.le_of_ble_eq_true rfl) dX9_renderScore_34) (fun H locs hH hL => ?_)
    refine lv_aload_n hx hb dX9_renderScore_37 rfl (lv_at hl 0 rfl) ?_
    refine lv_bipush (v := 58) hx hb dX9_renderScore_38 (by decide) ?_
    refine q_b1 (fun u14 M15 e13 => ?_)
    refine my_doneU hL (my_runV X hH hl.1 (co_X9_writes g l hst a0 58 M12 t0 u14 M15 e13) ok_X9_writes W1713 t0 rfl (by decide) rfl rfl rfl ⟨Nat.le_of_ble_eq_true rfl, Nat.le_of_ble_eq_true rfl⟩ ⟨Nat.zero_le _, Nat.zero_le _⟩ (Nat.le_of_ble_eq_true rfl) dX9_renderScore_40) (fun H locs hH hL => ?_)
    refine lv_iconst (v := 0) hx hb dX9_renderScore_43 (by decide) ?_
    refine lv_istore_n (lv' := [(2, .int 0), (0, .ref (adr g a0)), (1, .int p1_)]) hx hb dX9_renderScore_44 rfl hl (by decide) rfl (fun ls hl => ?_)
    have L58 : ∀ (K : Int32 → Mem → Option (Int32 × Mem)) (_ : ∀ (i16 : Int32) (M17 : Mem) (H : Heap) (locs : List Loc) (ls : Array Slot), HR g M17 H → LK g s H locs → lv_has ls 4 [(0, .ref (adr g a0)), (1, .int p1_), (2, .int i16)] → W p l e (rmO (.inl v : Int32 ⊕ String) 2 45) s m ([.ref (adr g a0), .int p1_] : List Value).toArray below meth c H locs 0 0 (GQ (K i16 M17) (v, M') (MQO g below rvI (.inl v : Int32 ⊕ String) M' ([.ref (adr g a0), .int p1_] : List Value).toArray s)) (F0 m 103 ls [])) (n : Nat) (i16 : Int32) (M17 : Mem) (H : Heap) (locs : List Loc) (ls : Array Slot), HR g M17 H → LK g s H locs → lv_has ls 4 [(0, .ref (adr g a0)), (1, .int p1_), (2, .int i16)] → W p l e (rmO (.inl v : Int32 ⊕ String) 2 45) s m ([.ref (adr g a0), .int p1_] : List Value).toArray below meth c H locs 0 0 (GQ (F_X9_renderScore_L1 a0 p1_ K n i16 M17) (v, M') (MQO g below rvI (.inl v : Int32 ⊕ String) M' ([.ref (adr g a0), .int p1_] : List Value).toArray s)) (F0 m 45 ls []) := by
      intro K hK n
      induction n with
      | zero => intros; exact q_none
      | succ n ih =>
        intro i16 M17 H locs ls hH hL hl 
        rw [F_X9_renderScore_L1]
        refine lv_iload_n hx hb dX9_renderScore_45 rfl (lv_at hl 2 rfl) ?_
        refine lv_aload_n hx hb dX9_renderScore_46 rfl (lv_at hl 0 rfl) ?_
        refine lv_iload_n hx hb dX9_renderScore_47 rfl (lv_at hl 1 rfl) ?_
        refine lv_iconst (v := 1) hx hb dX9_renderScore_48 (by decide) ?_
        refine q_bind (fun v20 e19 => ?_)
        refine my_doneI hL (my_runV X hH hl.1 (co_X9_of g l hst a0 p1_ 1 M17 t0 v20 e19) ok_X9_of W1404 t0 rfl (by decide) rfl rfl rfl ⟨Nat.le_of_ble_eq_true rfl, Nat.le_of_ble_eq_true rfl⟩ ⟨Nat.zero_le _, Nat.zero_le _⟩ (Nat.le_of_ble_eq_true rfl) dX9_renderScore_49) (fun H locs hH hL => ?_)
        refine lv_icmp_ge (tgt := 103) hx hb dX9_renderScore_52 (by decide) (fun c21 => q_pos c21 ?_) (fun c21 => q_neg c21 ?_)
        · exact hK i16 M17 _ _ ls hH hL hl 
        · refine lv_iload_n hx hb dX9_renderScore_55 rfl (lv_at hl 2 rfl) ?_
          refine lv_if_le (tgt := 65) hx hb dX9_renderScore_56 (by decide) (fun c22 => q_pos c22 ?_) (fun c22 => q_neg c22 ?_)
          · refine lv_iconst (v := 0) hx hb dX9_renderScore_65 (by decide) ?_
            refine lv_istore_n (lv' := [(3, .int 0), (0, .ref (adr g a0)), (1, .int p1_), (2, .int i16)]) hx hb dX9_renderScore_66 rfl hl (by decide) rfl (fun ls hl => ?_)
            have L35 : ∀ (K : Int32 → Mem → Option (Int32 × Mem)) (_ : ∀ (i23 : Int32) (M24 : Mem) (H : Heap) (locs : List Loc) (ls : Array Slot), HR g M24 H → LK g s H locs → lv_has ls 4 [(0, .ref (adr g a0)), (1, .int p1_), (2, .int i16), (3, .int i23)] → W p l e (rmO (.inl v : Int32 ⊕ String) 2 45) s m ([.ref (adr g a0), .int p1_] : List Value).toArray below meth c H locs 0 0 (GQ (K i23 M24) (v, M') (MQO g below rvI (.inl v : Int32 ⊕ String) M' ([.ref (adr g a0), .int p1_] : List Value).toArray s)) (F0 m 97 ls [])) (n : Nat) (i23 : Int32) (M24 : Mem) (H : Heap) (locs : List Loc) (ls : Array Slot), HR g M24 H → LK g s H locs → lv_has ls 4 [(0, .ref (adr g a0)), (1, .int p1_), (2, .int i16), (3, .int i23)] → W p l e (rmO (.inl v : Int32 ⊕ String) 2 45) s m ([.ref (adr g a0), .int p1_] : List Value).toArray below meth c H locs 0 0 (GQ (F_X9_renderScore_L2 a0 p1_ i16 K n i23 M24) (v, M') (MQO g below rvI (.inl v : Int32 ⊕ String) M' ([.ref (adr g a0), .int p1_] : List Value).toArray s)) (F0 m 67 ls []) := by
              intro K hK n
              induction n with
              | zero => intros; exact q_none
              | succ n ih =>
                intro i23 M24 H locs ls hH hL hl 
                rw [F_X9_renderScore_L2]
                refine lv_iload_n hx hb dX9_renderScore_67 rfl (lv_at hl 3 rfl) ?_
                refine lv_aload_n hx hb dX9_renderScore_68 rfl (lv_at hl 0 rfl) ?_
                refine lv_iload_n hx hb dX9_renderScore_69 rfl (lv_at hl 1 rfl) ?_
                refine lv_iconst (v := 2) hx hb dX9_renderScore_70 (by decide) ?_
                refine q_bind (fun v27 e26 => ?_)
                refine my_doneI hL (my_runV X hH hl.1 (co_X9_of g l hst a0 p1_ 2 M24 t0 v27 e26) ok_X9_of W1404 t0 rfl (by decide) rfl rfl rfl ⟨Nat.le_of_ble_eq_true rfl, Nat.le_of_ble_eq_true rfl⟩ ⟨Nat.zero_le _, Nat.zero_le _⟩ (Nat.le_of_ble_eq_true rfl) dX9_renderScore_71) (fun H locs hH hL => ?_)
                refine lv_icmp_ge (tgt := 97) hx hb dX9_renderScore_74 (by decide) (fun c28 => q_pos c28 ?_) (fun c28 => q_neg c28 ?_)
                · exact hK i23 M24 _ _ ls hH hL hl 
                · refine lv_aload_n hx hb dX9_renderScore_77 rfl (lv_at hl 0 rfl) ?_
                  refine lv_bipush (v := 48) hx hb dX9_renderScore_78 (by decide) ?_
                  refine lv_aload_n hx hb dX9_renderScore_80 rfl (lv_at hl 0 rfl) ?_
                  refine lv_iload_n hx hb dX9_renderScore_81 rfl (lv_at hl 1 rfl) ?_
                  refine lv_iload_n hx hb dX9_renderScore_82 rfl (lv_at hl 2 rfl) ?_
                  refine lv_iload_n hx hb dX9_renderScore_83 rfl (lv_at hl 3 rfl) ?_
                  refine q_bind (fun v30 e29 => ?_)
                  refine my_doneI hL (my_runV X hH hl.1 (co_X9_noteAt g l hst a0 p1_ i16 i23 M24 t0 v30 e29) ok_X9_noteAt W1412 t0 rfl (by decide) rfl rfl rfl ⟨Nat.le_of_ble_eq_true rfl, Nat.le_of_ble_eq_true rfl⟩ ⟨Nat.zero_le _, Nat.zero_le _⟩ (Nat.le_of_ble_eq_true rfl) dX9_renderScore_84) (fun H locs hH hL => ?_)
                  refine lv_iadd hx hb dX9_renderScore_87 ?_
                  refine q_b1 (fun u32 M33 e31 => ?_)
                  refine my_doneU hL (my_runV X hH hl.1 (co_X9_writes g l hst a0 (48 + v30) M24 t0 u32 M33 e31) ok_X9_writes W1713 t0 rfl (by decide) rfl rfl rfl ⟨Nat.le_of_ble_eq_true rfl, Nat.le_of_ble_eq_true rfl⟩ ⟨Nat.zero_le _, Nat.zero_le _⟩ (Nat.le_of_ble_eq_true rfl) dX9_renderScore_88) (fun H locs hH hL => ?_)
                  refine q_lt (fun v34 e_v34 => ?_)
                  refine lv_iinc (v := v34) (lv' := [(3, .int v34), (0, .ref (adr g a0)), (1, .int p1_), (2, .int i16)]) hx hb dX9_renderScore_91 hl (k := 3) rfl (by rw [e_v34]; rfl) (by decide) rfl (fun ls hl => ?_)
                  refine lv_goto (tgt := 67) hx hb dX9_renderScore_94 (by decide) ?_
                  exact ih v34 M33 _ _ ls hH hL (lv_sub hl [1, 2, 3, 0] rfl) 
            refine L35 _ (fun x36 M37 H locs ls hH hL hl  => ?_) 3000 0 M17 _ _ ls hH hL (lv_sub hl [1, 2, 3, 0] rfl) 
            refine q_lt (fun v38 e_v38 => ?_)
            refine lv_iinc (v := v38) (lv' := [(2, .int v38), (0, .ref (adr g a0)), (1, .int p1_), (3, .int x36)]) hx hb dX9_renderScore_97 hl (k := 2) rfl (by rw [e_v38]; rfl) (by decide) rfl (fun ls hl => ?_)
            refine lv_goto (tgt := 45) hx hb dX9_renderScore_100 (by decide) ?_
            exact ih v38 M37 _ _ ls hH hL (lv_sub hl [1, 2, 0] rfl) 
          · refine lv_aload_n hx hb dX9_renderScore_59 rfl (lv_at hl 0 rfl) ?_
            refine lv_bipush (v := 47) hx hb dX9_renderScore_60 (by decide) ?_
            refine q_b1 (fun u40 M41 e39 => ?_)
            refine my_doneU hL (my_runV X hH hl.1 (co_X9_writes g l hst a0 47 M17 t0 u40 M41 e39) ok_X9_writes W1713 t0 rfl (by decide) rfl rfl rfl ⟨Nat.le_of_ble_eq_true rfl, Nat.le_of_ble_eq_true rfl⟩ ⟨Nat.zero_le _, Nat.zero_le _⟩ (Nat.le_of_ble_eq_true rfl) dX9_renderScore_62) (fun H locs hH hL => ?_)
            refine lv_iconst (v := 0) hx hb dX9_renderScore_65 (by decide) ?_
            refine lv_istore_n (lv' := [(3, .int 0), (0, .ref (adr g a0)), (1, .int p1_), (2, .int i16)]) hx hb dX9_renderScore_66 rfl hl (by decide) rfl (fun ls hl => ?_)
            have L54 : ∀ (K : Int32 → Mem → Option (Int32 × Mem)) (_ : ∀ (i42 : Int32) (M43 : Mem) (H : Heap) (locs : List Loc) (ls : Array Slot), HR g M43 H → LK g s H locs → lv_has ls 4 [(0, .ref (adr g a0)), (1, .int p1_), (2, .int i16), (3, .int i42)] → W p l e (rmO (.inl v : Int32 ⊕ String) 2 45) s m ([.ref (adr g a0), .int p1_] : List Value).toArray below meth c H locs 0 0 (GQ (K i42 M43) (v, M') (MQO g below rvI (.inl v : Int32 ⊕ String) M' ([.ref (adr g a0), .int p1_] : List Value).toArray s)) (F0 m 97 ls [])) (n : Nat) (i42 : Int32) (M43 : Mem) (H : Heap) (locs : List Loc) (ls : Array Slot), HR g M43 H → LK g s H locs → lv_has ls 4 [(0, .ref (adr g a0)), (1, .int p1_), (2, .int i16), (3, .int i42)] → W p l e (rmO (.inl v : Int32 ⊕ String) 2 45) s m ([.ref (adr g a0), .int p1_] : List Value).toArray below meth c H locs 0 0 (GQ (F_X9_renderScore_L3 a0 p1_ i16 K n i42 M43) (v, M') (MQO g below rvI (.inl v : Int32 ⊕ String) M' ([.ref (adr g a0), .int p1_] : List Value).toArray s)) (F0 m 67 ls []) := by
              intro K hK n
              induction n with
              | zero => intros; exact q_none
              | succ n ih =>
                intro i42 M43 H locs ls hH hL hl 
                rw [F_X9_renderScore_L3]
                refine lv_iload_n hx hb dX9_renderScore_67 rfl (lv_at hl 3 rfl) ?_
                refine lv_aload_n hx hb dX9_renderScore_68 rfl (lv_at hl 0 rfl) ?_
                refine lv_iload_n hx hb dX9_renderScore_69 rfl (lv_at hl 1 rfl) ?_
                refine lv_iconst (v := 2) hx hb dX9_renderScore_70 (by decide) ?_
                refine q_bind (fun v46 e45 => ?_)
                refine my_doneI hL (my_runV X hH hl.1 (co_X9_of g l hst a0 p1_ 2 M43 t0 v46 e45) ok_X9_of W1404 t0 rfl (by decide) rfl rfl rfl ⟨Nat.le_of_ble_eq_true rfl, Nat.le_of_ble_eq_true rfl⟩ ⟨Nat.zero_le _, Nat.zero_le _⟩ (Nat.le_of_ble_eq_true rfl) dX9_renderScore_71) (fun H locs hH hL => ?_)
                refine lv_icmp_ge (tgt := 97) hx hb dX9_renderScore_74 (by decide) (fun c47 => q_pos c47 ?_) (fun c47 => q_neg c47 ?_)
                · exact hK i42 M43 _ _ ls hH hL hl 
                · refine lv_aload_n hx hb dX9_renderScore_77 rfl (lv_at hl 0 rfl) ?_
                  refine lv_bipush (v := 48) hx hb dX9_renderScore_78 (by decide) ?_
                  refine lv_aload_n hx hb dX9_renderScore_80 rfl (lv_at hl 0 rfl) ?_
                  refine lv_iload_n hx hb dX9_renderScore_81 rfl (lv_at hl 1 rfl) ?_
                  refine lv_iload_n hx hb dX9_renderScore_82 rfl (lv_at hl 2 rfl) ?_
                  refine lv_iload_n hx hb dX9_renderScore_83 rfl (lv_at hl 3 rfl) ?_
                  refine q_bind (fun v49 e48 => ?_)
                  refine my_doneI hL (my_runV X hH hl.1 (co_X9_noteAt g l hst a0 p1_ i16 i42 M43 t0 v49 e48) ok_X9_noteAt W1412 t0 rfl (by decide) rfl rfl rfl ⟨Nat.le_of_ble_eq_true rfl, Nat.le_of_ble_eq_true rfl⟩ ⟨Nat.zero_le _, Nat.zero_le _⟩ (Nat.le_of_ble_eq_true rfl) dX9_renderScore_84) (fun H locs hH hL => ?_)
                  refine lv_iadd hx hb dX9_renderScore_87 ?_
                  refine q_b1 (fun u51 M52 e50 => ?_)
                  refine my_doneU hL (my_runV X hH hl.1 (co_X9_writes g l hst a0 (48 + v49) M43 t0 u51 M52 e50) ok_X9_writes W1713 t0 rfl (by decide) rfl rfl rfl ⟨Nat.le_of_ble_eq_true rfl, Nat.le_of_ble_eq_true rfl⟩ ⟨Nat.zero_le _, Nat.zero_le _⟩ (Nat.le_of_ble_eq_true rfl) dX9_renderScore_88) (fun H locs hH hL => ?_)
                  refine q_lt (fun v53 e_v53 => ?_)
                  refine lv_iinc (v := v53) (lv' := [(3, .int v53), (0, .ref (adr g a0)), (1, .int p1_), (2, .int i16)]) hx hb dX9_renderScore_91 hl (k := 3) rfl (by rw [e_v53]; rfl) (by decide) rfl (fun ls hl => ?_)
                  refine lv_goto (tgt := 67) hx hb dX9_renderScore_94 (by decide) ?_
                  exact ih v53 M52 _ _ ls hH hL (lv_sub hl [1, 2, 3, 0] rfl) 
            refine L54 _ (fun x55 M56 H locs ls hH hL hl  => ?_) 3000 0 M41 _ _ ls hH hL (lv_sub hl [1, 2, 3, 0] rfl) 
            refine q_lt (fun v57 e_v57 => ?_)
            refine lv_iinc (v := v57) (lv' := [(2, .int v57), (0, .ref (adr g a0)), (1, .int p1_), (3, .int x55)]) hx hb dX9_renderScore_97 hl (k := 2) rfl (by rw [e_v57]; rfl) (by decide) rfl (fun ls hl => ?_)
            refine lv_goto (tgt := 45) hx hb dX9_renderScore_100 (by decide) ?_
            exact ih v57 M56 _ _ ls hH hL (lv_sub hl [1, 2, 0] rfl) 
    refine L58 _ (fun x59 M60 H locs ls hH hL hl  => ?_) 3000 0 M15 _ _ ls hH hL (lv_sub hl [1, 2, 0] rfl) 
    refine lv_aload_n hx hb dX9_renderScore_103 rfl (lv_at hl 0 rfl) ?_
    refine m_gI (k := 10) X hH inC9 t0 rfl W1294 dX9_renderScore_104 ?_
    exact q_end1 (m_iret X hr hH hL dX9_renderScore_107)
  · refine lv_aload_n hx hb dX9_renderScore_13 rfl (lv_at hl 0 rfl) ?_
    refine lv_iconst (v := 1) hx hb dX9_renderScore_14 (by decide) ?_
    refine q_b1 (fun v62 M63 e61 => ?_)
    refine my_doneI hL (my_runV X hH hl.1 (co_X9_fails g l hst a0 1 M1 t0 v62 M63 e61) ok_X9_fails W1356 t0 rfl (by decide) rfl rfl rfl ⟨Nat.le_of_ble_eq_true rfl, Nat.le_of_ble_eq_true rfl⟩ ⟨Nat.zero_le _, Nat.zero_le _⟩ (Nat.le_of_ble_eq_true rfl) dX9_renderScore_15) (fun H locs hH hL => ?_)
    exact q_end1 (m_iret X hr hH hL dX9_renderScore_18)

set_option maxRecDepth 20000 in
set_option maxHeartbeats 4000000 in
theorem co_X9_renderMask (g : GP) (l : Launch) (hst : l.stackTraces = false) (a0 : Nat) (p1_ : Int32) (M : Mem) (t0 : tyT a0 = 9) (v : Int32) (M' : Mem) (hF : F_X9_renderMask a0 p1_ M = some (v, M')) : CO g l yX9_renderMask cX9_renderMask 3 (some .int) 2 44 rvI [.ref (adr g a0), .int p1_] M (.inl v : Int32 ⊕ String) M' := by
  refine CO_of hst (by decide) (Nat.le_of_ble_eq_true rfl) ?_
  intro p e s m below meth c ls X hr htb hH hL hl
  have hx := X.1
  have hb := X.2.1
  have hts := X.2.2.2.2.1
  refine q_out hF ?_
  rw [F_X9_renderMask]
  replace hl : lv_has ls 3 [(0, .ref (adr g a0)), (1, .int p1_)] := hl
  refine lv_aload_n hx hb dX9_renderMask_0 rfl (lv_at hl 0 rfl) ?_
  refine lv_iconst (v := 0) hx hb dX9_renderMask_1 (by decide) ?_
  refine q_lt (fun M1 e_M1 => ?_)
  refine m_pI (k := 0) X hH hL okC9 t0 rfl rfl rfl rfl W1284 dX9_renderMask_2 e_M1 (fun H locs hH hL => ?_)
  refine lv_aload_n hx hb dX9_renderMask_5 rfl (lv_at hl 0 rfl) ?_
  refine lv_iload_n hx hb dX9_renderMask_6 rfl (lv_at hl 1 rfl) ?_
  refine q_bind (fun v3 e2 => ?_)
  refine my_doneI hL (my_runV X hH hl.1 (co_X9_isSection g l hst a0 p1_ M1 t0 v3 e2) ok_X9_isSection W1384 t0 rfl (by decide) rfl rfl rfl ⟨Nat.le_of_ble_eq_true rfl, Nat.le_of_ble_eq_true rfl⟩ ⟨Nat.zero_le _, Nat.zero_le _⟩ (Nat.le_of_ble_eq_true rfl) dX9_renderMask_7) (fun H locs hH hL => ?_)
  refine lv_if_ne (tgt := 19) hx hb dX9_renderMask_10 (by decide) (fun c4 => q_neg c4 ?_) (fun c4 => q_pos c4 ?_)
  · refine lv_aload_n hx hb dX9_renderMask_19 rfl (lv_at hl 0 rfl) ?_
    refine lv_iconst (v := 0) hx hb dX9_renderMask_20 (by decide) ?_
    refine q_lt (fun M5 e_M5 => ?_)
    refine m_pI (k := 10) X hH hL okC9 t0 rfl rfl rfl rfl W1294 dX9_renderMask_21 e_M5 (fun H locs hH hL => ?_)
    refine lv_iconst (v := 0) hx hb dX9_renderMask_24 (by decide) ?_
    refine lv_istore_n (lv' := [(2, .int 0), (0, .ref (adr g a0)), (1, .int p1_)]) hx hb dX9_renderMask_25 rfl hl (by decide) rfl (fun ls hl => ?_)
    have L23 : ∀ (K : Int32 → Mem → Option (Int32 × Mem)) (_ : ∀ (i6 : Int32) (M7 : Mem) (H : Heap) (locs : List Loc) (ls : Array Slot), HR g M7 H → LK g s H locs → lv_has ls 3 [(0, .ref (adr g a0)), (1, .int p1_), (2, .int i6)] → W p l e (rmO (.inl v : Int32 ⊕ String) 2 44) s m ([.ref (adr g a0), .int p1_] : List Value).toArray below meth c H locs 0 0 (GQ (K i6 M7) (v, M') (MQO g below rvI (.inl v : Int32 ⊕ String) M' ([.ref (adr g a0), .int p1_] : List Value).toArray s)) (F0 m 62 ls [])) (n : Nat) (i6 : Int32) (M7 : Mem) (H : Heap) (locs : List Loc) (ls : Array Slot), HR g M7 H → LK g s H locs → lv_has ls 3 [(0, .ref (adr g a0)), (1, .int p1_), (2, .int i6)] → W p l e (rmO (.inl v : Int32 ⊕ String) 2 44) s m ([.ref (adr g a0), .int p1_] : List Value).toArray below meth c H locs 0 0 (GQ (F_X9_renderMask_L1 a0 p1_ K n i6 M7) (v, M') (MQO g below rvI (.inl v : Int32 ⊕ String) M' ([.ref (adr g a0), .int p1_] : List Value).toArray s)) (F0 m 26 ls []) := by
      intro K hK n
      induction n with
      | zero => intros; exact q_none
      | succ n ih =>
        intro i6 M7 H locs ls hH hL hl 
        rw [F_X9_renderMask_L1]
        refine lv_iload_n hx hb dX9_renderMask_26 rfl (lv_at hl 2 rfl) ?_
        refine lv_aload_n hx hb dX9_renderMask_27 rfl (lv_at hl 0 rfl) ?_
        refine lv_iload_n hx hb dX9_renderMask_28 rfl (lv_at hl 1 rfl) ?_
        refine lv_iconst (v := 2) hx hb dX9_renderMask_29 (by decide) ?_
        refine q_bind (fun v10 e9 => ?_)
        refine my_doneI hL (my_runV X hH hl.1 (co_X9_of g l hst a0 p1_ 2 M7 t0 v10 e9) ok_X9_of W1404 t0 rfl (by decide) rfl rfl rfl ⟨Nat.le_of_ble_eq_true rfl, Nat.le_of_ble_eq_true rfl⟩ ⟨Nat.zero_le _, Nat.zero_le _⟩ (Nat.le_of_ble_eq_true rfl) dX9_renderMask_30) (fun H locs hH hL => ?_)
        refine lv_icmp_ge (tgt := 62) hx hb dX9_renderMask_33 (by decide) (fun c11 => q_pos c11 ?_) (fun c11 => q_neg c11 ?_)
        · exact hK i6 M7 _ _ ls hH hL hl 
        · refine lv_aload_n hx hb dX9_renderMask_36 rfl (lv_at hl 0 rfl) ?_
          refine lv_aload_n hx hb dX9_renderMask_37 rfl (lv_at hl 0 rfl) ?_
          refine lv_iload_n hx hb dX9_renderMask_38 rfl (lv_at hl 1 rfl) ?_
          refine lv_iload_n hx hb dX9_renderMask_39 rfl (lv_at hl 2 rfl) ?_
          refine q_bind (fun v13 e12 => ?_)
          refine my_doneI hL (my_runV X hH hl.1 (co_X9_isMaskedAt g l hst a0 p1_ i6 M7 t0 v13 e12) ok_X9_isMaskedAt W1432 t0 rfl (by decide) rfl rfl rfl ⟨Nat.le_of_ble_eq_true rfl, Nat.le_of_ble_eq_true rfl⟩ ⟨Nat.zero_le _, Nat.zero_le _⟩ (Nat.le_of_ble_eq_true rfl) dX9_renderMask_40) (fun H locs hH hL => ?_)
          refine lv_if_eq (tgt := 51) hx hb dX9_renderMask_43 (by decide) (fun c14 => q_pos c14 ?_) (fun c14 => q_neg c14 ?_)
          · refine lv_bipush (v := 46) hx hb dX9_renderMask_51 (by decide) ?_
            refine q_b1 (fun u16 M17 e15 => ?_)
            refine my_doneU hL (my_runV X hH hl.1 (co_X9_writes g l hst a0 46 M7 t0 u16 M17 e15) ok_X9_writes W1713 t0 rfl (by decide) rfl rfl rfl ⟨Nat.le_of_ble_eq_true rfl, Nat.le_of_ble_eq_true rfl⟩ ⟨Nat.zero_le _, Nat.zero_le _⟩ (Nat.le_of_ble_eq_true rfl) dX9_renderMask_53) (fun H locs hH hL => ?_)
            refine q_lt (fun v18 e_v18 => ?_)
            refine lv_iinc (v := v18) (lv' := [(2, .int v18), (0, .ref (adr g a0)), (1, .int p1_)]) hx hb dX9_renderMask_56 hl (k := 2) rfl (by rw [e_v18]; rfl) (by decide) rfl (fun ls hl => ?_)
            refine lv_goto (tgt := 26) hx hb dX9_renderMask_59 (by decide) ?_
            exact ih v18 M17 _ _ ls hH hL (lv_sub hl [1, 2, 0] rfl) 
          · refine lv_bipush (v := 120) hx hb dX9_renderMask_46 (by decide) ?_
            refine lv_goto (tgt := 53) hx hb dX9_renderMask_48 (by decide) ?_
            refine q_b1 (fun u20 M21 e19 => ?_)
            refine my_doneU hL (my_runV X hH hl.1 (co_X9_writes g l hst a0 120 M7 t0 u20 M21 e19) ok_X9_writes W1713 t0 rfl (by decide) rfl rfl rfl ⟨Nat.le_of_ble_eq_true rfl, Nat.le_of_ble_eq_true rfl⟩ ⟨Nat.zero_le _, Nat.zero_le _⟩ (Nat.le_of_ble_eq_true rfl) dX9_renderMask_53) (fun H locs hH hL => ?_)
            refine q_lt (fun v22 e_v22 => ?_)
            refine lv_iinc (v := v22) (lv' := [(2, .int v22), (0, .ref (adr g a0)), (1, .int p1_)]) hx hb dX9_renderMask_56 hl (k := 2) rfl (by rw [e_v22]; rfl) (by decide) rfl (fun ls hl => ?_)
            refine lv_goto (tgt := 26) hx hb dX9_renderMask_59 (by decide) ?_
            exact ih v22 M21 _ _ ls hH hL (lv_sub hl [1, 2, 0] rfl) 
    refine L23 _ (fun x24 M25 H locs ls hH hL hl  => ?_) 3000 0 M5 _ _ ls hH hL (lv_sub hl [1, 2, 0] rfl) 
    refine lv_aload_n hx hb dX9_renderMask_62 rfl (lv_at hl 0 rfl) ?_
    refine lv_bipush (v := 102) hx hb dX9_renderMask_63 (by decide) ?_
    refine q_b1 (fun u27 M28 e26 => ?_)
    refine my_doneU hL (my_runV X hH hl.1 (co_X9_writes g l hst a0 102 M25 t0 u27 M28 e26) ok_X9_writes W1713 t0 rfl (by decide) rfl rfl rfl ⟨Nat.le_of_ble_eq_true rfl, Nat.le_of_ble_eq_true rfl⟩ ⟨Nat.zero_le _, Nat.zero_le _⟩ (Nat.le_of_ble_eq_true rfl) dX9_renderMask_65) (fun H locs hH hL => ?_)
    refine lv_aload_n hx hb dX9_renderMask_68 rfl (lv_at hl 0 rfl) ?_
    refine lv_bipush (v := 48) hx hb dX9_renderMask_69 (by decide) ?_
    refine lv_aload_n hx hb dX9_renderMask_71 rfl (lv_at hl 0 rfl) ?_
    refine lv_iload_n hx hb dX9_renderMask_72 rfl (lv_at hl 1 rfl) ?_
    refine lv_iconst (v := 4) hx hb dX9_renderMask_73 (by decide) ?_
    refine q_bind (fun v30 e29 => ?_)
    refine my_doneI hL (my_runV X hH hl.1 (co_X9_of g l hst a0 p1_ 4 M28 t0 v30 e29) ok_X9_of W1404 t0 rfl (by decide) rfl rfl rfl ⟨Nat.le_of_ble_eq_true rfl, Nat.le_of_ble_eq_true rfl⟩ ⟨Nat.zero_le _, Nat.zero_le _⟩ (Nat.le_of_ble_eq_true rfl) dX9_renderMask_74) (fun H locs hH hL => ?_)
    refine lv_iadd hx hb dX9_renderMask_77 ?_
    refine q_b1 (fun u32 M33 e31 => ?_)
    refine my_doneU hL (my_runV X hH hl.1 (co_X9_writes g l hst a0 (48 + v30) M28 t0 u32 M33 e31) ok_X9_writes W1713 t0 rfl (by decide) rfl rfl rfl ⟨Nat.le_of_ble_eq_true rfl, Nat.le_of_ble_eq_true rfl⟩ ⟨Nat.zero_le _, Nat.zero_le _⟩ (Nat.le_of_ble_eq_true rfl) dX9_renderMask_78) (fun H locs hH hL => ?_)
    refine lv_aload_n hx hb dX9_renderMask_81 rfl (lv_at hl 0 rfl) ?_
    refine lv_iload_n hx hb dX9_renderMask_82 rfl (lv_at hl 1 rfl) ?_
    refine lv_iconst (v := 5) hx hb dX9_renderMask_83 (by decide) ?_
    refine q_bind (fun v35 e34 => ?_)
    refine my_doneI hL (my_runV X hH hl.1 (co_X9_of g l hst a0 p1_ 5 M33 t0 v35 e34) ok_X9_of W1404 t0 rfl (by decide) rfl rfl rfl ⟨Nat.le_of_ble_eq_true rfl, Nat.le_of_ble_eq_true rfl⟩ ⟨Nat.zero_le _, Nat.zero_le _⟩ (Nat.le_of_ble_eq_true rfl) dX9_renderMask_84) (fun H locs hH hL => ?_)
    refine lv_if_le (tgt := 109) hx hb dX9_renderMask_87 (by decide) (fun c36 => q_pos c36 ?_) (fun c36 => q_neg c36 ?_)
    · refine lv_aload_n hx hb dX9_renderMask_109 rfl (lv_at hl 0 rfl) ?_
      refine m_gI (k := 10) X hH inC9 t0 rfl W1294 dX9_renderMask_110 ?_
      exact q_end1 (m_iret X hr hH hL dX9_renderMask_113)
    · refine lv_aload_n hx hb dX9_renderMask_90 rfl (lv_at hl 0 rfl) ?_
      refine lv_bipush (v := 114) hx hb dX9_renderMask_91 (by decide) ?_
      refine q_b1 (fun u38 M39 e37 => ?_)
      refine my_doneU hL (my_runV X hH hl.1 (co_X9_writes g l hst a0 114 M33 t0 u38 M39 e37) ok_X9_writes W1713 t0 rfl (by decide) rfl rfl rfl ⟨Nat.le_of_ble_eq_true rfl, Nat.le_of_ble_eq_true rfl⟩ ⟨Nat.zero_le _, Nat.zero_le _⟩ (Nat.le_of_ble_eq_true rfl) dX9_renderMask_93) (fun H locs hH hL => ?_)
      refine lv_aload_n hx hb dX9_renderMask_96 rfl (lv_at hl 0 rfl) ?_
      refine lv_bipush (v := 48) hx hb dX9_renderMask_97 (by decide) ?_
      refine lv_aload_n hx hb dX9_renderMask_99 rfl (lv_at hl 0 rfl) ?_
      refine lv_iload_n hx hb dX9_renderMask_100 rfl (lv_at hl 1 rfl) ?_
      refine lv_iconst (v := 5) hx hb dX9_renderMask_101 (by decide) ?_
      refine q_bind (fun v41 e40 => ?_)
      refine my_doneI hL (my_runV X hH hl.1 (co_X9_of g l hst a0 p1_ 5 M39 t0 v41 e40) ok_X9_of W1404 t0 rfl (by decide) rfl rfl rfl ⟨Nat.le_of_ble_eq_true rfl, Nat.le_of_ble_eq_true rfl⟩ ⟨Nat.zero_le _, Nat.zero_le _⟩ (Nat.le_of_ble_eq_true rfl) dX9_renderMask_102) (fun H locs hH hL => ?_)
      refine lv_iadd hx hb dX9_renderMask_105 ?_
      refine q_b1 (fun u43 M44 e42 => ?_)
      refine my_doneU hL (my_runV X hH hl.1 (co_X9_writes g l hst a0 (48 + v41) M39 t0 u43 M44 e42) ok_X9_writes W1713 t0 rfl (by decide) rfl rfl rfl ⟨Nat.le_of_ble_eq_true rfl, Nat.le_of_ble_eq_true rfl⟩ ⟨Nat.zero_le _, Nat.zero_le _⟩ (Nat.le_of_ble_eq_true rfl) dX9_renderMask_106) (fun H locs hH hL => ?_)
      refine lv_aload_n hx hb dX9_renderMask_109 rfl (lv_at hl 0 rfl) ?_
      refine m_gI (k := 10) X hH inC9 t0 rfl W1294 dX9_renderMask_110 ?_
      exact q_end1 (m_iret X hr hH hL dX9_renderMask_113)
  · refine lv_aload_n hx hb dX9_renderMask_13 rfl (lv_at hl 0 rfl) ?_
    refine lv_iconst (v := 1) hx hb dX9_renderMask_14 (by decide) ?_
    refine q_b1 (fun v46 M47 e45 => ?_)
    refine my_doneI hL (my_runV X hH hl.1 (co_X9_fails g l hst a0 1 M1 t0 v46 M47 e45) ok_X9_fails W1356 t0 rfl (by decide) rfl rfl rfl ⟨Nat.le_of_ble_eq_true rfl, Nat.le_of_ble_eq_true rfl⟩ ⟨Nat.zero_le _, Nat.zero_le _⟩ (Nat.le_of_ble_eq_true rfl) dX9_renderMask_15) (fun H locs hH hL => ?_)
    exact q_end1 (m_iret X hr hH hL dX9_renderMask_18)

set_option maxRecDepth 20000 in
set_option maxHeartbeats 4000000 in
theorem co_X9_outputAt (g : GP) (l : Launch) (hst : l.stackTraces = false) (a0 : Nat) (p1_ : Int32) (M : Mem) (t0 : tyT a0 = 9) (v : Int32) (M' : Mem) (hF : F_X9_outputAt a0 p1_ M = some (v, M')) : CO g l yX9_outputAt cX9_outputAt 2 (some .char) 1 22 rvI [.ref (adr g a0), .int p1_] M (.inl v : Int32 ⊕ String) M' := by
  refine CO_of hst (by decide) (Nat.le_of_ble_eq_true rfl) ?_
  intro p e s m below meth c ls X hr htb hH hL hl
  have hx := X.1
  have hb := X.2.1
  have hts := X.2.2.2.2.1
  refine q_out hF ?_
  rw [F_X9_outputAt]
  replace hl : lv_has ls 2 [(0, .ref (adr g a0)), (1, .int p1_)] := hl
  refine lv_aload_n hx hb dX9_outputAt_0 rfl (lv_at hl 0 rfl) ?_
  refine lv_iconst (v := 0) hx hb dX9_outputAt_1 (by decide) ?_
  refine q_lt (fun M1 e_M1 => ?_)
  refine m_pI (k := 0) X hH hL okC9 t0 rfl rfl rfl rfl W1284 dX9_outputAt_2 e_M1 (fun H locs hH hL => ?_)
  refine lv_iload_n hx hb dX9_outputAt_5 rfl (lv_at hl 1 rfl) ?_
  refine lv_iconst (v := 0) hx hb dX9_outputAt_6 (by decide) ?_
  refine lv_aload_n hx hb dX9_outputAt_7 rfl (lv_at hl 0 rfl) ?_
  refine m_gI (k := 10) X hH inC9 t0 rfl W1294 dX9_outputAt_8 ?_
  refine lv_iconst (v := 1) hx hb dX9_outputAt_11 (by decide) ?_
  refine lv_isub hx hb dX9_outputAt_12 ?_
  refine q_bind (fun v3 e2 => ?_)
  refine my_doneI hL (my_runS X hH hl.1 (co_X9_isBetween g l hst p1_ 0 ((mI M1 a0 10) - 1) M1 v3 e2) ok_X9_isBetween W1353 rfl rfl ⟨Nat.le_of_ble_eq_true rfl, Nat.le_of_ble_eq_true rfl⟩ ⟨Nat.zero_le _, Nat.zero_le _⟩ (Nat.le_of_ble_eq_true rfl) dX9_outputAt_13) (fun H locs hH hL => ?_)
  refine lv_if_eq (tgt := 26) hx hb dX9_outputAt_16 (by decide) (fun c4 => q_pos c4 ?_) (fun c4 => q_neg c4 ?_)
  · refine lv_aload_n hx hb dX9_outputAt_26 rfl (lv_at hl 0 rfl) ?_
    refine lv_iconst (v := 1) hx hb dX9_outputAt_27 (by decide) ?_
    refine q_b1 (fun v6 M7 e5 => ?_)
    refine my_doneI hL (my_runV X hH hl.1 (co_X9_fails g l hst a0 1 M1 t0 v6 M7 e5) ok_X9_fails W1356 t0 rfl (by decide) rfl rfl rfl ⟨Nat.le_of_ble_eq_true rfl, Nat.le_of_ble_eq_true rfl⟩ ⟨Nat.zero_le _, Nat.zero_le _⟩ (Nat.le_of_ble_eq_true rfl) dX9_outputAt_28) (fun H locs hH hL => ?_)
    refine lv_i2c hx hb dX9_outputAt_31 rfl ?_
    refine q_chk (fun hn8 => ?_)
    exact q_end1 (m_zret X hr hH hL (nokC_n hn8) dX9_outputAt_32)
  · refine lv_aload_n hx hb dX9_outputAt_19 rfl (lv_at hl 0 rfl) ?_
    refine m_gR (k := 9) X hH inC9 t0 rfl W1293 dX9_outputAt_20 26 rfl (fun t9 => ?_)
    refine lv_iload_n hx hb dX9_outputAt_23 rfl (lv_at hl 1 rfl) ?_
    refine q_chk (fun hb10 => ?_)
    refine m_cald X hH t9 rfl (by decide) (fun _ => rfl) rfl rfl hb10 dX9_outputAt_24 ?_
    refine q_chk (fun hn11 => ?_)
    exact q_end1 (m_zret X hr hH hL (nokC_n hn11) dX9_outputAt_25)

set_option maxRecDepth 20000 in
set_option maxHeartbeats 4000000 in
theorem co_X9_type (g : GP) (l : Launch) (hst : l.stackTraces = false) (a0 : Nat) (p1_ : Int32) (M : Mem) (t0 : tyT a0 = 9) (v : Int32) (M' : Mem) (hF : F_X9_type a0 p1_ M = some (v, M')) : CO g l yX9_type cX9_type 2 (some .int) 1 22 rvI [.ref (adr g a0), .int p1_] M (.inl v : Int32 ⊕ String) M' := by
  refine CO_of hst (by decide) (Nat.le_of_ble_eq_true rfl) ?_
  intro p e s m below meth c ls X hr htb hH hL hl
  have hx := X.1
  have hb := X.2.1
  have hts := X.2.2.2.2.1
  refine q_out hF ?_
  rw [F_X9_type]
  replace hl : lv_has ls 2 [(0, .ref (adr g a0)), (1, .int p1_)] := hl
  refine lv_aload_n hx hb dX9_type_0 rfl (lv_at hl 0 rfl) ?_
  refine lv_iconst (v := 0) hx hb dX9_type_1 (by decide) ?_
  refine q_lt (fun M1 e_M1 => ?_)
  refine m_pI (k := 0) X hH hL okC9 t0 rfl rfl rfl rfl W1284 dX9_type_2 e_M1 (fun H locs hH hL => ?_)
  refine lv_iload_n hx hb dX9_type_5 rfl (lv_at hl 1 rfl) ?_
  refine lv_bipush (v := 32) hx hb dX9_type_6 (by decide) ?_
  refine lv_bipush (v := 126) hx hb dX9_type_8 (by decide) ?_
  refine q_bind (fun v3 e2 => ?_)
  refine my_doneI hL (my_runS X hH hl.1 (co_X9_isBetween g l hst p1_ 32 126 M1 v3 e2) ok_X9_isBetween W1353 rfl rfl ⟨Nat.le_of_ble_eq_true rfl, Nat.le_of_ble_eq_true rfl⟩ ⟨Nat.zero_le _, Nat.zero_le _⟩ (Nat.le_of_ble_eq_true rfl) dX9_type_10) (fun H locs hH hL => ?_)
  refine lv_if_ne (tgt := 22) hx hb dX9_type_13 (by decide) (fun c4 => q_neg c4 ?_) (fun c4 => q_pos c4 ?_)
  · refine lv_aload_n hx hb dX9_type_22 rfl (lv_at hl 0 rfl) ?_
    refine m_gI (k := 12) X hH inC9 t0 rfl W1296 dX9_type_23 ?_
    refine lv_bipush (v := 60) hx hb dX9_type_26 (by decide) ?_
    refine lv_icmp_ne (tgt := 37) hx hb dX9_type_28 (by decide) (fun c5 => q_neg c5 ?_) (fun c5 => q_pos c5 ?_)
    · refine lv_aload_n hx hb dX9_type_37 rfl (lv_at hl 0 rfl) ?_
      refine m_gR (k := 11) X hH inC9 t0 rfl W1295 dX9_type_38 26 rfl (fun t6 => ?_)
      refine lv_aload_n hx hb dX9_type_41 rfl (lv_at hl 0 rfl) ?_
      refine m_gI (k := 12) X hH inC9 t0 rfl W1296 dX9_type_42 ?_
      refine lv_iload_n hx hb dX9_type_45 rfl (lv_at hl 1 rfl) ?_
      refine q_chk (fun hb7 => ?_)
      refine q_lt (fun M8 e_M8 => ?_)
      refine m_cs X hH hL t6 rfl (by decide) (fun _ => rfl) rfl rfl hb7 dX9_type_46 e_M8 (fun H locs hH hL => ?_)
      refine lv_aload_n hx hb dX9_type_47 rfl (lv_at hl 0 rfl) ?_
      refine lv_dup hx hb dX9_type_48 rfl ?_
      refine m_gI (k := 12) X hH inC9 t0 rfl W1296 dX9_type_49 ?_
      refine lv_iconst (v := 1) hx hb dX9_type_52 (by decide) ?_
      refine lv_iadd hx hb dX9_type_53 ?_
      refine q_lt (fun M9 e_M9 => ?_)
      refine m_pI (k := 12) X hH hL okC9 t0 rfl rfl rfl rfl W1296 dX9_type_54 e_M9 (fun H locs hH hL => ?_)
      refine lv_aload_n hx hb dX9_type_57 rfl (lv_at hl 0 rfl) ?_
      refine m_gI (k := 12) X hH inC9 t0 rfl W1296 dX9_type_58 ?_
      exact q_end1 (m_iret X hr hH hL dX9_type_61)
    · refine lv_aload_n hx hb dX9_type_31 rfl (lv_at hl 0 rfl) ?_
      refine lv_iconst (v := 2) hx hb dX9_type_32 (by decide) ?_
      refine q_b1 (fun v11 M12 e10 => ?_)
      refine my_doneI hL (my_runV X hH hl.1 (co_X9_fails g l hst a0 2 M1 t0 v11 M12 e10) ok_X9_fails W1356 t0 rfl (by decide) rfl rfl rfl ⟨Nat.le_of_ble_eq_true rfl, Nat.le_of_ble_eq_true rfl⟩ ⟨Nat.zero_le _, Nat.zero_le _⟩ (Nat.le_of_ble_eq_true rfl) dX9_type_33) (fun H locs hH hL => ?_)
      exact q_end1 (m_iret X hr hH hL dX9_type_36)
  · refine lv_aload_n hx hb dX9_type_16 rfl (lv_at hl 0 rfl) ?_
    refine lv_iconst (v := 1) hx hb dX9_type_17 (by decide) ?_
    refine q_b1 (fun v14 M15 e13 => ?_)
    refine my_doneI hL (my_runV X hH hl.1 (co_X9_fails g l hst a0 1 M1 t0 v14 M15 e13) ok_X9_fails W1356 t0 rfl (by decide) rfl rfl rfl ⟨Nat.le_of_ble_eq_true rfl, Nat.le_of_ble_eq_true rfl⟩ ⟨Nat.zero_le _, Nat.zero_le _⟩ (Nat.le_of_ble_eq_true rfl) dX9_type_18) (fun H locs hH hL => ?_)
    exact q_end1 (m_iret X hr hH hL dX9_type_21)

set_option maxRecDepth 20000 in
set_option maxHeartbeats 4000000 in
theorem co_X9_nextChar (g : GP) (l : Launch) (hst : l.stackTraces = false) (a0 : Nat) (M : Mem) (t0 : tyT a0 = 9) (v : Int32) (hF : F_X9_nextChar a0 M = some v) : CO g l yX9_nextChar cX9_nextChar 1 (some .int) 0 0 rvI [.ref (adr g a0)] M (.inl v : Int32 ⊕ String) M := by
  refine CO_of hst (by decide) (Nat.le_of_ble_eq_true rfl) ?_
  intro p e s m below meth c ls X hr htb hH hL hl
  have hx := X.1
  have hb := X.2.1
  have hts := X.2.2.2.2.1
  refine q_out hF ?_
  rw [F_X9_nextChar]
  replace hl : lv_has ls 1 [(0, .ref (adr g a0))] := hl
  refine lv_aload_n hx hb dX9_nextChar_0 rfl (lv_at hl 0 rfl) ?_
  refine m_gI (k := 13) X hH inC9 t0 rfl W1297 dX9_nextChar_1 ?_
  refine lv_aload_n hx hb dX9_nextChar_4 rfl (lv_at hl 0 rfl) ?_
  refine m_gI (k := 12) X hH inC9 t0 rfl W1296 dX9_nextChar_5 ?_
  refine lv_icmp_ge (tgt := 23) hx hb dX9_nextChar_8 (by decide) (fun c1 => q_pos c1 ?_) (fun c1 => q_neg c1 ?_)
  · refine lv_iconst (v := (-1)) hx hb dX9_nextChar_23 (by decide) ?_
    exact q_end0 (m_iret X hr hH hL dX9_nextChar_24)
  · refine lv_aload_n hx hb dX9_nextChar_11 rfl (lv_at hl 0 rfl) ?_
    refine m_gR (k := 11) X hH inC9 t0 rfl W1295 dX9_nextChar_12 26 rfl (fun t2 => ?_)
    refine lv_aload_n hx hb dX9_nextChar_15 rfl (lv_at hl 0 rfl) ?_
    refine m_gI (k := 13) X hH inC9 t0 rfl W1297 dX9_nextChar_16 ?_
    refine q_chk (fun hb3 => ?_)
    refine m_cald X hH t2 rfl (by decide) (fun _ => rfl) rfl rfl hb3 dX9_nextChar_19 ?_
    refine lv_goto (tgt := 24) hx hb dX9_nextChar_20 (by decide) ?_
    exact q_end0 (m_iret X hr hH hL dX9_nextChar_24)

set_option maxRecDepth 20000 in
set_option maxHeartbeats 4000000 in
theorem co_X9_reads (g : GP) (l : Launch) (hst : l.stackTraces = false) (a0 : Nat) (p1_ : Int32) (M : Mem) (t0 : tyT a0 = 9) (v : Int32) (M' : Mem) (hF : F_X9_reads a0 p1_ M = some (v, M')) : CO g l yX9_reads cX9_reads 2 (some .boolean) 1 20 rvI [.ref (adr g a0), .int p1_] M (.inl v : Int32 ⊕ String) M' := by
  refine CO_of hst (by decide) (Nat.le_of_ble_eq_true rfl) ?_
  intro p e s m below meth c ls X hr htb hH hL hl
  have hx := X.1
  have hb := X.2.1
  have hts := X.2.2.2.2.1
  refine q_out hF ?_
  rw [F_X9_reads]
  replace hl : lv_has ls 2 [(0, .ref (adr g a0)), (1, .int p1_)] := hl
  refine lv_aload_n hx hb dX9_reads_0 rfl (lv_at hl 0 rfl) ?_
  refine q_bind (fun v2 e1 => ?_)
  refine my_doneI hL (my_runV X hH hl.1 (co_X9_nextChar g l hst a0 M t0 v2 e1) ok_X9_nextChar W1741 t0 rfl (by decide) rfl rfl rfl ⟨Nat.le_of_ble_eq_true rfl, Nat.le_of_ble_eq_true rfl⟩ ⟨Nat.zero_le _, Nat.zero_le _⟩ (Nat.le_of_ble_eq_true rfl) dX9_reads_1) (fun H locs hH hL => ?_)
  refine lv_iload_n hx hb dX9_reads_4 rfl (lv_at hl 1 rfl) ?_
  refine lv_icmp_eq (tgt := 10) hx hb dX9_reads_5 (by decide) (fun c3 => q_pos c3 ?_) (fun c3 => q_neg c3 ?_)
  · refine lv_aload_n hx hb dX9_reads_10 rfl (lv_at hl 0 rfl) ?_
    refine lv_dup hx hb dX9_reads_11 rfl ?_
    refine m_gI (k := 13) X hH inC9 t0 rfl W1297 dX9_reads_12 ?_
    refine lv_iconst (v := 1) hx hb dX9_reads_15 (by decide) ?_
    refine lv_iadd hx hb dX9_reads_16 ?_
    refine q_lt (fun M4 e_M4 => ?_)
    refine m_pI (k := 13) X hH hL okC9 t0 rfl rfl rfl rfl W1297 dX9_reads_17 e_M4 (fun H locs hH hL => ?_)
    refine lv_iconst (v := 1) hx hb dX9_reads_20 (by decide) ?_
    exact q_end1 (m_zret X hr hH hL (by decide) dX9_reads_21)
  · refine lv_iconst (v := 0) hx hb dX9_reads_8 (by decide) ?_
    exact q_end1 (m_zret X hr hH hL (by decide) dX9_reads_9)

set_option maxRecDepth 20000 in
set_option maxHeartbeats 4000000 in
theorem co_X9_readsDigit (g : GP) (l : Launch) (hst : l.stackTraces = false) (a0 : Nat) (p1_ : Int32) (M : Mem) (t0 : tyT a0 = 9) (v : Int32) (M' : Mem) (hF : F_X9_readsDigit a0 p1_ M = some (v, M')) : CO g l yX9_readsDigit cX9_readsDigit 2 (some .boolean) 1 22 rvI [.ref (adr g a0), .int p1_] M (.inl v : Int32 ⊕ String) M' := by
  refine CO_of hst (by decide) (Nat.le_of_ble_eq_true rfl) ?_
  intro p e s m below meth c ls X hr htb hH hL hl
  have hx := X.1
  have hb := X.2.1
  have hts := X.2.2.2.2.1
  refine q_out hF ?_
  rw [F_X9_readsDigit]
  replace hl : lv_has ls 2 [(0, .ref (adr g a0)), (1, .int p1_)] := hl
  refine lv_aload_n hx hb dX9_readsDigit_0 rfl (lv_at hl 0 rfl) ?_
  refine q_bind (fun v2 e1 => ?_)
  refine my_doneI hL (my_runV X hH hl.1 (co_X9_nextChar g l hst a0 M t0 v2 e1) ok_X9_nextChar W1741 t0 rfl (by decide) rfl rfl rfl ⟨Nat.le_of_ble_eq_true rfl, Nat.le_of_ble_eq_true rfl⟩ ⟨Nat.zero_le _, Nat.zero_le _⟩ (Nat.le_of_ble_eq_true rfl) dX9_readsDigit_1) (fun H locs hH hL => ?_)
  refine lv_bipush (v := 48) hx hb dX9_readsDigit_4 (by decide) ?_
  refine lv_bipush (v := 57) hx hb dX9_readsDigit_6 (by decide) ?_
  refine q_bind (fun v4 e3 => ?_)
  refine my_doneI hL (my_runS X hH hl.1 (co_X9_isBetween g l hst v2 48 57 M v4 e3) ok_X9_isBetween W1353 rfl rfl ⟨Nat.le_of_ble_eq_true rfl, Nat.le_of_ble_eq_true rfl⟩ ⟨Nat.zero_le _, Nat.zero_le _⟩ (Nat.le_of_ble_eq_true rfl) dX9_readsDigit_8) (fun H locs hH hL => ?_)
  refine lv_if_ne (tgt := 16) hx hb dX9_readsDigit_11 (by decide) (fun c5 => q_neg c5 ?_) (fun c5 => q_pos c5 ?_)
  · refine lv_aload_n hx hb dX9_readsDigit_16 rfl (lv_at hl 0 rfl) ?_
    refine m_gR (k := 16) X hH inC9 t0 rfl W1300 dX9_readsDigit_17 23 rfl (fun t6 => ?_)
    refine lv_iload_n hx hb dX9_readsDigit_20 rfl (lv_at hl 1 rfl) ?_
    refine lv_aload_n hx hb dX9_readsDigit_21 rfl (lv_at hl 0 rfl) ?_
    refine q_bind (fun v8 e7 => ?_)
    refine my_doneI hL (my_runV X hH hl.1 (co_X9_nextChar g l hst a0 M t0 v8 e7) ok_X9_nextChar W1741 t0 rfl (by decide) rfl rfl rfl ⟨Nat.le_of_ble_eq_true rfl, Nat.le_of_ble_eq_true rfl⟩ ⟨Nat.zero_le _, Nat.zero_le _⟩ (Nat.le_of_ble_eq_true rfl) dX9_readsDigit_22) (fun H locs hH hL => ?_)
    refine lv_bipush (v := 48) hx hb dX9_readsDigit_25 (by decide) ?_
    refine lv_isub hx hb dX9_readsDigit_27 ?_
    refine q_chk (fun hb9 => ?_)
    refine q_lt (fun M10 e_M10 => ?_)
    refine m_is X hH hL t6 rfl (by decide) (fun _ => rfl) rfl rfl hb9 dX9_readsDigit_28 e_M10 (fun H locs hH hL => ?_)
    refine lv_aload_n hx hb dX9_readsDigit_29 rfl (lv_at hl 0 rfl) ?_
    refine lv_dup hx hb dX9_readsDigit_30 rfl ?_
    refine m_gI (k := 13) X hH inC9 t0 rfl W1297 dX9_readsDigit_31 ?_
    refine lv_iconst (v := 1) hx hb dX9_readsDigit_34 (by decide) ?_
    refine lv_iadd hx hb dX9_readsDigit_35 ?_
    refine q_lt (fun M11 e_M11 => ?_)
    refine m_pI (k := 13) X hH hL okC9 t0 rfl rfl rfl rfl W1297 dX9_readsDigit_36 e_M11 (fun H locs hH hL => ?_)
    refine lv_iconst (v := 1) hx hb dX9_readsDigit_39 (by decide) ?_
    exact q_end1 (m_zret X hr hH hL (by decide) dX9_readsDigit_40)
  · refine lv_iconst (v := 0) hx hb dX9_readsDigit_14 (by decide) ?_
    exact q_end1 (m_zret X hr hH hL (by decide) dX9_readsDigit_15)

set_option maxRecDepth 20000 in
set_option maxHeartbeats 4000000 in
theorem co_X9_readsNumber (g : GP) (l : Launch) (hst : l.stackTraces = false) (a0 : Nat) (p1_ : Int32) (M : Mem) (t0 : tyT a0 = 9) (v : Int32) (M' : Mem) (hF : F_X9_readsNumber a0 p1_ M = some (v, M')) : CO g l yX9_readsNumber cX9_readsNumber 2 (some .boolean) 2 43 rvI [.ref (adr g a0), .int p1_] M (.inl v : Int32 ⊕ String) M' := by
  refine CO_of hst (by decide) (Nat.le_of_ble_eq_true rfl) ?_
  intro p e s m below meth c ls X hr htb hH hL hl
  have hx := X.1
  have hb := X.2.1
  have hts := X.2.2.2.2.1
  refine q_out hF ?_
  rw [F_X9_readsNumber]
  replace hl : lv_has ls 2 [(0, .ref (adr g a0)), (1, .int p1_)] := hl
  refine lv_aload_n hx hb dX9_readsNumber_0 rfl (lv_at hl 0 rfl) ?_
  refine lv_iload_n hx hb dX9_readsNumber_1 rfl (lv_at hl 1 rfl) ?_
  refine q_b1 (fun v2 M3 e1 => ?_)
  refine my_doneI hL (my_runV X hH hl.1 (co_X9_readsDigit g l hst a0 p1_ M t0 v2 M3 e1) ok_X9_readsDigit W1753 t0 rfl (by decide) rfl rfl rfl ⟨Nat.le_of_ble_eq_true rfl, Nat.le_of_ble_eq_true rfl⟩ ⟨Nat.zero_le _, Nat.zero_le _⟩ (Nat.le_of_ble_eq_true rfl) dX9_readsNumber_2) (fun H locs hH hL => ?_)
  refine lv_if_ne (tgt := 10) hx hb dX9_readsNumber_5 (by decide) (fun c4 => q_neg c4 ?_) (fun c4 => q_pos c4 ?_)
  · refine lv_aload_n hx hb dX9_readsNumber_10 rfl (lv_at hl 0 rfl) ?_
    refine q_bind (fun v6 e5 => ?_)
    refine my_doneI hL (my_runV X hH hl.1 (co_X9_nextChar g l hst a0 M3 t0 v6 e5) ok_X9_nextChar W1741 t0 rfl (by decide) rfl rfl rfl ⟨Nat.le_of_ble_eq_true rfl, Nat.le_of_ble_eq_true rfl⟩ ⟨Nat.zero_le _, Nat.zero_le _⟩ (Nat.le_of_ble_eq_true rfl) dX9_readsNumber_11) (fun H locs hH hL => ?_)
    refine lv_bipush (v := 48) hx hb dX9_readsNumber_14 (by decide) ?_
    refine lv_bipush (v := 57) hx hb dX9_readsNumber_16 (by decide) ?_
    refine q_bind (fun v8 e7 => ?_)
    refine my_doneI hL (my_runS X hH hl.1 (co_X9_isBetween g l hst v6 48 57 M3 v8 e7) ok_X9_isBetween W1353 rfl rfl ⟨Nat.le_of_ble_eq_true rfl, Nat.le_of_ble_eq_true rfl⟩ ⟨Nat.zero_le _, Nat.zero_le _⟩ (Nat.le_of_ble_eq_true rfl) dX9_readsNumber_18) (fun H locs hH hL => ?_)
    refine lv_if_ne (tgt := 26) hx hb dX9_readsNumber_21 (by decide) (fun c9 => q_neg c9 ?_) (fun c9 => q_pos c9 ?_)
    · refine lv_aload_n hx hb dX9_readsNumber_26 rfl (lv_at hl 0 rfl) ?_
      refine m_gR (k := 16) X hH inC9 t0 rfl W1300 dX9_readsNumber_27 23 rfl (fun t10 => ?_)
      refine lv_iload_n hx hb dX9_readsNumber_30 rfl (lv_at hl 1 rfl) ?_
      refine lv_bipush (v := 10) hx hb dX9_readsNumber_31 (by decide) ?_
      refine lv_aload_n hx hb dX9_readsNumber_33 rfl (lv_at hl 0 rfl) ?_
      refine m_gR (k := 16) X hH inC9 t0 rfl W1300 dX9_readsNumber_34 23 rfl (fun t11 => ?_)
      refine lv_iload_n hx hb dX9_readsNumber_37 rfl (lv_at hl 1 rfl) ?_
      refine q_chk (fun hb12 => ?_)
      refine m_iald X hH t11 rfl (by decide) (fun _ => rfl) rfl rfl hb12 dX9_readsNumber_38 ?_
      refine lv_imul hx hb dX9_readsNumber_39 ?_
      refine lv_aload_n hx hb dX9_readsNumber_40 rfl (lv_at hl 0 rfl) ?_
      refine q_bind (fun v14 e13 => ?_)
      refine my_doneI hL (my_runV X hH hl.1 (co_X9_nextChar g l hst a0 M3 t0 v14 e13) ok_X9_nextChar W1741 t0 rfl (by decide) rfl rfl rfl ⟨Nat.le_of_ble_eq_true rfl, Nat.le_of_ble_eq_true rfl⟩ ⟨Nat.zero_le _, Nat.zero_le _⟩ (Nat.le_of_ble_eq_true rfl) dX9_readsNumber_41) (fun H locs hH hL => ?_)
      refine lv_iadd hx hb dX9_readsNumber_44 ?_
      refine lv_bipush (v := 48) hx hb dX9_readsNumber_45 (by decide) ?_
      refine lv_isub hx hb dX9_readsNumber_47 ?_
      refine q_chk (fun hb15 => ?_)
      refine q_lt (fun M16 e_M16 => ?_)
      refine m_is X hH hL t10 rfl (by decide) (fun _ => rfl) rfl rfl hb15 dX9_readsNumber_48 e_M16 (fun H locs hH hL => ?_)
      refine lv_aload_n hx hb dX9_readsNumber_49 rfl (lv_at hl 0 rfl) ?_
      refine lv_dup hx hb dX9_readsNumber_50 rfl ?_
      refine m_gI (k := 13) X hH inC9 t0 rfl W1297 dX9_readsNumber_51 ?_
      refine lv_iconst (v := 1) hx hb dX9_readsNumber_54 (by decide) ?_
      refine lv_iadd hx hb dX9_readsNumber_55 ?_
      refine q_lt (fun M17 e_M17 => ?_)
      refine m_pI (k := 13) X hH hL okC9 t0 rfl rfl rfl rfl W1297 dX9_readsNumber_56 e_M17 (fun H locs hH hL => ?_)
      refine lv_iconst (v := 1) hx hb dX9_readsNumber_59 (by decide) ?_
      exact q_end1 (m_zret X hr hH hL (by decide) dX9_readsNumber_60)
    · refine lv_iconst (v := 1) hx hb dX9_readsNumber_24 (by decide) ?_
      exact q_end1 (m_zret X hr hH hL (by decide) dX9_readsNumber_25)
  · refine lv_iconst (v := 0) hx hb dX9_readsNumber_8 (by decide) ?_
    exact q_end1 (m_zret X hr hH hL (by decide) dX9_readsNumber_9)

set_option maxRecDepth 20000 in
set_option maxHeartbeats 4000000 in
theorem co_X9_readsSign (g : GP) (l : Launch) (hst : l.stackTraces = false) (a0 : Nat) (p1_ : Int32) (M : Mem) (t0 : tyT a0 = 9) (v : Int32) (M' : Mem) (hF : F_X9_readsSign a0 p1_ M = some (v, M')) : CO g l yX9_readsSign cX9_readsSign 2 (some .boolean) 2 41 rvI [.ref (adr g a0), .int p1_] M (.inl v : Int32 ⊕ String) M' := by
  refine CO_of hst (by decide) (Nat.le_of_ble_eq_true rfl) ?_
  intro p e s m below meth c ls X hr htb hH hL hl
  have hx := X.1
  have hb := X.2.1
  have hts := X.2.2.2.2.1
  refine q_out hF ?_
  rw [F_X9_readsSign]
  replace hl : lv_has ls 2 [(0, .ref (adr g a0)), (1, .int p1_)] := hl
  refine lv_aload_n hx hb dX9_readsSign_0 rfl (lv_at hl 0 rfl) ?_
  refine m_gR (k := 16) X hH inC9 t0 rfl W1300 dX9_readsSign_1 23 rfl (fun t1 => ?_)
  refine lv_iload_n hx hb dX9_readsSign_4 rfl (lv_at hl 1 rfl) ?_
  refine lv_aload_n hx hb dX9_readsSign_5 rfl (lv_at hl 0 rfl) ?_
  refine q_bind (fun v3 e2 => ?_)
  refine my_doneI hL (my_runV X hH hl.1 (co_X9_nextChar g l hst a0 M t0 v3 e2) ok_X9_nextChar W1741 t0 rfl (by decide) rfl rfl rfl ⟨Nat.le_of_ble_eq_true rfl, Nat.le_of_ble_eq_true rfl⟩ ⟨Nat.zero_le _, Nat.zero_le _⟩ (Nat.le_of_ble_eq_true rfl) dX9_readsSign_6) (fun H locs hH hL => ?_)
  refine lv_bipush (v := 43) hx hb dX9_readsSign_9 (by decide) ?_
  refine lv_icmp_ne (tgt := 18) hx hb dX9_readsSign_11 (by decide) (fun c4 => q_neg c4 ?_) (fun c4 => q_pos c4 ?_)
  · refine lv_iconst (v := 0) hx hb dX9_readsSign_18 (by decide) ?_
    refine q_chk (fun hb5 => ?_)
    refine q_lt (fun M6 e_M6 => ?_)
    refine m_is X hH hL t1 rfl (by decide) (fun _ => rfl) rfl rfl hb5 dX9_readsSign_19 e_M6 (fun H locs hH hL => ?_)
    refine lv_aload_n hx hb dX9_readsSign_20 rfl (lv_at hl 0 rfl) ?_
    refine lv_bipush (v := 43) hx hb dX9_readsSign_21 (by decide) ?_
    refine q_b1 (fun v8 M9 e7 => ?_)
    refine my_doneI hL (my_runV X hH hl.1 (co_X9_reads g l hst a0 43 M6 t0 v8 M9 e7) ok_X9_reads W1745 t0 rfl (by decide) rfl rfl rfl ⟨Nat.le_of_ble_eq_true rfl, Nat.le_of_ble_eq_true rfl⟩ ⟨Nat.zero_le _, Nat.zero_le _⟩ (Nat.le_of_ble_eq_true rfl) dX9_readsSign_23) (fun H locs hH hL => ?_)
    refine lv_if_ne (tgt := 38) hx hb dX9_readsSign_26 (by decide) (fun c10 => q_neg c10 ?_) (fun c10 => q_pos c10 ?_)
    · refine lv_iconst (v := 1) hx hb dX9_readsSign_38 (by decide) ?_
      refine lv_goto (tgt := 43) hx hb dX9_readsSign_39 (by decide) ?_
      exact q_end1 (m_zret X hr hH hL (by decide) dX9_readsSign_43)
    · refine lv_aload_n hx hb dX9_readsSign_29 rfl (lv_at hl 0 rfl) ?_
      refine lv_bipush (v := 45) hx hb dX9_readsSign_30 (by decide) ?_
      refine q_b1 (fun v12 M13 e11 => ?_)
      refine my_doneI hL (my_runV X hH hl.1 (co_X9_reads g l hst a0 45 M9 t0 v12 M13 e11) ok_X9_reads W1745 t0 rfl (by decide) rfl rfl rfl ⟨Nat.le_of_ble_eq_true rfl, Nat.le_of_ble_eq_true rfl⟩ ⟨Nat.zero_le _, Nat.zero_le _⟩ (Nat.le_of_ble_eq_true rfl) dX9_readsSign_32) (fun H locs hH hL => ?_)
      refine lv_if_eq (tgt := 42) hx hb dX9_readsSign_35 (by decide) (fun c14 => q_pos c14 ?_) (fun c14 => q_neg c14 ?_)
      · refine lv_iconst (v := 0) hx hb dX9_readsSign_42 (by decide) ?_
        exact q_end1 (m_zret X hr hH hL (by decide) dX9_readsSign_43)
      · refine lv_iconst (v := 1) hx hb dX9_readsSign_38 (by decide) ?_
        refine lv_goto (tgt := 43) hx hb dX9_readsSign_39 (by decide) ?_
        exact q_end1 (m_zret X hr hH hL (by decide) dX9_readsSign_43)
  · refine lv_iconst (v := 1) hx hb dX9_readsSign_14 (by decide) ?_
    refine lv_goto (tgt := 19) hx hb dX9_readsSign_15 (by decide) ?_
    refine q_chk (fun hb15 => ?_)
    refine q_lt (fun M16 e_M16 => ?_)
    refine m_is X hH hL t1 rfl (by decide) (fun _ => rfl) rfl rfl hb15 dX9_readsSign_19 e_M16 (fun H locs hH hL => ?_)
    refine lv_aload_n hx hb dX9_readsSign_20 rfl (lv_at hl 0 rfl) ?_
    refine lv_bipush (v := 43) hx hb dX9_readsSign_21 (by decide) ?_
    refine q_b1 (fun v18 M19 e17 => ?_)
    refine my_doneI hL (my_runV X hH hl.1 (co_X9_reads g l hst a0 43 M16 t0 v18 M19 e17) ok_X9_reads W1745 t0 rfl (by decide) rfl rfl rfl ⟨Nat.le_of_ble_eq_true rfl, Nat.le_of_ble_eq_true rfl⟩ ⟨Nat.zero_le _, Nat.zero_le _⟩ (Nat.le_of_ble_eq_true rfl) dX9_readsSign_23) (fun H locs hH hL => ?_)
    refine lv_if_ne (tgt := 38) hx hb dX9_readsSign_26 (by decide) (fun c20 => q_neg c20 ?_) (fun c20 => q_pos c20 ?_)
    · refine lv_iconst (v := 1) hx hb dX9_readsSign_38 (by decide) ?_
      refine lv_goto (tgt := 43) hx hb dX9_readsSign_39 (by decide) ?_
      exact q_end1 (m_zret X hr hH hL (by decide) dX9_readsSign_43)
    · refine lv_aload_n hx hb dX9_readsSign_29 rfl (lv_at hl 0 rfl) ?_
      refine lv_bipush (v := 45) hx hb dX9_readsSign_30 (by decide) ?_
      refine q_b1 (fun v22 M23 e21 => ?_)
      refine my_doneI hL (my_runV X hH hl.1 (co_X9_reads g l hst a0 45 M19 t0 v22 M23 e21) ok_X9_reads W1745 t0 rfl (by decide) rfl rfl rfl ⟨Nat.le_of_ble_eq_true rfl, Nat.le_of_ble_eq_true rfl⟩ ⟨Nat.zero_le _, Nat.zero_le _⟩ (Nat.le_of_ble_eq_true rfl) dX9_readsSign_32) (fun H locs hH hL => ?_)
      refine lv_if_eq (tgt := 42) hx hb dX9_readsSign_35 (by decide) (fun c24 => q_pos c24 ?_) (fun c24 => q_neg c24 ?_)
      · refine lv_iconst (v := 0) hx hb dX9_readsSign_42 (by decide) ?_
        exact q_end1 (m_zret X hr hH hL (by decide) dX9_readsSign_43)
      · refine lv_iconst (v := 1) hx hb dX9_readsSign_38 (by decide) ?_
        refine lv_goto (tgt := 43) hx hb dX9_readsSign_39 (by decide) ?_
        exact q_end1 (m_zret X hr hH hL (by decide) dX9_readsSign_43)

set_option maxRecDepth 20000 in
set_option maxHeartbeats 4000000 in
theorem co_X9_readsAdd (g : GP) (l : Launch) (hst : l.stackTraces = false) (a0 : Nat) (M : Mem) (t0 : tyT a0 = 9) (v : Int32) (M' : Mem) (hF : F_X9_readsAdd a0 M = some (v, M')) : CO g l yX9_readsAdd cX9_readsAdd 1 (some .boolean) 2 43 rvI [.ref (adr g a0)] M (.inl v : Int32 ⊕ String) M' := by
  refine CO_of hst (by decide) (Nat.le_of_ble_eq_true rfl) ?_
  intro p e s m below meth c ls X hr htb hH hL hl
  have hx := X.1
  have hb := X.2.1
  have hts := X.2.2.2.2.1
  refine q_out hF ?_
  rw [F_X9_readsAdd]
  replace hl : lv_has ls 1 [(0, .ref (adr g a0))] := hl
  refine lv_aload_n hx hb dX9_readsAdd_0 rfl (lv_at hl 0 rfl) ?_
  refine lv_bipush (v := 100) hx hb dX9_readsAdd_1 (by decide) ?_
  refine q_b1 (fun v2 M3 e1 => ?_)
  refine my_doneI hL (my_runV X hH hl.1 (co_X9_reads g l hst a0 100 M t0 v2 M3 e1) ok_X9_reads W1745 t0 rfl (by decide) rfl rfl rfl ⟨Nat.le_of_ble_eq_true rfl, Nat.le_of_ble_eq_true rfl⟩ ⟨Nat.zero_le _, Nat.zero_le _⟩ (Nat.le_of_ble_eq_true rfl) dX9_readsAdd_3) (fun H locs hH hL => ?_)
  refine lv_if_eq (tgt := 27) hx hb dX9_readsAdd_6 (by decide) (fun c4 => q_pos c4 ?_) (fun c4 => q_neg c4 ?_)
  · refine lv_iconst (v := 0) hx hb dX9_readsAdd_27 (by decide) ?_
    exact q_end1 (m_zret X hr hH hL (by decide) dX9_readsAdd_28)
  · refine lv_aload_n hx hb dX9_readsAdd_9 rfl (lv_at hl 0 rfl) ?_
    refine lv_bipush (v := 100) hx hb dX9_readsAdd_10 (by decide) ?_
    refine q_b1 (fun v6 M7 e5 => ?_)
    refine my_doneI hL (my_runV X hH hl.1 (co_X9_reads g l hst a0 100 M3 t0 v6 M7 e5) ok_X9_reads W1745 t0 rfl (by decide) rfl rfl rfl ⟨Nat.le_of_ble_eq_true rfl, Nat.le_of_ble_eq_true rfl⟩ ⟨Nat.zero_le _, Nat.zero_le _⟩ (Nat.le_of_ble_eq_true rfl) dX9_readsAdd_12) (fun H locs hH hL => ?_)
    refine lv_if_eq (tgt := 27) hx hb dX9_readsAdd_15 (by decide) (fun c8 => q_pos c8 ?_) (fun c8 => q_neg c8 ?_)
    · refine lv_iconst (v := 0) hx hb dX9_readsAdd_27 (by decide) ?_
      exact q_end1 (m_zret X hr hH hL (by decide) dX9_readsAdd_28)
    · refine lv_aload_n hx hb dX9_readsAdd_18 rfl (lv_at hl 0 rfl) ?_
      refine lv_bipush (v := 32) hx hb dX9_readsAdd_19 (by decide) ?_
      refine q_b1 (fun v10 M11 e9 => ?_)
      refine my_doneI hL (my_runV X hH hl.1 (co_X9_reads g l hst a0 32 M7 t0 v10 M11 e9) ok_X9_reads W1745 t0 rfl (by decide) rfl rfl rfl ⟨Nat.le_of_ble_eq_true rfl, Nat.le_of_ble_eq_true rfl⟩ ⟨Nat.zero_le _, Nat.zero_le _⟩ (Nat.le_of_ble_eq_true rfl) dX9_readsAdd_21) (fun H locs hH hL => ?_)
      refine lv_if_ne (tgt := 29) hx hb dX9_readsAdd_24 (by decide) (fun c12 => q_neg c12 ?_) (fun c12 => q_pos c12 ?_)
      · refine lv_aload_n hx hb dX9_readsAdd_29 rfl (lv_at hl 0 rfl) ?_
        refine m_gR (k := 16) X hH inC9 t0 rfl W1300 dX9_readsAdd_30 23 rfl (fun t13 => ?_)
        refine lv_iconst (v := 0) hx hb dX9_readsAdd_33 (by decide) ?_
        refine lv_aload_n hx hb dX9_readsAdd_34 rfl (lv_at hl 0 rfl) ?_
        refine q_bind (fun v15 e14 => ?_)
        refine my_doneI hL (my_runV X hH hl.1 (co_X9_nextChar g l hst a0 M11 t0 v15 e14) ok_X9_nextChar W1741 t0 rfl (by decide) rfl rfl rfl ⟨Nat.le_of_ble_eq_true rfl, Nat.le_of_ble_eq_true rfl⟩ ⟨Nat.zero_le _, Nat.zero_le _⟩ (Nat.le_of_ble_eq_true rfl) dX9_readsAdd_35) (fun H locs hH hL => ?_)
        refine q_chk (fun hb16 => ?_)
        refine q_lt (fun M17 e_M17 => ?_)
        refine m_is X hH hL t13 rfl (by decide) (fun _ => rfl) rfl rfl hb16 dX9_readsAdd_38 e_M17 (fun H locs hH hL => ?_)
        refine lv_aload_n hx hb dX9_readsAdd_39 rfl (lv_at hl 0 rfl) ?_
        refine lv_bipush (v := 115) hx hb dX9_readsAdd_40 (by decide) ?_
        refine q_b1 (fun v19 M20 e18 => ?_)
        refine my_doneI hL (my_runV X hH hl.1 (co_X9_reads g l hst a0 115 M17 t0 v19 M20 e18) ok_X9_reads W1745 t0 rfl (by decide) rfl rfl rfl ⟨Nat.le_of_ble_eq_true rfl, Nat.le_of_ble_eq_true rfl⟩ ⟨Nat.zero_le _, Nat.zero_le _⟩ (Nat.le_of_ble_eq_true rfl) dX9_readsAdd_42) (fun H locs hH hL => ?_)
        refine lv_if_ne (tgt := 68) hx hb dX9_readsAdd_45 (by decide) (fun c21 => q_neg c21 ?_) (fun c21 => q_pos c21 ?_)
        · refine lv_aload_n hx hb dX9_readsAdd_68 rfl (lv_at hl 0 rfl) ?_
          refine lv_iconst (v := 1) hx hb dX9_readsAdd_69 (by decide) ?_
          refine q_b1 (fun v23 M24 e22 => ?_)
          refine my_doneI hL (my_runV X hH hl.1 (co_X9_readsDigit g l hst a0 1 M20 t0 v23 M24 e22) ok_X9_readsDigit W1753 t0 rfl (by decide) rfl rfl rfl ⟨Nat.le_of_ble_eq_true rfl, Nat.le_of_ble_eq_true rfl⟩ ⟨Nat.zero_le _, Nat.zero_le _⟩ (Nat.le_of_ble_eq_true rfl) dX9_readsAdd_70) (fun H locs hH hL => ?_)
          refine lv_if_eq (tgt := 88) hx hb dX9_readsAdd_73 (by decide) (fun c25 => q_pos c25 ?_) (fun c25 => q_neg c25 ?_)
          · refine lv_iconst (v := 0) hx hb dX9_readsAdd_88 (by decide) ?_
            exact q_end1 (m_zret X hr hH hL (by decide) dX9_readsAdd_89)
          · refine lv_aload_n hx hb dX9_readsAdd_76 rfl (lv_at hl 0 rfl) ?_
            refine lv_iconst (v := 2) hx hb dX9_readsAdd_77 (by decide) ?_
            refine q_b1 (fun v27 M28 e26 => ?_)
            refine my_doneI hL (my_runV X hH hl.1 (co_X9_readsDigit g l hst a0 2 M24 t0 v27 M28 e26) ok_X9_readsDigit W1753 t0 rfl (by decide) rfl rfl rfl ⟨Nat.le_of_ble_eq_true rfl, Nat.le_of_ble_eq_true rfl⟩ ⟨Nat.zero_le _, Nat.zero_le _⟩ (Nat.le_of_ble_eq_true rfl) dX9_readsAdd_78) (fun H locs hH hL => ?_)
            refine lv_if_eq (tgt := 88) hx hb dX9_readsAdd_81 (by decide) (fun c29 => q_pos c29 ?_) (fun c29 => q_neg c29 ?_)
            · refine lv_iconst (v := 0) hx hb dX9_readsAdd_88 (by decide) ?_
              exact q_end1 (m_zret X hr hH hL (by decide) dX9_readsAdd_89)
            · refine lv_iconst (v := 1) hx hb dX9_readsAdd_84 (by decide) ?_
              refine lv_goto (tgt := 89) hx hb dX9_readsAdd_85 (by decide) ?_
              exact q_end1 (m_zret X hr hH hL (by decide) dX9_readsAdd_89)
        · refine lv_aload_n hx hb dX9_readsAdd_48 rfl (lv_at hl 0 rfl) ?_
          refine lv_bipush (v := 119) hx hb dX9_readsAdd_49 (by decide) ?_
          refine q_b1 (fun v31 M32 e30 => ?_)
          refine my_doneI hL (my_runV X hH hl.1 (co_X9_reads g l hst a0 119 M20 t0 v31 M32 e30) ok_X9_reads W1745 t0 rfl (by decide) rfl rfl rfl ⟨Nat.le_of_ble_eq_true rfl, Nat.le_of_ble_eq_true rfl⟩ ⟨Nat.zero_le _, Nat.zero_le _⟩ (Nat.le_of_ble_eq_true rfl) dX9_readsAdd_51) (fun H locs hH hL => ?_)
          refine lv_if_ne (tgt := 68) hx hb dX9_readsAdd_54 (by decide) (fun c33 => q_neg c33 ?_) (fun c33 => q_pos c33 ?_)
          · refine lv_aload_n hx hb dX9_readsAdd_68 rfl (lv_at hl 0 rfl) ?_
            refine lv_iconst (v := 1) hx hb dX9_readsAdd_69 (by decide) ?_
            refine q_b1 (fun v35 M36 e34 => ?_)
            refine my_doneI hL (my_runV X hH hl.1 (co_X9_readsDigit g l hst a0 1 M32 t0 v35 M36 e34) ok_X9_readsDigit W1753 t0 rfl (by decide) rfl rfl rfl ⟨Nat.le_of_ble_eq_true rfl, Nat.le_of_ble_eq_true rfl⟩ ⟨Nat.zero_le _, Nat.zero_le _⟩ (Nat.le_of_ble_eq_true rfl) dX9_readsAdd_70) (fun H locs hH hL => ?_)
            refine lv_if_eq (tgt := 88) hx hb dX9_readsAdd_73 (by decide) (fun c37 => q_pos c37 ?_) (fun c37 => q_neg c37 ?_)
            · refine lv_iconst (v := 0) hx hb dX9_readsAdd_88 (by decide) ?_
              exact q_end1 (m_zret X hr hH hL (by decide) dX9_readsAdd_89)
            · refine lv_aload_n hx hb dX9_readsAdd_76 rfl (lv_at hl 0 rfl) ?_
              refine lv_iconst (v := 2) hx hb dX9_readsAdd_77 (by decide) ?_
              refine q_b1 (fun v39 M40 e38 => ?_)
              refine my_doneI hL (my_runV X hH hl.1 (co_X9_readsDigit g l hst a0 2 M36 t0 v39 M40 e38) ok_X9_readsDigit W1753 t0 rfl (by decide) rfl rfl rfl ⟨Nat.le_of_ble_eq_true rfl, Nat.le_of_ble_eq_true rfl⟩ ⟨Nat.zero_le _, Nat.zero_le _⟩ (Nat.le_of_ble_eq_true rfl) dX9_readsAdd_78) (fun H locs hH hL => ?_)
              refine lv_if_eq (tgt := 88) hx hb dX9_readsAdd_81 (by decide) (fun c41 => q_pos c41 ?_) (fun c41 => q_neg c41 ?_)
              · refine lv_iconst (v := 0) hx hb dX9_readsAdd_88 (by decide) ?_
                exact q_end1 (m_zret X hr hH hL (by decide) dX9_readsAdd_89)
              · refine lv_iconst (v := 1) hx hb dX9_readsAdd_84 (by decide) ?_
                refine lv_goto (tgt := 89) hx hb dX9_readsAdd_85 (by decide) ?_
                exact q_end1 (m_zret X hr hH hL (by decide) dX9_readsAdd_89)
          · refine lv_aload_n hx hb dX9_readsAdd_57 rfl (lv_at hl 0 rfl) ?_
            refine lv_bipush (v := 100) hx hb dX9_readsAdd_58 (by decide) ?_
            refine q_b1 (fun v43 M44 e42 => ?_)
            refine my_doneI hL (my_runV X hH hl.1 (co_X9_reads g l hst a0 100 M32 t0 v43 M44 e42) ok_X9_reads W1745 t0 rfl (by decide) rfl rfl rfl ⟨Nat.le_of_ble_eq_true rfl, Nat.le_of_ble_eq_true rfl⟩ ⟨Nat.zero_le _, Nat.zero_le _⟩ (Nat.le_of_ble_eq_true rfl) dX9_readsAdd_60) (fun H locs hH hL => ?_)
            refine lv_if_ne (tgt := 68) hx hb dX9_readsAdd_63 (by decide) (fun c45 => q_neg c45 ?_) (fun c45 => q_pos c45 ?_)
            · refine lv_aload_n hx hb dX9_readsAdd_68 rfl (lv_at hl 0 rfl) ?_
              refine lv_iconst (v := 1) hx hb dX9_readsAdd_69 (by decide) ?_
              refine q_b1 (fun v47 M48 e46 => ?_)
              refine my_doneI hL (my_runV X hH hl.1 (co_X9_readsDigit g l hst a0 1 M44 t0 v47 M48 e46) ok_X9_readsDigit W1753 t0 rfl (by decide) rfl rfl rfl ⟨Nat.le_of_ble_eq_true rfl, Nat.le_of_ble_eq_true rfl⟩ ⟨Nat.zero_le _, Nat.zero_le _⟩ (Nat.le_of_ble_eq_true rfl) dX9_readsAdd_70) (fun H locs hH hL => ?_)
              refine lv_if_eq (tgt := 88) hx hb dX9_readsAdd_73 (by decide) (fun c49 => q_pos c49 ?_) (fun c49 => q_neg c49 ?_)
              · refine lv_iconst (v := 0) hx hb dX9_readsAdd_88 (by decide) ?_
                exact q_end1 (m_zret X hr hH hL (by decide) dX9_readsAdd_89)
              · refine lv_aload_n hx hb dX9_readsAdd_76 rfl (lv_at hl 0 rfl) ?_
                refine lv_iconst (v := 2) hx hb dX9_readsAdd_77 (by decide) ?_
                refine q_b1 (fun v51 M52 e50 => ?_)
                refine my_doneI hL (my_runV X hH hl.1 (co_X9_readsDigit g l hst a0 2 M48 t0 v51 M52 e50) ok_X9_readsDigit W1753 t0 rfl (by decide) rfl rfl rfl ⟨Nat.le_of_ble_eq_true rfl, Nat.le_of_ble_eq_true rfl⟩ ⟨Nat.zero_le _, Nat.zero_le _⟩ (Nat.le_of_ble_eq_true rfl) dX9_readsAdd_78) (fun H locs hH hL => ?_)
                refine lv_if_eq (tgt := 88) hx hb dX9_readsAdd_81 (by decide) (fun c53 => q_pos c53 ?_) (fun c53 => q_neg c53 ?_)
                · refine lv_iconst (v := 0) hx hb dX9_readsAdd_88 (by decide) ?_
                  exact q_end1 (m_zret X hr hH hL (by decide) dX9_readsAdd_89)
                · refine lv_iconst (v := 1) hx hb dX9_readsAdd_84 (by decide) ?_
                  refine lv_goto (tgt := 89) hx hb dX9_readsAdd_85 (by decide) ?_
                  exact q_end1 (m_zret X hr hH hL (by decide) dX9_readsAdd_89)
            · refine lv_iconst (v := 0) hx hb dX9_readsAdd_66 (by decide) ?_
              exact q_end1 (m_zret X hr hH hL (by decide) dX9_readsAdd_67)
      · refine lv_iconst (v := 0) hx hb dX9_readsAdd_27 (by decide) ?_
        exact q_end1 (m_zret X hr hH hL (by decide) dX9_readsAdd_28)

set_option maxRecDepth 20000 in
set_option maxHeartbeats 4000000 in
theorem co_X9_readsNote (g : GP) (l : Launch) (hst : l.stackTraces = false) (a0 : Nat) (M : Mem) (t0 : tyT a0 = 9) (v : Int32) (M' : Mem) (hF : F_X9_readsNote a0 M = some (v, M')) : CO g l yX9_readsNote cX9_readsNote 1 (some .boolean) 2 43 rvI [.ref (adr g a0)] M (.inl v : Int32 ⊕ String) M' := by
  refine CO_of hst (by decide) (Nat.le_of_ble_eq_true rfl) ?_
  intro p e s m below meth c ls X hr htb hH hL hl
  have hx := X.1
  have hb := X.2.1
  have hts := X.2.2.2.2.1
  refine q_out hF ?_
  rw [F_X9_readsNote]
  replace hl : lv_has ls 1 [(0, .ref (adr g a0))] := hl
  refine lv_aload_n hx hb dX9_readsNote_0 rfl (lv_at hl 0 rfl) ?_
  refine lv_bipush (v := 111) hx hb dX9_readsNote_1 (by decide) ?_
  refine q_b1 (fun v2 M3 e1 => ?_)
  refine my_doneI hL (my_runV X hH hl.1 (co_X9_reads g l hst a0 111 M t0 v2 M3 e1) ok_X9_reads W1745 t0 rfl (by decide) rfl rfl rfl ⟨Nat.le_of_ble_eq_true rfl, Nat.le_of_ble_eq_true rfl⟩ ⟨Nat.zero_le _, Nat.zero_le _⟩ (Nat.le_of_ble_eq_true rfl) dX9_readsNote_3) (fun H locs hH hL => ?_)
  refine lv_if_eq (tgt := 53) hx hb dX9_readsNote_6 (by decide) (fun c4 => q_pos c4 ?_) (fun c4 => q_neg c4 ?_)
  · refine lv_iconst (v := 0) hx hb dX9_readsNote_53 (by decide) ?_
    exact q_end1 (m_zret X hr hH hL (by decide) dX9_readsNote_54)
  · refine lv_aload_n hx hb dX9_readsNote_9 rfl (lv_at hl 0 rfl) ?_
    refine lv_bipush (v := 116) hx hb dX9_readsNote_10 (by decide) ?_
    refine q_b1 (fun v6 M7 e5 => ?_)
    refine my_doneI hL (my_runV X hH hl.1 (co_X9_reads g l hst a0 116 M3 t0 v6 M7 e5) ok_X9_reads W1745 t0 rfl (by decide) rfl rfl rfl ⟨Nat.le_of_ble_eq_true rfl, Nat.le_of_ble_eq_true rfl⟩ ⟨Nat.zero_le _, Nat.zero_le _⟩ (Nat.le_of_ble_eq_true rfl) dX9_readsNote_12) (fun H locs hH hL => ?_)
    refine lv_if_eq (tgt := 53) hx hb dX9_readsNote_15 (by decide) (fun c8 => q_pos c8 ?_) (fun c8 => q_neg c8 ?_)
    · refine lv_iconst (v := 0) hx hb dX9_readsNote_53 (by decide) ?_
      exact q_end1 (m_zret X hr hH hL (by decide) dX9_readsNote_54)
    · refine lv_aload_n hx hb dX9_readsNote_18 rfl (lv_at hl 0 rfl) ?_
      refine lv_bipush (v := 101) hx hb dX9_readsNote_19 (by decide) ?_
      refine q_b1 (fun v10 M11 e9 => ?_)
      refine my_doneI hL (my_runV X hH hl.1 (co_X9_reads g l hst a0 101 M7 t0 v10 M11 e9) ok_X9_reads W1745 t0 rfl (by decide) rfl rfl rfl ⟨Nat.le_of_ble_eq_true rfl, Nat.le_of_ble_eq_true rfl⟩ ⟨Nat.zero_le _, Nat.zero_le _⟩ (Nat.le_of_ble_eq_true rfl) dX9_readsNote_21) (fun H locs hH hL => ?_)
      refine lv_if_eq (tgt := 53) hx hb dX9_readsNote_24 (by decide) (fun c12 => q_pos c12 ?_) (fun c12 => q_neg c12 ?_)
      · refine lv_iconst (v := 0) hx hb dX9_readsNote_53 (by decide) ?_
        exact q_end1 (m_zret X hr hH hL (by decide) dX9_readsNote_54)
      · refine lv_aload_n hx hb dX9_readsNote_27 rfl (lv_at hl 0 rfl) ?_
        refine lv_bipush (v := 32) hx hb dX9_readsNote_28 (by decide) ?_
        refine q_b1 (fun v14 M15 e13 => ?_)
        refine my_doneI hL (my_runV X hH hl.1 (co_X9_reads g l hst a0 32 M11 t0 v14 M15 e13) ok_X9_reads W1745 t0 rfl (by decide) rfl rfl rfl ⟨Nat.le_of_ble_eq_true rfl, Nat.le_of_ble_eq_true rfl⟩ ⟨Nat.zero_le _, Nat.zero_le _⟩ (Nat.le_of_ble_eq_true rfl) dX9_readsNote_30) (fun H locs hH hL => ?_)
        refine lv_if_eq (tgt := 53) hx hb dX9_readsNote_33 (by decide) (fun c16 => q_pos c16 ?_) (fun c16 => q_neg c16 ?_)
        · refine lv_iconst (v := 0) hx hb dX9_readsNote_53 (by decide) ?_
          exact q_end1 (m_zret X hr hH hL (by decide) dX9_readsNote_54)
        · refine lv_aload_n hx hb dX9_readsNote_36 rfl (lv_at hl 0 rfl) ?_
          refine lv_iconst (v := 0) hx hb dX9_readsNote_37 (by decide) ?_
          refine q_b1 (fun v18 M19 e17 => ?_)
          refine my_doneI hL (my_runV X hH hl.1 (co_X9_readsDigit g l hst a0 0 M15 t0 v18 M19 e17) ok_X9_readsDigit W1753 t0 rfl (by decide) rfl rfl rfl ⟨Nat.le_of_ble_eq_true rfl, Nat.le_of_ble_eq_true rfl⟩ ⟨Nat.zero_le _, Nat.zero_le _⟩ (Nat.le_of_ble_eq_true rfl) dX9_readsNote_38) (fun H locs hH hL => ?_)
          refine lv_if_eq (tgt := 53) hx hb dX9_readsNote_41 (by decide) (fun c20 => q_pos c20 ?_) (fun c20 => q_neg c20 ?_)
          · refine lv_iconst (v := 0) hx hb dX9_readsNote_53 (by decide) ?_
            exact q_end1 (m_zret X hr hH hL (by decide) dX9_readsNote_54)
          · refine lv_aload_n hx hb dX9_readsNote_44 rfl (lv_at hl 0 rfl) ?_
            refine lv_bipush (v := 32) hx hb dX9_readsNote_45 (by decide) ?_
            refine q_b1 (fun v22 M23 e21 => ?_)
            refine my_doneI hL (my_runV X hH hl.1 (co_X9_reads g l hst a0 32 M19 t0 v22 M23 e21) ok_X9_reads W1745 t0 rfl (by decide) rfl rfl rfl ⟨Nat.le_of_ble_eq_true rfl, Nat.le_of_ble_eq_true rfl⟩ ⟨Nat.zero_le _, Nat.zero_le _⟩ (Nat.le_of_ble_eq_true rfl) dX9_readsNote_47) (fun H locs hH hL => ?_)
            refine lv_if_ne (tgt := 55) hx hb dX9_readsNote_50 (by decide) (fun c24 => q_neg c24 ?_) (fun c24 => q_pos c24 ?_)
            · refine lv_aload_n hx hb dX9_readsNote_55 rfl (lv_at hl 0 rfl) ?_
              refine lv_iconst (v := 1) hx hb dX9_readsNote_56 (by decide) ?_
              refine q_b1 (fun v26 M27 e25 => ?_)
              refine my_doneI hL (my_runV X hH hl.1 (co_X9_readsDigit g l hst a0 1 M23 t0 v26 M27 e25) ok_X9_readsDigit W1753 t0 rfl (by decide) rfl rfl rfl ⟨Nat.le_of_ble_eq_true rfl, Nat.le_of_ble_eq_true rfl⟩ ⟨Nat.zero_le _, Nat.zero_le _⟩ (Nat.le_of_ble_eq_true rfl) dX9_readsNote_57) (fun H locs hH hL => ?_)
              refine lv_if_eq (tgt := 92) hx hb dX9_readsNote_60 (by decide) (fun c28 => q_pos c28 ?_) (fun c28 => q_neg c28 ?_)
              · refine lv_iconst (v := 0) hx hb dX9_readsNote_92 (by decide) ?_
                exact q_end1 (m_zret X hr hH hL (by decide) dX9_readsNote_93)
              · refine lv_aload_n hx hb dX9_readsNote_63 rfl (lv_at hl 0 rfl) ?_
                refine lv_iconst (v := 2) hx hb dX9_readsNote_64 (by decide) ?_
                refine q_b1 (fun v30 M31 e29 => ?_)
                refine my_doneI hL (my_runV X hH hl.1 (co_X9_readsDigit g l hst a0 2 M27 t0 v30 M31 e29) ok_X9_readsDigit W1753 t0 rfl (by decide) rfl rfl rfl ⟨Nat.le_of_ble_eq_true rfl, Nat.le_of_ble_eq_true rfl⟩ ⟨Nat.zero_le _, Nat.zero_le _⟩ (Nat.le_of_ble_eq_true rfl) dX9_readsNote_65) (fun H locs hH hL => ?_)
                refine lv_if_eq (tgt := 92) hx hb dX9_readsNote_68 (by decide) (fun c32 => q_pos c32 ?_) (fun c32 => q_neg c32 ?_)
                · refine lv_iconst (v := 0) hx hb dX9_readsNote_92 (by decide) ?_
                  exact q_end1 (m_zret X hr hH hL (by decide) dX9_readsNote_93)
                · refine lv_aload_n hx hb dX9_readsNote_71 rfl (lv_at hl 0 rfl) ?_
                  refine lv_bipush (v := 61) hx hb dX9_readsNote_72 (by decide) ?_
                  refine q_b1 (fun v34 M35 e33 => ?_)
                  refine my_doneI hL (my_runV X hH hl.1 (co_X9_reads g l hst a0 61 M31 t0 v34 M35 e33) ok_X9_reads W1745 t0 rfl (by decide) rfl rfl rfl ⟨Nat.le_of_ble_eq_true rfl, Nat.le_of_ble_eq_true rfl⟩ ⟨Nat.zero_le _, Nat.zero_le _⟩ (Nat.le_of_ble_eq_true rfl) dX9_readsNote_74) (fun H locs hH hL => ?_)
                  refine lv_if_eq (tgt := 92) hx hb dX9_readsNote_77 (by decide) (fun c36 => q_pos c36 ?_) (fun c36 => q_neg c36 ?_)
                  · refine lv_iconst (v := 0) hx hb dX9_readsNote_92 (by decide) ?_
                    exact q_end1 (m_zret X hr hH hL (by decide) dX9_readsNote_93)
                  · refine lv_aload_n hx hb dX9_readsNote_80 rfl (lv_at hl 0 rfl) ?_
                    refine lv_iconst (v := 3) hx hb dX9_readsNote_81 (by decide) ?_
                    refine q_b1 (fun v38 M39 e37 => ?_)
                    refine my_doneI hL (my_runV X hH hl.1 (co_X9_readsDigit g l hst a0 3 M35 t0 v38 M39 e37) ok_X9_readsDigit W1753 t0 rfl (by decide) rfl rfl rfl ⟨Nat.le_of_ble_eq_true rfl, Nat.le_of_ble_eq_true rfl⟩ ⟨Nat.zero_le _, Nat.zero_le _⟩ (Nat.le_of_ble_eq_true rfl) dX9_readsNote_82) (fun H locs hH hL => ?_)
                    refine lv_if_eq (tgt := 92) hx hb dX9_readsNote_85 (by decide) (fun c40 => q_pos c40 ?_) (fun c40 => q_neg c40 ?_)
                    · refine lv_iconst (v := 0) hx hb dX9_readsNote_92 (by decide) ?_
                      exact q_end1 (m_zret X hr hH hL (by decide) dX9_readsNote_93)
                    · refine lv_iconst (v := 1) hx hb dX9_readsNote_88 (by decide) ?_
                      refine lv_goto (tgt := 93) hx hb dX9_readsNote_89 (by decide) ?_
                      exact q_end1 (m_zret X hr hH hL (by decide) dX9_readsNote_93)
            · refine lv_iconst (v := 0) hx hb dX9_readsNote_53 (by decide) ?_
              exact q_end1 (m_zret X hr hH hL (by decide) dX9_readsNote_54)

set_option maxRecDepth 20000 in
set_option maxHeartbeats 4000000 in
theorem co_X9_readsMask (g : GP) (l : Launch) (hst : l.stackTraces = false) (a0 : Nat) (M : Mem) (t0 : tyT a0 = 9) (v : Int32) (M' : Mem) (hF : F_X9_readsMask a0 M = some (v, M')) : CO g l yX9_readsMask cX9_readsMask 1 (some .boolean) 3 62 rvI [.ref (adr g a0)] M (.inl v : Int32 ⊕ String) M' := by
  refine CO_of hst (by decide) (Nat.le_of_ble_eq_true rfl) ?_
  intro p e s m below meth c ls X hr htb hH hL hl
  have hx := X.1
  have hb := X.2.1
  have hts := X.2.2.2.2.1
  refine q_out hF ?_
  rw [F_X9_readsMask]
  replace hl : lv_has ls 1 [(0, .ref (adr g a0))] := hl
  refine lv_aload_n hx hb dX9_readsMask_0 rfl (lv_at hl 0 rfl) ?_
  refine lv_bipush (v := 97) hx hb dX9_readsMask_1 (by decide) ?_
  refine q_b1 (fun v2 M3 e1 => ?_)
  refine my_doneI hL (my_runV X hH hl.1 (co_X9_reads g l hst a0 97 M t0 v2 M3 e1) ok_X9_reads W1745 t0 rfl (by decide) rfl rfl rfl ⟨Nat.le_of_ble_eq_true rfl, Nat.le_of_ble_eq_true rfl⟩ ⟨Nat.zero_le _, Nat.zero_le _⟩ (Nat.le_of_ble_eq_true rfl) dX9_readsMask_3) (fun H locs hH hL => ?_)
  refine lv_if_eq (tgt := 53) hx hb dX9_readsMask_6 (by decide) (fun c4 => q_pos c4 ?_) (fun c4 => q_neg c4 ?_)
  · refine lv_iconst (v := 0) hx hb dX9_readsMask_53 (by decide) ?_
    exact q_end1 (m_zret X hr hH hL (by decide) dX9_readsMask_54)
  · refine lv_aload_n hx hb dX9_readsMask_9 rfl (lv_at hl 0 rfl) ?_
    refine lv_bipush (v := 115) hx hb dX9_readsMask_10 (by decide) ?_
    refine q_b1 (fun v6 M7 e5 => ?_)
    refine my_doneI hL (my_runV X hH hl.1 (co_X9_reads g l hst a0 115 M3 t0 v6 M7 e5) ok_X9_reads W1745 t0 rfl (by decide) rfl rfl rfl ⟨Nat.le_of_ble_eq_true rfl, Nat.le_of_ble_eq_true rfl⟩ ⟨Nat.zero_le _, Nat.zero_le _⟩ (Nat.le_of_ble_eq_true rfl) dX9_readsMask_12) (fun H locs hH hL => ?_)
    refine lv_if_eq (tgt := 53) hx hb dX9_readsMask_15 (by decide) (fun c8 => q_pos c8 ?_) (fun c8 => q_neg c8 ?_)
    · refine lv_iconst (v := 0) hx hb dX9_readsMask_53 (by decide) ?_
      exact q_end1 (m_zret X hr hH hL (by decide) dX9_readsMask_54)
    · refine lv_aload_n hx hb dX9_readsMask_18 rfl (lv_at hl 0 rfl) ?_
      refine lv_bipush (v := 107) hx hb dX9_readsMask_19 (by decide) ?_
      refine q_b1 (fun v10 M11 e9 => ?_)
      refine my_doneI hL (my_runV X hH hl.1 (co_X9_reads g l hst a0 107 M7 t0 v10 M11 e9) ok_X9_reads W1745 t0 rfl (by decide) rfl rfl rfl ⟨Nat.le_of_ble_eq_true rfl, Nat.le_of_ble_eq_true rfl⟩ ⟨Nat.zero_le _, Nat.zero_le _⟩ (Nat.le_of_ble_eq_true rfl) dX9_readsMask_21) (fun H locs hH hL => ?_)
      refine lv_if_eq (tgt := 53) hx hb dX9_readsMask_24 (by decide) (fun c12 => q_pos c12 ?_) (fun c12 => q_neg c12 ?_)
      · refine lv_iconst (v := 0) hx hb dX9_readsMask_53 (by decide) ?_
        exact q_end1 (m_zret X hr hH hL (by decide) dX9_readsMask_54)
      · refine lv_aload_n hx hb dX9_readsMask_27 rfl (lv_at hl 0 rfl) ?_
        refine lv_bipush (v := 32) hx hb dX9_readsMask_28 (by decide) ?_
        refine q_b1 (fun v14 M15 e13 => ?_)
        refine my_doneI hL (my_runV X hH hl.1 (co_X9_reads g l hst a0 32 M11 t0 v14 M15 e13) ok_X9_reads W1745 t0 rfl (by decide) rfl rfl rfl ⟨Nat.le_of_ble_eq_true rfl, Nat.le_of_ble_eq_true rfl⟩ ⟨Nat.zero_le _, Nat.zero_le _⟩ (Nat.le_of_ble_eq_true rfl) dX9_readsMask_30) (fun H locs hH hL => ?_)
        refine lv_if_eq (tgt := 53) hx hb dX9_readsMask_33 (by decide) (fun c16 => q_pos c16 ?_) (fun c16 => q_neg c16 ?_)
        · refine lv_iconst (v := 0) hx hb dX9_readsMask_53 (by decide) ?_
          exact q_end1 (m_zret X hr hH hL (by decide) dX9_readsMask_54)
        · refine lv_aload_n hx hb dX9_readsMask_36 rfl (lv_at hl 0 rfl) ?_
          refine lv_iconst (v := 0) hx hb dX9_readsMask_37 (by decide) ?_
          refine q_b1 (fun v18 M19 e17 => ?_)
          refine my_doneI hL (my_runV X hH hl.1 (co_X9_readsDigit g l hst a0 0 M15 t0 v18 M19 e17) ok_X9_readsDigit W1753 t0 rfl (by decide) rfl rfl rfl ⟨Nat.le_of_ble_eq_true rfl, Nat.le_of_ble_eq_true rfl⟩ ⟨Nat.zero_le _, Nat.zero_le _⟩ (Nat.le_of_ble_eq_true rfl) dX9_readsMask_38) (fun H locs hH hL => ?_)
          refine lv_if_eq (tgt := 53) hx hb dX9_readsMask_41 (by decide) (fun c20 => q_pos c20 ?_) (fun c20 => q_neg c20 ?_)
          · refine lv_iconst (v := 0) hx hb dX9_readsMask_53 (by decide) ?_
            exact q_end1 (m_zret X hr hH hL (by decide) dX9_readsMask_54)
          · refine lv_aload_n hx hb dX9_readsMask_44 rfl (lv_at hl 0 rfl) ?_
            refine lv_bipush (v := 32) hx hb dX9_readsMask_45 (by decide) ?_
            refine q_b1 (fun v22 M23 e21 => ?_)
            refine my_doneI hL (my_runV X hH hl.1 (co_X9_reads g l hst a0 32 M19 t0 v22 M23 e21) ok_X9_reads W1745 t0 rfl (by decide) rfl rfl rfl ⟨Nat.le_of_ble_eq_true rfl, Nat.le_of_ble_eq_true rfl⟩ ⟨Nat.zero_le _, Nat.zero_le _⟩ (Nat.le_of_ble_eq_true rfl) dX9_readsMask_47) (fun H locs hH hL => ?_)
            refine lv_if_ne (tgt := 55) hx hb dX9_readsMask_50 (by decide) (fun c24 => q_neg c24 ?_) (fun c24 => q_pos c24 ?_)
            · refine lv_aload_n hx hb dX9_readsMask_55 rfl (lv_at hl 0 rfl) ?_
              refine lv_iconst (v := 1) hx hb dX9_readsMask_56 (by decide) ?_
              refine q_b1 (fun v26 M27 e25 => ?_)
              refine my_doneI hL (my_runV X hH hl.1 (co_X9_readsDigit g l hst a0 1 M23 t0 v26 M27 e25) ok_X9_readsDigit W1753 t0 rfl (by decide) rfl rfl rfl ⟨Nat.le_of_ble_eq_true rfl, Nat.le_of_ble_eq_true rfl⟩ ⟨Nat.zero_le _, Nat.zero_le _⟩ (Nat.le_of_ble_eq_true rfl) dX9_readsMask_57) (fun H locs hH hL => ?_)
              refine lv_if_eq (tgt := 75) hx hb dX9_readsMask_60 (by decide) (fun c28 => q_pos c28 ?_) (fun c28 => q_neg c28 ?_)
              · refine lv_iconst (v := 0) hx hb dX9_readsMask_75 (by decide) ?_
                exact q_end1 (m_zret X hr hH hL (by decide) dX9_readsMask_76)
              · refine lv_aload_n hx hb dX9_readsMask_63 rfl (lv_at hl 0 rfl) ?_
                refine lv_iconst (v := 2) hx hb dX9_readsMask_64 (by decide) ?_
                refine q_b1 (fun v30 M31 e29 => ?_)
                refine my_doneI hL (my_runV X hH hl.1 (co_X9_readsSign g l hst a0 2 M27 t0 v30 M31 e29) ok_X9_readsSign W1765 t0 rfl (by decide) rfl rfl rfl ⟨Nat.le_of_ble_eq_true rfl, Nat.le_of_ble_eq_true rfl⟩ ⟨Nat.zero_le _, Nat.zero_le _⟩ (Nat.le_of_ble_eq_true rfl) dX9_readsMask_65) (fun H locs hH hL => ?_)
                refine lv_if_eq (tgt := 75) hx hb dX9_readsMask_68 (by decide) (fun c32 => q_pos c32 ?_) (fun c32 => q_neg c32 ?_)
                · refine lv_iconst (v := 0) hx hb dX9_readsMask_75 (by decide) ?_
                  exact q_end1 (m_zret X hr hH hL (by decide) dX9_readsMask_76)
                · refine lv_iconst (v := 1) hx hb dX9_readsMask_71 (by decide) ?_
                  refine lv_goto (tgt := 76) hx hb dX9_readsMask_72 (by decide) ?_
                  exact q_end1 (m_zret X hr hH hL (by decide) dX9_readsMask_76)
            · refine lv_iconst (v := 0) hx hb dX9_readsMask_53 (by decide) ?_
              exact q_end1 (m_zret X hr hH hL (by decide) dX9_readsMask_54)

set_option maxRecDepth 20000 in
set_option maxHeartbeats 4000000 in
theorem co_X9_readsRaise (g : GP) (l : Launch) (hst : l.stackTraces = false) (a0 : Nat) (M : Mem) (t0 : tyT a0 = 9) (v : Int32) (M' : Mem) (hF : F_X9_readsRaise a0 M = some (v, M')) : CO g l yX9_readsRaise cX9_readsRaise 1 (some .boolean) 3 62 rvI [.ref (adr g a0)] M (.inl v : Int32 ⊕ String) M' := by
  refine CO_of hst (by decide) (Nat.le_of_ble_eq_true rfl) ?_
  intro p e s m below meth c ls X hr htb hH hL hl
  have hx := X.1
  have hb := X.2.1
  have hts := X.2.2.2.2.1
  refine q_out hF ?_
  rw [F_X9_readsRaise]
  replace hl : lv_has ls 1 [(0, .ref (adr g a0))] := hl
  refine lv_aload_n hx hb dX9_readsRaise_0 rfl (lv_at hl 0 rfl) ?_
  refine lv_bipush (v := 97) hx hb dX9_readsRaise_1 (by decide) ?_
  refine q_b1 (fun v2 M3 e1 => ?_)
  refine my_doneI hL (my_runV X hH hl.1 (co_X9_reads g l hst a0 97 M t0 v2 M3 e1) ok_X9_reads W1745 t0 rfl (by decide) rfl rfl rfl ⟨Nat.le_of_ble_eq_true rfl, Nat.le_of_ble_eq_true rfl⟩ ⟨Nat.zero_le _, Nat.zero_le _⟩ (Nat.le_of_ble_eq_true rfl) dX9_readsRaise_3) (fun H locs hH hL => ?_)
  refine lv_if_eq (tgt := 62) hx hb dX9_readsRaise_6 (by decide) (fun c4 => q_pos c4 ?_) (fun c4 => q_neg c4 ?_)
  · refine lv_iconst (v := 0) hx hb dX9_readsRaise_62 (by decide) ?_
    exact q_end1 (m_zret X hr hH hL (by decide) dX9_readsRaise_63)
  · refine lv_aload_n hx hb dX9_readsRaise_9 rfl (lv_at hl 0 rfl) ?_
    refine lv_bipush (v := 105) hx hb dX9_readsRaise_10 (by decide) ?_
    refine q_b1 (fun v6 M7 e5 => ?_)
    refine my_doneI hL (my_runV X hH hl.1 (co_X9_reads g l hst a0 105 M3 t0 v6 M7 e5) ok_X9_reads W1745 t0 rfl (by decide) rfl rfl rfl ⟨Nat.le_of_ble_eq_true rfl, Nat.le_of_ble_eq_true rfl⟩ ⟨Nat.zero_le _, Nat.zero_le _⟩ (Nat.le_of_ble_eq_true rfl) dX9_readsRaise_12) (fun H locs hH hL => ?_)
    refine lv_if_eq (tgt := 62) hx hb dX9_readsRaise_15 (by decide) (fun c8 => q_pos c8 ?_) (fun c8 => q_neg c8 ?_)
    · refine lv_iconst (v := 0) hx hb dX9_readsRaise_62 (by decide) ?_
      exact q_end1 (m_zret X hr hH hL (by decide) dX9_readsRaise_63)
    · refine lv_aload_n hx hb dX9_readsRaise_18 rfl (lv_at hl 0 rfl) ?_
      refine lv_bipush (v := 115) hx hb dX9_readsRaise_19 (by decide) ?_
      refine q_b1 (fun v10 M11 e9 => ?_)
      refine my_doneI hL (my_runV X hH hl.1 (co_X9_reads g l hst a0 115 M7 t0 v10 M11 e9) ok_X9_reads W1745 t0 rfl (by decide) rfl rfl rfl ⟨Nat.le_of_ble_eq_true rfl, Nat.le_of_ble_eq_true rfl⟩ ⟨Nat.zero_le _, Nat.zero_le _⟩ (Nat.le_of_ble_eq_true rfl) dX9_readsRaise_21) (fun H locs hH hL => ?_)
      refine lv_if_eq (tgt := 62) hx hb dX9_readsRaise_24 (by decide) (fun c12 => q_pos c12 ?_) (fun c12 => q_neg c12 ?_)
      · refine lv_iconst (v := 0) hx hb dX9_readsRaise_62 (by decide) ?_
        exact q_end1 (m_zret X hr hH hL (by decide) dX9_readsRaise_63)
      · refine lv_aload_n hx hb dX9_readsRaise_27 rfl (lv_at hl 0 rfl) ?_
        refine lv_bipush (v := 101) hx hb dX9_readsRaise_28 (by decide) ?_
        refine q_b1 (fun v14 M15 e13 => ?_)
        refine my_doneI hL (my_runV X hH hl.1 (co_X9_reads g l hst a0 101 M11 t0 v14 M15 e13) ok_X9_reads W1745 t0 rfl (by decide) rfl rfl rfl ⟨Nat.le_of_ble_eq_true rfl, Nat.le_of_ble_eq_true rfl⟩ ⟨Nat.zero_le _, Nat.zero_le _⟩ (Nat.le_of_ble_eq_true rfl) dX9_readsRaise_30) (fun H locs hH hL => ?_)
        refine lv_if_eq (tgt := 62) hx hb dX9_readsRaise_33 (by decide) (fun c16 => q_pos c16 ?_) (fun c16 => q_neg c16 ?_)
        · refine lv_iconst (v := 0) hx hb dX9_readsRaise_62 (by decide) ?_
          exact q_end1 (m_zret X hr hH hL (by decide) dX9_readsRaise_63)
        · refine lv_aload_n hx hb dX9_readsRaise_36 rfl (lv_at hl 0 rfl) ?_
          refine lv_bipush (v := 32) hx hb dX9_readsRaise_37 (by decide) ?_
          refine q_b1 (fun v18 M19 e17 => ?_)
          refine my_doneI hL (my_runV X hH hl.1 (co_X9_reads g l hst a0 32 M15 t0 v18 M19 e17) ok_X9_reads W1745 t0 rfl (by decide) rfl rfl rfl ⟨Nat.le_of_ble_eq_true rfl, Nat.le_of_ble_eq_true rfl⟩ ⟨Nat.zero_le _, Nat.zero_le _⟩ (Nat.le_of_ble_eq_true rfl) dX9_readsRaise_39) (fun H locs hH hL => ?_)
          refine lv_if_eq (tgt := 62) hx hb dX9_readsRaise_42 (by decide) (fun c20 => q_pos c20 ?_) (fun c20 => q_neg c20 ?_)
          · refine lv_iconst (v := 0) hx hb dX9_readsRaise_62 (by decide) ?_
            exact q_end1 (m_zret X hr hH hL (by decide) dX9_readsRaise_63)
          · refine lv_aload_n hx hb dX9_readsRaise_45 rfl (lv_at hl 0 rfl) ?_
            refine lv_iconst (v := 0) hx hb dX9_readsRaise_46 (by decide) ?_
            refine q_b1 (fun v22 M23 e21 => ?_)
            refine my_doneI hL (my_runV X hH hl.1 (co_X9_readsDigit g l hst a0 0 M19 t0 v22 M23 e21) ok_X9_readsDigit W1753 t0 rfl (by decide) rfl rfl rfl ⟨Nat.le_of_ble_eq_true rfl, Nat.le_of_ble_eq_true rfl⟩ ⟨Nat.zero_le _, Nat.zero_le _⟩ (Nat.le_of_ble_eq_true rfl) dX9_readsRaise_47) (fun H locs hH hL => ?_)
            refine lv_if_eq (tgt := 62) hx hb dX9_readsRaise_50 (by decide) (fun c24 => q_pos c24 ?_) (fun c24 => q_neg c24 ?_)
            · refine lv_iconst (v := 0) hx hb dX9_readsRaise_62 (by decide) ?_
              exact q_end1 (m_zret X hr hH hL (by decide) dX9_readsRaise_63)
            · refine lv_aload_n hx hb dX9_readsRaise_53 rfl (lv_at hl 0 rfl) ?_
              refine lv_bipush (v := 32) hx hb dX9_readsRaise_54 (by decide) ?_
              refine q_b1 (fun v26 M27 e25 => ?_)
              refine my_doneI hL (my_runV X hH hl.1 (co_X9_reads g l hst a0 32 M23 t0 v26 M27 e25) ok_X9_reads W1745 t0 rfl (by decide) rfl rfl rfl ⟨Nat.le_of_ble_eq_true rfl, Nat.le_of_ble_eq_true rfl⟩ ⟨Nat.zero_le _, Nat.zero_le _⟩ (Nat.le_of_ble_eq_true rfl) dX9_readsRaise_56) (fun H locs hH hL => ?_)
              refine lv_if_ne (tgt := 64) hx hb dX9_readsRaise_59 (by decide) (fun c28 => q_neg c28 ?_) (fun c28 => q_pos c28 ?_)
              · refine lv_aload_n hx hb dX9_readsRaise_64 rfl (lv_at hl 0 rfl) ?_
                refine lv_iconst (v := 2) hx hb dX9_readsRaise_65 (by decide) ?_
                refine q_b1 (fun v30 M31 e29 => ?_)
                refine my_doneI hL (my_runV X hH hl.1 (co_X9_readsSign g l hst a0 2 M27 t0 v30 M31 e29) ok_X9_readsSign W1765 t0 rfl (by decide) rfl rfl rfl ⟨Nat.le_of_ble_eq_true rfl, Nat.le_of_ble_eq_true rfl⟩ ⟨Nat.zero_le _, Nat.zero_le _⟩ (Nat.le_of_ble_eq_true rfl) dX9_readsRaise_66) (fun H locs hH hL => ?_)
                refine lv_if_eq (tgt := 80) hx hb dX9_readsRaise_69 (by decide) (fun c32 => q_pos c32 ?_) (fun c32 => q_neg c32 ?_)
                · refine lv_iconst (v := 0) hx hb dX9_readsRaise_80 (by decide) ?_
                  exact q_end1 (m_zret X hr hH hL (by decide) dX9_readsRaise_81)
                · refine lv_aload_n hx hb dX9_readsRaise_72 rfl (lv_at hl 0 rfl) ?_
                  refine lv_iconst (v := 1) hx hb dX9_readsRaise_73 (by decide) ?_
                  refine q_b1 (fun v34 M35 e33 => ?_)
                  refine my_doneI hL (my_runV X hH hl.1 (co_X9_readsDigit g l hst a0 1 M31 t0 v34 M35 e33) ok_X9_readsDigit W1753 t0 rfl (by decide) rfl rfl rfl ⟨Nat.le_of_ble_eq_true rfl, Nat.le_of_ble_eq_true rfl⟩ ⟨Nat.zero_le _, Nat.zero_le _⟩ (Nat.le_of_ble_eq_true rfl) dX9_readsRaise_74) (fun H locs hH hL => ?_)
                  refine lv_if_ne (tgt := 82) hx hb dX9_readsRaise_77 (by decide) (fun c36 => q_neg c36 ?_) (fun c36 => q_pos c36 ?_)
                  · refine lv_aload_n hx hb dX9_readsRaise_82 rfl (lv_at hl 0 rfl) ?_
                    refine m_gR (k := 16) X hH inC9 t0 rfl W1300 dX9_readsRaise_83 23 rfl (fun t37 => ?_)
                    refine lv_iconst (v := 2) hx hb dX9_readsRaise_86 (by decide) ?_
                    refine q_chk (fun hb38 => ?_)
                    refine m_iald X hH t37 rfl (by decide) (fun _ => rfl) rfl rfl hb38 dX9_readsRaise_87 ?_
                    refine lv_if_ne (tgt := 104) hx hb dX9_readsRaise_88 (by decide) (fun c39 => q_neg c39 ?_) (fun c39 => q_pos c39 ?_)
                    · refine lv_iconst (v := 1) hx hb dX9_readsRaise_104 (by decide) ?_
                      exact q_end1 (m_zret X hr hH hL (by decide) dX9_readsRaise_105)
                    · refine lv_aload_n hx hb dX9_readsRaise_91 rfl (lv_at hl 0 rfl) ?_
                      refine m_gR (k := 16) X hH inC9 t0 rfl W1300 dX9_readsRaise_92 23 rfl (fun t40 => ?_)
                      refine lv_iconst (v := 1) hx hb dX9_readsRaise_95 (by decide) ?_
                      refine lv_aload_n hx hb dX9_readsRaise_96 rfl (lv_at hl 0 rfl) ?_
                      refine m_gR (k := 16) X hH inC9 t0 rfl W1300 dX9_readsRaise_97 23 rfl (fun t41 => ?_)
                      refine lv_iconst (v := 1) hx hb dX9_readsRaise_100 (by decide) ?_
                      refine q_chk (fun hb42 => ?_)
                      refine m_iald X hH t41 rfl (by decide) (fun _ => rfl) rfl rfl hb42 dX9_readsRaise_101 ?_
                      refine lv_ineg hx hb dX9_readsRaise_102 ?_
                      refine q_chk (fun hb43 => ?_)
                      refine q_lt (fun M44 e_M44 => ?_)
                      refine m_is X hH hL t40 rfl (by decide) (fun _ => rfl) rfl rfl hb43 dX9_readsRaise_103 e_M44 (fun H locs hH hL => ?_)
                      refine lv_iconst (v := 1) hx hb dX9_readsRaise_104 (by decide) ?_
                      exact q_end1 (m_zret X hr hH hL (by decide) dX9_readsRaise_105)
                  · refine lv_iconst (v := 0) hx hb dX9_readsRaise_80 (by decide) ?_
                    exact q_end1 (m_zret X hr hH hL (by decide) dX9_readsRaise_81)
              · refine lv_iconst (v := 0) hx hb dX9_readsRaise_62 (by decide) ?_
                exact q_end1 (m_zret X hr hH hL (by decide) dX9_readsRaise_63)

set_option maxRecDepth 20000 in
set_option maxHeartbeats 4000000 in
theorem co_X9_readsT (g : GP) (l : Launch) (hst : l.stackTraces = false) (a0 : Nat) (M : Mem) (t0 : tyT a0 = 9) (v : Int32) (M' : Mem) (hF : F_X9_readsT a0 M = some (v, M')) : CO g l yX9_readsT cX9_readsT 1 (some .boolean) 2 43 rvI [.ref (adr g a0)] M (.inl v : Int32 ⊕ String) M' := by
  refine CO_of hst (by decide) (Nat.le_of_ble_eq_true rfl) ?_
  intro p e s m below meth c ls X hr htb hH hL hl
  have hx := X.1
  have hb := X.2.1
  have hts := X.2.2.2.2.1
  refine q_out hF ?_
  rw [F_X9_readsT]
  replace hl : lv_has ls 1 [(0, .ref (adr g a0))] := hl
  refine lv_aload_n hx hb dX9_readsT_0 rfl (lv_at hl 0 rfl) ?_
  refine lv_bipush (v := 117) hx hb dX9_readsT_1 (by decide) ?_
  refine q_b1 (fun v2 M3 e1 => ?_)
  refine my_doneI hL (my_runV X hH hl.1 (co_X9_reads g l hst a0 117 M t0 v2 M3 e1) ok_X9_reads W1745 t0 rfl (by decide) rfl rfl rfl ⟨Nat.le_of_ble_eq_true rfl, Nat.le_of_ble_eq_true rfl⟩ ⟨Nat.zero_le _, Nat.zero_le _⟩ (Nat.le_of_ble_eq_true rfl) dX9_readsT_3) (fun H locs hH hL => ?_)
  refine lv_if_eq (tgt := 50) hx hb dX9_readsT_6 (by decide) (fun c4 => q_pos c4 ?_) (fun c4 => q_neg c4 ?_)
  · refine lv_aload_n hx hb dX9_readsT_50 rfl (lv_at hl 0 rfl) ?_
    refine lv_bipush (v := 101) hx hb dX9_readsT_51 (by decide) ?_
    refine q_lt (fun M5 e_M5 => ?_)
    refine m_pI (k := 17) X hH hL okC9 t0 rfl rfl rfl rfl W1301 dX9_readsT_53 e_M5 (fun H locs hH hL => ?_)
    refine lv_aload_n hx hb dX9_readsT_56 rfl (lv_at hl 0 rfl) ?_
    refine lv_bipush (v := 101) hx hb dX9_readsT_57 (by decide) ?_
    refine q_b1 (fun v7 M8 e6 => ?_)
    refine my_doneI hL (my_runV X hH hl.1 (co_X9_reads g l hst a0 101 M5 t0 v7 M8 e6) ok_X9_reads W1745 t0 rfl (by decide) rfl rfl rfl ⟨Nat.le_of_ble_eq_true rfl, Nat.le_of_ble_eq_true rfl⟩ ⟨Nat.zero_le _, Nat.zero_le _⟩ (Nat.le_of_ble_eq_true rfl) dX9_readsT_59) (fun H locs hH hL => ?_)
    refine lv_if_eq (tgt := 113) hx hb dX9_readsT_62 (by decide) (fun c9 => q_pos c9 ?_) (fun c9 => q_neg c9 ?_)
    · refine lv_iconst (v := 0) hx hb dX9_readsT_113 (by decide) ?_
      exact q_end1 (m_zret X hr hH hL (by decide) dX9_readsT_114)
    · refine lv_aload_n hx hb dX9_readsT_65 rfl (lv_at hl 0 rfl) ?_
      refine lv_bipush (v := 109) hx hb dX9_readsT_66 (by decide) ?_
      refine q_b1 (fun v11 M12 e10 => ?_)
      refine my_doneI hL (my_runV X hH hl.1 (co_X9_reads g l hst a0 109 M8 t0 v11 M12 e10) ok_X9_reads W1745 t0 rfl (by decide) rfl rfl rfl ⟨Nat.le_of_ble_eq_true rfl, Nat.le_of_ble_eq_true rfl⟩ ⟨Nat.zero_le _, Nat.zero_le _⟩ (Nat.le_of_ble_eq_true rfl) dX9_readsT_68) (fun H locs hH hL => ?_)
      refine lv_if_eq (tgt := 113) hx hb dX9_readsT_71 (by decide) (fun c13 => q_pos c13 ?_) (fun c13 => q_neg c13 ?_)
      · refine lv_iconst (v := 0) hx hb dX9_readsT_113 (by decide) ?_
        exact q_end1 (m_zret X hr hH hL (by decide) dX9_readsT_114)
      · refine lv_aload_n hx hb dX9_readsT_74 rfl (lv_at hl 0 rfl) ?_
        refine lv_bipush (v := 112) hx hb dX9_readsT_75 (by decide) ?_
        refine q_b1 (fun v15 M16 e14 => ?_)
        refine my_doneI hL (my_runV X hH hl.1 (co_X9_reads g l hst a0 112 M12 t0 v15 M16 e14) ok_X9_reads W1745 t0 rfl (by decide) rfl rfl rfl ⟨Nat.le_of_ble_eq_true rfl, Nat.le_of_ble_eq_true rfl⟩ ⟨Nat.zero_le _, Nat.zero_le _⟩ (Nat.le_of_ble_eq_true rfl) dX9_readsT_77) (fun H locs hH hL => ?_)
        refine lv_if_eq (tgt := 113) hx hb dX9_readsT_80 (by decide) (fun c17 => q_pos c17 ?_) (fun c17 => q_neg c17 ?_)
        · refine lv_iconst (v := 0) hx hb dX9_readsT_113 (by decide) ?_
          exact q_end1 (m_zret X hr hH hL (by decide) dX9_readsT_114)
        · refine lv_aload_n hx hb dX9_readsT_83 rfl (lv_at hl 0 rfl) ?_
          refine lv_bipush (v := 111) hx hb dX9_readsT_84 (by decide) ?_
          refine q_b1 (fun v19 M20 e18 => ?_)
          refine my_doneI hL (my_runV X hH hl.1 (co_X9_reads g l hst a0 111 M16 t0 v19 M20 e18) ok_X9_reads W1745 t0 rfl (by decide) rfl rfl rfl ⟨Nat.le_of_ble_eq_true rfl, Nat.le_of_ble_eq_true rfl⟩ ⟨Nat.zero_le _, Nat.zero_le _⟩ (Nat.le_of_ble_eq_true rfl) dX9_readsT_86) (fun H locs hH hL => ?_)
          refine lv_if_eq (tgt := 113) hx hb dX9_readsT_89 (by decide) (fun c21 => q_pos c21 ?_) (fun c21 => q_neg c21 ?_)
          · refine lv_iconst (v := 0) hx hb dX9_readsT_113 (by decide) ?_
            exact q_end1 (m_zret X hr hH hL (by decide) dX9_readsT_114)
          · refine lv_aload_n hx hb dX9_readsT_92 rfl (lv_at hl 0 rfl) ?_
            refine lv_bipush (v := 32) hx hb dX9_readsT_93 (by decide) ?_
            refine q_b1 (fun v23 M24 e22 => ?_)
            refine my_doneI hL (my_runV X hH hl.1 (co_X9_reads g l hst a0 32 M20 t0 v23 M24 e22) ok_X9_reads W1745 t0 rfl (by decide) rfl rfl rfl ⟨Nat.le_of_ble_eq_true rfl, Nat.le_of_ble_eq_true rfl⟩ ⟨Nat.zero_le _, Nat.zero_le _⟩ (Nat.le_of_ble_eq_true rfl) dX9_readsT_95) (fun H locs hH hL => ?_)
            refine lv_if_eq (tgt := 113) hx hb dX9_readsT_98 (by decide) (fun c25 => q_pos c25 ?_) (fun c25 => q_neg c25 ?_)
            · refine lv_iconst (v := 0) hx hb dX9_readsT_113 (by decide) ?_
              exact q_end1 (m_zret X hr hH hL (by decide) dX9_readsT_114)
            · refine lv_aload_n hx hb dX9_readsT_101 rfl (lv_at hl 0 rfl) ?_
              refine lv_iconst (v := 0) hx hb dX9_readsT_102 (by decide) ?_
              refine q_b1 (fun v27 M28 e26 => ?_)
              refine my_doneI hL (my_runV X hH hl.1 (co_X9_readsDigit g l hst a0 0 M24 t0 v27 M28 e26) ok_X9_readsDigit W1753 t0 rfl (by decide) rfl rfl rfl ⟨Nat.le_of_ble_eq_true rfl, Nat.le_of_ble_eq_true rfl⟩ ⟨Nat.zero_le _, Nat.zero_le _⟩ (Nat.le_of_ble_eq_true rfl) dX9_readsT_103) (fun H locs hH hL => ?_)
              refine lv_if_eq (tgt := 113) hx hb dX9_readsT_106 (by decide) (fun c29 => q_pos c29 ?_) (fun c29 => q_neg c29 ?_)
              · refine lv_iconst (v := 0) hx hb dX9_readsT_113 (by decide) ?_
                exact q_end1 (m_zret X hr hH hL (by decide) dX9_readsT_114)
              · refine lv_iconst (v := 1) hx hb dX9_readsT_109 (by decide) ?_
                refine lv_goto (tgt := 114) hx hb dX9_readsT_110 (by decide) ?_
                exact q_end1 (m_zret X hr hH hL (by decide) dX9_readsT_114)
  · refine lv_aload_n hx hb dX9_readsT_9 rfl (lv_at hl 0 rfl) ?_
    refine lv_bipush (v := 114) hx hb dX9_readsT_10 (by decide) ?_
    refine q_b1 (fun v31 M32 e30 => ?_)
    refine my_doneI hL (my_runV X hH hl.1 (co_X9_reads g l hst a0 114 M3 t0 v31 M32 e30) ok_X9_reads W1745 t0 rfl (by decide) rfl rfl rfl ⟨Nat.le_of_ble_eq_true rfl, Nat.le_of_ble_eq_true rfl⟩ ⟨Nat.zero_le _, Nat.zero_le _⟩ (Nat.le_of_ble_eq_true rfl) dX9_readsT_12) (fun H locs hH hL => ?_)
    refine lv_if_eq (tgt := 48) hx hb dX9_readsT_15 (by decide) (fun c33 => q_pos c33 ?_) (fun c33 => q_neg c33 ?_)
    · refine lv_iconst (v := 0) hx hb dX9_readsT_48 (by decide) ?_
      exact q_end1 (m_zret X hr hH hL (by decide) dX9_readsT_49)
    · refine lv_aload_n hx hb dX9_readsT_18 rfl (lv_at hl 0 rfl) ?_
      refine lv_bipush (v := 110) hx hb dX9_readsT_19 (by decide) ?_
      refine q_b1 (fun v35 M36 e34 => ?_)
      refine my_doneI hL (my_runV X hH hl.1 (co_X9_reads g l hst a0 110 M32 t0 v35 M36 e34) ok_X9_reads W1745 t0 rfl (by decide) rfl rfl rfl ⟨Nat.le_of_ble_eq_true rfl, Nat.le_of_ble_eq_true rfl⟩ ⟨Nat.zero_le _, Nat.zero_le _⟩ (Nat.le_of_ble_eq_true rfl) dX9_readsT_21) (fun H locs hH hL => ?_)
      refine lv_if_eq (tgt := 48) hx hb dX9_readsT_24 (by decide) (fun c37 => q_pos c37 ?_) (fun c37 => q_neg c37 ?_)
      · refine lv_iconst (v := 0) hx hb dX9_readsT_48 (by decide) ?_
        exact q_end1 (m_zret X hr hH hL (by decide) dX9_readsT_49)
      · refine lv_aload_n hx hb dX9_readsT_27 rfl (lv_at hl 0 rfl) ?_
        refine lv_bipush (v := 32) hx hb dX9_readsT_28 (by decide) ?_
        refine q_b1 (fun v39 M40 e38 => ?_)
        refine my_doneI hL (my_runV X hH hl.1 (co_X9_reads g l hst a0 32 M36 t0 v39 M40 e38) ok_X9_reads W1745 t0 rfl (by decide) rfl rfl rfl ⟨Nat.le_of_ble_eq_true rfl, Nat.le_of_ble_eq_true rfl⟩ ⟨Nat.zero_le _, Nat.zero_le _⟩ (Nat.le_of_ble_eq_true rfl) dX9_readsT_30) (fun H locs hH hL => ?_)
        refine lv_if_eq (tgt := 48) hx hb dX9_readsT_33 (by decide) (fun c41 => q_pos c41 ?_) (fun c41 => q_neg c41 ?_)
        · refine lv_iconst (v := 0) hx hb dX9_readsT_48 (by decide) ?_
          exact q_end1 (m_zret X hr hH hL (by decide) dX9_readsT_49)
        · refine lv_aload_n hx hb dX9_readsT_36 rfl (lv_at hl 0 rfl) ?_
          refine lv_iconst (v := 0) hx hb dX9_readsT_37 (by decide) ?_
          refine q_b1 (fun v43 M44 e42 => ?_)
          refine my_doneI hL (my_runV X hH hl.1 (co_X9_readsDigit g l hst a0 0 M40 t0 v43 M44 e42) ok_X9_readsDigit W1753 t0 rfl (by decide) rfl rfl rfl ⟨Nat.le_of_ble_eq_true rfl, Nat.le_of_ble_eq_true rfl⟩ ⟨Nat.zero_le _, Nat.zero_le _⟩ (Nat.le_of_ble_eq_true rfl) dX9_readsT_38) (fun H locs hH hL => ?_)
          refine lv_if_eq (tgt := 48) hx hb dX9_readsT_41 (by decide) (fun c45 => q_pos c45 ?_) (fun c45 => q_neg c45 ?_)
          · refine lv_iconst (v := 0) hx hb dX9_readsT_48 (by decide) ?_
            exact q_end1 (m_zret X hr hH hL (by decide) dX9_readsT_49)
          · refine lv_iconst (v := 1) hx hb dX9_readsT_44 (by decide) ?_
            refine lv_goto (tgt := 49) hx hb dX9_readsT_45 (by decide) ?_
            exact q_end1 (m_zret X hr hH hL (by decide) dX9_readsT_49)

set_option maxRecDepth 20000 in
set_option maxHeartbeats 4000000 in
theorem co_X9_readsBeat (g : GP) (l : Launch) (hst : l.stackTraces = false) (a0 : Nat) (M : Mem) (t0 : tyT a0 = 9) (v : Int32) (M' : Mem) (hF : F_X9_readsBeat a0 M = some (v, M')) : CO g l yX9_readsBeat cX9_readsBeat 1 (some .boolean) 3 64 rvI [.ref (adr g a0)] M (.inl v : Int32 ⊕ String) M' := by
  refine CO_of hst (by decide) (Nat.le_of_ble_eq_true rfl) ?_
  intro p e s m below meth c ls X hr htb hH hL hl
  have hx := X.1
  have hb := X.2.1
  have hts := X.2.2.2.2.1
  refine q_out hF ?_
  rw [F_X9_readsBeat]
  replace hl : lv_has ls 1 [(0, .ref (adr g a0))] := hl
  refine lv_aload_n hx hb dX9_readsBeat_0 rfl (lv_at hl 0 rfl) ?_
  refine lv_bipush (v := 101) hx hb dX9_readsBeat_1 (by decide) ?_
  refine q_b1 (fun v2 M3 e1 => ?_)
  refine my_doneI hL (my_runV X hH hl.1 (co_X9_reads g l hst a0 101 M t0 v2 M3 e1) ok_X9_reads W1745 t0 rfl (by decide) rfl rfl rfl ⟨Nat.le_of_ble_eq_true rfl, Nat.le_of_ble_eq_true rfl⟩ ⟨Nat.zero_le _, Nat.zero_le _⟩ (Nat.le_of_ble_eq_true rfl) dX9_readsBeat_3) (fun H locs hH hL => ?_)
  refine lv_if_eq (tgt := 27) hx hb dX9_readsBeat_6 (by decide) (fun c4 => q_pos c4 ?_) (fun c4 => q_neg c4 ?_)
  · refine lv_iconst (v := 0) hx hb dX9_readsBeat_27 (by decide) ?_
    exact q_end1 (m_zret X hr hH hL (by decide) dX9_readsBeat_28)
  · refine lv_aload_n hx hb dX9_readsBeat_9 rfl (lv_at hl 0 rfl) ?_
    refine lv_bipush (v := 97) hx hb dX9_readsBeat_10 (by decide) ?_
    refine q_b1 (fun v6 M7 e5 => ?_)
    refine my_doneI hL (my_runV X hH hl.1 (co_X9_reads g l hst a0 97 M3 t0 v6 M7 e5) ok_X9_reads W1745 t0 rfl (by decide) rfl rfl rfl ⟨Nat.le_of_ble_eq_true rfl, Nat.le_of_ble_eq_true rfl⟩ ⟨Nat.zero_le _, Nat.zero_le _⟩ (Nat.le_of_ble_eq_true rfl) dX9_readsBeat_12) (fun H locs hH hL => ?_)
    refine lv_if_eq (tgt := 27) hx hb dX9_readsBeat_15 (by decide) (fun c8 => q_pos c8 ?_) (fun c8 => q_neg c8 ?_)
    · refine lv_iconst (v := 0) hx hb dX9_readsBeat_27 (by decide) ?_
      exact q_end1 (m_zret X hr hH hL (by decide) dX9_readsBeat_28)
    · refine lv_aload_n hx hb dX9_readsBeat_18 rfl (lv_at hl 0 rfl) ?_
      refine lv_bipush (v := 116) hx hb dX9_readsBeat_19 (by decide) ?_
      refine q_b1 (fun v10 M11 e9 => ?_)
      refine my_doneI hL (my_runV X hH hl.1 (co_X9_reads g l hst a0 116 M7 t0 v10 M11 e9) ok_X9_reads W1745 t0 rfl (by decide) rfl rfl rfl ⟨Nat.le_of_ble_eq_true rfl, Nat.le_of_ble_eq_true rfl⟩ ⟨Nat.zero_le _, Nat.zero_le _⟩ (Nat.le_of_ble_eq_true rfl) dX9_readsBeat_21) (fun H locs hH hL => ?_)
      refine lv_if_ne (tgt := 29) hx hb dX9_readsBeat_24 (by decide) (fun c12 => q_neg c12 ?_) (fun c12 => q_pos c12 ?_)
      · refine lv_aload_n hx hb dX9_readsBeat_29 rfl (lv_at hl 0 rfl) ?_
        refine m_gR (k := 16) X hH inC9 t0 rfl W1300 dX9_readsBeat_30 23 rfl (fun t13 => ?_)
        refine lv_iconst (v := 0) hx hb dX9_readsBeat_33 (by decide) ?_
        refine lv_iconst (v := 1) hx hb dX9_readsBeat_34 (by decide) ?_
        refine q_chk (fun hb14 => ?_)
        refine q_lt (fun M15 e_M15 => ?_)
        refine m_is X hH hL t13 rfl (by decide) (fun _ => rfl) rfl rfl hb14 dX9_readsBeat_35 e_M15 (fun H locs hH hL => ?_)
        refine lv_aload_n hx hb dX9_readsBeat_36 rfl (lv_at hl 0 rfl) ?_
        refine lv_bipush (v := 32) hx hb dX9_readsBeat_37 (by decide) ?_
        refine q_b1 (fun v17 M18 e16 => ?_)
        refine my_doneI hL (my_runV X hH hl.1 (co_X9_reads g l hst a0 32 M15 t0 v17 M18 e16) ok_X9_reads W1745 t0 rfl (by decide) rfl rfl rfl ⟨Nat.le_of_ble_eq_true rfl, Nat.le_of_ble_eq_true rfl⟩ ⟨Nat.zero_le _, Nat.zero_le _⟩ (Nat.le_of_ble_eq_true rfl) dX9_readsBeat_39) (fun H locs hH hL => ?_)
        refine lv_if_eq (tgt := 53) hx hb dX9_readsBeat_42 (by decide) (fun c19 => q_pos c19 ?_) (fun c19 => q_neg c19 ?_)
        · refine lv_iconst (v := 1) hx hb dX9_readsBeat_53 (by decide) ?_
          refine lv_goto (tgt := 58) hx hb dX9_readsBeat_54 (by decide) ?_
          exact q_end1 (m_zret X hr hH hL (by decide) dX9_readsBeat_58)
        · refine lv_aload_n hx hb dX9_readsBeat_45 rfl (lv_at hl 0 rfl) ?_
          refine lv_iconst (v := 0) hx hb dX9_readsBeat_46 (by decide) ?_
          refine q_b1 (fun v21 M22 e20 => ?_)
          refine my_doneI hL (my_runV X hH hl.1 (co_X9_readsNumber g l hst a0 0 M18 t0 v21 M22 e20) ok_X9_readsNumber W1777 t0 rfl (by decide) rfl rfl rfl ⟨Nat.le_of_ble_eq_true rfl, Nat.le_of_ble_eq_true rfl⟩ ⟨Nat.zero_le _, Nat.zero_le _⟩ (Nat.le_of_ble_eq_true rfl) dX9_readsBeat_47) (fun H locs hH hL => ?_)
          refine lv_if_eq (tgt := 57) hx hb dX9_readsBeat_50 (by decide) (fun c23 => q_pos c23 ?_) (fun c23 => q_neg c23 ?_)
          · refine lv_iconst (v := 0) hx hb dX9_readsBeat_57 (by decide) ?_
            exact q_end1 (m_zret X hr hH hL (by decide) dX9_readsBeat_58)
          · refine lv_iconst (v := 1) hx hb dX9_readsBeat_53 (by decide) ?_
            refine lv_goto (tgt := 58) hx hb dX9_readsBeat_54 (by decide) ?_
            exact q_end1 (m_zret X hr hH hL (by decide) dX9_readsBeat_58)
      · refine lv_iconst (v := 0) hx hb dX9_readsBeat_27 (by decide) ?_
        exact q_end1 (m_zret X hr hH hL (by decide) dX9_readsBeat_28)

set_option maxRecDepth 20000 in
set_option maxHeartbeats 4000000 in
theorem co_X9_readsCommand (g : GP) (l : Launch) (hst : l.stackTraces = false) (a0 : Nat) (M : Mem) (t0 : tyT a0 = 9) (v : Int32) (M' : Mem) (hF : F_X9_readsCommand a0 M = some (v, M')) : CO g l yX9_readsCommand cX9_readsCommand 1 (some .boolean) 4 84 rvI [.ref (adr g a0)] M (.inl v : Int32 ⊕ String) M' := by
  refine CO_of hst (by decide) (Nat.le_of_ble_eq_true rfl) ?_
  intro p e s m below meth c ls X hr htb hH hL hl
  have hx := X.1
  have hb := X.2.1
  have hts := X.2.2.2.2.1
  refine q_out hF ?_
  rw [F_X9_readsCommand]
  replace hl : lv_has ls 1 [(0, .ref (adr g a0))] := hl
  refine lv_aload_n hx hb dX9_readsCommand_0 rfl (lv_at hl 0 rfl) ?_
  refine lv_aload_n hx hb dX9_readsCommand_1 rfl (lv_at hl 0 rfl) ?_
  refine q_bind (fun v2 e1 => ?_)
  refine my_doneI hL (my_runV X hH hl.1 (co_X9_nextChar g l hst a0 M t0 v2 e1) ok_X9_nextChar W1741 t0 rfl (by decide) rfl rfl rfl ⟨Nat.le_of_ble_eq_true rfl, Nat.le_of_ble_eq_true rfl⟩ ⟨Nat.zero_le _, Nat.zero_le _⟩ (Nat.le_of_ble_eq_true rfl) dX9_readsCommand_2) (fun H locs hH hL => ?_)
  refine q_lt (fun M3 e_M3 => ?_)
  refine m_pI (k := 17) X hH hL okC9 t0 rfl rfl rfl rfl W1301 dX9_readsCommand_5 e_M3 (fun H locs hH hL => ?_)
  refine lv_aload_n hx hb dX9_readsCommand_8 rfl (lv_at hl 0 rfl) ?_
  refine lv_bipush (v := 97) hx hb dX9_readsCommand_9 (by decide) ?_
  refine q_b1 (fun v5 M6 e4 => ?_)
  refine my_doneI hL (my_runV X hH hl.1 (co_X9_reads g l hst a0 97 M3 t0 v5 M6 e4) ok_X9_reads W1745 t0 rfl (by decide) rfl rfl rfl ⟨Nat.le_of_ble_eq_true rfl, Nat.le_of_ble_eq_true rfl⟩ ⟨Nat.zero_le _, Nat.zero_le _⟩ (Nat.le_of_ble_eq_true rfl) dX9_readsCommand_11) (fun H locs hH hL => ?_)
  refine lv_if_eq (tgt := 22) hx hb dX9_readsCommand_14 (by decide) (fun c7 => q_pos c7 ?_) (fun c7 => q_neg c7 ?_)
  · refine lv_aload_n hx hb dX9_readsCommand_22 rfl (lv_at hl 0 rfl) ?_
    refine lv_bipush (v := 100) hx hb dX9_readsCommand_23 (by decide) ?_
    refine q_b1 (fun v9 M10 e8 => ?_)
    refine my_doneI hL (my_runV X hH hl.1 (co_X9_reads g l hst a0 100 M6 t0 v9 M10 e8) ok_X9_reads W1745 t0 rfl (by decide) rfl rfl rfl ⟨Nat.le_of_ble_eq_true rfl, Nat.le_of_ble_eq_true rfl⟩ ⟨Nat.zero_le _, Nat.zero_le _⟩ (Nat.le_of_ble_eq_true rfl) dX9_readsCommand_25) (fun H locs hH hL => ?_)
    refine lv_if_eq (tgt := 81) hx hb dX9_readsCommand_28 (by decide) (fun c11 => q_pos c11 ?_) (fun c11 => q_neg c11 ?_)
    · refine lv_aload_n hx hb dX9_readsCommand_81 rfl (lv_at hl 0 rfl) ?_
      refine lv_bipush (v := 110) hx hb dX9_readsCommand_82 (by decide) ?_
      refine q_b1 (fun v13 M14 e12 => ?_)
      refine my_doneI hL (my_runV X hH hl.1 (co_X9_reads g l hst a0 110 M10 t0 v13 M14 e12) ok_X9_reads W1745 t0 rfl (by decide) rfl rfl rfl ⟨Nat.le_of_ble_eq_true rfl, Nat.le_of_ble_eq_true rfl⟩ ⟨Nat.zero_le _, Nat.zero_le _⟩ (Nat.le_of_ble_eq_true rfl) dX9_readsCommand_84) (fun H locs hH hL => ?_)
      refine lv_if_eq (tgt := 95) hx hb dX9_readsCommand_87 (by decide) (fun c15 => q_pos c15 ?_) (fun c15 => q_neg c15 ?_)
      · refine lv_aload_n hx hb dX9_readsCommand_95 rfl (lv_at hl 0 rfl) ?_
        refine lv_bipush (v := 109) hx hb dX9_readsCommand_96 (by decide) ?_
        refine q_b1 (fun v17 M18 e16 => ?_)
        refine my_doneI hL (my_runV X hH hl.1 (co_X9_reads g l hst a0 109 M14 t0 v17 M18 e16) ok_X9_reads W1745 t0 rfl (by decide) rfl rfl rfl ⟨Nat.le_of_ble_eq_true rfl, Nat.le_of_ble_eq_true rfl⟩ ⟨Nat.zero_le _, Nat.zero_le _⟩ (Nat.le_of_ble_eq_true rfl) dX9_readsCommand_98) (fun H locs hH hL => ?_)
        refine lv_if_eq (tgt := 109) hx hb dX9_readsCommand_101 (by decide) (fun c19 => q_pos c19 ?_) (fun c19 => q_neg c19 ?_)
        · refine lv_aload_n hx hb dX9_readsCommand_109 rfl (lv_at hl 0 rfl) ?_
          refine lv_bipush (v := 102) hx hb dX9_readsCommand_110 (by decide) ?_
          refine q_b1 (fun v21 M22 e20 => ?_)
          refine my_doneI hL (my_runV X hH hl.1 (co_X9_reads g l hst a0 102 M18 t0 v21 M22 e20) ok_X9_reads W1745 t0 rfl (by decide) rfl rfl rfl ⟨Nat.le_of_ble_eq_true rfl, Nat.le_of_ble_eq_true rfl⟩ ⟨Nat.zero_le _, Nat.zero_le _⟩ (Nat.le_of_ble_eq_true rfl) dX9_readsCommand_112) (fun H locs hH hL => ?_)
          refine lv_if_eq (tgt := 168) hx hb dX9_readsCommand_115 (by decide) (fun c23 => q_pos c23 ?_) (fun c23 => q_neg c23 ?_)
          · refine lv_aload_n hx hb dX9_readsCommand_168 rfl (lv_at hl 0 rfl) ?_
            refine lv_bipush (v := 116) hx hb dX9_readsCommand_169 (by decide) ?_
            refine q_b1 (fun v25 M26 e24 => ?_)
            refine my_doneI hL (my_runV X hH hl.1 (co_X9_reads g l hst a0 116 M22 t0 v25 M26 e24) ok_X9_reads W1745 t0 rfl (by decide) rfl rfl rfl ⟨Nat.le_of_ble_eq_true rfl, Nat.le_of_ble_eq_true rfl⟩ ⟨Nat.zero_le _, Nat.zero_le _⟩ (Nat.le_of_ble_eq_true rfl) dX9_readsCommand_171) (fun H locs hH hL => ?_)
            refine lv_if_eq (tgt := 182) hx hb dX9_readsCommand_174 (by decide) (fun c27 => q_pos c27 ?_) (fun c27 => q_neg c27 ?_)
            · refine lv_aload_n hx hb dX9_readsCommand_182 rfl (lv_at hl 0 rfl) ?_
              refine lv_bipush (v := 114) hx hb dX9_readsCommand_183 (by decide) ?_
              refine q_b1 (fun v29 M30 e28 => ?_)
              refine my_doneI hL (my_runV X hH hl.1 (co_X9_reads g l hst a0 114 M26 t0 v29 M30 e28) ok_X9_reads W1745 t0 rfl (by decide) rfl rfl rfl ⟨Nat.le_of_ble_eq_true rfl, Nat.le_of_ble_eq_true rfl⟩ ⟨Nat.zero_le _, Nat.zero_le _⟩ (Nat.le_of_ble_eq_true rfl) dX9_readsCommand_185) (fun H locs hH hL => ?_)
              refine lv_if_eq (tgt := 196) hx hb dX9_readsCommand_188 (by decide) (fun c31 => q_pos c31 ?_) (fun c31 => q_neg c31 ?_)
              · refine lv_aload_n hx hb dX9_readsCommand_196 rfl (lv_at hl 0 rfl) ?_
                refine lv_bipush (v := 108) hx hb dX9_readsCommand_197 (by decide) ?_
                refine q_b1 (fun v33 M34 e32 => ?_)
                refine my_doneI hL (my_runV X hH hl.1 (co_X9_reads g l hst a0 108 M30 t0 v33 M34 e32) ok_X9_reads W1745 t0 rfl (by decide) rfl rfl rfl ⟨Nat.le_of_ble_eq_true rfl, Nat.le_of_ble_eq_true rfl⟩ ⟨Nat.zero_le _, Nat.zero_le _⟩ (Nat.le_of_ble_eq_true rfl) dX9_readsCommand_199) (fun H locs hH hL => ?_)
                refine lv_if_eq (tgt := 264) hx hb dX9_readsCommand_202 (by decide) (fun c35 => q_pos c35 ?_) (fun c35 => q_neg c35 ?_)
                · refine lv_aload_n hx hb dX9_readsCommand_264 rfl (lv_at hl 0 rfl) ?_
                  refine lv_bipush (v := 119) hx hb dX9_readsCommand_265 (by decide) ?_
                  refine q_b1 (fun v37 M38 e36 => ?_)
                  refine my_doneI hL (my_runV X hH hl.1 (co_X9_reads g l hst a0 119 M34 t0 v37 M38 e36) ok_X9_reads W1745 t0 rfl (by decide) rfl rfl rfl ⟨Nat.le_of_ble_eq_true rfl, Nat.le_of_ble_eq_true rfl⟩ ⟨Nat.zero_le _, Nat.zero_le _⟩ (Nat.le_of_ble_eq_true rfl) dX9_readsCommand_267) (fun H locs hH hL => ?_)
                  refine lv_if_eq (tgt := 306) hx hb dX9_readsCommand_270 (by decide) (fun c39 => q_pos c39 ?_) (fun c39 => q_neg c39 ?_)
                  · refine lv_aload_n hx hb dX9_readsCommand_306 rfl (lv_at hl 0 rfl) ?_
                    refine lv_bipush (v := 98) hx hb dX9_readsCommand_307 (by decide) ?_
                    refine q_b1 (fun v41 M42 e40 => ?_)
                    refine my_doneI hL (my_runV X hH hl.1 (co_X9_reads g l hst a0 98 M38 t0 v41 M42 e40) ok_X9_reads W1745 t0 rfl (by decide) rfl rfl rfl ⟨Nat.le_of_ble_eq_true rfl, Nat.le_of_ble_eq_true rfl⟩ ⟨Nat.zero_le _, Nat.zero_le _⟩ (Nat.le_of_ble_eq_true rfl) dX9_readsCommand_309) (fun H locs hH hL => ?_)
                    refine lv_if_eq (tgt := 326) hx hb dX9_readsCommand_312 (by decide) (fun c43 => q_pos c43 ?_) (fun c43 => q_neg c43 ?_)
                    · refine lv_iconst (v := 0) hx hb dX9_readsCommand_326 (by decide) ?_
                      exact q_end1 (m_zret X hr hH hL (by decide) dX9_readsCommand_327)
                    · refine lv_aload_n hx hb dX9_readsCommand_315 rfl (lv_at hl 0 rfl) ?_
                      refine q_b1 (fun v45 M46 e44 => ?_)
                      refine my_doneI hL (my_runV X hH hl.1 (co_X9_readsBeat g l hst a0 M42 t0 v45 M46 e44) ok_X9_readsBeat W1781 t0 rfl (by decide) rfl rfl rfl ⟨Nat.le_of_ble_eq_true rfl, Nat.le_of_ble_eq_true rfl⟩ ⟨Nat.zero_le _, Nat.zero_le _⟩ (Nat.le_of_ble_eq_true rfl) dX9_readsCommand_316) (fun H locs hH hL => ?_)
                      refine lv_if_eq (tgt := 326) hx hb dX9_readsCommand_319 (by decide) (fun c47 => q_pos c47 ?_) (fun c47 => q_neg c47 ?_)
                      · refine lv_iconst (v := 0) hx hb dX9_readsCommand_326 (by decide) ?_
                        exact q_end1 (m_zret X hr hH hL (by decide) dX9_readsCommand_327)
                      · refine lv_iconst (v := 1) hx hb dX9_readsCommand_322 (by decide) ?_
                        refine lv_goto (tgt := 327) hx hb dX9_readsCommand_323 (by decide) ?_
                        exact q_end1 (m_zret X hr hH hL (by decide) dX9_readsCommand_327)
                  · refine lv_aload_n hx hb dX9_readsCommand_273 rfl (lv_at hl 0 rfl) ?_
                    refine lv_bipush (v := 97) hx hb dX9_readsCommand_274 (by decide) ?_
                    refine q_b1 (fun v49 M50 e48 => ?_)
                    refine my_doneI hL (my_runV X hH hl.1 (co_X9_reads g l hst a0 97 M38 t0 v49 M50 e48) ok_X9_reads W1745 t0 rfl (by decide) rfl rfl rfl ⟨Nat.le_of_ble_eq_true rfl, Nat.le_of_ble_eq_true rfl⟩ ⟨Nat.zero_le _, Nat.zero_le _⟩ (Nat.le_of_ble_eq_true rfl) dX9_readsCommand_276) (fun H locs hH hL => ?_)
                    refine lv_if_eq (tgt := 304) hx hb dX9_readsCommand_279 (by decide) (fun c51 => q_pos c51 ?_) (fun c51 => q_neg c51 ?_)
                    · refine lv_iconst (v := 0) hx hb dX9_readsCommand_304 (by decide) ?_
                      exact q_end1 (m_zret X hr hH hL (by decide) dX9_readsCommand_305)
                    · refine lv_aload_n hx hb dX9_readsCommand_282 rfl (lv_at hl 0 rfl) ?_
                      refine lv_bipush (v := 118) hx hb dX9_readsCommand_283 (by decide) ?_
                      refine q_b1 (fun v53 M54 e52 => ?_)
                      refine my_doneI hL (my_runV X hH hl.1 (co_X9_reads g l hst a0 118 M50 t0 v53 M54 e52) ok_X9_reads W1745 t0 rfl (by decide) rfl rfl rfl ⟨Nat.le_of_ble_eq_true rfl, Nat.le_of_ble_eq_true rfl⟩ ⟨Nat.zero_le _, Nat.zero_le _⟩ (Nat.le_of_ble_eq_true rfl) dX9_readsCommand_285) (fun H locs hH hL => ?_)
                      refine lv_if_eq (tgt := 304) hx hb dX9_readsCommand_288 (by decide) (fun c55 => q_pos c55 ?_) (fun c55 => q_neg c55 ?_)
                      · refine lv_iconst (v := 0) hx hb dX9_readsCommand_304 (by decide) ?_
                        exact q_end1 (m_zret X hr hH hL (by decide) dX9_readsCommand_305)
                      · refine lv_aload_n hx hb dX9_readsCommand_291 rfl (lv_at hl 0 rfl) ?_
                        refine lv_bipush (v := 101) hx hb dX9_readsCommand_292 (by decide) ?_
                        refine q_b1 (fun v57 M58 e56 => ?_)
                        refine my_doneI hL (my_runV X hH hl.1 (co_X9_reads g l hst a0 101 M54 t0 v57 M58 e56) ok_X9_reads W1745 t0 rfl (by decide) rfl rfl rfl ⟨Nat.le_of_ble_eq_true rfl, Nat.le_of_ble_eq_true rfl⟩ ⟨Nat.zero_le _, Nat.zero_le _⟩ (Nat.le_of_ble_eq_true rfl) dX9_readsCommand_294) (fun H locs hH hL => ?_)
                        refine lv_if_eq (tgt := 304) hx hb dX9_readsCommand_297 (by decide) (fun c59 => q_pos c59 ?_) (fun c59 => q_neg c59 ?_)
                        · refine lv_iconst (v := 0) hx hb dX9_readsCommand_304 (by decide) ?_
                          exact q_end1 (m_zret X hr hH hL (by decide) dX9_readsCommand_305)
                        · refine lv_iconst (v := 1) hx hb dX9_readsCommand_300 (by decide) ?_
                          refine lv_goto (tgt := 305) hx hb dX9_readsCommand_301 (by decide) ?_
                          exact q_end1 (m_zret X hr hH hL (by decide) dX9_readsCommand_305)
                · refine lv_aload_n hx hb dX9_readsCommand_205 rfl (lv_at hl 0 rfl) ?_
                  refine lv_bipush (v := 105) hx hb dX9_readsCommand_206 (by decide) ?_
                  refine q_b1 (fun v61 M62 e60 => ?_)
                  refine my_doneI hL (my_runV X hH hl.1 (co_X9_reads g l hst a0 105 M34 t0 v61 M62 e60) ok_X9_reads W1745 t0 rfl (by decide) rfl rfl rfl ⟨Nat.le_of_ble_eq_true rfl, Nat.le_of_ble_eq_true rfl⟩ ⟨Nat.zero_le _, Nat.zero_le _⟩ (Nat.le_of_ble_eq_true rfl) dX9_readsCommand_208) (fun H locs hH hL => ?_)
                  refine lv_if_eq (tgt := 262) hx hb dX9_readsCommand_211 (by decide) (fun c63 => q_pos c63 ?_) (fun c63 => q_neg c63 ?_)
                  · refine lv_iconst (v := 0) hx hb dX9_readsCommand_262 (by decide) ?_
                    exact q_end1 (m_zret X hr hH hL (by decide) dX9_readsCommand_263)
                  · refine lv_aload_n hx hb dX9_readsCommand_214 rfl (lv_at hl 0 rfl) ?_
                    refine lv_bipush (v := 109) hx hb dX9_readsCommand_215 (by decide) ?_
                    refine q_b1 (fun v65 M66 e64 => ?_)
                    refine my_doneI hL (my_runV X hH hl.1 (co_X9_reads g l hst a0 109 M62 t0 v65 M66 e64) ok_X9_reads W1745 t0 rfl (by decide) rfl rfl rfl ⟨Nat.le_of_ble_eq_true rfl, Nat.le_of_ble_eq_true rfl⟩ ⟨Nat.zero_le _, Nat.zero_le _⟩ (Nat.le_of_ble_eq_true rfl) dX9_readsCommand_217) (fun H locs hH hL => ?_)
                    refine lv_if_eq (tgt := 262) hx hb dX9_readsCommand_220 (by decide) (fun c67 => q_pos c67 ?_) (fun c67 => q_neg c67 ?_)
                    · refine lv_iconst (v := 0) hx hb dX9_readsCommand_262 (by decide) ?_
                      exact q_end1 (m_zret X hr hH hL (by decide) dX9_readsCommand_263)
                    · refine lv_aload_n hx hb dX9_readsCommand_223 rfl (lv_at hl 0 rfl) ?_
                      refine lv_bipush (v := 105) hx hb dX9_readsCommand_224 (by decide) ?_
                      refine q_b1 (fun v69 M70 e68 => ?_)
                      refine my_doneI hL (my_runV X hH hl.1 (co_X9_reads g l hst a0 105 M66 t0 v69 M70 e68) ok_X9_reads W1745 t0 rfl (by decide) rfl rfl rfl ⟨Nat.le_of_ble_eq_true rfl, Nat.le_of_ble_eq_true rfl⟩ ⟨Nat.zero_le _, Nat.zero_le _⟩ (Nat.le_of_ble_eq_true rfl) dX9_readsCommand_226) (fun H locs hH hL => ?_)
                      refine lv_if_eq (tgt := 262) hx hb dX9_readsCommand_229 (by decide) (fun c71 => q_pos c71 ?_) (fun c71 => q_neg c71 ?_)
                      · refine lv_iconst (v := 0) hx hb dX9_readsCommand_262 (by decide) ?_
                        exact q_end1 (m_zret X hr hH hL (by decide) dX9_readsCommand_263)
                      · refine lv_aload_n hx hb dX9_readsCommand_232 rfl (lv_at hl 0 rfl) ?_
                        refine lv_bipush (v := 116) hx hb dX9_readsCommand_233 (by decide) ?_
                        refine q_b1 (fun v73 M74 e72 => ?_)
                        refine my_doneI hL (my_runV X hH hl.1 (co_X9_reads g l hst a0 116 M70 t0 v73 M74 e72) ok_X9_reads W1745 t0 rfl (by decide) rfl rfl rfl ⟨Nat.le_of_ble_eq_true rfl, Nat.le_of_ble_eq_true rfl⟩ ⟨Nat.zero_le _, Nat.zero_le _⟩ (Nat.le_of_ble_eq_true rfl) dX9_readsCommand_235) (fun H locs hH hL => ?_)
                        refine lv_if_eq (tgt := 262) hx hb dX9_readsCommand_238 (by decide) (fun c75 => q_pos c75 ?_) (fun c75 => q_neg c75 ?_)
                        · refine lv_iconst (v := 0) hx hb dX9_readsCommand_262 (by decide) ?_
                          exact q_end1 (m_zret X hr hH hL (by decide) dX9_readsCommand_263)
                        · refine lv_aload_n hx hb dX9_readsCommand_241 rfl (lv_at hl 0 rfl) ?_
                          refine lv_bipush (v := 32) hx hb dX9_readsCommand_242 (by decide) ?_
                          refine q_b1 (fun v77 M78 e76 => ?_)
                          refine my_doneI hL (my_runV X hH hl.1 (co_X9_reads g l hst a0 32 M74 t0 v77 M78 e76) ok_X9_reads W1745 t0 rfl (by decide) rfl rfl rfl ⟨Nat.le_of_ble_eq_true rfl, Nat.le_of_ble_eq_true rfl⟩ ⟨Nat.zero_le _, Nat.zero_le _⟩ (Nat.le_of_ble_eq_true rfl) dX9_readsCommand_244) (fun H locs hH hL => ?_)
                          refine lv_if_eq (tgt := 262) hx hb dX9_readsCommand_247 (by decide) (fun c79 => q_pos c79 ?_) (fun c79 => q_neg c79 ?_)
                          · refine lv_iconst (v := 0) hx hb dX9_readsCommand_262 (by decide) ?_
                            exact q_end1 (m_zret X hr hH hL (by decide) dX9_readsCommand_263)
                          · refine lv_aload_n hx hb dX9_readsCommand_250 rfl (lv_at hl 0 rfl) ?_
                            refine lv_iconst (v := 0) hx hb dX9_readsCommand_251 (by decide) ?_
                            refine q_b1 (fun v81 M82 e80 => ?_)
                            refine my_doneI hL (my_runV X hH hl.1 (co_X9_readsNumber g l hst a0 0 M78 t0 v81 M82 e80) ok_X9_readsNumber W1777 t0 rfl (by decide) rfl rfl rfl ⟨Nat.le_of_ble_eq_true rfl, Nat.le_of_ble_eq_true rfl⟩ ⟨Nat.zero_le _, Nat.zero_le _⟩ (Nat.le_of_ble_eq_true rfl) dX9_readsCommand_252) (fun H locs hH hL => ?_)
                            refine lv_if_eq (tgt := 262) hx hb dX9_readsCommand_255 (by decide) (fun c83 => q_pos c83 ?_) (fun c83 => q_neg c83 ?_)
                            · refine lv_iconst (v := 0) hx hb dX9_readsCommand_262 (by decide) ?_
                              exact q_end1 (m_zret X hr hH hL (by decide) dX9_readsCommand_263)
                            · refine lv_iconst (v := 1) hx hb dX9_readsCommand_258 (by decide) ?_
                              refine lv_goto (tgt := 263) hx hb dX9_readsCommand_259 (by decide) ?_
                              exact q_end1 (m_zret X hr hH hL (by decide) dX9_readsCommand_263)
              · refine lv_aload_n hx hb dX9_readsCommand_191 rfl (lv_at hl 0 rfl) ?_
                refine q_b1 (fun v85 M86 e84 => ?_)
                refine my_doneI hL (my_runV X hH hl.1 (co_X9_readsRaise g l hst a0 M30 t0 v85 M86 e84) ok_X9_readsRaise W1773 t0 rfl (by decide) rfl rfl rfl ⟨Nat.le_of_ble_eq_true rfl, Nat.le_of_ble_eq_true rfl⟩ ⟨Nat.zero_le _, Nat.zero_le _⟩ (Nat.le_of_ble_eq_true rfl) dX9_readsCommand_192) (fun H locs hH hL => ?_)
                refine q_chk (fun hn87 => ?_)
                exact q_end1 (m_zret X hr hH hL (nokZ_n hn87) dX9_readsCommand_195)
            · refine lv_aload_n hx hb dX9_readsCommand_177 rfl (lv_at hl 0 rfl) ?_
              refine q_b1 (fun v89 M90 e88 => ?_)
              refine my_doneI hL (my_runV X hH hl.1 (co_X9_readsT g l hst a0 M26 t0 v89 M90 e88) ok_X9_readsT W1769 t0 rfl (by decide) rfl rfl rfl ⟨Nat.le_of_ble_eq_true rfl, Nat.le_of_ble_eq_true rfl⟩ ⟨Nat.zero_le _, Nat.zero_le _⟩ (Nat.le_of_ble_eq_true rfl) dX9_readsCommand_178) (fun H locs hH hL => ?_)
              refine q_chk (fun hn91 => ?_)
              exact q_end1 (m_zret X hr hH hL (nokZ_n hn91) dX9_readsCommand_181)
          · refine lv_aload_n hx hb dX9_readsCommand_118 rfl (lv_at hl 0 rfl) ?_
            refine lv_bipush (v := 108) hx hb dX9_readsCommand_119 (by decide) ?_
            refine q_b1 (fun v93 M94 e92 => ?_)
            refine my_doneI hL (my_runV X hH hl.1 (co_X9_reads g l hst a0 108 M22 t0 v93 M94 e92) ok_X9_reads W1745 t0 rfl (by decide) rfl rfl rfl ⟨Nat.le_of_ble_eq_true rfl, Nat.le_of_ble_eq_true rfl⟩ ⟨Nat.zero_le _, Nat.zero_le _⟩ (Nat.le_of_ble_eq_true rfl) dX9_readsCommand_121) (fun H locs hH hL => ?_)
            refine lv_if_eq (tgt := 166) hx hb dX9_readsCommand_124 (by decide) (fun c95 => q_pos c95 ?_) (fun c95 => q_neg c95 ?_)
            · refine lv_iconst (v := 0) hx hb dX9_readsCommand_166 (by decide) ?_
              exact q_end1 (m_zret X hr hH hL (by decide) dX9_readsCommand_167)
            · refine lv_aload_n hx hb dX9_readsCommand_127 rfl (lv_at hl 0 rfl) ?_
              refine lv_bipush (v := 105) hx hb dX9_readsCommand_128 (by decide) ?_
              refine q_b1 (fun v97 M98 e96 => ?_)
              refine my_doneI hL (my_runV X hH hl.1 (co_X9_reads g l hst a0 105 M94 t0 v97 M98 e96) ok_X9_reads W1745 t0 rfl (by decide) rfl rfl rfl ⟨Nat.le_of_ble_eq_true rfl, Nat.le_of_ble_eq_true rfl⟩ ⟨Nat.zero_le _, Nat.zero_le _⟩ (Nat.le_of_ble_eq_true rfl) dX9_readsCommand_130) (fun H locs hH hL => ?_)
              refine lv_if_eq (tgt := 166) hx hb dX9_readsCommand_133 (by decide) (fun c99 => q_pos c99 ?_) (fun c99 => q_neg c99 ?_)
              · refine lv_iconst (v := 0) hx hb dX9_readsCommand_166 (by decide) ?_
                exact q_end1 (m_zret X hr hH hL (by decide) dX9_readsCommand_167)
              · refine lv_aload_n hx hb dX9_readsCommand_136 rfl (lv_at hl 0 rfl) ?_
                refine lv_bipush (v := 112) hx hb dX9_readsCommand_137 (by decide) ?_
                refine q_b1 (fun v101 M102 e100 => ?_)
                refine my_doneI hL (my_runV X hH hl.1 (co_X9_reads g l hst a0 112 M98 t0 v101 M102 e100) ok_X9_reads W1745 t0 rfl (by decide) rfl rfl rfl ⟨Nat.le_of_ble_eq_true rfl, Nat.le_of_ble_eq_true rfl⟩ ⟨Nat.zero_le _, Nat.zero_le _⟩ (Nat.le_of_ble_eq_true rfl) dX9_readsCommand_139) (fun H locs hH hL => ?_)
                refine lv_if_eq (tgt := 166) hx hb dX9_readsCommand_142 (by decide) (fun c103 => q_pos c103 ?_) (fun c103 => q_neg c103 ?_)
                · refine lv_iconst (v := 0) hx hb dX9_readsCommand_166 (by decide) ?_
                  exact q_end1 (m_zret X hr hH hL (by decide) dX9_readsCommand_167)
                · refine lv_aload_n hx hb dX9_readsCommand_145 rfl (lv_at hl 0 rfl) ?_
                  refine lv_bipush (v := 32) hx hb dX9_readsCommand_146 (by decide) ?_
                  refine q_b1 (fun v105 M106 e104 => ?_)
                  refine my_doneI hL (my_runV X hH hl.1 (co_X9_reads g l hst a0 32 M102 t0 v105 M106 e104) ok_X9_reads W1745 t0 rfl (by decide) rfl rfl rfl ⟨Nat.le_of_ble_eq_true rfl, Nat.le_of_ble_eq_true rfl⟩ ⟨Nat.zero_le _, Nat.zero_le _⟩ (Nat.le_of_ble_eq_true rfl) dX9_readsCommand_148) (fun H locs hH hL => ?_)
                  refine lv_if_eq (tgt := 166) hx hb dX9_readsCommand_151 (by decide) (fun c107 => q_pos c107 ?_) (fun c107 => q_neg c107 ?_)
                  · refine lv_iconst (v := 0) hx hb dX9_readsCommand_166 (by decide) ?_
                    exact q_end1 (m_zret X hr hH hL (by decide) dX9_readsCommand_167)
                  · refine lv_aload_n hx hb dX9_readsCommand_154 rfl (lv_at hl 0 rfl) ?_
                    refine lv_iconst (v := 0) hx hb dX9_readsCommand_155 (by decide) ?_
                    refine q_b1 (fun v109 M110 e108 => ?_)
                    refine my_doneI hL (my_runV X hH hl.1 (co_X9_readsDigit g l hst a0 0 M106 t0 v109 M110 e108) ok_X9_readsDigit W1753 t0 rfl (by decide) rfl rfl rfl ⟨Nat.le_of_ble_eq_true rfl, Nat.le_of_ble_eq_true rfl⟩ ⟨Nat.zero_le _, Nat.zero_le _⟩ (Nat.le_of_ble_eq_true rfl) dX9_readsCommand_156) (fun H locs hH hL => ?_)
                    refine lv_if_eq (tgt := 166) hx hb dX9_readsCommand_159 (by decide) (fun c111 => q_pos c111 ?_) (fun c111 => q_neg c111 ?_)
                    · refine lv_iconst (v := 0) hx hb dX9_readsCommand_166 (by decide) ?_
                      exact q_end1 (m_zret X hr hH hL (by decide) dX9_readsCommand_167)
                    · refine lv_iconst (v := 1) hx hb dX9_readsCommand_162 (by decide) ?_
                      refine lv_goto (tgt := 167) hx hb dX9_readsCommand_163 (by decide) ?_
                      exact q_end1 (m_zret X hr hH hL (by decide) dX9_readsCommand_167)
        · refine lv_aload_n hx hb dX9_readsCommand_104 rfl (lv_at hl 0 rfl) ?_
          refine q_b1 (fun v113 M114 e112 => ?_)
          refine my_doneI hL (my_runV X hH hl.1 (co_X9_readsMask g l hst a0 M18 t0 v113 M114 e112) ok_X9_readsMask W1761 t0 rfl (by decide) rfl rfl rfl ⟨Nat.le_of_ble_eq_true rfl, Nat.le_of_ble_eq_true rfl⟩ ⟨Nat.zero_le _, Nat.zero_le _⟩ (Nat.le_of_ble_eq_true rfl) dX9_readsCommand_105) (fun H locs hH hL => ?_)
          refine q_chk (fun hn115 => ?_)
          exact q_end1 (m_zret X hr hH hL (nokZ_n hn115) dX9_readsCommand_108)
      · refine lv_aload_n hx hb dX9_readsCommand_90 rfl (lv_at hl 0 rfl) ?_
        refine q_b1 (fun v117 M118 e116 => ?_)
        refine my_doneI hL (my_runV X hH hl.1 (co_X9_readsNote g l hst a0 M14 t0 v117 M118 e116) ok_X9_readsNote W1757 t0 rfl (by decide) rfl rfl rfl ⟨Nat.le_of_ble_eq_true rfl, Nat.le_of_ble_eq_true rfl⟩ ⟨Nat.zero_le _, Nat.zero_le _⟩ (Nat.le_of_ble_eq_true rfl) dX9_readsCommand_91) (fun H locs hH hL => ?_)
        refine q_chk (fun hn119 => ?_)
        exact q_end1 (m_zret X hr hH hL (nokZ_n hn119) dX9_readsCommand_94)
    · refine lv_aload_n hx hb dX9_readsCommand_31 rfl (lv_at hl 0 rfl) ?_
      refine lv_bipush (v := 114) hx hb dX9_readsCommand_32 (by decide) ?_
      refine q_b1 (fun v121 M122 e120 => ?_)
      refine my_doneI hL (my_runV X hH hl.1 (co_X9_reads g l hst a0 114 M10 t0 v121 M122 e120) ok_X9_reads W1745 t0 rfl (by decide) rfl rfl rfl ⟨Nat.le_of_ble_eq_true rfl, Nat.le_of_ble_eq_true rfl⟩ ⟨Nat.zero_le _, Nat.zero_le _⟩ (Nat.le_of_ble_eq_true rfl) dX9_readsCommand_34) (fun H locs hH hL => ?_)
      refine lv_if_eq (tgt := 79) hx hb dX9_readsCommand_37 (by decide) (fun c123 => q_pos c123 ?_) (fun c123 => q_neg c123 ?_)
      · refine lv_iconst (v := 0) hx hb dX9_readsCommand_79 (by decide) ?_
        exact q_end1 (m_zret X hr hH hL (by decide) dX9_readsCommand_80)
      · refine lv_aload_n hx hb dX9_readsCommand_40 rfl (lv_at hl 0 rfl) ?_
        refine lv_bipush (v := 111) hx hb dX9_readsCommand_41 (by decide) ?_
        refine q_b1 (fun v125 M126 e124 => ?_)
        refine my_doneI hL (my_runV X hH hl.1 (co_X9_reads g l hst a0 111 M122 t0 v125 M126 e124) ok_X9_reads W1745 t0 rfl (by decide) rfl rfl rfl ⟨Nat.le_of_ble_eq_true rfl, Nat.le_of_ble_eq_true rfl⟩ ⟨Nat.zero_le _, Nat.zero_le _⟩ (Nat.le_of_ble_eq_true rfl) dX9_readsCommand_43) (fun H locs hH hL => ?_)
        refine lv_if_eq (tgt := 79) hx hb dX9_readsCommand_46 (by decide) (fun c127 => q_pos c127 ?_) (fun c127 => q_neg c127 ?_)
        · refine lv_iconst (v := 0) hx hb dX9_readsCommand_79 (by decide) ?_
          exact q_end1 (m_zret X hr hH hL (by decide) dX9_readsCommand_80)
        · refine lv_aload_n hx hb dX9_readsCommand_49 rfl (lv_at hl 0 rfl) ?_
          refine lv_bipush (v := 112) hx hb dX9_readsCommand_50 (by decide) ?_
          refine q_b1 (fun v129 M130 e128 => ?_)
          refine my_doneI hL (my_runV X hH hl.1 (co_X9_reads g l hst a0 112 M126 t0 v129 M130 e128) ok_X9_reads W1745 t0 rfl (by decide) rfl rfl rfl ⟨Nat.le_of_ble_eq_true rfl, Nat.le_of_ble_eq_true rfl⟩ ⟨Nat.zero_le _, Nat.zero_le _⟩ (Nat.le_of_ble_eq_true rfl) dX9_readsCommand_52) (fun H locs hH hL => ?_)
          refine lv_if_eq (tgt := 79) hx hb dX9_readsCommand_55 (by decide) (fun c131 => q_pos c131 ?_) (fun c131 => q_neg c131 ?_)
          · refine lv_iconst (v := 0) hx hb dX9_readsCommand_79 (by decide) ?_
            exact q_end1 (m_zret X hr hH hL (by decide) dX9_readsCommand_80)
          · refine lv_aload_n hx hb dX9_readsCommand_58 rfl (lv_at hl 0 rfl) ?_
            refine lv_bipush (v := 32) hx hb dX9_readsCommand_59 (by decide) ?_
            refine q_b1 (fun v133 M134 e132 => ?_)
            refine my_doneI hL (my_runV X hH hl.1 (co_X9_reads g l hst a0 32 M130 t0 v133 M134 e132) ok_X9_reads W1745 t0 rfl (by decide) rfl rfl rfl ⟨Nat.le_of_ble_eq_true rfl, Nat.le_of_ble_eq_true rfl⟩ ⟨Nat.zero_le _, Nat.zero_le _⟩ (Nat.le_of_ble_eq_true rfl) dX9_readsCommand_61) (fun H locs hH hL => ?_)
            refine lv_if_eq (tgt := 79) hx hb dX9_readsCommand_64 (by decide) (fun c135 => q_pos c135 ?_) (fun c135 => q_neg c135 ?_)
            · refine lv_iconst (v := 0) hx hb dX9_readsCommand_79 (by decide) ?_
              exact q_end1 (m_zret X hr hH hL (by decide) dX9_readsCommand_80)
            · refine lv_aload_n hx hb dX9_readsCommand_67 rfl (lv_at hl 0 rfl) ?_
              refine lv_iconst (v := 0) hx hb dX9_readsCommand_68 (by decide) ?_
              refine q_b1 (fun v137 M138 e136 => ?_)
              refine my_doneI hL (my_runV X hH hl.1 (co_X9_readsDigit g l hst a0 0 M134 t0 v137 M138 e136) ok_X9_readsDigit W1753 t0 rfl (by decide) rfl rfl rfl ⟨Nat.le_of_ble_eq_true rfl, Nat.le_of_ble_eq_true rfl⟩ ⟨Nat.zero_le _, Nat.zero_le _⟩ (Nat.le_of_ble_eq_true rfl) dX9_readsCommand_69) (fun H locs hH hL => ?_)
              refine lv_if_eq (tgt := 79) hx hb dX9_readsCommand_72 (by decide) (fun c139 => q_pos c139 ?_) (fun c139 => q_neg c139 ?_)
              · refine lv_iconst (v := 0) hx hb dX9_readsCommand_79 (by decide) ?_
                exact q_end1 (m_zret X hr hH hL (by decide) dX9_readsCommand_80)
              · refine lv_iconst (v := 1) hx hb dX9_readsCommand_75 (by decide) ?_
                refine lv_goto (tgt := 80) hx hb dX9_readsCommand_76 (by decide) ?_
                exact q_end1 (m_zret X hr hH hL (by decide) dX9_readsCommand_80)
  · refine lv_aload_n hx hb dX9_readsCommand_17 rfl (lv_at hl 0 rfl) ?_
    refine q_b1 (fun v141 M142 e140 => ?_)
    refine my_doneI hL (my_runV X hH hl.1 (co_X9_readsAdd g l hst a0 M6 t0 v141 M142 e140) ok_X9_readsAdd W1749 t0 rfl (by decide) rfl rfl rfl ⟨Nat.le_of_ble_eq_true rfl, Nat.le_of_ble_eq_true rfl⟩ ⟨Nat.zero_le _, Nat.zero_le _⟩ (Nat.le_of_ble_eq_true rfl) dX9_readsCommand_18) (fun H locs hH hL => ?_)
    refine q_chk (fun hn143 => ?_)
    exact q_end1 (m_zret X hr hH hL (nokZ_n hn143) dX9_readsCommand_21)

