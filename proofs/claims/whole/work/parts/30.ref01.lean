set_option maxRecDepth 20000 in
set_option maxHeartbeats 4000000 in
theorem co_X9_thrown (g : GP) (l : Launch) (hst : l.stackTraces = false) (a0 : Nat) (M : Mem) (t0 : tyT a0 = 9) (v : Int32) (hF : F_X9_thrown a0 M = some v) : CO g l yX9_thrown cX9_thrown 1 (some .int) 0 0 rvI [.ref (adr g a0)] M (.inl v : Int32 ⊕ String) M := by
  refine CO_of hst (by decide) (Nat.le_of_ble_eq_true rfl) ?_
  intro p e s m below meth c ls X hr htb hH hL hl
  have hx := X.1
  have hb := X.2.1
  have hts := X.2.2.2.2.1
  refine q_out hF ?_
  rw [F_X9_thrown]
  replace hl : lv_has ls 1 [(0, .ref (adr g a0))] := hl
  refine lv_aload_n hx hb dX9_thrown_0 rfl (lv_at hl 0 rfl) ?_
  refine m_gI (k := 0) X hH inC9 t0 rfl W1284 dX9_thrown_1 ?_
  exact q_end0 (m_iret X hr hH hL dX9_thrown_4)

set_option maxRecDepth 20000 in
set_option maxHeartbeats 4000000 in
theorem co_X9_fails (g : GP) (l : Launch) (hst : l.stackTraces = false) (a0 : Nat) (p1_ : Int32) (M : Mem) (t0 : tyT a0 = 9) (v : Int32) (M' : Mem) (hF : F_X9_fails a0 p1_ M = some (v, M')) : CO g l yX9_fails cX9_fails 2 (some .int) 0 0 rvI [.ref (adr g a0), .int p1_] M (.inl v : Int32 ⊕ String) M' := by
  refine CO_of hst (by decide) (Nat.le_of_ble_eq_true rfl) ?_
  intro p e s m below meth c ls X hr htb hH hL hl
  have hx := X.1
  have hb := X.2.1
  have hts := X.2.2.2.2.1
  refine q_out hF ?_
  rw [F_X9_fails]
  replace hl : lv_has ls 2 [(0, .ref (adr g a0)), (1, .int p1_)] := hl
  refine lv_aload_n hx hb dX9_fails_0 rfl (lv_at hl 0 rfl) ?_
  refine lv_iload_n hx hb dX9_fails_1 rfl (lv_at hl 1 rfl) ?_
  refine q_lt (fun M1 e_M1 => ?_)
  refine m_pI (k := 0) X hH hL okC9 t0 rfl rfl rfl rfl W1284 dX9_fails_2 e_M1 (fun H locs hH hL => ?_)
  refine lv_iconst (v := 0) hx hb dX9_fails_5 (by decide) ?_
  exact q_end1 (m_iret X hr hH hL dX9_fails_6)

set_option maxRecDepth 20000 in
set_option maxHeartbeats 4000000 in
theorem co_X9_isBetween (g : GP) (l : Launch) (hst : l.stackTraces = false) (p1_ : Int32) (p2_ : Int32) (p3_ : Int32) (M : Mem)  (v : Int32) (hF : F_X9_isBetween p1_ p2_ p3_ = some v) : CO g l yX9_isBetween cX9_isBetween 3 (some .boolean) 0 0 rvI [.int p1_, .int p2_, .int p3_] M (.inl v : Int32 ⊕ String) M := by
  refine CO_of hst (by decide) (Nat.le_of_ble_eq_true rfl) ?_
  intro p e s m below meth c ls X hr htb hH hL hl
  have hx := X.1
  have hb := X.2.1
  have hts := X.2.2.2.2.1
  refine q_out hF ?_
  rw [F_X9_isBetween]
  replace hl : lv_has ls 3 [(0, .int p1_), (1, .int p2_), (2, .int p3_)] := hl
  refine lv_iload_n hx hb dX9_isBetween_0 rfl (lv_at hl 1 rfl) ?_
  refine lv_iload_n hx hb dX9_isBetween_1 rfl (lv_at hl 0 rfl) ?_
  refine lv_icmp_gt (tgt := 14) hx hb dX9_isBetween_2 (by decide) (fun c1 => q_pos c1 ?_) (fun c1 => q_neg c1 ?_)
  · refine lv_iconst (v := 0) hx hb dX9_isBetween_14 (by decide) ?_
    exact q_end0 (m_zret X hr hH hL (by decide) dX9_isBetween_15)
  · refine lv_iload_n hx hb dX9_isBetween_5 rfl (lv_at hl 0 rfl) ?_
    refine lv_iload_n hx hb dX9_isBetween_6 rfl (lv_at hl 2 rfl) ?_
    refine lv_icmp_gt (tgt := 14) hx hb dX9_isBetween_7 (by decide) (fun c2 => q_pos c2 ?_) (fun c2 => q_neg c2 ?_)
    · refine lv_iconst (v := 0) hx hb dX9_isBetween_14 (by decide) ?_
      exact q_end0 (m_zret X hr hH hL (by decide) dX9_isBetween_15)
    · refine lv_iconst (v := 1) hx hb dX9_isBetween_10 (by decide) ?_
      refine lv_goto (tgt := 15) hx hb dX9_isBetween_11 (by decide) ?_
      exact q_end0 (m_zret X hr hH hL (by decide) dX9_isBetween_15)

set_option maxRecDepth 20000 in
set_option maxHeartbeats 4000000 in
theorem co_X9_copies (g : GP) (l : Launch) (hst : l.stackTraces = false) (a0 : Nat) (M : Mem) (t0 : tyT a0 = 9) (v : Unit) (M' : Mem) (hF : F_X9_copies a0 M = some (v, M')) : CO g l yX9_copies cX9_copies 2 none 0 0 rvU [.ref (adr g a0)] M (.inl v : Unit ⊕ String) M' := by
  refine CO_of hst (by decide) (Nat.le_of_ble_eq_true rfl) ?_
  intro p e s m below meth c ls X hr htb hH hL hl
  have hx := X.1
  have hb := X.2.1
  have hts := X.2.2.2.2.1
  refine q_out hF ?_
  rw [F_X9_copies]
  replace hl : lv_has ls 2 [(0, .ref (adr g a0))] := hl
  refine lv_iconst (v := 0) hx hb dX9_copies_0 (by decide) ?_
  refine lv_istore_n (lv' := [(1, .int 0), (0, .ref (adr g a0))]) hx hb dX9_copies_1 rfl hl (by decide) rfl (fun ls hl => ?_)
  have L11 : ∀ (K : Int32 → Mem → Option (Unit × Mem)) (_ : ∀ (i1 : Int32) (M2 : Mem) (H : Heap) (locs : List Loc) (ls : Array Slot), HR g M2 H → LK g s H locs → lv_has ls 2 [(0, .ref (adr g a0)), (1, .int i1)] → W p l e (rmO (.inl v : Unit ⊕ String) 0 0) s m ([.ref (adr g a0)] : List Value).toArray below meth c H locs 0 0 (GQ (K i1 M2) (v, M') (MQO g below rvU (.inl v : Unit ⊕ String) M' ([.ref (adr g a0)] : List Value).toArray s)) (F0 m 27 ls [])) (n : Nat) (i1 : Int32) (M2 : Mem) (H : Heap) (locs : List Loc) (ls : Array Slot), HR g M2 H → LK g s H locs → lv_has ls 2 [(0, .ref (adr g a0)), (1, .int i1)] → W p l e (rmO (.inl v : Unit ⊕ String) 0 0) s m ([.ref (adr g a0)] : List Value).toArray below meth c H locs 0 0 (GQ (F_X9_copies_L1 a0 K n i1 M2) (v, M') (MQO g below rvU (.inl v : Unit ⊕ String) M' ([.ref (adr g a0)] : List Value).toArray s)) (F0 m 2 ls []) := by
    intro K hK n
    induction n with
    | zero => intros; exact q_none
    | succ n ih =>
      intro i1 M2 H locs ls hH hL hl 
      rw [F_X9_copies_L1]
      refine lv_iload_n hx hb dX9_copies_2 rfl (lv_at hl 1 rfl) ?_
      refine lv_sipush (v := 260) hx hb dX9_copies_3 (by decide) ?_
      refine lv_icmp_ge (tgt := 27) hx hb dX9_copies_6 (by decide) (fun c4 => q_pos c4 ?_) (fun c4 => q_neg c4 ?_)
      · exact hK i1 M2 _ _ ls hH hL hl 
      · refine lv_aload_n hx hb dX9_copies_9 rfl (lv_at hl 0 rfl) ?_
        refine m_gR (k := 4) X hH inC9 t0 rfl W1288 dX9_copies_10 24 rfl (fun t5 => ?_)
        refine lv_iload_n hx hb dX9_copies_13 rfl (lv_at hl 1 rfl) ?_
        refine lv_aload_n hx hb dX9_copies_14 rfl (lv_at hl 0 rfl) ?_
        refine m_gR (k := 1) X hH inC9 t0 rfl W1285 dX9_copies_15 24 rfl (fun t6 => ?_)
        refine lv_iload_n hx hb dX9_copies_18 rfl (lv_at hl 1 rfl) ?_
        refine q_chk (fun hb7 => ?_)
        refine m_iald X hH t6 rfl (by decide) (fun _ => rfl) rfl rfl hb7 dX9_copies_19 ?_
        refine q_chk (fun hb8 => ?_)
        refine q_lt (fun M9 e_M9 => ?_)
        refine m_is X hH hL t5 rfl (by decide) (fun _ => rfl) rfl rfl hb8 dX9_copies_20 e_M9 (fun H locs hH hL => ?_)
        refine q_lt (fun v10 e_v10 => ?_)
        refine lv_iinc (v := v10) (lv' := [(1, .int v10), (0, .ref (adr g a0))]) hx hb dX9_copies_21 hl (k := 1) rfl (by rw [e_v10]; rfl) (by decide) rfl (fun ls hl => ?_)
        refine lv_goto (tgt := 2) hx hb dX9_copies_24 (by decide) ?_
        exact ih v10 M9 _ _ ls hH hL (lv_sub hl [1, 0] rfl) 
  refine L11 _ (fun x12 M13 H locs ls hH hL hl  => ?_) 3000 0 M _ _ ls hH hL (lv_sub hl [1, 0] rfl) 
  exact q_end1 (m_vret X hr hH hL dX9_copies_27)

set_option maxRecDepth 20000 in
set_option maxHeartbeats 4000000 in
theorem co_X9_goesBack (g : GP) (l : Launch) (hst : l.stackTraces = false) (a0 : Nat) (M : Mem) (t0 : tyT a0 = 9) (v : Unit) (M' : Mem) (hF : F_X9_goesBack a0 M = some (v, M')) : CO g l yX9_goesBack cX9_goesBack 2 none 0 0 rvU [.ref (adr g a0)] M (.inl v : Unit ⊕ String) M' := by
  refine CO_of hst (by decide) (Nat.le_of_ble_eq_true rfl) ?_
  intro p e s m below meth c ls X hr htb hH hL hl
  have hx := X.1
  have hb := X.2.1
  have hts := X.2.2.2.2.1
  refine q_out hF ?_
  rw [F_X9_goesBack]
  replace hl : lv_has ls 2 [(0, .ref (adr g a0))] := hl
  refine lv_iconst (v := 0) hx hb dX9_goesBack_0 (by decide) ?_
  refine lv_istore_n (lv' := [(1, .int 0), (0, .ref (adr g a0))]) hx hb dX9_goesBack_1 rfl hl (by decide) rfl (fun ls hl => ?_)
  have L11 : ∀ (K : Int32 → Mem → Option (Unit × Mem)) (_ : ∀ (i1 : Int32) (M2 : Mem) (H : Heap) (locs : List Loc) (ls : Array Slot), HR g M2 H → LK g s H locs → lv_has ls 2 [(0, .ref (adr g a0)), (1, .int i1)] → W p l e (rmO (.inl v : Unit ⊕ String) 0 0) s m ([.ref (adr g a0)] : List Value).toArray below meth c H locs 0 0 (GQ (K i1 M2) (v, M') (MQO g below rvU (.inl v : Unit ⊕ String) M' ([.ref (adr g a0)] : List Value).toArray s)) (F0 m 27 ls [])) (n : Nat) (i1 : Int32) (M2 : Mem) (H : Heap) (locs : List Loc) (ls : Array Slot), HR g M2 H → LK g s H locs → lv_has ls 2 [(0, .ref (adr g a0)), (1, .int i1)] → W p l e (rmO (.inl v : Unit ⊕ String) 0 0) s m ([.ref (adr g a0)] : List Value).toArray below meth c H locs 0 0 (GQ (F_X9_goesBack_L1 a0 K n i1 M2) (v, M') (MQO g below rvU (.inl v : Unit ⊕ String) M' ([.ref (adr g a0)] : List Value).toArray s)) (F0 m 2 ls []) := by
    intro K hK n
    induction n with
    | zero => intros; exact q_none
    | succ n ih =>
      intro i1 M2 H locs ls hH hL hl 
      rw [F_X9_goesBack_L1]
      refine lv_iload_n hx hb dX9_goesBack_2 rfl (lv_at hl 1 rfl) ?_
      refine lv_sipush (v := 260) hx hb dX9_goesBack_3 (by decide) ?_
      refine lv_icmp_ge (tgt := 27) hx hb dX9_goesBack_6 (by decide) (fun c4 => q_pos c4 ?_) (fun c4 => q_neg c4 ?_)
      · exact hK i1 M2 _ _ ls hH hL hl 
      · refine lv_aload_n hx hb dX9_goesBack_9 rfl (lv_at hl 0 rfl) ?_
        refine m_gR (k := 1) X hH inC9 t0 rfl W1285 dX9_goesBack_10 24 rfl (fun t5 => ?_)
        refine lv_iload_n hx hb dX9_goesBack_13 rfl (lv_at hl 1 rfl) ?_
        refine lv_aload_n hx hb dX9_goesBack_14 rfl (lv_at hl 0 rfl) ?_
        refine m_gR (k := 4) X hH inC9 t0 rfl W1288 dX9_goesBack_15 24 rfl (fun t6 => ?_)
        refine lv_iload_n hx hb dX9_goesBack_18 rfl (lv_at hl 1 rfl) ?_
        refine q_chk (fun hb7 => ?_)
        refine m_iald X hH t6 rfl (by decide) (fun _ => rfl) rfl rfl hb7 dX9_goesBack_19 ?_
        refine q_chk (fun hb8 => ?_)
        refine q_lt (fun M9 e_M9 => ?_)
        refine m_is X hH hL t5 rfl (by decide) (fun _ => rfl) rfl rfl hb8 dX9_goesBack_20 e_M9 (fun H locs hH hL => ?_)
        refine q_lt (fun v10 e_v10 => ?_)
        refine lv_iinc (v := v10) (lv' := [(1, .int v10), (0, .ref (adr g a0))]) hx hb dX9_goesBack_21 hl (k := 1) rfl (by rw [e_v10]; rfl) (by decide) rfl (fun ls hl => ?_)
        refine lv_goto (tgt := 2) hx hb dX9_goesBack_24 (by decide) ?_
        exact ih v10 M9 _ _ ls hH hL (lv_sub hl [1, 0] rfl) 
  refine L11 _ (fun x12 M13 H locs ls hH hL hl  => ?_) 3000 0 M _ _ ls hH hL (lv_sub hl [1, 0] rfl) 
  exact q_end1 (m_vret X hr hH hL dX9_goesBack_27)

set_option maxRecDepth 20000 in
set_option maxHeartbeats 4000000 in
theorem co_X9_keeps (g : GP) (l : Launch) (hst : l.stackTraces = false) (a0 : Nat) (M : Mem) (t0 : tyT a0 = 9) (v : Unit) (M' : Mem) (hF : F_X9_keeps a0 M = some (v, M')) : CO g l yX9_keeps cX9_keeps 3 none 0 0 rvU [.ref (adr g a0)] M (.inl v : Unit ⊕ String) M' := by
  refine CO_of hst (by decide) (Nat.le_of_ble_eq_true rfl) ?_
  intro p e s m below meth c ls X hr htb hH hL hl
  have hx := X.1
  have hb := X.2.1
  have hts := X.2.2.2.2.1
  refine q_out hF ?_
  rw [F_X9_keeps]
  replace hl : lv_has ls 3 [(0, .ref (adr g a0))] := hl
  refine lv_aload_n hx hb dX9_keeps_0 rfl (lv_at hl 0 rfl) ?_
  refine m_gI (k := 6) X hH inC9 t0 rfl W1290 dX9_keeps_1 ?_
  refine lv_bipush (v := 8) hx hb dX9_keeps_4 (by decide) ?_
  refine lv_icmp_ne (tgt := 32) hx hb dX9_keeps_6 (by decide) (fun c1 => q_neg c1 ?_) (fun c1 => q_pos c1 ?_)
  · refine lv_aload_n hx hb dX9_keeps_32 rfl (lv_at hl 0 rfl) ?_
    refine m_gI (k := 7) X hH inC9 t0 rfl W1291 dX9_keeps_33 ?_
    refine lv_aload_n hx hb dX9_keeps_36 rfl (lv_at hl 0 rfl) ?_
    refine m_gI (k := 6) X hH inC9 t0 rfl W1290 dX9_keeps_37 ?_
    refine lv_iadd hx hb dX9_keeps_40 ?_
    refine lv_bipush (v := 8) hx hb dX9_keeps_41 (by decide) ?_
    refine lv_irem hx hb dX9_keeps_43 (by decide) ?_
    refine q_lt (fun v2 e_v2 => ?_)
    refine q_topI e_v2 ?_
    refine lv_istore_n (lv' := [(1, .int v2), (0, .ref (adr g a0))]) hx hb dX9_keeps_44 rfl hl (by decide) rfl (fun ls hl => ?_)
    refine lv_iconst (v := 0) hx hb dX9_keeps_45 (by decide) ?_
    refine lv_istore_n (lv' := [(2, .int 0), (1, .int v2), (0, .ref (adr g a0))]) hx hb dX9_keeps_46 rfl hl (by decide) rfl (fun ls hl => ?_)
    have L13 : ∀ (K : Int32 → Mem → Option (Unit × Mem)) (_ : ∀ (i3 : Int32) (M4 : Mem) (H : Heap) (locs : List Loc) (ls : Array Slot), HR g M4 H → LK g s H locs → lv_has ls 3 [(0, .ref (adr g a0)), (1, .int v2), (2, .int i3)] → W p l e (rmO (.inl v : Unit ⊕ String) 0 0) s m ([.ref (adr g a0)] : List Value).toArray below meth c H locs 0 0 (GQ (K i3 M4) (v, M') (MQO g below rvU (.inl v : Unit ⊕ String) M' ([.ref (adr g a0)] : List Value).toArray s)) (F0 m 78 ls [])) (n : Nat) (i3 : Int32) (M4 : Mem) (H : Heap) (locs : List Loc) (ls : Array Slot), HR g M4 H → LK g s H locs → lv_has ls 3 [(0, .ref (adr g a0)), (1, .int v2), (2, .int i3)] → W p l e (rmO (.inl v : Unit ⊕ String) 0 0) s m ([.ref (adr g a0)] : List Value).toArray below meth c H locs 0 0 (GQ (F_X9_keeps_L1 a0 v2 K n i3 M4) (v, M') (MQO g below rvU (.inl v : Unit ⊕ String) M' ([.ref (adr g a0)] : List Value).toArray s)) (F0 m 47 ls []) := by
      intro K hK n
      induction n with
      | zero => intros; exact q_none
      | succ n ih =>
        intro i3 M4 H locs ls hH hL hl 
        rw [F_X9_keeps_L1]
        refine lv_iload_n hx hb dX9_keeps_47 rfl (lv_at hl 2 rfl) ?_
        refine lv_sipush (v := 260) hx hb dX9_keeps_48 (by decide) ?_
        refine lv_icmp_ge (tgt := 78) hx hb dX9_keeps_51 (by decide) (fun c6 => q_pos c6 ?_) (fun c6 => q_neg c6 ?_)
        · exact hK i3 M4 _ _ ls hH hL hl 
        · refine lv_aload_n hx hb dX9_keeps_54 rfl (lv_at hl 0 rfl) ?_
          refine m_gR (k := 2) X hH inC9 t0 rfl W1286 dX9_keeps_55 25 rfl (fun t7 => ?_)
          refine lv_sipush (v := 260) hx hb dX9_keeps_58 (by decide) ?_
          refine lv_iload_n hx hb dX9_keeps_61 rfl (lv_at hl 1 rfl) ?_
          refine lv_imul hx hb dX9_keeps_62 ?_
          refine lv_iload_n hx hb dX9_keeps_63 rfl (lv_at hl 2 rfl) ?_
          refine lv_iadd hx hb dX9_keeps_64 ?_
          refine lv_aload_n hx hb dX9_keeps_65 rfl (lv_at hl 0 rfl) ?_
          refine m_gR (k := 4) X hH inC9 t0 rfl W1288 dX9_keeps_66 24 rfl (fun t8 => ?_)
          refine lv_iload_n hx hb dX9_keeps_69 rfl (lv_at hl 2 rfl) ?_
          refine q_chk (fun hb9 => ?_)
          refine m_iald X hH t8 rfl (by decide) (fun _ => rfl) rfl rfl hb9 dX9_keeps_70 ?_
          refine q_chk (fun hb10 => ?_)
          refine q_lt (fun M11 e_M11 => ?_)
          refine m_is X hH hL t7 rfl (by decide) (fun _ => rfl) rfl rfl hb10 dX9_keeps_71 e_M11 (fun H locs hH hL => ?_)
          refine q_lt (fun v12 e_v12 => ?_)
          refine lv_iinc (v := v12) (lv' := [(2, .int v12), (0, .ref (adr g a0)), (1, .int v2)]) hx hb dX9_keeps_72 hl (k := 2) rfl (by rw [e_v12]; rfl) (by decide) rfl (fun ls hl => ?_)
          refine lv_goto (tgt := 47) hx hb dX9_keeps_75 (by decide) ?_
          exact ih v12 M11 _ _ ls hH hL (lv_sub hl [1, 2, 0] rfl) 
    refine L13 _ (fun x14 M15 H locs ls hH hL hl  => ?_) 3000 0 M _ _ ls hH hL (lv_sub hl [2, 1, 0] rfl) 
    refine lv_aload_n hx hb dX9_keeps_78 rfl (lv_at hl 0 rfl) ?_
    refine lv_dup hx hb dX9_keeps_79 rfl ?_
    refine m_gI (k := 6) X hH inC9 t0 rfl W1290 dX9_keeps_80 ?_
    refine lv_iconst (v := 1) hx hb dX9_keeps_83 (by decide) ?_
    refine lv_iadd hx hb dX9_keeps_84 ?_
    refine q_lt (fun M16 e_M16 => ?_)
    refine m_pI (k := 6) X hH hL okC9 t0 rfl rfl rfl rfl W1290 dX9_keeps_85 e_M16 (fun H locs hH hL => ?_)
    exact q_end1 (m_vret X hr hH hL dX9_keeps_88)
  · refine lv_aload_n hx hb dX9_keeps_9 rfl (lv_at hl 0 rfl) ?_
    refine lv_aload_n hx hb dX9_keeps_10 rfl (lv_at hl 0 rfl) ?_
    refine m_gI (k := 7) X hH inC9 t0 rfl W1291 dX9_keeps_11 ?_
    refine lv_iconst (v := 1) hx hb dX9_keeps_14 (by decide) ?_
    refine lv_iadd hx hb dX9_keeps_15 ?_
    refine lv_bipush (v := 8) hx hb dX9_keeps_16 (by decide) ?_
    refine lv_irem hx hb dX9_keeps_18 (by decide) ?_
    refine q_lt (fun M17 e_M17 => ?_)
    refine m_pI (k := 7) X hH hL okC9 t0 rfl rfl rfl rfl W1291 dX9_keeps_19 e_M17 (fun H locs hH hL => ?_)
    refine lv_aload_n hx hb dX9_keeps_22 rfl (lv_at hl 0 rfl) ?_
    refine lv_dup hx hb dX9_keeps_23 rfl ?_
    refine m_gI (k := 6) X hH inC9 t0 rfl W1290 dX9_keeps_24 ?_
    refine lv_iconst (v := 1) hx hb dX9_keeps_27 (by decide) ?_
    refine lv_isub hx hb dX9_keeps_28 ?_
    refine q_lt (fun M18 e_M18 => ?_)
    refine m_pI (k := 6) X hH hL okC9 t0 rfl rfl rfl rfl W1290 dX9_keeps_29 e_M18 (fun H locs hH hL => ?_)
    refine lv_aload_n hx hb dX9_keeps_32 rfl (lv_at hl 0 rfl) ?_
    refine m_gI (k := 7) X hH inC9 t0 rfl W1291 dX9_keeps_33 ?_
    refine lv_aload_n hx hb dX9_keeps_36 rfl (lv_at hl 0 rfl) ?_
    refine m_gI (k := 6) X hH inC9 t0 rfl W1290 dX9_keeps_37 ?_
    refine lv_iadd hx hb dX9_keeps_40 ?_
    refine lv_bipush (v := 8) hx hb dX9_keeps_41 (by decide) ?_
    refine lv_irem hx hb dX9_keeps_43 (by decide) ?_
    refine q_lt (fun v19 e_v19 => ?_)
    refine q_topI e_v19 ?_
    refine lv_istore_n (lv' := [(1, .int v19), (0, .ref (adr g a0))]) hx hb dX9_keeps_44 rfl hl (by decide) rfl (fun ls hl => ?_)
    refine lv_iconst (v := 0) hx hb dX9_keeps_45 (by decide) ?_
    refine lv_istore_n (lv' := [(2, .int 0), (1, .int v19), (0, .ref (adr g a0))]) hx hb dX9_keeps_46 rfl hl (by decide) rfl (fun ls hl => ?_)
    have L30 : ∀ (K : Int32 → Mem → Option (Unit × Mem)) (_ : ∀ (i20 : Int32) (M21 : Mem) (H : Heap) (locs : List Loc) (ls : Array Slot), HR g M21 H → LK g s H locs → lv_has ls 3 [(0, .ref (adr g a0)), (1, .int v19), (2, .int i20)] → W p l e (rmO (.inl v : Unit ⊕ String) 0 0) s m ([.ref (adr g a0)] : List Value).toArray below meth c H locs 0 0 (GQ (K i20 M21) (v, M') (MQO g below rvU (.inl v : Unit ⊕ String) M' ([.ref (adr g a0)] : List Value).toArray s)) (F0 m 78 ls [])) (n : Nat) (i20 : Int32) (M21 : Mem) (H : Heap) (locs : List Loc) (ls : Array Slot), HR g M21 H → LK g s H locs → lv_has ls 3 [(0, .ref (adr g a0)), (1, .int v19), (2, .int i20)] → W p l e (rmO (.inl v : Unit ⊕ String) 0 0) s m ([.ref (adr g a0)] : List Value).toArray below meth c H locs 0 0 (GQ (F_X9_keeps_L2 a0 v19 K n i20 M21) (v, M') (MQO g below rvU (.inl v : Unit ⊕ String) M' ([.ref (adr g a0)] : List Value).toArray s)) (F0 m 47 ls []) := by
      intro K hK n
      induction n with
      | zero => intros; exact q_none
      | succ n ih =>
        intro i20 M21 H locs ls hH hL hl 
        rw [F_X9_keeps_L2]
        refine lv_iload_n hx hb dX9_keeps_47 rfl (lv_at hl 2 rfl) ?_
        refine lv_sipush (v := 260) hx hb dX9_keeps_48 (by decide) ?_
        refine lv_icmp_ge (tgt := 78) hx hb dX9_keeps_51 (by decide) (fun c23 => q_pos c23 ?_) (fun c23 => q_neg c23 ?_)
        · exact hK i20 M21 _ _ ls hH hL hl 
        · refine lv_aload_n hx hb dX9_keeps_54 rfl (lv_at hl 0 rfl) ?_
          refine m_gR (k := 2) X hH inC9 t0 rfl W1286 dX9_keeps_55 25 rfl (fun t24 => ?_)
          refine lv_sipush (v := 260) hx hb dX9_keeps_58 (by decide) ?_
          refine lv_iload_n hx hb dX9_keeps_61 rfl (lv_at hl 1 rfl) ?_
          refine lv_imul hx hb dX9_keeps_62 ?_
          refine lv_iload_n hx hb dX9_keeps_63 rfl (lv_at hl 2 rfl) ?_
          refine lv_iadd hx hb dX9_keeps_64 ?_
          refine lv_aload_n hx hb dX9_keeps_65 rfl (lv_at hl 0 rfl) ?_
          refine m_gR (k := 4) X hH inC9 t0 rfl W1288 dX9_keeps_66 24 rfl (fun t25 => ?_)
          refine lv_iload_n hx hb dX9_keeps_69 rfl (lv_at hl 2 rfl) ?_
          refine q_chk (fun hb26 => ?_)
          refine m_iald X hH t25 rfl (by decide) (fun _ => rfl) rfl rfl hb26 dX9_keeps_70 ?_
          refine q_chk (fun hb27 => ?_)
          refine q_lt (fun M28 e_M28 => ?_)
          refine m_is X hH hL t24 rfl (by decide) (fun _ => rfl) rfl rfl hb27 dX9_keeps_71 e_M28 (fun H locs hH hL => ?_)
          refine q_lt (fun v29 e_v29 => ?_)
          refine lv_iinc (v := v29) (lv' := [(2, .int v29), (0, .ref (adr g a0)), (1, .int v19)]) hx hb dX9_keeps_72 hl (k := 2) rfl (by rw [e_v29]; rfl) (by decide) rfl (fun ls hl => ?_)
          refine lv_goto (tgt := 47) hx hb dX9_keeps_75 (by decide) ?_
          exact ih v29 M28 _ _ ls hH hL (lv_sub hl [1, 2, 0] rfl) 
    refine L30 _ (fun x31 M32 H locs ls hH hL hl  => ?_) 3000 0 M18 _ _ ls hH hL (lv_sub hl [2, 1, 0] rfl) 
    refine lv_aload_n hx hb dX9_keeps_78 rfl (lv_at hl 0 rfl) ?_
    refine lv_dup hx hb dX9_keeps_79 rfl ?_
    refine m_gI (k := 6) X hH inC9 t0 rfl W1290 dX9_keeps_80 ?_
    refine lv_iconst (v := 1) hx hb dX9_keeps_83 (by decide) ?_
    refine lv_iadd hx hb dX9_keeps_84 ?_
    refine q_lt (fun M33 e_M33 => ?_)
    refine m_pI (k := 6) X hH hL okC9 t0 rfl rfl rfl rfl W1290 dX9_keeps_85 e_M33 (fun H locs hH hL => ?_)
    exact q_end1 (m_vret X hr hH hL dX9_keeps_88)

set_option maxRecDepth 20000 in
set_option maxHeartbeats 4000000 in
theorem co_X9_remembers (g : GP) (l : Launch) (hst : l.stackTraces = false) (a0 : Nat) (M : Mem) (t0 : tyT a0 = 9) (v : Unit) (M' : Mem) (hF : F_X9_remembers a0 M = some (v, M')) : CO g l yX9_remembers cX9_remembers 1 none 1 22 rvU [.ref (adr g a0)] M (.inl v : Unit ⊕ String) M' := by
  refine CO_of hst (by decide) (Nat.le_of_ble_eq_true rfl) ?_
  intro p e s m below meth c ls X hr htb hH hL hl
  have hx := X.1
  have hb := X.2.1
  have hts := X.2.2.2.2.1
  refine q_out hF ?_
  rw [F_X9_remembers]
  replace hl : lv_has ls 1 [(0, .ref (adr g a0))] := hl
  refine lv_aload_n hx hb dX9_remembers_0 rfl (lv_at hl 0 rfl) ?_
  refine q_b1 (fun u2 M3 e1 => ?_)
  refine my_doneU hL (my_runV X hH hl.1 (co_X9_copies g l hst a0 M t0 u2 M3 e1) ok_X9_copies W1364 t0 rfl (by decide) rfl rfl rfl ⟨Nat.le_of_ble_eq_true rfl, Nat.le_of_ble_eq_true rfl⟩ ⟨Nat.zero_le _, Nat.zero_le _⟩ (Nat.le_of_ble_eq_true rfl) dX9_remembers_1) (fun H locs hH hL => ?_)
  refine lv_aload_n hx hb dX9_remembers_4 rfl (lv_at hl 0 rfl) ?_
  refine q_b1 (fun u5 M6 e4 => ?_)
  refine my_doneU hL (my_runV X hH hl.1 (co_X9_keeps g l hst a0 M3 t0 u5 M6 e4) ok_X9_keeps W1368 t0 rfl (by decide) rfl rfl rfl ⟨Nat.le_of_ble_eq_true rfl, Nat.le_of_ble_eq_true rfl⟩ ⟨Nat.zero_le _, Nat.zero_le _⟩ (Nat.le_of_ble_eq_true rfl) dX9_remembers_5) (fun H locs hH hL => ?_)
  exact q_end1 (m_vret X hr hH hL dX9_remembers_8)

set_option maxRecDepth 20000 in
set_option maxHeartbeats 4000000 in
theorem co_X9_isSection (g : GP) (l : Launch) (hst : l.stackTraces = false) (a0 : Nat) (p1_ : Int32) (M : Mem) (t0 : tyT a0 = 9) (v : Int32) (hF : F_X9_isSection a0 p1_ M = some v) : CO g l yX9_isSection cX9_isSection 2 (some .boolean) 1 22 rvI [.ref (adr g a0), .int p1_] M (.inl v : Int32 ⊕ String) M := by
  refine CO_of hst (by decide) (Nat.le_of_ble_eq_true rfl) ?_
  intro p e s m below meth c ls X hr htb hH hL hl
  have hx := X.1
  have hb := X.2.1
  have hts := X.2.2.2.2.1
  refine q_out hF ?_
  rw [F_X9_isSection]
  replace hl : lv_has ls 2 [(0, .ref (adr g a0)), (1, .int p1_)] := hl
  refine lv_iload_n hx hb dX9_isSection_0 rfl (lv_at hl 1 rfl) ?_
  refine lv_iconst (v := 0) hx hb dX9_isSection_1 (by decide) ?_
  refine lv_aload_n hx hb dX9_isSection_2 rfl (lv_at hl 0 rfl) ?_
  refine m_gR (k := 1) X hH inC9 t0 rfl W1285 dX9_isSection_3 24 rfl (fun t1 => ?_)
  refine lv_iconst (v := 0) hx hb dX9_isSection_6 (by decide) ?_
  refine q_chk (fun hb2 => ?_)
  refine m_iald X hH t1 rfl (by decide) (fun _ => rfl) rfl rfl hb2 dX9_isSection_7 ?_
  refine lv_iconst (v := 1) hx hb dX9_isSection_8 (by decide) ?_
  refine lv_isub hx hb dX9_isSection_9 ?_
  refine q_bind (fun v4 e3 => ?_)
  refine my_doneI hL (my_runS X hH hl.1 (co_X9_isBetween g l hst p1_ 0 ((mI M (mR M a0 1) 0) - 1) M v4 e3) ok_X9_isBetween W1353 rfl rfl ⟨Nat.le_of_ble_eq_true rfl, Nat.le_of_ble_eq_true rfl⟩ ⟨Nat.zero_le _, Nat.zero_le _⟩ (Nat.le_of_ble_eq_true rfl) dX9_isSection_10) (fun H locs hH hL => ?_)
  refine q_chk (fun hn5 => ?_)
  exact q_end0 (m_zret X hr hH hL (nokZ_n hn5) dX9_isSection_13)

set_option maxRecDepth 20000 in
set_option maxHeartbeats 4000000 in
theorem co_X9_of (g : GP) (l : Launch) (hst : l.stackTraces = false) (a0 : Nat) (p1_ : Int32) (p2_ : Int32) (M : Mem) (t0 : tyT a0 = 9) (v : Int32) (hF : F_X9_of a0 p1_ p2_ M = some v) : CO g l yX9_of cX9_of 3 (some .int) 0 0 rvI [.ref (adr g a0), .int p1_, .int p2_] M (.inl v : Int32 ⊕ String) M := by
  refine CO_of hst (by decide) (Nat.le_of_ble_eq_true rfl) ?_
  intro p e s m below meth c ls X hr htb hH hL hl
  have hx := X.1
  have hb := X.2.1
  have hts := X.2.2.2.2.1
  refine q_out hF ?_
  rw [F_X9_of]
  replace hl : lv_has ls 3 [(0, .ref (adr g a0)), (1, .int p1_), (2, .int p2_)] := hl
  refine lv_aload_n hx hb dX9_of_0 rfl (lv_at hl 0 rfl) ?_
  refine m_gR (k := 1) X hH inC9 t0 rfl W1285 dX9_of_1 24 rfl (fun t1 => ?_)
  refine lv_bipush (v := 45) hx hb dX9_of_4 (by decide) ?_
  refine lv_bipush (v := 43) hx hb dX9_of_6 (by decide) ?_
  refine lv_iload_n hx hb dX9_of_8 rfl (lv_at hl 1 rfl) ?_
  refine lv_imul hx hb dX9_of_9 ?_
  refine lv_iadd hx hb dX9_of_10 ?_
  refine lv_iload_n hx hb dX9_of_11 rfl (lv_at hl 2 rfl) ?_
  refine lv_iadd hx hb dX9_of_12 ?_
  refine q_chk (fun hb2 => ?_)
  refine m_iald X hH t1 rfl (by decide) (fun _ => rfl) rfl rfl hb2 dX9_of_13 ?_
  exact q_end0 (m_iret X hr hH hL dX9_of_14)

set_option maxRecDepth 20000 in
set_option maxHeartbeats 4000000 in
theorem co_X9_puts (g : GP) (l : Launch) (hst : l.stackTraces = false) (a0 : Nat) (p1_ : Int32) (p2_ : Int32) (p3_ : Int32) (M : Mem) (t0 : tyT a0 = 9) (v : Unit) (M' : Mem) (hF : F_X9_puts a0 p1_ p2_ p3_ M = some (v, M')) : CO g l yX9_puts cX9_puts 4 none 0 0 rvU [.ref (adr g a0), .int p1_, .int p2_, .int p3_] M (.inl v : Unit ⊕ String) M' := by
  refine CO_of hst (by decide) (Nat.le_of_ble_eq_true rfl) ?_
  intro p e s m below meth c ls X hr htb hH hL hl
  have hx := X.1
  have hb := X.2.1
  have hts := X.2.2.2.2.1
  refine q_out hF ?_
  rw [F_X9_puts]
  replace hl : lv_has ls 4 [(0, .ref (adr g a0)), (1, .int p1_), (2, .int p2_), (3, .int p3_)] := hl
  refine lv_aload_n hx hb dX9_puts_0 rfl (lv_at hl 0 rfl) ?_
  refine m_gR (k := 1) X hH inC9 t0 rfl W1285 dX9_puts_1 24 rfl (fun t1 => ?_)
  refine lv_bipush (v := 45) hx hb dX9_puts_4 (by decide) ?_
  refine lv_bipush (v := 43) hx hb dX9_puts_6 (by decide) ?_
  refine lv_iload_n hx hb dX9_puts_8 rfl (lv_at hl 1 rfl) ?_
  refine lv_imul hx hb dX9_puts_9 ?_
  refine lv_iadd hx hb dX9_puts_10 ?_
  refine lv_iload_n hx hb dX9_puts_11 rfl (lv_at hl 2 rfl) ?_
  refine lv_iadd hx hb dX9_puts_12 ?_
  refine lv_iload_n hx hb dX9_puts_13 rfl (lv_at hl 3 rfl) ?_
  refine q_chk (fun hb2 => ?_)
  refine q_lt (fun M3 e_M3 => ?_)
  refine m_is X hH hL t1 rfl (by decide) (fun _ => rfl) rfl rfl hb2 dX9_puts_14 e_M3 (fun H locs hH hL => ?_)
  exact q_end1 (m_vret X hr hH hL dX9_puts_15)

set_option maxRecDepth 20000 in
set_option maxHeartbeats 4000000 in
theorem co_X9_noteAt (g : GP) (l : Launch) (hst : l.stackTraces = false) (a0 : Nat) (p1_ : Int32) (p2_ : Int32) (p3_ : Int32) (M : Mem) (t0 : tyT a0 = 9) (v : Int32) (hF : F_X9_noteAt a0 p1_ p2_ p3_ M = some v) : CO g l yX9_noteAt cX9_noteAt 4 (some .int) 1 22 rvI [.ref (adr g a0), .int p1_, .int p2_, .int p3_] M (.inl v : Int32 ⊕ String) M := by
  refine CO_of hst (by decide) (Nat.le_of_ble_eq_true rfl) ?_
  intro p e s m below meth c ls X hr htb hH hL hl
  have hx := X.1
  have hb := X.2.1
  have hts := X.2.2.2.2.1
  refine q_out hF ?_
  rw [F_X9_noteAt]
  replace hl : lv_has ls 4 [(0, .ref (adr g a0)), (1, .int p1_), (2, .int p2_), (3, .int p3_)] := hl
  refine lv_aload_n hx hb dX9_noteAt_0 rfl (lv_at hl 0 rfl) ?_
  refine lv_iload_n hx hb dX9_noteAt_1 rfl (lv_at hl 1 rfl) ?_
  refine lv_bipush (v := 7) hx hb dX9_noteAt_2 (by decide) ?_
  refine lv_bipush (v := 6) hx hb dX9_noteAt_4 (by decide) ?_
  refine lv_iload_n hx hb dX9_noteAt_6 rfl (lv_at hl 2 rfl) ?_
  refine lv_imul hx hb dX9_noteAt_7 ?_
  refine lv_iadd hx hb dX9_noteAt_8 ?_
  refine lv_iload_n hx hb dX9_noteAt_9 rfl (lv_at hl 3 rfl) ?_
  refine lv_iadd hx hb dX9_noteAt_10 ?_
  refine q_bind (fun v2 e1 => ?_)
  refine my_doneI hL (my_runV X hH hl.1 (co_X9_of g l hst a0 p1_ ((7 + (6 * p2_)) + p3_) M t0 v2 e1) ok_X9_of W1404 t0 rfl (by decide) rfl rfl rfl ⟨Nat.le_of_ble_eq_true rfl, Nat.le_of_ble_eq_true rfl⟩ ⟨Nat.zero_le _, Nat.zero_le _⟩ (Nat.le_of_ble_eq_true rfl) dX9_noteAt_11) (fun H locs hH hL => ?_)
  exact q_end0 (m_iret X hr hH hL dX9_noteAt_14)

set_option maxRecDepth 20000 in
set_option maxHeartbeats 4000000 in
theorem co_X9_putsNote (g : GP) (l : Launch) (hst : l.stackTraces = false) (a0 : Nat) (p1_ : Int32) (p2_ : Int32) (p3_ : Int32) (p4_ : Int32) (M : Mem) (t0 : tyT a0 = 9) (v : Unit) (M' : Mem) (hF : F_X9_putsNote a0 p1_ p2_ p3_ p4_ M = some (v, M')) : CO g l yX9_putsNote cX9_putsNote 5 none 1 23 rvU [.ref (adr g a0), .int p1_, .int p2_, .int p3_, .int p4_] M (.inl v : Unit ⊕ String) M' := by
  refine CO_of hst (by decide) (Nat.le_of_ble_eq_true rfl) ?_
  intro p e s m below meth c ls X hr htb hH hL hl
  have hx := X.1
  have hb := X.2.1
  have hts := X.2.2.2.2.1
  refine q_out hF ?_
  rw [F_X9_putsNote]
  replace hl : lv_has ls 5 [(0, .ref (adr g a0)), (1, .int p1_), (2, .int p2_), (3, .int p3_), (4, .int p4_)] := hl
  refine lv_aload_n hx hb dX9_putsNote_0 rfl (lv_at hl 0 rfl) ?_
  refine lv_iload_n hx hb dX9_putsNote_1 rfl (lv_at hl 1 rfl) ?_
  refine lv_bipush (v := 7) hx hb dX9_putsNote_2 (by decide) ?_
  refine lv_bipush (v := 6) hx hb dX9_putsNote_4 (by decide) ?_
  refine lv_iload_n hx hb dX9_putsNote_6 rfl (lv_at hl 2 rfl) ?_
  refine lv_imul hx hb dX9_putsNote_7 ?_
  refine lv_iadd hx hb dX9_putsNote_8 ?_
  refine lv_iload_n hx hb dX9_putsNote_9 rfl (lv_at hl 3 rfl) ?_
  refine lv_iadd hx hb dX9_putsNote_10 ?_
  refine lv_iload hx hb dX9_putsNote_11 (lv_at hl 4 rfl) ?_
  refine q_b1 (fun u2 M3 e1 => ?_)
  refine my_doneU hL (my_runV X hH hl.1 (co_X9_puts g l hst a0 p1_ ((7 + (6 * p2_)) + p3_) p4_ M t0 u2 M3 e1) ok_X9_puts W1376 t0 rfl (by decide) rfl rfl rfl ⟨Nat.le_of_ble_eq_true rfl, Nat.le_of_ble_eq_true rfl⟩ ⟨Nat.zero_le _, Nat.zero_le _⟩ (Nat.le_of_ble_eq_true rfl) dX9_putsNote_13) (fun H locs hH hL => ?_)
  exact q_end1 (m_vret X hr hH hL dX9_putsNote_16)

set_option maxRecDepth 20000 in
set_option maxHeartbeats 4000000 in
theorem co_X9_isCell (g : GP) (l : Launch) (hst : l.stackTraces = false) (a0 : Nat) (p1_ : Int32) (p2_ : Int32) (p3_ : Int32) (M : Mem) (t0 : tyT a0 = 9) (v : Int32) (hF : F_X9_isCell a0 p1_ p2_ p3_ M = some v) : CO g l yX9_isCell cX9_isCell 4 (some .boolean) 2 43 rvI [.ref (adr g a0), .int p1_, .int p2_, .int p3_] M (.inl v : Int32 ⊕ String) M := by
  refine CO_of hst (by decide) (Nat.le_of_ble_eq_true rfl) ?_
  intro p e s m below meth c ls X hr htb hH hL hl
  have hx := X.1
  have hb := X.2.1
  have hts := X.2.2.2.2.1
  refine q_out hF ?_
  rw [F_X9_isCell]
  replace hl : lv_has ls 4 [(0, .ref (adr g a0)), (1, .int p1_), (2, .int p2_), (3, .int p3_)] := hl
  refine lv_aload_n hx hb dX9_isCell_0 rfl (lv_at hl 0 rfl) ?_
  refine lv_iload_n hx hb dX9_isCell_1 rfl (lv_at hl 1 rfl) ?_
  refine q_bind (fun v2 e1 => ?_)
  refine my_doneI hL (my_runV X hH hl.1 (co_X9_isSection g l hst a0 p1_ M t0 v2 e1) ok_X9_isSection W1384 t0 rfl (by decide) rfl rfl rfl ⟨Nat.le_of_ble_eq_true rfl, Nat.le_of_ble_eq_true rfl⟩ ⟨Nat.zero_le _, Nat.zero_le _⟩ (Nat.le_of_ble_eq_true rfl) dX9_isCell_2) (fun H locs hH hL => ?_)
  refine lv_if_eq (tgt := 44) hx hb dX9_isCell_5 (by decide) (fun c3 => q_pos c3 ?_) (fun c3 => q_neg c3 ?_)
  · refine lv_iconst (v := 0) hx hb dX9_isCell_44 (by decide) ?_
    exact q_end0 (m_zret X hr hH hL (by decide) dX9_isCell_45)
  · refine lv_iload_n hx hb dX9_isCell_8 rfl (lv_at hl 2 rfl) ?_
    refine lv_iconst (v := 0) hx hb dX9_isCell_9 (by decide) ?_
    refine lv_aload_n hx hb dX9_isCell_10 rfl (lv_at hl 0 rfl) ?_
    refine lv_iload_n hx hb dX9_isCell_11 rfl (lv_at hl 1 rfl) ?_
    refine lv_iconst (v := 1) hx hb dX9_isCell_12 (by decide) ?_
    refine q_bind (fun v5 e4 => ?_)
    refine my_doneI hL (my_runV X hH hl.1 (co_X9_of g l hst a0 p1_ 1 M t0 v5 e4) ok_X9_of W1404 t0 rfl (by decide) rfl rfl rfl ⟨Nat.le_of_ble_eq_true rfl, Nat.le_of_ble_eq_true rfl⟩ ⟨Nat.zero_le _, Nat.zero_le _⟩ (Nat.le_of_ble_eq_true rfl) dX9_isCell_13) (fun H locs hH hL => ?_)
    refine lv_iconst (v := 1) hx hb dX9_isCell_16 (by decide) ?_
    refine lv_isub hx hb dX9_isCell_17 ?_
    refine q_bind (fun v7 e6 => ?_)
    refine my_doneI hL (my_runS X hH hl.1 (co_X9_isBetween g l hst p2_ 0 (v5 - 1) M v7 e6) ok_X9_isBetween W1353 rfl rfl ⟨Nat.le_of_ble_eq_true rfl, Nat.le_of_ble_eq_true rfl⟩ ⟨Nat.zero_le _, Nat.zero_le _⟩ (Nat.le_of_ble_eq_true rfl) dX9_isCell_18) (fun H locs hH hL => ?_)
    refine lv_if_eq (tgt := 44) hx hb dX9_isCell_21 (by decide) (fun c8 => q_pos c8 ?_) (fun c8 => q_neg c8 ?_)
    · refine lv_iconst (v := 0) hx hb dX9_isCell_44 (by decide) ?_
      exact q_end0 (m_zret X hr hH hL (by decide) dX9_isCell_45)
    · refine lv_iload_n hx hb dX9_isCell_24 rfl (lv_at hl 3 rfl) ?_
      refine lv_iconst (v := 0) hx hb dX9_isCell_25 (by decide) ?_
      refine lv_aload_n hx hb dX9_isCell_26 rfl (lv_at hl 0 rfl) ?_
      refine lv_iload_n hx hb dX9_isCell_27 rfl (lv_at hl 1 rfl) ?_
      refine lv_iconst (v := 2) hx hb dX9_isCell_28 (by decide) ?_
      refine q_bind (fun v10 e9 => ?_)
      refine my_doneI hL (my_runV X hH hl.1 (co_X9_of g l hst a0 p1_ 2 M t0 v10 e9) ok_X9_of W1404 t0 rfl (by decide) rfl rfl rfl ⟨Nat.le_of_ble_eq_true rfl, Nat.le_of_ble_eq_true rfl⟩ ⟨Nat.zero_le _, Nat.zero_le _⟩ (Nat.le_of_ble_eq_true rfl) dX9_isCell_29) (fun H locs hH hL => ?_)
      refine lv_iconst (v := 1) hx hb dX9_isCell_32 (by decide) ?_
      refine lv_isub hx hb dX9_isCell_33 ?_
      refine q_bind (fun v12 e11 => ?_)
      refine my_doneI hL (my_runS X hH hl.1 (co_X9_isBetween g l hst p3_ 0 (v10 - 1) M v12 e11) ok_X9_isBetween W1353 rfl rfl ⟨Nat.le_of_ble_eq_true rfl, Nat.le_of_ble_eq_true rfl⟩ ⟨Nat.zero_le _, Nat.zero_le _⟩ (Nat.le_of_ble_eq_true rfl) dX9_isCell_34) (fun H locs hH hL => ?_)
      refine lv_if_eq (tgt := 44) hx hb dX9_isCell_37 (by decide) (fun c13 => q_pos c13 ?_) (fun c13 => q_neg c13 ?_)
      · refine lv_iconst (v := 0) hx hb dX9_isCell_44 (by decide) ?_
        exact q_end0 (m_zret X hr hH hL (by decide) dX9_isCell_45)
      · refine lv_iconst (v := 1) hx hb dX9_isCell_40 (by decide) ?_
        refine lv_goto (tgt := 45) hx hb dX9_isCell_41 (by decide) ?_
        exact q_end0 (m_zret X hr hH hL (by decide) dX9_isCell_45)

set_option maxRecDepth 20000 in
set_option maxHeartbeats 4000000 in
theorem co_X9_isMaskedAt (g : GP) (l : Launch) (hst : l.stackTraces = false) (a0 : Nat) (p1_ : Int32) (p2_ : Int32) (M : Mem) (t0 : tyT a0 = 9) (v : Int32) (hF : F_X9_isMaskedAt a0 p1_ p2_ M = some v) : CO g l yX9_isMaskedAt cX9_isMaskedAt 3 (some .boolean) 1 22 rvI [.ref (adr g a0), .int p1_, .int p2_] M (.inl v : Int32 ⊕ String) M := by
  refine CO_of hst (by decide) (Nat.le_of_ble_eq_true rfl) ?_
  intro p e s m below meth c ls X hr htb hH hL hl
  have hx := X.1
  have hb := X.2.1
  have hts := X.2.2.2.2.1
  refine q_out hF ?_
  rw [F_X9_isMaskedAt]
  replace hl : lv_has ls 3 [(0, .ref (adr g a0)), (1, .int p1_), (2, .int p2_)] := hl
  refine lv_aload_n hx hb dX9_isMaskedAt_0 rfl (lv_at hl 0 rfl) ?_
  refine lv_iload_n hx hb dX9_isMaskedAt_1 rfl (lv_at hl 1 rfl) ?_
  refine lv_iconst (v := 3) hx hb dX9_isMaskedAt_2 (by decide) ?_
  refine q_bind (fun v2 e1 => ?_)
  refine my_doneI hL (my_runV X hH hl.1 (co_X9_of g l hst a0 p1_ 3 M t0 v2 e1) ok_X9_of W1404 t0 rfl (by decide) rfl rfl rfl ⟨Nat.le_of_ble_eq_true rfl, Nat.le_of_ble_eq_true rfl⟩ ⟨Nat.zero_le _, Nat.zero_le _⟩ (Nat.le_of_ble_eq_true rfl) dX9_isMaskedAt_3) (fun H locs hH hL => ?_)
  refine lv_iload_n hx hb dX9_isMaskedAt_6 rfl (lv_at hl 2 rfl) ?_
  refine lv_ishr hx hb dX9_isMaskedAt_7 ?_
  refine lv_iconst (v := 1) hx hb dX9_isMaskedAt_8 (by decide) ?_
  refine lv_iand hx hb dX9_isMaskedAt_9 ?_
  refine lv_iconst (v := 1) hx hb dX9_isMaskedAt_10 (by decide) ?_
  refine lv_icmp_ne (tgt := 18) hx hb dX9_isMaskedAt_11 (by decide) (fun c3 => q_neg c3 ?_) (fun c3 => q_pos c3 ?_)
  · refine lv_iconst (v := 0) hx hb dX9_isMaskedAt_18 (by decide) ?_
    exact q_end0 (m_zret X hr hH hL (by decide) dX9_isMaskedAt_19)
  · refine lv_iconst (v := 1) hx hb dX9_isMaskedAt_14 (by decide) ?_
    refine lv_goto (tgt := 19) hx hb dX9_isMaskedAt_15 (by decide) ?_
    exact q_end0 (m_zret X hr hH hL (by decide) dX9_isMaskedAt_19)

set_option maxRecDepth 20000 in
set_option maxHeartbeats 4000000 in
theorem co_X9_kindOf (g : GP) (l : Launch) (hst : l.stackTraces = false) (p1_ : Int32) (M : Mem)  (v : Int32) (hF : F_X9_kindOf p1_ = some v) : CO g l yX9_kindOf cX9_kindOf 1 (some .int) 0 0 rvI [.int p1_] M (.inl v : Int32 ⊕ String) M := by
  refine CO_of hst (by decide) (Nat.le_of_ble_eq_true rfl) ?_
  intro p e s m below meth c ls X hr htb hH hL hl
  have hx := X.1
  have hb := X.2.1
  have hts := X.2.2.2.2.1
  refine q_out hF ?_
  rw [F_X9_kindOf]
  replace hl : lv_has ls 1 [(0, .int p1_)] := hl
  refine lv_iload_n hx hb dX9_kindOf_0 rfl (lv_at hl 0 rfl) ?_
  refine lv_bipush (v := 115) hx hb dX9_kindOf_1 (by decide) ?_
  refine lv_icmp_ne (tgt := 10) hx hb dX9_kindOf_3 (by decide) (fun c1 => q_neg c1 ?_) (fun c1 => q_pos c1 ?_)
  · refine lv_iload_n hx hb dX9_kindOf_10 rfl (lv_at hl 0 rfl) ?_
    refine lv_bipush (v := 119) hx hb dX9_kindOf_11 (by decide) ?_
    refine lv_icmp_ne (tgt := 20) hx hb dX9_kindOf_13 (by decide) (fun c2 => q_neg c2 ?_) (fun c2 => q_pos c2 ?_)
    · refine lv_iload_n hx hb dX9_kindOf_20 rfl (lv_at hl 0 rfl) ?_
      refine lv_bipush (v := 100) hx hb dX9_kindOf_21 (by decide) ?_
      refine lv_icmp_ne (tgt := 30) hx hb dX9_kindOf_23 (by decide) (fun c3 => q_neg c3 ?_) (fun c3 => q_pos c3 ?_)
      · refine lv_iconst (v := (-1)) hx hb dX9_kindOf_30 (by decide) ?_
        exact q_end0 (m_iret X hr hH hL dX9_kindOf_31)
      · refine lv_iconst (v := 2) hx hb dX9_kindOf_26 (by decide) ?_
        refine lv_goto (tgt := 31) hx hb dX9_kindOf_27 (by decide) ?_
        exact q_end0 (m_iret X hr hH hL dX9_kindOf_31)
    · refine lv_iconst (v := 1) hx hb dX9_kindOf_16 (by decide) ?_
      refine lv_goto (tgt := 31) hx hb dX9_kindOf_17 (by decide) ?_
      exact q_end0 (m_iret X hr hH hL dX9_kindOf_31)
  · refine lv_iconst (v := 0) hx hb dX9_kindOf_6 (by decide) ?_
    refine lv_goto (tgt := 31) hx hb dX9_kindOf_7 (by decide) ?_
    exact q_end0 (m_iret X hr hH hL dX9_kindOf_31)

set_option maxRecDepth 20000 in
set_option maxHeartbeats 4000000 in
theorem co_X9_letterOf (g : GP) (l : Launch) (hst : l.stackTraces = false) (p1_ : Int32) (M : Mem)  (v : Int32) (hF : F_X9_letterOf p1_ = some v) : CO g l yX9_letterOf cX9_letterOf 1 (some .char) 0 0 rvI [.int p1_] M (.inl v : Int32 ⊕ String) M := by
  refine CO_of hst (by decide) (Nat.le_of_ble_eq_true rfl) ?_
  intro p e s m below meth c ls X hr htb hH hL hl
  have hx := X.1
  have hb := X.2.1
  have hts := X.2.2.2.2.1
  refine q_out hF ?_
  rw [F_X9_letterOf]
  replace hl : lv_has ls 1 [(0, .int p1_)] := hl
  refine lv_iload_n hx hb dX9_letterOf_0 rfl (lv_at hl 0 rfl) ?_
  refine lv_if_ne (tgt := 9) hx hb dX9_letterOf_1 (by decide) (fun c1 => q_neg c1 ?_) (fun c1 => q_pos c1 ?_)
  · refine lv_iload_n hx hb dX9_letterOf_9 rfl (lv_at hl 0 rfl) ?_
    refine lv_iconst (v := 1) hx hb dX9_letterOf_10 (by decide) ?_
    refine lv_icmp_ne (tgt := 19) hx hb dX9_letterOf_11 (by decide) (fun c2 => q_neg c2 ?_) (fun c2 => q_pos c2 ?_)
    · refine lv_bipush (v := 100) hx hb dX9_letterOf_19 (by decide) ?_
      exact q_end0 (m_zret X hr hH hL (by decide) dX9_letterOf_21)
    · refine lv_bipush (v := 119) hx hb dX9_letterOf_14 (by decide) ?_
      refine lv_goto (tgt := 21) hx hb dX9_letterOf_16 (by decide) ?_
      exact q_end0 (m_zret X hr hH hL (by decide) dX9_letterOf_21)
  · refine lv_bipush (v := 115) hx hb dX9_letterOf_4 (by decide) ?_
    refine lv_goto (tgt := 21) hx hb dX9_letterOf_6 (by decide) ?_
    exact q_end0 (m_zret X hr hH hL (by decide) dX9_letterOf_21)

set_option maxRecDepth 20000 in
set_option maxHeartbeats 4000000 in
theorem co_X9_volumeOf (g : GP) (l : Launch) (hst : l.stackTraces = false) (p1_ : Int32) (p2_ : Int32) (M : Mem)  (v : Int32) (hF : F_X9_volumeOf p1_ p2_ = some v) : CO g l yX9_volumeOf cX9_volumeOf 2 (some .int) 0 0 rvI [.int p1_, .int p2_] M (.inl v : Int32 ⊕ String) M := by
  refine CO_of hst (by decide) (Nat.le_of_ble_eq_true rfl) ?_
  intro p e s m below meth c ls X hr htb hH hL hl
  have hx := X.1
  have hb := X.2.1
  have hts := X.2.2.2.2.1
  refine q_out hF ?_
  rw [F_X9_volumeOf]
  replace hl : lv_has ls 2 [(0, .int p1_), (1, .int p2_)] := hl
  refine lv_iload_n hx hb dX9_volumeOf_0 rfl (lv_at hl 1 rfl) ?_
  refine lv_if_eq (tgt := 8) hx hb dX9_volumeOf_1 (by decide) (fun c1 => q_pos c1 ?_) (fun c1 => q_neg c1 ?_)
  · refine lv_iload_n hx hb dX9_volumeOf_8 rfl (lv_at hl 1 rfl) ?_
    exact q_end0 (m_iret X hr hH hL dX9_volumeOf_9)
  · refine lv_iload_n hx hb dX9_volumeOf_4 rfl (lv_at hl 0 rfl) ?_
    refine lv_if_ne (tgt := 10) hx hb dX9_volumeOf_5 (by decide) (fun c2 => q_neg c2 ?_) (fun c2 => q_pos c2 ?_)
    · refine lv_iload_n hx hb dX9_volumeOf_10 rfl (lv_at hl 0 rfl) ?_
      refine lv_iconst (v := 2) hx hb dX9_volumeOf_11 (by decide) ?_
      refine lv_icmp_ne (tgt := 28) hx hb dX9_volumeOf_12 (by decide) (fun c3 => q_neg c3 ?_) (fun c3 => q_pos c3 ?_)
      · refine lv_iload_n hx hb dX9_volumeOf_28 rfl (lv_at hl 1 rfl) ?_
        refine lv_bipush (v := 6) hx hb dX9_volumeOf_29 (by decide) ?_
        refine lv_icmp_le (tgt := 39) hx hb dX9_volumeOf_31 (by decide) (fun c4 => q_pos c4 ?_) (fun c4 => q_neg c4 ?_)
        · refine lv_iconst (v := 2) hx hb dX9_volumeOf_39 (by decide) ?_
          refine lv_iload_n hx hb dX9_volumeOf_40 rfl (lv_at hl 1 rfl) ?_
          refine lv_imul hx hb dX9_volumeOf_41 ?_
          exact q_end0 (m_iret X hr hH hL dX9_volumeOf_42)
        · refine lv_bipush (v := 12) hx hb dX9_volumeOf_34 (by decide) ?_
          refine lv_goto (tgt := 42) hx hb dX9_volumeOf_36 (by decide) ?_
          exact q_end0 (m_iret X hr hH hL dX9_volumeOf_42)
      · refine lv_iload_n hx hb dX9_volumeOf_15 rfl (lv_at hl 1 rfl) ?_
        refine lv_iconst (v := 2) hx hb dX9_volumeOf_16 (by decide) ?_
        refine lv_irem hx hb dX9_volumeOf_17 (by decide) ?_
        refine lv_iconst (v := 1) hx hb dX9_volumeOf_18 (by decide) ?_
        refine lv_icmp_ne (tgt := 26) hx hb dX9_volumeOf_19 (by decide) (fun c5 => q_neg c5 ?_) (fun c5 => q_pos c5 ?_)
        · refine lv_iconst (v := 1) hx hb dX9_volumeOf_26 (by decide) ?_
          exact q_end0 (m_iret X hr hH hL dX9_volumeOf_27)
        · refine lv_iconst (v := 5) hx hb dX9_volumeOf_22 (by decide) ?_
          refine lv_goto (tgt := 27) hx hb dX9_volumeOf_23 (by decide) ?_
          exact q_end0 (m_iret X hr hH hL dX9_volumeOf_27)
    · refine lv_iload_n hx hb dX9_volumeOf_8 rfl (lv_at hl 1 rfl) ?_
      exact q_end0 (m_iret X hr hH hL dX9_volumeOf_9)

set_option maxRecDepth 20000 in
set_option maxHeartbeats 4000000 in
theorem co_X9_volumeOfColumn (g : GP) (l : Launch) (hst : l.stackTraces = false) (a0 : Nat) (p1_ : Int32) (p2_ : Int32) (M : Mem) (t0 : tyT a0 = 9) (v : Int32) (hF : F_X9_volumeOfColumn a0 p1_ p2_ M = some v) : CO g l yX9_volumeOfColumn cX9_volumeOfColumn 5 (some .int) 2 45 rvI [.ref (adr g a0), .int p1_, .int p2_] M (.inl v : Int32 ⊕ String) M := by
  refine CO_of hst (by decide) (Nat.le_of_ble_eq_true rfl) ?_
  intro p e s m below meth c ls X hr htb hH hL hl
  have hx := X.1
  have hb := X.2.1
  have hts := X.2.2.2.2.1
  refine q_out hF ?_
  rw [F_X9_volumeOfColumn]
  replace hl : lv_has ls 5 [(0, .ref (adr g a0)), (1, .int p1_), (2, .int p2_)] := hl
  refine lv_iconst (v := 0) hx hb dX9_volumeOfColumn_0 (by decide) ?_
  refine lv_istore_n (lv' := [(3, .int 0), (0, .ref (adr g a0)), (1, .int p1_), (2, .int p2_)]) hx hb dX9_volumeOfColumn_1 rfl hl (by decide) rfl (fun ls hl => ?_)
  refine lv_iconst (v := 0) hx hb dX9_volumeOfColumn_2 (by decide) ?_
  refine lv_istore (lv' := [(4, .int 0), (3, .int 0), (0, .ref (adr g a0)), (1, .int p1_), (2, .int p2_)]) hx hb dX9_volumeOfColumn_3 hl (by decide) rfl (fun ls hl => ?_)
  have L15 : ∀ (K : Int32 → Int32 → Option Int32) (_ : ∀ (i1 : Int32) (i2 : Int32) (H : Heap) (locs : List Loc) (ls : Array Slot), HR g M H → LK g s H locs → lv_has ls 5 [(0, .ref (adr g a0)), (1, .int p1_), (2, .int p2_), (3, .int i1), (4, .int i2)] → W p l e (rmO (.inl v : Int32 ⊕ String) 2 45) s m ([.ref (adr g a0), .int p1_, .int p2_] : List Value).toArray below meth c H locs 0 0 (GQ (K i1 i2) v (MQO g below rvI (.inl v : Int32 ⊕ String) M ([.ref (adr g a0), .int p1_, .int p2_] : List Value).toArray s)) (F0 m 42 ls [])) (n : Nat) (i1 : Int32) (i2 : Int32) (H : Heap) (locs : List Loc) (ls : Array Slot), HR g M H → LK g s H locs → lv_has ls 5 [(0, .ref (adr g a0)), (1, .int p1_), (2, .int p2_), (3, .int i1), (4, .int i2)] → W p l e (rmO (.inl v : Int32 ⊕ String) 2 45) s m ([.ref (adr g a0), .int p1_, .int p2_] : List Value).toArray below meth c H locs 0 0 (GQ (F_X9_volumeOfColumn_L1 a0 p1_ p2_ M K n i1 i2) v (MQO g below rvI (.inl v : Int32 ⊕ String) M ([.ref (adr g a0), .int p1_, .int p2_] : List Value).toArray s)) (F0 m 5 ls []) := by
    intro K hK n
    induction n with
    | zero => intros; exact q_none
    | succ n ih =>
      intro i1 i2 H locs ls hH hL hl 
      rw [F_X9_volumeOfColumn_L1]
      refine lv_iload hx hb dX9_volumeOfColumn_5 (lv_at hl 4 rfl) ?_
      refine lv_aload_n hx hb dX9_volumeOfColumn_7 rfl (lv_at hl 0 rfl) ?_
      refine lv_iload_n hx hb dX9_volumeOfColumn_8 rfl (lv_at hl 1 rfl) ?_
      refine lv_iconst (v := 1) hx hb dX9_volumeOfColumn_9 (by decide) ?_
      refine q_bind (fun v5 e4 => ?_)
      refine my_doneI hL (my_runV X hH hl.1 (co_X9_of g l hst a0 p1_ 1 M t0 v5 e4) ok_X9_of W1404 t0 rfl (by decide) rfl rfl rfl ⟨Nat.le_of_ble_eq_true rfl, Nat.le_of_ble_eq_true rfl⟩ ⟨Nat.zero_le _, Nat.zero_le _⟩ (Nat.le_of_ble_eq_true rfl) dX9_volumeOfColumn_10) (fun H locs hH hL => ?_)
      refine lv_icmp_ge (tgt := 42) hx hb dX9_volumeOfColumn_13 (by decide) (fun c6 => q_pos c6 ?_) (fun c6 => q_neg c6 ?_)
      · exact hK i1 i2 _ _ ls hH hL hl 
      · refine lv_iload_n hx hb dX9_volumeOfColumn_16 rfl (lv_at hl 3 rfl) ?_
        refine lv_aload_n hx hb dX9_volumeOfColumn_17 rfl (lv_at hl 0 rfl) ?_
        refine lv_iload_n hx hb dX9_volumeOfColumn_18 rfl (lv_at hl 1 rfl) ?_
        refine lv_iconst (v := 0) hx hb dX9_volumeOfColumn_19 (by decide) ?_
        refine q_bind (fun v8 e7 => ?_)
        refine my_doneI hL (my_runV X hH hl.1 (co_X9_of g l hst a0 p1_ 0 M t0 v8 e7) ok_X9_of W1404 t0 rfl (by decide) rfl rfl rfl ⟨Nat.le_of_ble_eq_true rfl, Nat.le_of_ble_eq_true rfl⟩ ⟨Nat.zero_le _, Nat.zero_le _⟩ (Nat.le_of_ble_eq_true rfl) dX9_volumeOfColumn_20) (fun H locs hH hL => ?_)
        refine lv_aload_n hx hb dX9_volumeOfColumn_23 rfl (lv_at hl 0 rfl) ?_
        refine lv_iload_n hx hb dX9_volumeOfColumn_24 rfl (lv_at hl 1 rfl) ?_
        refine lv_iload hx hb dX9_volumeOfColumn_25 (lv_at hl 4 rfl) ?_
        refine lv_iload_n hx hb dX9_volumeOfColumn_27 rfl (lv_at hl 2 rfl) ?_
        refine q_bind (fun v10 e9 => ?_)
        refine my_doneI hL (my_runV X hH hl.1 (co_X9_noteAt g l hst a0 p1_ i2 p2_ M t0 v10 e9) ok_X9_noteAt W1412 t0 rfl (by decide) rfl rfl rfl ⟨Nat.le_of_ble_eq_true rfl, Nat.le_of_ble_eq_true rfl⟩ ⟨Nat.zero_le _, Nat.zero_le _⟩ (Nat.le_of_ble_eq_true rfl) dX9_volumeOfColumn_28) (fun H locs hH hL => ?_)
        refine q_bind (fun v12 e11 => ?_)
        refine my_doneI hL (my_runS X hH hl.1 (co_X9_volumeOf g l hst v8 v10 M v12 e11) ok_X9_volumeOf W1510 rfl rfl ⟨Nat.le_of_ble_eq_true rfl, Nat.le_of_ble_eq_true rfl⟩ ⟨Nat.zero_le _, Nat.zero_le _⟩ (Nat.le_of_ble_eq_true rfl) dX9_volumeOfColumn_31) (fun H locs hH hL => ?_)
        refine lv_iadd hx hb dX9_volumeOfColumn_34 ?_
        refine q_lt (fun v13 e_v13 => ?_)
        refine q_topI e_v13 ?_
        refine lv_istore_n (lv' := [(3, .int v13), (0, .ref (adr g a0)), (1, .int p1_), (2, .int p2_), (4, .int i2)]) hx hb dX9_volumeOfColumn_35 rfl hl (by decide) rfl (fun ls hl => ?_)
        refine q_lt (fun v14 e_v14 => ?_)
        refine lv_iinc (v := v14) (lv' := [(4, .int v14), (3, .int v13), (0, .ref (adr g a0)), (1, .int p1_), (2, .int p2_)]) hx hb dX9_volumeOfColumn_36 hl (k := 4) rfl (by rw [e_v14]; rfl) (by decide) rfl (fun ls hl => ?_)
        refine lv_goto (tgt := 5) hx hb dX9_volumeOfColumn_39 (by decide) ?_
        exact ih v13 v14 _ _ ls hH hL (lv_sub hl [2, 3, 4, 1, 0] rfl) 
  refine L15 _ (fun x16 x17 H locs ls hH hL hl  => ?_) 3000 0 0 _ _ ls hH hL (lv_sub hl [2, 3, 4, 1, 0] rfl) 
  refine lv_iload_n hx hb dX9_volumeOfColumn_42 rfl (lv_at hl 3 rfl) ?_
  exact q_end0 (m_iret X hr hH hL dX9_volumeOfColumn_43)

set_option maxRecDepth 20000 in
set_option maxHeartbeats 4000000 in
theorem co_X9_notAdd (g : GP) (l : Launch) (hst : l.stackTraces = false) (a0 : Nat) (p1_ : Int32) (p2_ : Int32) (p3_ : Int32) (M : Mem) (t0 : tyT a0 = 9) (v : Int32) (hF : F_X9_notAdd a0 p1_ p2_ p3_ M = some v) : CO g l yX9_notAdd cX9_notAdd 4 (some .int) 1 22 rvI [.ref (adr g a0), .int p1_, .int p2_, .int p3_] M (.inl v : Int32 ⊕ String) M := by
  refine CO_of hst (by decide) (Nat.le_of_ble_eq_true rfl) ?_
  intro p e s m below meth c ls X hr htb hH hL hl
  have hx := X.1
  have hb := X.2.1
  have hts := X.2.2.2.2.1
  refine q_out hF ?_
  rw [F_X9_notAdd]
  replace hl : lv_has ls 4 [(0, .ref (adr g a0)), (1, .int p1_), (2, .int p2_), (3, .int p3_)] := hl
  refine lv_iload_n hx hb dX9_notAdd_0 rfl (lv_at hl 1 rfl) ?_
  refine q_bind (fun v2 e1 => ?_)
  refine my_doneI hL (my_runS X hH hl.1 (co_X9_kindOf g l hst p1_ M v2 e1) ok_X9_kindOf W1350 rfl rfl ⟨Nat.le_of_ble_eq_true rfl, Nat.le_of_ble_eq_true rfl⟩ ⟨Nat.zero_le _, Nat.zero_le _⟩ (Nat.le_of_ble_eq_true rfl) dX9_notAdd_1) (fun H locs hH hL => ?_)
  refine lv_if_lt (tgt := 27) hx hb dX9_notAdd_4 (by decide) (fun c3 => q_pos c3 ?_) (fun c3 => q_neg c3 ?_)
  · refine lv_iconst (v := 1) hx hb dX9_notAdd_27 (by decide) ?_
    exact q_end0 (m_iret X hr hH hL dX9_notAdd_28)
  · refine lv_iload_n hx hb dX9_notAdd_7 rfl (lv_at hl 2 rfl) ?_
    refine lv_iconst (v := 1) hx hb dX9_notAdd_8 (by decide) ?_
    refine lv_bipush (v := 6) hx hb dX9_notAdd_9 (by decide) ?_
    refine q_bind (fun v5 e4 => ?_)
    refine my_doneI hL (my_runS X hH hl.1 (co_X9_isBetween g l hst p2_ 1 6 M v5 e4) ok_X9_isBetween W1353 rfl rfl ⟨Nat.le_of_ble_eq_true rfl, Nat.le_of_ble_eq_true rfl⟩ ⟨Nat.zero_le _, Nat.zero_le _⟩ (Nat.le_of_ble_eq_true rfl) dX9_notAdd_11) (fun H locs hH hL => ?_)
    refine lv_if_eq (tgt := 27) hx hb dX9_notAdd_14 (by decide) (fun c6 => q_pos c6 ?_) (fun c6 => q_neg c6 ?_)
    · refine lv_iconst (v := 1) hx hb dX9_notAdd_27 (by decide) ?_
      exact q_end0 (m_iret X hr hH hL dX9_notAdd_28)
    · refine lv_iload_n hx hb dX9_notAdd_17 rfl (lv_at hl 3 rfl) ?_
      refine lv_iconst (v := 1) hx hb dX9_notAdd_18 (by decide) ?_
      refine lv_bipush (v := 6) hx hb dX9_notAdd_19 (by decide) ?_
      refine q_bind (fun v8 e7 => ?_)
      refine my_doneI hL (my_runS X hH hl.1 (co_X9_isBetween g l hst p3_ 1 6 M v8 e7) ok_X9_isBetween W1353 rfl rfl ⟨Nat.le_of_ble_eq_true rfl, Nat.le_of_ble_eq_true rfl⟩ ⟨Nat.zero_le _, Nat.zero_le _⟩ (Nat.le_of_ble_eq_true rfl) dX9_notAdd_21) (fun H locs hH hL => ?_)
      refine lv_if_ne (tgt := 29) hx hb dX9_notAdd_24 (by decide) (fun c9 => q_neg c9 ?_) (fun c9 => q_pos c9 ?_)
      · refine lv_aload_n hx hb dX9_notAdd_29 rfl (lv_at hl 0 rfl) ?_
        refine m_gR (k := 1) X hH inC9 t0 rfl W1285 dX9_notAdd_30 24 rfl (fun t10 => ?_)
        refine lv_iconst (v := 0) hx hb dX9_notAdd_33 (by decide) ?_
        refine q_chk (fun hb11 => ?_)
        refine m_iald X hH t10 rfl (by decide) (fun _ => rfl) rfl rfl hb11 dX9_notAdd_34 ?_
        refine lv_iconst (v := 5) hx hb dX9_notAdd_35 (by decide) ?_
        refine lv_icmp_ne (tgt := 43) hx hb dX9_notAdd_36 (by decide) (fun c12 => q_neg c12 ?_) (fun c12 => q_pos c12 ?_)
        · refine lv_iconst (v := 0) hx hb dX9_notAdd_43 (by decide) ?_
          exact q_end0 (m_iret X hr hH hL dX9_notAdd_44)
        · refine lv_iconst (v := 2) hx hb dX9_notAdd_39 (by decide) ?_
          refine lv_goto (tgt := 44) hx hb dX9_notAdd_40 (by decide) ?_
          exact q_end0 (m_iret X hr hH hL dX9_notAdd_44)
      · refine lv_iconst (v := 1) hx hb dX9_notAdd_27 (by decide) ?_
        exact q_end0 (m_iret X hr hH hL dX9_notAdd_28)

set_option maxRecDepth 20000 in
set_option maxHeartbeats 4000000 in
theorem co_X9_addsSection (g : GP) (l : Launch) (hst : l.stackTraces = false) (a0 : Nat) (p1_ : Int32) (p2_ : Int32) (p3_ : Int32) (M : Mem) (t0 : tyT a0 = 9) (v : Int32) (M' : Mem) (hF : F_X9_addsSection a0 p1_ p2_ p3_ M = some (v, M')) : CO g l yX9_addsSection cX9_addsSection 6 (some .int) 1 23 rvI [.ref (adr g a0), .int p1_, .int p2_, .int p3_] M (.inl v : Int32 ⊕ String) M' := by
  refine CO_of hst (by decide) (Nat.le_of_ble_eq_true rfl) ?_
  intro p e s m below meth c ls X hr htb hH hL hl
  have hx := X.1
  have hb := X.2.1
  have hts := X.2.2.2.2.1
  refine q_out hF ?_
  rw [F_X9_addsSection]
  replace hl : lv_has ls 6 [(0, .ref (adr g a0)), (1, .int p1_), (2, .int p2_), (3, .int p3_)] := hl
  refine lv_aload_n hx hb dX9_addsSection_0 rfl (lv_at hl 0 rfl) ?_
  refine m_gR (k := 1) X hH inC9 t0 rfl W1285 dX9_addsSection_1 24 rfl (fun t1 => ?_)
  refine lv_iconst (v := 0) hx hb dX9_addsSection_4 (by decide) ?_
  refine q_chk (fun hb2 => ?_)
  refine m_iald X hH t1 rfl (by decide) (fun _ => rfl) rfl rfl hb2 dX9_addsSection_5 ?_
  refine q_lt (fun v3 e_v3 => ?_)
  refine q_topI e_v3 ?_
  refine lv_istore (lv' := [(4, .int v3), (0, .ref (adr g a0)), (1, .int p1_), (2, .int p2_), (3, .int p3_)]) hx hb dX9_addsSection_6 hl (by decide) rfl (fun ls hl => ?_)
  refine lv_aload_n hx hb dX9_addsSection_8 rfl (lv_at hl 1 rfl) ?_
  refine m_gR (k := 1) X hH inC9 t0 rfl W1285 dX9_addsSection_9 24 rfl (fun t4 => ?_)
  refine lv_iconst (v := 0) hx hb dX9_addsSection_12 (by decide) ?_
  refine lv_dup2_11 hx hb dX9_addsSection_13 rfl rfl ?_
  refine q_chk (fun hb5 => ?_)
  refine m_iald X hH t4 rfl (by decide) (fun _ => rfl) rfl rfl hb5 dX9_addsSection_14 ?_
  refine lv_iconst (v := 1) hx hb dX9_addsSection_15 (by decide) ?_
  refine lv_iadd hx hb dX9_addsSection_16 ?_
  refine q_chk (fun hb6 => ?_)
  refine q_lt (fun M7 e_M7 => ?_)
  refine m_is X hH hL t4 rfl (by decide) (fun _ => rfl) rfl rfl hb6 dX9_addsSection_17 e_M7 (fun H locs hH hL => ?_)
  refine lv_iconst (v := 0) hx hb dX9_addsSection_18 (by decide) ?_
  refine lv_istore (lv' := [(5, .int 0), (4, .int v3), (0, .ref (adr g a0)), (1, .int p1_), (2, .int p2_), (3, .int p3_)]) hx hb dX9_addsSection_19 hl (by decide) rfl (fun ls hl => ?_)
  have L16 : ∀ (K : Int32 → Mem → Option (Int32 × Mem)) (_ : ∀ (i8 : Int32) (M9 : Mem) (H : Heap) (locs : List Loc) (ls : Array Slot), HR g M9 H → LK g s H locs → lv_has ls 6 [(0, .ref (adr g a0)), (1, .int p1_), (2, .int p2_), (3, .int p3_), (4, .int v3), (5, .int i8)] → W p l e (rmO (.inl v : Int32 ⊕ String) 1 23) s m ([.ref (adr g a0), .int p1_, .int p2_, .int p3_] : List Value).toArray below meth c H locs 0 0 (GQ (K i8 M9) (v, M') (MQO g below rvI (.inl v : Int32 ⊕ String) M' ([.ref (adr g a0), .int p1_, .int p2_, .int p3_] : List Value).toArray s)) (F0 m 43 ls [])) (n : Nat) (i8 : Int32) (M9 : Mem) (H : Heap) (locs : List Loc) (ls : Array Slot), HR g M9 H → LK g s H locs → lv_has ls 6 [(0, .ref (adr g a0)), (1, .int p1_), (2, .int p2_), (3, .int p3_), (4, .int v3), (5, .int i8)] → W p l e (rmO (.inl v : Int32 ⊕ String) 1 23) s m ([.ref (adr g a0), .int p1_, .int p2_, .int p3_] : List Value).toArray below meth c H locs 0 0 (GQ (F_X9_addsSection_L1 a0 v3 K n i8 M9) (v, M') (MQO g below rvI (.inl v : Int32 ⊕ String) M' ([.ref (adr g a0), .int p1_, .int p2_, .int p3_] : List Value).toArray s)) (F0 m 21 ls []) := by
    intro K hK n
    induction n with
    | zero => intros; exact q_none
    | succ n ih =>
      intro i8 M9 H locs ls hH hL hl 
      rw [F_X9_addsSection_L1]
      refine lv_iload hx hb dX9_addsSection_21 (lv_at hl 5 rfl) ?_
      refine lv_bipush (v := 43) hx hb dX9_addsSection_23 (by decide) ?_
      refine lv_icmp_ge (tgt := 43) hx hb dX9_addsSection_25 (by decide) (fun c11 => q_pos c11 ?_) (fun c11 => q_neg c11 ?_)
      · exact hK i8 M9 _ _ ls hH hL hl 
      · refine lv_aload_n hx hb dX9_addsSection_28 rfl (lv_at hl 0 rfl) ?_
        refine lv_iload hx hb dX9_addsSection_29 (lv_at hl 4 rfl) ?_
        refine lv_iload hx hb dX9_addsSection_31 (lv_at hl 5 rfl) ?_
        refine lv_iconst (v := 0) hx hb dX9_addsSection_33 (by decide) ?_
        refine q_b1 (fun u13 M14 e12 => ?_)
        refine my_doneU hL (my_runV X hH hl.1 (co_X9_puts g l hst a0 v3 i8 0 M9 t0 u13 M14 e12) ok_X9_puts W1376 t0 rfl (by decide) rfl rfl rfl ⟨Nat.le_of_ble_eq_true rfl, Nat.le_of_ble_eq_true rfl⟩ ⟨Nat.zero_le _, Nat.zero_le _⟩ (Nat.le_of_ble_eq_true rfl) dX9_addsSection_34) (fun H locs hH hL => ?_)
        refine q_lt (fun v15 e_v15 => ?_)
        refine lv_iinc (v := v15) (lv' := [(5, .int v15), (0, .ref (adr g a0)), (1, .int p1_), (2, .int p2_), (3, .int p3_), (4, .int v3)]) hx hb dX9_addsSection_37 hl (k := 5) rfl (by rw [e_v15]; rfl) (by decide) rfl (fun ls hl => ?_)
        refine lv_goto (tgt := 21) hx hb dX9_addsSection_40 (by decide) ?_
        exact ih v15 M14 _ _ ls hH hL (lv_sub hl [1, 2, 3, 4, 5, 0] rfl) 
  refine L16 _ (fun x17 M18 H locs ls hH hL hl  => ?_) 3000 0 M7 _ _ ls hH hL (lv_sub hl [2, 3, 4, 5, 1, 0] rfl) 
  refine lv_aload_n hx hb dX9_addsSection_43 rfl (lv_at hl 0 rfl) ?_
  refine lv_iload hx hb dX9_addsSection_44 (lv_at hl 4 rfl) ?_
  refine lv_iconst (v := 0) hx hb dX9_addsSection_46 (by decide) ?_
  refine lv_iload_n hx hb dX9_addsSection_47 rfl (lv_at hl 1 rfl) ?_
  refine q_bind (fun v20 e19 => ?_)
  refine my_doneI hL (my_runS X hH hl.1 (co_X9_kindOf g l hst p1_ M18 v20 e19) ok_X9_kindOf W1350 rfl rfl ⟨Nat.le_of_ble_eq_true rfl, Nat.le_of_ble_eq_true rfl⟩ ⟨Nat.zero_le _, Nat.zero_le _⟩ (Nat.le_of_ble_eq_true rfl) dX9_addsSection_48) (fun H locs hH hL => ?_)
  refine q_b1 (fun u22 M23 e21 => ?_)
  refine my_doneU hL (my_runV X hH hl.1 (co_X9_puts g l hst a0 v3 0 v20 M18 t0 u22 M23 e21) ok_X9_puts W1376 t0 rfl (by decide) rfl rfl rfl ⟨Nat.le_of_ble_eq_true rfl, Nat.le_of_ble_eq_true rfl⟩ ⟨Nat.zero_le _, Nat.zero_le _⟩ (Nat.le_of_ble_eq_true rfl) dX9_addsSection_51) (fun H locs hH hL => ?_)
  refine lv_aload_n hx hb dX9_addsSection_54 rfl (lv_at hl 0 rfl) ?_
  refine lv_iload hx hb dX9_addsSection_55 (lv_at hl 4 rfl) ?_
  refine lv_iconst (v := 1) hx hb dX9_addsSection_57 (by decide) ?_
  refine lv_iload_n hx hb dX9_addsSection_58 rfl (lv_at hl 2 rfl) ?_
  refine q_b1 (fun u25 M26 e24 => ?_)
  refine my_doneU hL (my_runV X hH hl.1 (co_X9_puts g l hst a0 v3 1 p2_ M23 t0 u25 M26 e24) ok_X9_puts W1376 t0 rfl (by decide) rfl rfl rfl ⟨Nat.le_of_ble_eq_true rfl, Nat.le_of_ble_eq_true rfl⟩ ⟨Nat.zero_le _, Nat.zero_le _⟩ (Nat.le_of_ble_eq_true rfl) dX9_addsSection_59) (fun H locs hH hL => ?_)
  refine lv_aload_n hx hb dX9_addsSection_62 rfl (lv_at hl 0 rfl) ?_
  refine lv_iload hx hb dX9_addsSection_63 (lv_at hl 4 rfl) ?_
  refine lv_iconst (v := 2) hx hb dX9_addsSection_65 (by decide) ?_
  refine lv_iload_n hx hb dX9_addsSection_66 rfl (lv_at hl 3 rfl) ?_
  refine q_b1 (fun u28 M29 e27 => ?_)
  refine my_doneU hL (my_runV X hH hl.1 (co_X9_puts g l hst a0 v3 2 p3_ M26 t0 u28 M29 e27) ok_X9_puts W1376 t0 rfl (by decide) rfl rfl rfl ⟨Nat.le_of_ble_eq_true rfl, Nat.le_of_ble_eq_true rfl⟩ ⟨Nat.zero_le _, Nat.zero_le _⟩ (Nat.le_of_ble_eq_true rfl) dX9_addsSection_67) (fun H locs hH hL => ?_)
  refine lv_iload hx hb dX9_addsSection_70 (lv_at hl 4 rfl) ?_
  exact q_end1 (m_iret X hr hH hL dX9_addsSection_72)

set_option maxRecDepth 20000 in
set_option maxHeartbeats 4000000 in
theorem co_X9_addSection (g : GP) (l : Launch) (hst : l.stackTraces = false) (a0 : Nat) (p1_ : Int32) (p2_ : Int32) (p3_ : Int32) (M : Mem) (t0 : tyT a0 = 9) (v : Int32) (M' : Mem) (hF : F_X9_addSection a0 p1_ p2_ p3_ M = some (v, M')) : CO g l yX9_addSection cX9_addSection 5 (some .int) 2 48 rvI [.ref (adr g a0), .int p1_, .int p2_, .int p3_] M (.inl v : Int32 ⊕ String) M' := by
  refine CO_of hst (by decide) (Nat.le_of_ble_eq_true rfl) ?_
  intro p e s m below meth c ls X hr htb hH hL hl
  have hx := X.1
  have hb := X.2.1
  have hts := X.2.2.2.2.1
  refine q_out hF ?_
  rw [F_X9_addSection]
  replace hl : lv_has ls 5 [(0, .ref (adr g a0)), (1, .int p1_), (2, .int p2_), (3, .int p3_)] := hl
  refine lv_aload_n hx hb dX9_addSection_0 rfl (lv_at hl 0 rfl) ?_
  refine lv_iconst (v := 0) hx hb dX9_addSection_1 (by decide) ?_
  refine q_lt (fun M1 e_M1 => ?_)
  refine m_pI (k := 0) X hH hL okC9 t0 rfl rfl rfl rfl W1284 dX9_addSection_2 e_M1 (fun H locs hH hL => ?_)
  refine lv_aload_n hx hb dX9_addSection_5 rfl (lv_at hl 0 rfl) ?_
  refine lv_iload_n hx hb dX9_addSection_6 rfl (lv_at hl 1 rfl) ?_
  refine lv_iload_n hx hb dX9_addSection_7 rfl (lv_at hl 2 rfl) ?_
  refine lv_iload_n hx hb dX9_addSection_8 rfl (lv_at hl 3 rfl) ?_
  refine q_bind (fun v3 e2 => ?_)
  refine my_doneI hL (my_runV X hH hl.1 (co_X9_notAdd g l hst a0 p1_ p2_ p3_ M1 t0 v3 e2) ok_X9_notAdd W1346 t0 rfl (by decide) rfl rfl rfl ⟨Nat.le_of_ble_eq_true rfl, Nat.le_of_ble_eq_true rfl⟩ ⟨Nat.zero_le _, Nat.zero_le _⟩ (Nat.le_of_ble_eq_true rfl) dX9_addSection_9) (fun H locs hH hL => ?_)
  refine lv_istore (lv' := [(4, .int v3), (0, .ref (adr g a0)), (1, .int p1_), (2, .int p2_), (3, .int p3_)]) hx hb dX9_addSection_12 hl (by decide) rfl (fun ls hl => ?_)
  refine lv_iload hx hb dX9_addSection_14 (lv_at hl 0 rfl) ?_
  refine lv_if_eq (tgt := 26) hx hb dX9_addSection_16 (by decide) (fun c4 => q_pos c4 ?_) (fun c4 => q_neg c4 ?_)
  · refine lv_aload_n hx hb dX9_addSection_26 rfl (lv_at hl 1 rfl) ?_
    refine q_b1 (fun u6 M7 e5 => ?_)
    refine my_doneU hL (my_runV X hH hl.1 (co_X9_remembers g l hst a0 M1 t0 u6 M7 e5) ok_X9_remembers W1360 t0 rfl (by decide) rfl rfl rfl ⟨Nat.le_of_ble_eq_true rfl, Nat.le_of_ble_eq_true rfl⟩ ⟨Nat.zero_le _, Nat.zero_le _⟩ (Nat.le_of_ble_eq_true rfl) dX9_addSection_27) (fun H locs hH hL => ?_)
    refine lv_aload_n hx hb dX9_addSection_30 rfl (lv_at hl 1 rfl) ?_
    refine lv_iload_n hx hb dX9_addSection_31 rfl (lv_at hl 2 rfl) ?_
    refine lv_iload_n hx hb dX9_addSection_32 rfl (lv_at hl 3 rfl) ?_
    refine lv_iload_n hx hb dX9_addSection_33 rfl (lv_at hl 4 rfl) ?_
    refine q_b1 (fun v9 M10 e8 => ?_)
    refine my_doneI hL (my_runV X hH hl.1 (co_X9_addsSection g l hst a0 p1_ p2_ p3_ M7 t0 v9 M10 e8) ok_X9_addsSection W1372 t0 rfl (by decide) rfl rfl rfl ⟨Nat.le_of_ble_eq_true rfl, Nat.le_of_ble_eq_true rfl⟩ ⟨Nat.zero_le _, Nat.zero_le _⟩ (Nat.le_of_ble_eq_true rfl) dX9_addSection_34) (fun H locs hH hL => ?_)
    exact q_end1 (m_iret X hr hH hL dX9_addSection_37)
  · refine lv_aload_n hx hb dX9_addSection_19 rfl (lv_at hl 1 rfl) ?_
    refine lv_iload hx hb dX9_addSection_20 (lv_at hl 0 rfl) ?_
    refine q_b1 (fun v12 M13 e11 => ?_)
    refine my_doneI hL (my_runV X hH hl.1 (co_X9_fails g l hst a0 v3 M1 t0 v12 M13 e11) ok_X9_fails W1356 t0 rfl (by decide) rfl rfl rfl ⟨Nat.le_of_ble_eq_true rfl, Nat.le_of_ble_eq_true rfl⟩ ⟨Nat.zero_le _, Nat.zero_le _⟩ (Nat.le_of_ble_eq_true rfl) dX9_addSection_22) (fun H locs hH hL => ?_)
    exact q_end1 (m_iret X hr hH hL dX9_addSection_25)

set_option maxRecDepth 20000 in
set_option maxHeartbeats 4000000 in
theorem co_X9_notSection (g : GP) (l : Launch) (hst : l.stackTraces = false) (a0 : Nat) (p1_ : Int32) (M : Mem) (t0 : tyT a0 = 9) (v : Int32) (hF : F_X9_notSection a0 p1_ M = some v) : CO g l yX9_notSection cX9_notSection 2 (some .int) 2 43 rvI [.ref (adr g a0), .int p1_] M (.inl v : Int32 ⊕ String) M := by
  refine CO_of hst (by decide) (Nat.le_of_ble_eq_true rfl) ?_
  intro p e s m below meth c ls X hr htb hH hL hl
  have hx := X.1
  have hb := X.2.1
  have hts := X.2.2.2.2.1
  refine q_out hF ?_
  rw [F_X9_notSection]
  replace hl : lv_has ls 2 [(0, .ref (adr g a0)), (1, .int p1_)] := hl
  refine lv_aload_n hx hb dX9_notSection_0 rfl (lv_at hl 0 rfl) ?_
  refine lv_iload_n hx hb dX9_notSection_1 rfl (lv_at hl 1 rfl) ?_
  refine q_bind (fun v2 e1 => ?_)
  refine my_doneI hL (my_runV X hH hl.1 (co_X9_isSection g l hst a0 p1_ M t0 v2 e1) ok_X9_isSection W1384 t0 rfl (by decide) rfl rfl rfl ⟨Nat.le_of_ble_eq_true rfl, Nat.le_of_ble_eq_true rfl⟩ ⟨Nat.zero_le _, Nat.zero_le _⟩ (Nat.le_of_ble_eq_true rfl) dX9_notSection_2) (fun H locs hH hL => ?_)
  refine lv_if_eq (tgt := 12) hx hb dX9_notSection_5 (by decide) (fun c3 => q_pos c3 ?_) (fun c3 => q_neg c3 ?_)
  · refine lv_iconst (v := 1) hx hb dX9_notSection_12 (by decide) ?_
    exact q_end0 (m_iret X hr hH hL dX9_notSection_13)
  · refine lv_iconst (v := 0) hx hb dX9_notSection_8 (by decide) ?_
    refine lv_goto (tgt := 13) hx hb dX9_notSection_9 (by decide) ?_
    exact q_end0 (m_iret X hr hH hL dX9_notSection_13)

set_option maxRecDepth 20000 in
set_option maxHeartbeats 4000000 in
theorem co_X9_removesSection (g : GP) (l : Launch) (hst : l.stackTraces = false) (a0 : Nat) (p1_ : Int32) (M : Mem) (t0 : tyT a0 = 9) (v : Int32) (M' : Mem) (hF : F_X9_removesSection a0 p1_ M = some (v, M')) : CO g l yX9_removesSection cX9_removesSection 4 (some .int) 0 0 rvI [.ref (adr g a0), .int p1_] M (.inl v : Int32 ⊕ String) M' := by
  refine CO_of hst (by decide) (Nat.le_of_ble_eq_true rfl) ?_
  intro p e s m below meth c ls X hr htb hH hL hl
  have hx := X.1
  have hb := X.2.1
  have hts := X.2.2.2.2.1
  refine q_out hF ?_
  rw [F_X9_removesSection]
  replace hl : lv_has ls 4 [(0, .ref (adr g a0)), (1, .int p1_)] := hl
  refine lv_aload_n hx hb dX9_removesSection_0 rfl (lv_at hl 0 rfl) ?_
  refine m_gR (k := 1) X hH inC9 t0 rfl W1285 dX9_removesSection_1 24 rfl (fun t1 => ?_)
  refine lv_iconst (v := 0) hx hb dX9_removesSection_4 (by decide) ?_
  refine lv_dup2_11 hx hb dX9_removesSection_5 rfl rfl ?_
  refine q_chk (fun hb2 => ?_)
  refine m_iald X hH t1 rfl (by decide) (fun _ => rfl) rfl rfl hb2 dX9_removesSection_6 ?_
  refine lv_iconst (v := 1) hx hb dX9_removesSection_7 (by decide) ?_
  refine lv_isub hx hb dX9_removesSection_8 ?_
  refine q_chk (fun hb3 => ?_)
  refine q_lt (fun M4 e_M4 => ?_)
  refine m_is X hH hL t1 rfl (by decide) (fun _ => rfl) rfl rfl hb3 dX9_removesSection_9 e_M4 (fun H locs hH hL => ?_)
  refine lv_bipush (v := 45) hx hb dX9_removesSection_10 (by decide) ?_
  refine lv_bipush (v := 43) hx hb dX9_removesSection_12 (by decide) ?_
  refine lv_aload_n hx hb dX9_removesSection_14 rfl (lv_at hl 0 rfl) ?_
  refine m_gR (k := 1) X hH inC9 t0 rfl W1285 dX9_removesSection_15 24 rfl (fun t5 => ?_)
  refine lv_iconst (v := 0) hx hb dX9_removesSection_18 (by decide) ?_
  refine q_chk (fun hb6 => ?_)
  refine m_iald X hH t5 rfl (by decide) (fun _ => rfl) rfl rfl hb6 dX9_removesSection_19 ?_
  refine lv_imul hx hb dX9_removesSection_20 ?_
  refine lv_iadd hx hb dX9_removesSection_21 ?_
  refine q_lt (fun v7 e_v7 => ?_)
  refine q_topI e_v7 ?_
  refine lv_istore_n (lv' := [(2, .int v7), (0, .ref (adr g a0)), (1, .int p1_)]) hx hb dX9_removesSection_22 rfl hl (by decide) rfl (fun ls hl => ?_)
  refine lv_bipush (v := 45) hx hb dX9_removesSection_23 (by decide) ?_
  refine lv_bipush (v := 43) hx hb dX9_removesSection_25 (by decide) ?_
  refine lv_iload_n hx hb dX9_removesSection_27 rfl (lv_at hl 2 rfl) ?_
  refine lv_imul hx hb dX9_removesSection_28 ?_
  refine lv_iadd hx hb dX9_removesSection_29 ?_
  refine q_lt (fun v8 e_v8 => ?_)
  refine q_topI e_v8 ?_
  refine lv_istore_n (lv' := [(3, .int v8), (2, .int v7), (0, .ref (adr g a0)), (1, .int p1_)]) hx hb dX9_removesSection_30 rfl hl (by decide) rfl (fun ls hl => ?_)
  have L19 : ∀ (K : Int32 → Mem → Option (Int32 × Mem)) (_ : ∀ (i9 : Int32) (M10 : Mem) (H : Heap) (locs : List Loc) (ls : Array Slot), HR g M10 H → LK g s H locs → lv_has ls 4 [(0, .ref (adr g a0)), (1, .int p1_), (2, .int v7), (3, .int i9)] → W p l e (rmO (.inl v : Int32 ⊕ String) 0 0) s m ([.ref (adr g a0), .int p1_] : List Value).toArray below meth c H locs 0 0 (GQ (K i9 M10) (v, M') (MQO g below rvI (.inl v : Int32 ⊕ String) M' ([.ref (adr g a0), .int p1_] : List Value).toArray s)) (F0 m 57 ls [])) (n : Nat) (i9 : Int32) (M10 : Mem) (H : Heap) (locs : List Loc) (ls : Array Slot), HR g M10 H → LK g s H locs → lv_has ls 4 [(0, .ref (adr g a0)), (1, .int p1_), (2, .int v7), (3, .int i9)] → W p l e (rmO (.inl v : Int32 ⊕ String) 0 0) s m ([.ref (adr g a0), .int p1_] : List Value).toArray below meth c H locs 0 0 (GQ (F_X9_removesSection_L1 a0 v7 K n i9 M10) (v, M') (MQO g below rvI (.inl v : Int32 ⊕ String) M' ([.ref (adr g a0), .int p1_] : List Value).toArray s)) (F0 m 31 ls []) := by
    intro K hK n
    induction n with
    | zero => intros; exact q_none
    | succ n ih =>
      intro i9 M10 H locs ls hH hL hl 
      rw [F_X9_removesSection_L1]
      refine lv_iload_n hx hb dX9_removesSection_31 rfl (lv_at hl 3 rfl) ?_
      refine lv_iload_n hx hb dX9_removesSection_32 rfl (lv_at hl 2 rfl) ?_
      refine lv_icmp_ge (tgt := 57) hx hb dX9_removesSection_33 (by decide) (fun c12 => q_pos c12 ?_) (fun c12 => q_neg c12 ?_)
      · exact hK i9 M10 _ _ ls hH hL hl 
      · refine lv_aload_n hx hb dX9_removesSection_36 rfl (lv_at hl 0 rfl) ?_
        refine m_gR (k := 1) X hH inC9 t0 rfl W1285 dX9_removesSection_37 24 rfl (fun t13 => ?_)
        refine lv_iload_n hx hb dX9_removesSection_40 rfl (lv_at hl 3 rfl) ?_
        refine lv_aload_n hx hb dX9_removesSection_41 rfl (lv_at hl 0 rfl) ?_
        refine m_gR (k := 1) X hH inC9 t0 rfl W1285 dX9_removesSection_42 24 rfl (fun t14 => ?_)
        refine lv_iload_n hx hb dX9_removesSection_45 rfl (lv_at hl 3 rfl) ?_
        refine lv_bipush (v := 43) hx hb dX9_removesSection_46 (by decide) ?_
        refine lv_iadd hx hb dX9_removesSection_48 ?_
        refine q_chk (fun hb15 => ?_)
        refine m_iald X hH t14 rfl (by decide) (fun _ => rfl) rfl rfl hb15 dX9_removesSection_49 ?_
        refine q_chk (fun hb16 => ?_)
        refine q_lt (fun M17 e_M17 => ?_)
        refine m_is X hH hL t13 rfl (by decide) (fun _ => rfl) rfl rfl hb16 dX9_removesSection_50 e_M17 (fun H locs hH hL => ?_)
        refine q_lt (fun v18 e_v18 => ?_)
        refine lv_iinc (v := v18) (lv' := [(3, .int v18), (0, .ref (adr g a0)), (1, .int p1_), (2, .int v7)]) hx hb dX9_removesSection_51 hl (k := 3) rfl (by rw [e_v18]; rfl) (by decide) rfl (fun ls hl => ?_)
        refine lv_goto (tgt := 31) hx hb dX9_removesSection_54 (by decide) ?_
        exact ih v18 M17 _ _ ls hH hL (lv_sub hl [1, 2, 3, 0] rfl) 
  refine L19 _ (fun x20 M21 H locs ls hH hL hl  => ?_) 3000 v8 M4 _ _ ls hH hL (lv_sub hl [2, 3, 1, 0] rfl) 
  refine lv_iconst (v := 0) hx hb dX9_removesSection_57 (by decide) ?_
  refine lv_istore_n (lv' := [(3, .int 0), (0, .ref (adr g a0)), (1, .int p1_), (2, .int v7)]) hx hb dX9_removesSection_58 rfl hl (by decide) rfl (fun ls hl => ?_)
  have L30 : ∀ (K : Int32 → Mem → Option (Int32 × Mem)) (_ : ∀ (i22 : Int32) (M23 : Mem) (H : Heap) (locs : List Loc) (ls : Array Slot), HR g M23 H → LK g s H locs → lv_has ls 4 [(0, .ref (adr g a0)), (1, .int p1_), (2, .int v7), (3, .int i22)] → W p l e (rmO (.inl v : Int32 ⊕ String) 0 0) s m ([.ref (adr g a0), .int p1_] : List Value).toArray below meth c H locs 0 0 (GQ (K i22 M23) (v, M') (MQO g below rvI (.inl v : Int32 ⊕ String) M' ([.ref (adr g a0), .int p1_] : List Value).toArray s)) (F0 m 80 ls [])) (n : Nat) (i22 : Int32) (M23 : Mem) (H : Heap) (locs : List Loc) (ls : Array Slot), HR g M23 H → LK g s H locs → lv_has ls 4 [(0, .ref (adr g a0)), (1, .int p1_), (2, .int v7), (3, .int i22)] → W p l e (rmO (.inl v : Int32 ⊕ String) 0 0) s m ([.ref (adr g a0), .int p1_] : List Value).toArray below meth c H locs 0 0 (GQ (F_X9_removesSection_L2 a0 v7 K n i22 M23) (v, M') (MQO g below rvI (.inl v : Int32 ⊕ String) M' ([.ref (adr g a0), .int p1_] : List Value).toArray s)) (F0 m 59 ls []) := by
    intro K hK n
    induction n with
    | zero => intros; exact q_none
    | succ n ih =>
      intro i22 M23 H locs ls hH hL hl 
      rw [F_X9_removesSection_L2]
      refine lv_iload_n hx hb dX9_removesSection_59 rfl (lv_at hl 3 rfl) ?_
      refine lv_bipush (v := 43) hx hb dX9_removesSection_60 (by decide) ?_
      refine lv_icmp_ge (tgt := 80) hx hb dX9_removesSection_62 (by decide) (fun c25 => q_pos c25 ?_) (fun c25 => q_neg c25 ?_)
      · exact hK i22 M23 _ _ ls hH hL hl 
      · refine lv_aload_n hx hb dX9_removesSection_65 rfl (lv_at hl 0 rfl) ?_
        refine m_gR (k := 1) X hH inC9 t0 rfl W1285 dX9_removesSection_66 24 rfl (fun t26 => ?_)
        refine lv_iload_n hx hb dX9_removesSection_69 rfl (lv_at hl 2 rfl) ?_
        refine lv_iload_n hx hb dX9_removesSection_70 rfl (lv_at hl 3 rfl) ?_
        refine lv_iadd hx hb dX9_removesSection_71 ?_
        refine lv_iconst (v := 0) hx hb dX9_removesSection_72 (by decide) ?_
        refine q_chk (fun hb27 => ?_)
        refine q_lt (fun M28 e_M28 => ?_)
        refine m_is X hH hL t26 rfl (by decide) (fun _ => rfl) rfl rfl hb27 dX9_removesSection_73 e_M28 (fun H locs hH hL => ?_)
        refine q_lt (fun v29 e_v29 => ?_)
        refine lv_iinc (v := v29) (lv' := [(3, .int v29), (0, .ref (adr g a0)), (1, .int p1_), (2, .int v7)]) hx hb dX9_removesSection_74 hl (k := 3) rfl (by rw [e_v29]; rfl) (by decide) rfl (fun ls hl => ?_)
        refine lv_goto (tgt := 59) hx hb dX9_removesSection_77 (by decide) ?_
        exact ih v29 M28 _ _ ls hH hL (lv_sub hl [1, 2, 3, 0] rfl) 
  refine L30 _ (fun x31 M32 H locs ls hH hL hl  => ?_) 3000 0 M21 _ _ ls hH hL (lv_sub hl [1, 2, 3, 0] rfl) 
  refine lv_aload_n hx hb dX9_removesSection_80 rfl (lv_at hl 0 rfl) ?_
  refine m_gR (k := 1) X hH inC9 t0 rfl W1285 dX9_removesSection_81 24 rfl (fun t33 => ?_)
  refine lv_iconst (v := 0) hx hb dX9_removesSection_84 (by decide) ?_
  refine q_chk (fun hb34 => ?_)
  refine m_iald X hH t33 rfl (by decide) (fun _ => rfl) rfl rfl hb34 dX9_removesSection_85 ?_
  exact q_end1 (m_iret X hr hH hL dX9_removesSection_86)

set_option maxRecDepth 20000 in
set_option maxHeartbeats 4000000 in
theorem co_X9_removeSection (g : GP) (l : Launch) (hst : l.stackTraces = false) (a0 : Nat) (p1_ : Int32) (M : Mem) (t0 : tyT a0 = 9) (v : Int32) (M' : Mem) (hF : F_X9_removeSection a0 p1_ M = some (v, M')) : CO g l yX9_removeSection cX9_removeSection 2 (some .int) 2 43 rvI [.ref (adr g a0), .int p1_] M (.inl v : Int32 ⊕ String) M' := by
  refine CO_of hst (by decide) (Nat.le_of_ble_eq_true rfl) ?_
  intro p e s m below meth c ls X hr htb hH hL hl
  have hx := X.1
  have hb := X.2.1
  have hts := X.2.2.2.2.1
  refine q_out hF ?_
  rw [F_X9_removeSection]
  replace hl : lv_has ls 2 [(0, .ref (adr g a0)), (1, .int p1_)] := hl
  refine lv_aload_n hx hb dX9_removeSection_0 rfl (lv_at hl 0 rfl) ?_
  refine lv_iconst (v := 0) hx hb dX9_removeSection_1 (by decide) ?_
  refine q_lt (fun M1 e_M1 => ?_)
  refine m_pI (k := 0) X hH hL okC9 t0 rfl rfl rfl rfl W1284 dX9_removeSection_2 e_M1 (fun H locs hH hL => ?_)
  refine lv_aload_n hx hb dX9_removeSection_5 rfl (lv_at hl 0 rfl) ?_
  refine lv_iload_n hx hb dX9_removeSection_6 rfl (lv_at hl 1 rfl) ?_
  refine q_bind (fun v3 e2 => ?_)
  refine my_doneI hL (my_runV X hH hl.1 (co_X9_isSection g l hst a0 p1_ M1 t0 v3 e2) ok_X9_isSection W1384 t0 rfl (by decide) rfl rfl rfl ⟨Nat.le_of_ble_eq_true rfl, Nat.le_of_ble_eq_true rfl⟩ ⟨Nat.zero_le _, Nat.zero_le _⟩ (Nat.le_of_ble_eq_true rfl) dX9_removeSection_7) (fun H locs hH hL => ?_)
  refine lv_if_ne (tgt := 19) hx hb dX9_removeSection_10 (by decide) (fun c4 => q_neg c4 ?_) (fun c4 => q_pos c4 ?_)
  · refine lv_aload_n hx hb dX9_removeSection_19 rfl (lv_at hl 0 rfl) ?_
    refine q_b1 (fun u6 M7 e5 => ?_)
    refine my_doneU hL (my_runV X hH hl.1 (co_X9_remembers g l hst a0 M1 t0 u6 M7 e5) ok_X9_remembers W1360 t0 rfl (by decide) rfl rfl rfl ⟨Nat.le_of_ble_eq_true rfl, Nat.le_of_ble_eq_true rfl⟩ ⟨Nat.zero_le _, Nat.zero_le _⟩ (Nat.le_of_ble_eq_true rfl) dX9_removeSection_20) (fun H locs hH hL => ?_)
    refine lv_aload_n hx hb dX9_removeSection_23 rfl (lv_at hl 0 rfl) ?_
    refine lv_iload_n hx hb dX9_removeSection_24 rfl (lv_at hl 1 rfl) ?_
    refine q_b1 (fun v9 M10 e8 => ?_)
    refine my_doneI hL (my_runV X hH hl.1 (co_X9_removesSection g l hst a0 p1_ M7 t0 v9 M10 e8) ok_X9_removesSection W1388 t0 rfl (by decide) rfl rfl rfl ⟨Nat.le_of_ble_eq_true rfl, Nat.le_of_ble_eq_true rfl⟩ ⟨Nat.zero_le _, Nat.zero_le _⟩ (Nat.le_of_ble_eq_true rfl) dX9_removeSection_25) (fun H locs hH hL => ?_)
    exact q_end1 (m_iret X hr hH hL dX9_removeSection_28)
  · refine lv_aload_n hx hb dX9_removeSection_13 rfl (lv_at hl 0 rfl) ?_
    refine lv_iconst (v := 1) hx hb dX9_removeSection_14 (by decide) ?_
    refine q_b1 (fun v12 M13 e11 => ?_)
    refine my_doneI hL (my_runV X hH hl.1 (co_X9_fails g l hst a0 1 M1 t0 v12 M13 e11) ok_X9_fails W1356 t0 rfl (by decide) rfl rfl rfl ⟨Nat.le_of_ble_eq_true rfl, Nat.le_of_ble_eq_true rfl⟩ ⟨Nat.zero_le _, Nat.zero_le _⟩ (Nat.le_of_ble_eq_true rfl) dX9_removeSection_15) (fun H locs hH hL => ?_)
    exact q_end1 (m_iret X hr hH hL dX9_removeSection_18)

set_option maxRecDepth 20000 in
set_option maxHeartbeats 4000000 in
theorem co_X9_notNote (g : GP) (l : Launch) (hst : l.stackTraces = false) (a0 : Nat) (p1_ : Int32) (p2_ : Int32) (p3_ : Int32) (p4_ : Int32) (M : Mem) (t0 : tyT a0 = 9) (v : Int32) (hF : F_X9_notNote a0 p1_ p2_ p3_ p4_ M = some v) : CO g l yX9_notNote cX9_notNote 5 (some .int) 3 66 rvI [.ref (adr g a0), .int p1_, .int p2_, .int p3_, .int p4_] M (.inl v : Int32 ⊕ String) M := by
  refine CO_of hst (by decide) (Nat.le_of_ble_eq_true rfl) ?_
  intro p e s m below meth c ls X hr htb hH hL hl
  have hx := X.1
  have hb := X.2.1
  have hts := X.2.2.2.2.1
  refine q_out hF ?_
  rw [F_X9_notNote]
  replace hl : lv_has ls 5 [(0, .ref (adr g a0)), (1, .int p1_), (2, .int p2_), (3, .int p3_), (4, .int p4_)] := hl
  refine lv_aload_n hx hb dX9_notNote_0 rfl (lv_at hl 0 rfl) ?_
  refine lv_iload_n hx hb dX9_notNote_1 rfl (lv_at hl 1 rfl) ?_
  refine lv_iload_n hx hb dX9_notNote_2 rfl (lv_at hl 2 rfl) ?_
  refine lv_iload_n hx hb dX9_notNote_3 rfl (lv_at hl 3 rfl) ?_
  refine q_bind (fun v2 e1 => ?_)
  refine my_doneI hL (my_runV X hH hl.1 (co_X9_isCell g l hst a0 p1_ p2_ p3_ M t0 v2 e1) ok_X9_isCell W1400 t0 rfl (by decide) rfl rfl rfl ⟨Nat.le_of_ble_eq_true rfl, Nat.le_of_ble_eq_true rfl⟩ ⟨Nat.zero_le _, Nat.zero_le _⟩ (Nat.le_of_ble_eq_true rfl) dX9_notNote_4) (fun H locs hH hL => ?_)
  refine lv_if_ne (tgt := 12) hx hb dX9_notNote_7 (by decide) (fun c3 => q_neg c3 ?_) (fun c3 => q_pos c3 ?_)
  · refine lv_iload hx hb dX9_notNote_12 (lv_at hl 4 rfl) ?_
    refine lv_iconst (v := 0) hx hb dX9_notNote_14 (by decide) ?_
    refine lv_bipush (v := 9) hx hb dX9_notNote_15 (by decide) ?_
    refine q_bind (fun v5 e4 => ?_)
    refine my_doneI hL (my_runS X hH hl.1 (co_X9_isBetween g l hst p4_ 0 9 M v5 e4) ok_X9_isBetween W1353 rfl rfl ⟨Nat.le_of_ble_eq_true rfl, Nat.le_of_ble_eq_true rfl⟩ ⟨Nat.zero_le _, Nat.zero_le _⟩ (Nat.le_of_ble_eq_true rfl) dX9_notNote_17) (fun H locs hH hL => ?_)
    refine lv_if_eq (tgt := 27) hx hb dX9_notNote_20 (by decide) (fun c6 => q_pos c6 ?_) (fun c6 => q_neg c6 ?_)
    · refine lv_iconst (v := 2) hx hb dX9_notNote_27 (by decide) ?_
      exact q_end0 (m_iret X hr hH hL dX9_notNote_28)
    · refine lv_iconst (v := 0) hx hb dX9_notNote_23 (by decide) ?_
      refine lv_goto (tgt := 28) hx hb dX9_notNote_24 (by decide) ?_
      exact q_end0 (m_iret X hr hH hL dX9_notNote_28)
  · refine lv_iconst (v := 1) hx hb dX9_notNote_10 (by decide) ?_
    exact q_end0 (m_iret X hr hH hL dX9_notNote_11)

set_option maxRecDepth 20000 in
set_option maxHeartbeats 4000000 in
theorem co_X9_setsNote (g : GP) (l : Launch) (hst : l.stackTraces = false) (a0 : Nat) (p1_ : Int32) (p2_ : Int32) (p3_ : Int32) (p4_ : Int32) (M : Mem) (t0 : tyT a0 = 9) (v : Int32) (M' : Mem) (hF : F_X9_setsNote a0 p1_ p2_ p3_ p4_ M = some (v, M')) : CO g l yX9_setsNote cX9_setsNote 6 (some .int) 2 47 rvI [.ref (adr g a0), .int p1_, .int p2_, .int p3_, .int p4_] M (.inl v : Int32 ⊕ String) M' := by
  refine CO_of hst (by decide) (Nat.le_of_ble_eq_true rfl) ?_
  intro p e s m below meth c ls X hr htb hH hL hl
  have hx := X.1
  have hb := X.2.1
  have hts := X.2.2.2.2.1
  refine q_out hF ?_
  rw [F_X9_setsNote]
  replace hl : lv_has ls 6 [(0, .ref (adr g a0)), (1, .int p1_), (2, .int p2_), (3, .int p3_), (4, .int p4_)] := hl
  refine lv_aload_n hx hb dX9_setsNote_0 rfl (lv_at hl 0 rfl) ?_
  refine lv_iload_n hx hb dX9_setsNote_1 rfl (lv_at hl 1 rfl) ?_
  refine lv_iload_n hx hb dX9_setsNote_2 rfl (lv_at hl 2 rfl) ?_
  refine lv_iload_n hx hb dX9_setsNote_3 rfl (lv_at hl 3 rfl) ?_
  refine q_bind (fun v2 e1 => ?_)
  refine my_doneI hL (my_runV X hH hl.1 (co_X9_noteAt g l hst a0 p1_ p2_ p3_ M t0 v2 e1) ok_X9_noteAt W1412 t0 rfl (by decide) rfl rfl rfl ⟨Nat.le_of_ble_eq_true rfl, Nat.le_of_ble_eq_true rfl⟩ ⟨Nat.zero_le _, Nat.zero_le _⟩ (Nat.le_of_ble_eq_true rfl) dX9_setsNote_4) (fun H locs hH hL => ?_)
  refine lv_istore (lv' := [(5, .int v2), (0, .ref (adr g a0)), (1, .int p1_), (2, .int p2_), (3, .int p3_), (4, .int p4_)]) hx hb dX9_setsNote_7 hl (by decide) rfl (fun ls hl => ?_)
  refine lv_aload_n hx hb dX9_setsNote_9 rfl (lv_at hl 1 rfl) ?_
  refine lv_iload_n hx hb dX9_setsNote_10 rfl (lv_at hl 2 rfl) ?_
  refine lv_iload_n hx hb dX9_setsNote_11 rfl (lv_at hl 3 rfl) ?_
  refine lv_iload_n hx hb dX9_setsNote_12 rfl (lv_at hl 4 rfl) ?_
  refine lv_iload hx hb dX9_setsNote_13 (lv_at hl 5 rfl) ?_
  refine q_b1 (fun u4 M5 e3 => ?_)
  refine my_doneU hL (my_runV X hH hl.1 (co_X9_putsNote g l hst a0 p1_ p2_ p3_ p4_ M t0 u4 M5 e3) ok_X9_putsNote W1416 t0 rfl (by decide) rfl rfl rfl ⟨Nat.le_of_ble_eq_true rfl, Nat.le_of_ble_eq_true rfl⟩ ⟨Nat.zero_le _, Nat.zero_le _⟩ (Nat.le_of_ble_eq_true rfl) dX9_setsNote_15) (fun H locs hH hL => ?_)
  refine lv_iload hx hb dX9_setsNote_18 (lv_at hl 0 rfl) ?_
  exact q_end1 (m_iret X hr hH hL dX9_setsNote_20)

set_option maxRecDepth 20000 in
set_option maxHeartbeats 4000000 in
theorem co_X9_setNote (g : GP) (l : Launch) (hst : l.stackTraces = false) (a0 : Nat) (p1_ : Int32) (p2_ : Int32) (p3_ : Int32) (p4_ : Int32) (M : Mem) (t0 : tyT a0 = 9) (v : Int32) (M' : Mem) (hF : F_X9_setNote a0 p1_ p2_ p3_ p4_ M = some (v, M')) : CO g l yX9_setNote cX9_setNote 6 (some .int) 4 90 rvI [.ref (adr g a0), .int p1_, .int p2_, .int p3_, .int p4_] M (.inl v : Int32 ⊕ String) M' := by
  refine CO_of hst (by decide) (Nat.le_of_ble_eq_true rfl) ?_
  intro p e s m below meth c ls X hr htb hH hL hl
  have hx := X.1
  have hb := X.2.1
  have hts := X.2.2.2.2.1
  refine q_out hF ?_
  rw [F_X9_setNote]
  replace hl : lv_has ls 6 [(0, .ref (adr g a0)), (1, .int p1_), (2, .int p2_), (3, .int p3_), (4, .int p4_)] := hl
  refine lv_aload_n hx hb dX9_setNote_0 rfl (lv_at hl 0 rfl) ?_
  refine lv_iconst (v := 0) hx hb dX9_setNote_1 (by decide) ?_
  refine q_lt (fun M1 e_M1 => ?_)
  refine m_pI (k := 0) X hH hL okC9 t0 rfl rfl rfl rfl W1284 dX9_setNote_2 e_M1 (fun H locs hH hL => ?_)
  refine lv_aload_n hx hb dX9_setNote_5 rfl (lv_at hl 0 rfl) ?_
  refine lv_iload_n hx hb dX9_setNote_6 rfl (lv_at hl 1 rfl) ?_
  refine lv_iload_n hx hb dX9_setNote_7 rfl (lv_at hl 2 rfl) ?_
  refine lv_iload_n hx hb dX9_setNote_8 rfl (lv_at hl 3 rfl) ?_
  refine lv_iload hx hb dX9_setNote_9 (lv_at hl 4 rfl) ?_
  refine q_bind (fun v3 e2 => ?_)
  refine my_doneI hL (my_runV X hH hl.1 (co_X9_notNote g l hst a0 p1_ p2_ p3_ p4_ M1 t0 v3 e2) ok_X9_notNote W1396 t0 rfl (by decide) rfl rfl rfl ⟨Nat.le_of_ble_eq_true rfl, Nat.le_of_ble_eq_true rfl⟩ ⟨Nat.zero_le _, Nat.zero_le _⟩ (Nat.le_of_ble_eq_true rfl) dX9_setNote_11) (fun H locs hH hL => ?_)
  refine lv_istore (lv' := [(5, .int v3), (0, .ref (adr g a0)), (1, .int p1_), (2, .int p2_), (3, .int p3_), (4, .int p4_)]) hx hb dX9_setNote_14 hl (by decide) rfl (fun ls hl => ?_)
  refine lv_iload hx hb dX9_setNote_16 (lv_at hl 0 rfl) ?_
  refine lv_if_eq (tgt := 28) hx hb dX9_setNote_18 (by decide) (fun c4 => q_pos c4 ?_) (fun c4 => q_neg c4 ?_)
  · refine lv_aload_n hx hb dX9_setNote_28 rfl (lv_at hl 1 rfl) ?_
    refine q_b1 (fun u6 M7 e5 => ?_)
    refine my_doneU hL (my_runV X hH hl.1 (co_X9_remembers g l hst a0 M1 t0 u6 M7 e5) ok_X9_remembers W1360 t0 rfl (by decide) rfl rfl rfl ⟨Nat.le_of_ble_eq_true rfl, Nat.le_of_ble_eq_true rfl⟩ ⟨Nat.zero_le _, Nat.zero_le _⟩ (Nat.le_of_ble_eq_true rfl) dX9_setNote_29) (fun H locs hH hL => ?_)
    refine lv_aload_n hx hb dX9_setNote_32 rfl (lv_at hl 1 rfl) ?_
    refine lv_iload_n hx hb dX9_setNote_33 rfl (lv_at hl 2 rfl) ?_
    refine lv_iload_n hx hb dX9_setNote_34 rfl (lv_at hl 3 rfl) ?_
    refine lv_iload_n hx hb dX9_setNote_35 rfl (lv_at hl 4 rfl) ?_
    refine lv_iload hx hb dX9_setNote_36 (lv_at hl 5 rfl) ?_
    refine q_b1 (fun v9 M10 e8 => ?_)
    refine my_doneI hL (my_runV X hH hl.1 (co_X9_setsNote g l hst a0 p1_ p2_ p3_ p4_ M7 t0 v9 M10 e8) ok_X9_setsNote W1408 t0 rfl (by decide) rfl rfl rfl ⟨Nat.le_of_ble_eq_true rfl, Nat.le_of_ble_eq_true rfl⟩ ⟨Nat.zero_le _, Nat.zero_le _⟩ (Nat.le_of_ble_eq_true rfl) dX9_setNote_38) (fun H locs hH hL => ?_)
    exact q_end1 (m_iret X hr hH hL dX9_setNote_41)
  · refine lv_aload_n hx hb dX9_setNote_21 rfl (lv_at hl 1 rfl) ?_
    refine lv_iload hx hb dX9_setNote_22 (lv_at hl 0 rfl) ?_
    refine q_b1 (fun v12 M13 e11 => ?_)
    refine my_doneI hL (my_runV X hH hl.1 (co_X9_fails g l hst a0 v3 M1 t0 v12 M13 e11) ok_X9_fails W1356 t0 rfl (by decide) rfl rfl rfl ⟨Nat.le_of_ble_eq_true rfl, Nat.le_of_ble_eq_true rfl⟩ ⟨Nat.zero_le _, Nat.zero_le _⟩ (Nat.le_of_ble_eq_true rfl) dX9_setNote_24) (fun H locs hH hL => ?_)
    exact q_end1 (m_iret X hr hH hL dX9_setNote_27)

set_option maxRecDepth 20000 in
set_option maxHeartbeats 4000000 in
theorem co_X9_notMask (g : GP) (l : Launch) (hst : l.stackTraces = false) (a0 : Nat) (p1_ : Int32) (p2_ : Int32) (M : Mem) (t0 : tyT a0 = 9) (v : Int32) (hF : F_X9_notMask a0 p1_ p2_ M = some v) : CO g l yX9_notMask cX9_notMask 3 (some .int) 2 43 rvI [.ref (adr g a0), .int p1_, .int p2_] M (.inl v : Int32 ⊕ String) M := by
  refine CO_of hst (by decide) (Nat.le_of_ble_eq_true rfl) ?_
  intro p e s m below meth c ls X hr htb hH hL hl
  have hx := X.1
  have hb := X.2.1
  have hts := X.2.2.2.2.1
  refine q_out hF ?_
  rw [F_X9_notMask]
  replace hl : lv_has ls 3 [(0, .ref (adr g a0)), (1, .int p1_), (2, .int p2_)] := hl
  refine lv_aload_n hx hb dX9_notMask_0 rfl (lv_at hl 0 rfl) ?_
  refine lv_iload_n hx hb dX9_notMask_1 rfl (lv_at hl 1 rfl) ?_
  refine q_bind (fun v2 e1 => ?_)
  refine my_doneI hL (my_runV X hH hl.1 (co_X9_isSection g l hst a0 p1_ M t0 v2 e1) ok_X9_isSection W1384 t0 rfl (by decide) rfl rfl rfl ⟨Nat.le_of_ble_eq_true rfl, Nat.le_of_ble_eq_true rfl⟩ ⟨Nat.zero_le _, Nat.zero_le _⟩ (Nat.le_of_ble_eq_true rfl) dX9_notMask_2) (fun H locs hH hL => ?_)
  refine lv_if_ne (tgt := 10) hx hb dX9_notMask_5 (by decide) (fun c3 => q_neg c3 ?_) (fun c3 => q_pos c3 ?_)
  · refine lv_iload_n hx hb dX9_notMask_10 rfl (lv_at hl 2 rfl) ?_
    refine lv_iconst (v := 0) hx hb dX9_notMask_11 (by decide) ?_
    refine lv_iconst (v := 5) hx hb dX9_notMask_12 (by decide) ?_
    refine q_bind (fun v5 e4 => ?_)
    refine my_doneI hL (my_runS X hH hl.1 (co_X9_isBetween g l hst p2_ 0 5 M v5 e4) ok_X9_isBetween W1353 rfl rfl ⟨Nat.le_of_ble_eq_true rfl, Nat.le_of_ble_eq_true rfl⟩ ⟨Nat.zero_le _, Nat.zero_le _⟩ (Nat.le_of_ble_eq_true rfl) dX9_notMask_13) (fun H locs hH hL => ?_)
    refine lv_if_eq (tgt := 23) hx hb dX9_notMask_16 (by decide) (fun c6 => q_pos c6 ?_) (fun c6 => q_neg c6 ?_)
    · refine lv_iconst (v := 2) hx hb dX9_notMask_23 (by decide) ?_
      exact q_end0 (m_iret X hr hH hL dX9_notMask_24)
    · refine lv_iconst (v := 0) hx hb dX9_notMask_19 (by decide) ?_
      refine lv_goto (tgt := 24) hx hb dX9_notMask_20 (by decide) ?_
      exact q_end0 (m_iret X hr hH hL dX9_notMask_24)
  · refine lv_iconst (v := 1) hx hb dX9_notMask_8 (by decide) ?_
    exact q_end0 (m_iret X hr hH hL dX9_notMask_9)

set_option maxRecDepth 20000 in
set_option maxHeartbeats 4000000 in
theorem co_X9_setsMasked (g : GP) (l : Launch) (hst : l.stackTraces = false) (a0 : Nat) (p1_ : Int32) (p2_ : Int32) (p3_ : Int32) (M : Mem) (t0 : tyT a0 = 9) (v : Int32) (M' : Mem) (hF : F_X9_setsMasked a0 p1_ p2_ p3_ M = some (v, M')) : CO g l yX9_setsMasked cX9_setsMasked 6 (some .int) 2 44 rvI [.ref (adr g a0), .int p1_, .int p2_, .int p3_] M (.inl v : Int32 ⊕ String) M' := by
  refine CO_of hst (by decide) (Nat.le_of_ble_eq_true rfl) ?_
  intro p e s m below meth c ls X hr htb hH hL hl
  have hx := X.1
  have hb := X.2.1
  have hts := X.2.2.2.2.1
  refine q_out hF ?_
  rw [F_X9_setsMasked]
  replace hl : lv_has ls 6 [(0, .ref (adr g a0)), (1, .int p1_), (2, .int p2_), (3, .int p3_)] := hl
  refine lv_aload_n hx hb dX9_setsMasked_0 rfl (lv_at hl 0 rfl) ?_
  refine lv_iload_n hx hb dX9_setsMasked_1 rfl (lv_at hl 1 rfl) ?_
  refine lv_iload_n hx hb dX9_setsMasked_2 rfl (lv_at hl 2 rfl) ?_
  refine q_bind (fun v2 e1 => ?_)
  refine my_doneI hL (my_runV X hH hl.1 (co_X9_isMaskedAt g l hst a0 p1_ p2_ M t0 v2 e1) ok_X9_isMaskedAt W1432 t0 rfl (by decide) rfl rfl rfl ⟨Nat.le_of_ble_eq_true rfl, Nat.le_of_ble_eq_true rfl⟩ ⟨Nat.zero_le _, Nat.zero_le _⟩ (Nat.le_of_ble_eq_true rfl) dX9_setsMasked_3) (fun H locs hH hL => ?_)
  refine lv_istore (lv' := [(4, .int v2), (0, .ref (adr g a0)), (1, .int p1_), (2, .int p2_), (3, .int p3_)]) hx hb dX9_setsMasked_6 hl (by decide) rfl (fun ls hl => ?_)
  refine lv_aload_n hx hb dX9_setsMasked_8 rfl (lv_at hl 1 rfl) ?_
  refine lv_iload_n hx hb dX9_setsMasked_9 rfl (lv_at hl 2 rfl) ?_
  refine lv_iconst (v := 3) hx hb dX9_setsMasked_10 (by decide) ?_
  refine q_bind (fun v4 e3 => ?_)
  refine my_doneI hL (my_runV X hH hl.1 (co_X9_of g l hst a0 p1_ 3 M t0 v4 e3) ok_X9_of W1404 t0 rfl (by decide) rfl rfl rfl ⟨Nat.le_of_ble_eq_true rfl, Nat.le_of_ble_eq_true rfl⟩ ⟨Nat.zero_le _, Nat.zero_le _⟩ (Nat.le_of_ble_eq_true rfl) dX9_setsMasked_11) (fun H locs hH hL => ?_)
  refine lv_iload hx hb dX9_setsMasked_14 (lv_at hl 0 rfl) ?_
  refine lv_if_eq (tgt := 25) hx hb dX9_setsMasked_16 (by decide) (fun c5 => q_pos c5 ?_) (fun c5 => q_neg c5 ?_)
  · refine lv_iconst (v := 0) hx hb dX9_setsMasked_25 (by decide) ?_
    refine lv_isub hx hb dX9_setsMasked_26 ?_
    refine q_lt (fun v6 e_v6 => ?_)
    refine q_topI e_v6 ?_
    refine lv_istore (lv' := [(5, .int v6), (4, .int v2), (0, .ref (adr g a0)), (1, .int p1_), (2, .int p2_), (3, .int p3_)]) hx hb dX9_setsMasked_27 hl (by decide) rfl (fun ls hl => ?_)
    refine lv_aload_n hx hb dX9_setsMasked_29 rfl (lv_at hl 2 rfl) ?_
    refine lv_iload_n hx hb dX9_setsMasked_30 rfl (lv_at hl 3 rfl) ?_
    refine lv_iconst (v := 3) hx hb dX9_setsMasked_31 (by decide) ?_
    refine lv_iload hx hb dX9_setsMasked_32 (lv_at hl 0 rfl) ?_
    refine lv_iload_n hx hb dX9_setsMasked_34 rfl (lv_at hl 5 rfl) ?_
    refine lv_iload_n hx hb dX9_setsMasked_35 rfl (lv_at hl 4 rfl) ?_
    refine lv_ishl hx hb dX9_setsMasked_36 ?_
    refine lv_iadd hx hb dX9_setsMasked_37 ?_
    refine q_b1 (fun u8 M9 e7 => ?_)
    refine my_doneU hL (my_runV X hH hl.1 (co_X9_puts g l hst a0 p1_ 3 (v6 + (p3_ <<< (p2_ &&& 31))) M t0 u8 M9 e7) ok_X9_puts W1376 t0 rfl (by decide) rfl rfl rfl ⟨Nat.le_of_ble_eq_true rfl, Nat.le_of_ble_eq_true rfl⟩ ⟨Nat.zero_le _, Nat.zero_le _⟩ (Nat.le_of_ble_eq_true rfl) dX9_setsMasked_38) (fun H locs hH hL => ?_)
    refine lv_iload hx hb dX9_setsMasked_41 (lv_at hl 1 rfl) ?_
    refine lv_if_eq (tgt := 50) hx hb dX9_setsMasked_43 (by decide) (fun c10 => q_pos c10 ?_) (fun c10 => q_neg c10 ?_)
    · refine lv_iconst (v := 0) hx hb dX9_setsMasked_50 (by decide) ?_
      exact q_end1 (m_iret X hr hH hL dX9_setsMasked_51)
    · refine lv_iconst (v := 1) hx hb dX9_setsMasked_46 (by decide) ?_
      refine lv_goto (tgt := 51) hx hb dX9_setsMasked_47 (by decide) ?_
      exact q_end1 (m_iret X hr hH hL dX9_setsMasked_51)
  · refine lv_iconst (v := 1) hx hb dX9_setsMasked_19 (by decide) ?_
    refine lv_iload_n hx hb dX9_setsMasked_20 rfl (lv_at hl 3 rfl) ?_
    refine lv_ishl hx hb dX9_setsMasked_21 ?_
    refine lv_goto (tgt := 26) hx hb dX9_setsMasked_22 (by decide) ?_
    refine lv_isub hx hb dX9_setsMasked_26 ?_
    refine q_lt (fun v11 e_v11 => ?_)
    refine q_topI e_v11 ?_
    refine lv_istore (lv' := [(5, .int v11), (4, .int v2), (0, .ref (adr g a0)), (1, .int p1_), (2, .int p2_), (3, .int p3_)]) hx hb dX9_setsMasked_27 hl (by decide) rfl (fun ls hl => ?_)
    refine lv_aload_n hx hb dX9_setsMasked_29 rfl (lv_at hl 2 rfl) ?_
    refine lv_iload_n hx hb dX9_setsMasked_30 rfl (lv_at hl 3 rfl) ?_
    refine lv_iconst (v := 3) hx hb dX9_setsMasked_31 (by decide) ?_
    refine lv_iload hx hb dX9_setsMasked_32 (lv_at hl 0 rfl) ?_
    refine lv_iload_n hx hb dX9_setsMasked_34 rfl (lv_at hl 5 rfl) ?_
    refine lv_iload_n hx hb dX9_setsMasked_35 rfl (lv_at hl 4 rfl) ?_
    refine lv_ishl hx hb dX9_setsMasked_36 ?_
    refine lv_iadd hx hb dX9_setsMasked_37 ?_
    refine q_b1 (fun u13 M14 e12 => ?_)
    refine my_doneU hL (my_runV X hH hl.1 (co_X9_puts g l hst a0 p1_ 3 (v11 + (p3_ <<< (p2_ &&& 31))) M t0 u13 M14 e12) ok_X9_puts W1376 t0 rfl (by decide) rfl rfl rfl ⟨Nat.le_of_ble_eq_true rfl, Nat.le_of_ble_eq_true rfl⟩ ⟨Nat.zero_le _, Nat.zero_le _⟩ (Nat.le_of_ble_eq_true rfl) dX9_setsMasked_38) (fun H locs hH hL => ?_)
    refine lv_iload hx hb dX9_setsMasked_41 (lv_at hl 1 rfl) ?_
    refine lv_if_eq (tgt := 50) hx hb dX9_setsMasked_43 (by decide) (fun c15 => q_pos c15 ?_) (fun c15 => q_neg c15 ?_)
    · refine lv_iconst (v := 0) hx hb dX9_setsMasked_50 (by decide) ?_
      exact q_end1 (m_iret X hr hH hL dX9_setsMasked_51)
    · refine lv_iconst (v := 1) hx hb dX9_setsMasked_46 (by decide) ?_
      refine lv_goto (tgt := 51) hx hb dX9_setsMasked_47 (by decide) ?_
      exact q_end1 (m_iret X hr hH hL dX9_setsMasked_51)

set_option maxRecDepth 20000 in
set_option maxHeartbeats 4000000 in
theorem co_X9_setMasked (g : GP) (l : Launch) (hst : l.stackTraces = false) (a0 : Nat) (p1_ : Int32) (p2_ : Int32) (p3_ : Int32) (M : Mem) (t0 : tyT a0 = 9) (v : Int32) (M' : Mem) (hF : F_X9_setMasked a0 p1_ p2_ p3_ M = some (v, M')) : CO g l yX9_setMasked cX9_setMasked 5 (some .boolean) 3 69 rvI [.ref (adr g a0), .int p1_, .int p2_, .int p3_] M (.inl v : Int32 ⊕ String) M' := by
  refine CO_of hst (by decide) (Nat.le_of_ble_eq_true rfl) ?_
  intro p e s m below meth c ls X hr htb hH hL hl
  have hx := X.1
  have hb := X.2.1
  have hts := X.2.2.2.2.1
  refine q_out hF ?_
  rw [F_X9_setMasked]
  replace hl : lv_has ls 5 [(0, .ref (adr g a0)), (1, .int p1_), (2, .int p2_), (3, .int p3_)] := hl
  refine lv_aload_n hx hb dX9_setMasked_0 rfl (lv_at hl 0 rfl) ?_
  refine lv_iconst (v := 0) hx hb dX9_setMasked_1 (by decide) ?_
  refine q_lt (fun M1 e_M1 => ?_)
  refine m_pI (k := 0) X hH hL okC9 t0 rfl rfl rfl rfl W1284 dX9_setMasked_2 e_M1 (fun H locs hH hL => ?_)
  refine lv_aload_n hx hb dX9_setMasked_5 rfl (lv_at hl 0 rfl) ?_
  refine lv_iload_n hx hb dX9_setMasked_6 rfl (lv_at hl 1 rfl) ?_
  refine lv_iload_n hx hb dX9_setMasked_7 rfl (lv_at hl 2 rfl) ?_
  refine q_bind (fun v3 e2 => ?_)
  refine my_doneI hL (my_runV X hH hl.1 (co_X9_notMask g l hst a0 p1_ p2_ M1 t0 v3 e2) ok_X9_notMask W1424 t0 rfl (by decide) rfl rfl rfl ⟨Nat.le_of_ble_eq_true rfl, Nat.le_of_ble_eq_true rfl⟩ ⟨Nat.zero_le _, Nat.zero_le _⟩ (Nat.le_of_ble_eq_true rfl) dX9_setMasked_8) (fun H locs hH hL => ?_)
  refine lv_istore (lv' := [(4, .int v3), (0, .ref (adr g a0)), (1, .int p1_), (2, .int p2_), (3, .int p3_)]) hx hb dX9_setMasked_11 hl (by decide) rfl (fun ls hl => ?_)
  refine lv_iload hx hb dX9_setMasked_13 (lv_at hl 0 rfl) ?_
  refine lv_if_eq (tgt := 33) hx hb dX9_setMasked_15 (by decide) (fun c4 => q_pos c4 ?_) (fun c4 => q_neg c4 ?_)
  · refine lv_aload_n hx hb dX9_setMasked_33 rfl (lv_at hl 1 rfl) ?_
    refine q_b1 (fun u6 M7 e5 => ?_)
    refine my_doneU hL (my_runV X hH hl.1 (co_X9_remembers g l hst a0 M1 t0 u6 M7 e5) ok_X9_remembers W1360 t0 rfl (by decide) rfl rfl rfl ⟨Nat.le_of_ble_eq_true rfl, Nat.le_of_ble_eq_true rfl⟩ ⟨Nat.zero_le _, Nat.zero_le _⟩ (Nat.le_of_ble_eq_true rfl) dX9_setMasked_34) (fun H locs hH hL => ?_)
    refine lv_aload_n hx hb dX9_setMasked_37 rfl (lv_at hl 1 rfl) ?_
    refine lv_iload_n hx hb dX9_setMasked_38 rfl (lv_at hl 2 rfl) ?_
    refine lv_iload_n hx hb dX9_setMasked_39 rfl (lv_at hl 3 rfl) ?_
    refine lv_iload_n hx hb dX9_setMasked_40 rfl (lv_at hl 4 rfl) ?_
    refine lv_if_eq (tgt := 48) hx hb dX9_setMasked_41 (by decide) (fun c8 => q_pos c8 ?_) (fun c8 => q_neg c8 ?_)
    · refine lv_iconst (v := 0) hx hb dX9_setMasked_48 (by decide) ?_
      refine q_b1 (fun v10 M11 e9 => ?_)
      refine my_doneI hL (my_runV X hH hl.1 (co_X9_setsMasked g l hst a0 p1_ p2_ 0 M7 t0 v10 M11 e9) ok_X9_setsMasked W1428 t0 rfl (by decide) rfl rfl rfl ⟨Nat.le_of_ble_eq_true rfl, Nat.le_of_ble_eq_true rfl⟩ ⟨Nat.zero_le _, Nat.zero_le _⟩ (Nat.le_of_ble_eq_true rfl) dX9_setMasked_49) (fun H locs hH hL => ?_)
      refine lv_iconst (v := 1) hx hb dX9_setMasked_52 (by decide) ?_
      refine lv_icmp_ne (tgt := 60) hx hb dX9_setMasked_53 (by decide) (fun c12 => q_neg c12 ?_) (fun c12 => q_pos c12 ?_)
      · refine lv_iconst (v := 0) hx hb dX9_setMasked_60 (by decide) ?_
        exact q_end1 (m_zret X hr hH hL (by decide) dX9_setMasked_61)
      · refine lv_iconst (v := 1) hx hb dX9_setMasked_56 (by decide) ?_
        refine lv_goto (tgt := 61) hx hb dX9_setMasked_57 (by decide) ?_
        exact q_end1 (m_zret X hr hH hL (by decide) dX9_setMasked_61)
    · refine lv_iconst (v := 1) hx hb dX9_setMasked_44 (by decide) ?_
      refine lv_goto (tgt := 49) hx hb dX9_setMasked_45 (by decide) ?_
      refine q_b1 (fun v14 M15 e13 => ?_)
      refine my_doneI hL (my_runV X hH hl.1 (co_X9_setsMasked g l hst a0 p1_ p2_ 1 M7 t0 v14 M15 e13) ok_X9_setsMasked W1428 t0 rfl (by decide) rfl rfl rfl ⟨Nat.le_of_ble_eq_true rfl, Nat.le_of_ble_eq_true rfl⟩ ⟨Nat.zero_le _, Nat.zero_le _⟩ (Nat.le_of_ble_eq_true rfl) dX9_setMasked_49) (fun H locs hH hL => ?_)
      refine lv_iconst (v := 1) hx hb dX9_setMasked_52 (by decide) ?_
      refine lv_icmp_ne (tgt := 60) hx hb dX9_setMasked_53 (by decide) (fun c16 => q_neg c16 ?_) (fun c16 => q_pos c16 ?_)
      · refine lv_iconst (v := 0) hx hb dX9_setMasked_60 (by decide) ?_
        exact q_end1 (m_zret X hr hH hL (by decide) dX9_setMasked_61)
      · refine lv_iconst (v := 1) hx hb dX9_setMasked_56 (by decide) ?_
        refine lv_goto (tgt := 61) hx hb dX9_setMasked_57 (by decide) ?_
        exact q_end1 (m_zret X hr hH hL (by decide) dX9_setMasked_61)
  · refine lv_aload_n hx hb dX9_setMasked_18 rfl (lv_at hl 1 rfl) ?_
    refine lv_iload hx hb dX9_setMasked_19 (lv_at hl 0 rfl) ?_
    refine q_b1 (fun v18 M19 e17 => ?_)
    refine my_doneI hL (my_runV X hH hl.1 (co_X9_fails g l hst a0 v3 M1 t0 v18 M19 e17) ok_X9_fails W1356 t0 rfl (by decide) rfl rfl rfl ⟨Nat.le_of_ble_eq_true rfl, Nat.le_of_ble_eq_true rfl⟩ ⟨Nat.zero_le _, Nat.zero_le _⟩ (Nat.le_of_ble_eq_true rfl) dX9_setMasked_21) (fun H locs hH hL => ?_)
    refine lv_if_le (tgt := 31) hx hb dX9_setMasked_24 (by decide) (fun c20 => q_pos c20 ?_) (fun c20 => q_neg c20 ?_)
    · refine lv_iconst (v := 0) hx hb dX9_setMasked_31 (by decide) ?_
      exact q_end1 (m_zret X hr hH hL (by decide) dX9_setMasked_32)
    · refine lv_iconst (v := 1) hx hb dX9_setMasked_27 (by decide) ?_
      refine lv_goto (tgt := 32) hx hb dX9_setMasked_28 (by decide) ?_
      exact q_end1 (m_zret X hr hH hL (by decide) dX9_setMasked_32)

set_option maxRecDepth 20000 in
set_option maxHeartbeats 4000000 in
theorem co_X9_transposes (g : GP) (l : Launch) (hst : l.stackTraces = false) (a0 : Nat) (p1_ : Int32) (M : Mem) (t0 : tyT a0 = 9) (v : Int32) (M' : Mem) (hF : F_X9_transposes a0 p1_ M = some (v, M')) : CO g l yX9_transposes cX9_transposes 5 (some .int) 2 47 rvI [.ref (adr g a0), .int p1_] M (.inl v : Int32 ⊕ String) M' := by
  refine CO_of hst (by decide) (Nat.le_of_ble_eq_true rfl) ?_
  intro p e s m below meth c ls X hr htb hH hL hl
  have hx := X.1
  have hb := X.2.1
  have hts := X.2.2.2.2.1
  refine q_out hF ?_
  rw [F_X9_transposes]
  replace hl : lv_has ls 5 [(0, .ref (adr g a0)), (1, .int p1_)] := hl
  refine lv_iconst (v := 0) hx hb dX9_transposes_0 (by decide) ?_
  refine lv_istore_n (lv' := [(2, .int 0), (0, .ref (adr g a0)), (1, .int p1_)]) hx hb dX9_transposes_1 rfl hl (by decide) rfl (fun ls hl => ?_)
  have L24 : ∀ (K : Int32 → Mem → Option (Int32 × Mem)) (_ : ∀ (i1 : Int32) (M2 : Mem) (H : Heap) (locs : List Loc) (ls : Array Slot), HR g M2 H → LK g s H locs → lv_has ls 5 [(0, .ref (adr g a0)), (1, .int p1_), (2, .int i1)] → W p l e (rmO (.inl v : Int32 ⊕ String) 2 47) s m ([.ref (adr g a0), .int p1_] : List Value).toArray below meth c H locs 0 0 (GQ (K i1 M2) (v, M') (MQO g below rvI (.inl v : Int32 ⊕ String) M' ([.ref (adr g a0), .int p1_] : List Value).toArray s)) (F0 m 59 ls [])) (n : Nat) (i1 : Int32) (M2 : Mem) (H : Heap) (locs : List Loc) (ls : Array Slot), HR g M2 H → LK g s H locs → lv_has ls 5 [(0, .ref (adr g a0)), (1, .int p1_), (2, .int i1)] → W p l e (rmO (.inl v : Int32 ⊕ String) 2 47) s m ([.ref (adr g a0), .int p1_] : List Value).toArray below meth c H locs 0 0 (GQ (F_X9_transposes_L1 a0 p1_ K n i1 M2) (v, M') (MQO g below rvI (.inl v : Int32 ⊕ String) M' ([.ref (adr g a0), .int p1_] : List Value).toArray s)) (F0 m 2 ls []) := by
    intro K hK n
    induction n with
    | zero => intros; exact q_none
    | succ n ih =>
      intro i1 M2 H locs ls hH hL hl 
      rw [F_X9_transposes_L1]
      refine lv_iload_n hx hb dX9_transposes_2 rfl (lv_at hl 2 rfl) ?_
      refine lv_bipush (v := 6) hx hb dX9_transposes_3 (by decide) ?_
      refine lv_icmp_ge (tgt := 59) hx hb dX9_transposes_5 (by decide) (fun c4 => q_pos c4 ?_) (fun c4 => q_neg c4 ?_)
      · exact hK i1 M2 _ _ ls hH hL hl 
      · refine lv_iconst (v := 0) hx hb dX9_transposes_8 (by decide) ?_
        refine lv_istore_n (lv' := [(3, .int 0), (0, .ref (adr g a0)), (1, .int p1_), (2, .int i1)]) hx hb dX9_transposes_9 rfl hl (by decide) rfl (fun ls hl => ?_)
        have L20 : ∀ (K : Int32 → Mem → Option (Int32 × Mem)) (_ : ∀ (i5 : Int32) (M6 : Mem) (H : Heap) (locs : List Loc) (ls : Array Slot), HR g M6 H → LK g s H locs → lv_has ls 5 [(0, .ref (adr g a0)), (1, .int p1_), (2, .int i1), (3, .int i5)] → W p l e (rmO (.inl v : Int32 ⊕ String) 2 47) s m ([.ref (adr g a0), .int p1_] : List Value).toArray below meth c H locs 0 0 (GQ (K i5 M6) (v, M') (MQO g below rvI (.inl v : Int32 ⊕ String) M' ([.ref (adr g a0), .int p1_] : List Value).toArray s)) (F0 m 53 ls [])) (n : Nat) (i5 : Int32) (M6 : Mem) (H : Heap) (locs : List Loc) (ls : Array Slot), HR g M6 H → LK g s H locs → lv_has ls 5 [(0, .ref (adr g a0)), (1, .int p1_), (2, .int i1), (3, .int i5)] → W p l e (rmO (.inl v : Int32 ⊕ String) 2 47) s m ([.ref (adr g a0), .int p1_] : List Value).toArray below meth c H locs 0 0 (GQ (F_X9_transposes_L2 a0 p1_ i1 K n i5 M6) (v, M') (MQO g below rvI (.inl v : Int32 ⊕ String) M' ([.ref (adr g a0), .int p1_] : List Value).toArray s)) (F0 m 10 ls []) := by
          intro K hK n
          induction n with
          | zero => intros; exact q_none
          | succ n ih =>
            intro i5 M6 H locs ls hH hL hl 
            rw [F_X9_transposes_L2]
            refine lv_iload_n hx hb dX9_transposes_10 rfl (lv_at hl 3 rfl) ?_
            refine lv_iload_n hx hb dX9_transposes_11 rfl (lv_at hl 2 rfl) ?_
            refine lv_icmp_ge (tgt := 53) hx hb dX9_transposes_12 (by decide) (fun c8 => q_pos c8 ?_) (fun c8 => q_neg c8 ?_)
            · exact hK i5 M6 _ _ ls hH hL hl 
            · refine lv_aload_n hx hb dX9_transposes_15 rfl (lv_at hl 0 rfl) ?_
              refine lv_iload_n hx hb dX9_transposes_16 rfl (lv_at hl 1 rfl) ?_
              refine lv_iload_n hx hb dX9_transposes_17 rfl (lv_at hl 2 rfl) ?_
              refine lv_iload_n hx hb dX9_transposes_18 rfl (lv_at hl 3 rfl) ?_
              refine q_bind (fun v10 e9 => ?_)
              refine my_doneI hL (my_runV X hH hl.1 (co_X9_noteAt g l hst a0 p1_ i1 i5 M6 t0 v10 e9) ok_X9_noteAt W1412 t0 rfl (by decide) rfl rfl rfl ⟨Nat.le_of_ble_eq_true rfl, Nat.le_of_ble_eq_true rfl⟩ ⟨Nat.zero_le _, Nat.zero_le _⟩ (Nat.le_of_ble_eq_true rfl) dX9_transposes_19) (fun H locs hH hL => ?_)
              refine lv_istore (lv' := [(4, .int v10), (0, .ref (adr g a0)), (1, .int p1_), (2, .int i1), (3, .int i5)]) hx hb dX9_transposes_22 hl (by decide) rfl (fun ls hl => ?_)
              refine lv_aload_n hx hb dX9_transposes_24 rfl (lv_at hl 1 rfl) ?_
              refine lv_iload_n hx hb dX9_transposes_25 rfl (lv_at hl 2 rfl) ?_
              refine lv_iload_n hx hb dX9_transposes_26 rfl (lv_at hl 3 rfl) ?_
              refine lv_iload_n hx hb dX9_transposes_27 rfl (lv_at hl 4 rfl) ?_
              refine lv_aload_n hx hb dX9_transposes_28 rfl (lv_at hl 1 rfl) ?_
              refine lv_iload_n hx hb dX9_transposes_29 rfl (lv_at hl 2 rfl) ?_
              refine lv_iload_n hx hb dX9_transposes_30 rfl (lv_at hl 4 rfl) ?_
              refine lv_iload_n hx hb dX9_transposes_31 rfl (lv_at hl 3 rfl) ?_
              refine q_bind (fun v12 e11 => ?_)
              refine my_doneI hL (my_runV X hH hl.1 (co_X9_noteAt g l hst a0 p1_ i5 i1 M6 t0 v12 e11) ok_X9_noteAt W1412 t0 rfl (by decide) rfl rfl rfl ⟨Nat.le_of_ble_eq_true rfl, Nat.le_of_ble_eq_true rfl⟩ ⟨Nat.zero_le _, Nat.zero_le _⟩ (Nat.le_of_ble_eq_true rfl) dX9_transposes_32) (fun H locs hH hL => ?_)
              refine q_b1 (fun u14 M15 e13 => ?_)
              refine my_doneU hL (my_runV X hH hl.1 (co_X9_putsNote g l hst a0 p1_ i1 i5 v12 M6 t0 u14 M15 e13) ok_X9_putsNote W1416 t0 rfl (by decide) rfl rfl rfl ⟨Nat.le_of_ble_eq_true rfl, Nat.le_of_ble_eq_true rfl⟩ ⟨Nat.zero_le _, Nat.zero_le _⟩ (Nat.le_of_ble_eq_true rfl) dX9_transposes_35) (fun H locs hH hL => ?_)
              refine lv_aload_n hx hb dX9_transposes_38 rfl (lv_at hl 1 rfl) ?_
              refine lv_iload_n hx hb dX9_transposes_39 rfl (lv_at hl 2 rfl) ?_
              refine lv_iload_n hx hb dX9_transposes_40 rfl (lv_at hl 4 rfl) ?_
              refine lv_iload_n hx hb dX9_transposes_41 rfl (lv_at hl 3 rfl) ?_
              refine lv_iload hx hb dX9_transposes_42 (lv_at hl 0 rfl) ?_
              refine q_b1 (fun u17 M18 e16 => ?_)
              refine my_doneU hL (my_runV X hH hl.1 (co_X9_putsNote g l hst a0 p1_ i5 i1 v10 M15 t0 u17 M18 e16) ok_X9_putsNote W1416 t0 rfl (by decide) rfl rfl rfl ⟨Nat.le_of_ble_eq_true rfl, Nat.le_of_ble_eq_true rfl⟩ ⟨Nat.zero_le _, Nat.zero_le _⟩ (Nat.le_of_ble_eq_true rfl) dX9_transposes_44) (fun H locs hH hL => ?_)
              refine q_lt (fun v19 e_v19 => ?_)
              refine lv_iinc (v := v19) (lv' := [(3, .int v19), (4, .int v10), (0, .ref (adr g a0)), (1, .int p1_), (2, .int i1)]) hx hb dX9_transposes_47 hl (k := 4) rfl (by rw [e_v19]; rfl) (by decide) rfl (fun ls hl => ?_)
              refine lv_goto (tgt := 10) hx hb dX9_transposes_50 (by decide) ?_
              exact ih v19 M18 _ _ ls hH hL (lv_sub hl [2, 3, 4, 0] rfl) 
        refine L20 _ (fun x21 M22 H locs ls hH hL hl  => ?_) 3000 0 M2 _ _ ls hH hL (lv_sub hl [1, 2, 3, 0] rfl) 
        refine q_lt (fun v23 e_v23 => ?_)
        refine lv_iinc (v := v23) (lv' := [(2, .int v23), (0, .ref (adr g a0)), (1, .int p1_), (3, .int x21)]) hx hb dX9_transposes_53 hl (k := 2) rfl (by rw [e_v23]; rfl) (by decide) rfl (fun ls hl => ?_)
        refine lv_goto (tgt := 2) hx hb dX9_transposes_56 (by decide) ?_
        exact ih v23 M22 _ _ ls hH hL (lv_sub hl [1, 2, 0] rfl) 
  refine L24 _ (fun x25 M26 H locs ls hH hL hl  => ?_) 3000 0 M _ _ ls hH hL (lv_sub hl [1, 2, 0] rfl) 
  refine lv_aload_n hx hb dX9_transposes_59 rfl (lv_at hl 0 rfl) ?_
  refine lv_iload_n hx hb dX9_transposes_60 rfl (lv_at hl 1 rfl) ?_
  refine lv_iconst (v := 1) hx hb dX9_transposes_61 (by decide) ?_
  refine q_bind (fun v28 e27 => ?_)
  refine my_doneI hL (my_runV X hH hl.1 (co_X9_of g l hst a0 p1_ 1 M26 t0 v28 e27) ok_X9_of W1404 t0 rfl (by decide) rfl rfl rfl ⟨Nat.le_of_ble_eq_true rfl, Nat.le_of_ble_eq_true rfl⟩ ⟨Nat.zero_le _, Nat.zero_le _⟩ (Nat.le_of_ble_eq_true rfl) dX9_transposes_62) (fun H locs hH hL => ?_)
  refine lv_istore_n (lv' := [(2, .int v28), (0, .ref (adr g a0)), (1, .int p1_)]) hx hb dX9_transposes_65 rfl hl (by decide) rfl (fun ls hl => ?_)
  refine lv_aload_n hx hb dX9_transposes_66 rfl (lv_at hl 1 rfl) ?_
  refine lv_iload_n hx hb dX9_transposes_67 rfl (lv_at hl 2 rfl) ?_
  refine lv_iconst (v := 1) hx hb dX9_transposes_68 (by decide) ?_
  refine lv_aload_n hx hb dX9_transposes_69 rfl (lv_at hl 1 rfl) ?_
  refine lv_iload_n hx hb dX9_transposes_70 rfl (lv_at hl 2 rfl) ?_
  refine lv_iconst (v := 2) hx hb dX9_transposes_71 (by decide) ?_
  refine q_bind (fun v30 e29 => ?_)
  refine my_doneI hL (my_runV X hH hl.1 (co_X9_of g l hst a0 p1_ 2 M26 t0 v30 e29) ok_X9_of W1404 t0 rfl (by decide) rfl rfl rfl ⟨Nat.le_of_ble_eq_true rfl, Nat.le_of_ble_eq_true rfl⟩ ⟨Nat.zero_le _, Nat.zero_le _⟩ (Nat.le_of_ble_eq_true rfl) dX9_transposes_72) (fun H locs hH hL => ?_)
  refine q_b1 (fun u32 M33 e31 => ?_)
  refine my_doneU hL (my_runV X hH hl.1 (co_X9_puts g l hst a0 p1_ 1 v30 M26 t0 u32 M33 e31) ok_X9_puts W1376 t0 rfl (by decide) rfl rfl rfl ⟨Nat.le_of_ble_eq_true rfl, Nat.le_of_ble_eq_true rfl⟩ ⟨Nat.zero_le _, Nat.zero_le _⟩ (Nat.le_of_ble_eq_true rfl) dX9_transposes_75) (fun H locs hH hL => ?_)
  refine lv_aload_n hx hb dX9_transposes_78 rfl (lv_at hl 1 rfl) ?_
  refine lv_iload_n hx hb dX9_transposes_79 rfl (lv_at hl 2 rfl) ?_
  refine lv_iconst (v := 2) hx hb dX9_transposes_80 (by decide) ?_
  refine lv_iload_n hx hb dX9_transposes_81 rfl (lv_at hl 0 rfl) ?_
  refine q_b1 (fun u35 M36 e34 => ?_)
  refine my_doneU hL (my_runV X hH hl.1 (co_X9_puts g l hst a0 p1_ 2 v28 M33 t0 u35 M36 e34) ok_X9_puts W1376 t0 rfl (by decide) rfl rfl rfl ⟨Nat.le_of_ble_eq_true rfl, Nat.le_of_ble_eq_true rfl⟩ ⟨Nat.zero_le _, Nat.zero_le _⟩ (Nat.le_of_ble_eq_true rfl) dX9_transposes_82) (fun H locs hH hL => ?_)
  refine lv_iload_n hx hb dX9_transposes_85 rfl (lv_at hl 0 rfl) ?_
  exact q_end1 (m_iret X hr hH hL dX9_transposes_86)

set_option maxRecDepth 20000 in
set_option maxHeartbeats 4000000 in
theorem co_X9_transpose (g : GP) (l : Launch) (hst : l.stackTraces = false) (a0 : Nat) (p1_ : Int32) (M : Mem) (t0 : tyT a0 = 9) (v : Int32) (M' : Mem) (hF : F_X9_transpose a0 p1_ M = some (v, M')) : CO g l yX9_transpose cX9_transpose 2 (some .int) 3 71 rvI [.ref (adr g a0), .int p1_] M (.inl v : Int32 ⊕ String) M' := by
  refine CO_of hst (by decide) (Nat.le_of_ble_eq_true rfl) ?_
  intro p e s m below meth c ls X hr htb hH hL hl
  have hx := X.1
  have hb := X.2.1
  have hts := X.2.2.2.2.1
  refine q_out hF ?_
  rw [F_X9_transpose]
  replace hl : lv_has ls 2 [(0, .ref (adr g a0)), (1, .int p1_)] := hl
  refine lv_aload_n hx hb dX9_transpose_0 rfl (lv_at hl 0 rfl) ?_
  refine lv_iconst (v := 0) hx hb dX9_transpose_1 (by decide) ?_
  refine q_lt (fun M1 e_M1 => ?_)
  refine m_pI (k := 0) X hH hL okC9 t0 rfl rfl rfl rfl W1284 dX9_transpose_2 e_M1 (fun H locs hH hL => ?_)
  refine lv_aload_n hx hb dX9_transpose_5 rfl (lv_at hl 0 rfl) ?_
  refine lv_iload_n hx hb dX9_transpose_6 rfl (lv_at hl 1 rfl) ?_
  refine q_bind (fun v3 e2 => ?_)
  refine my_doneI hL (my_runV X hH hl.1 (co_X9_isSection g l hst a0 p1_ M1 t0 v3 e2) ok_X9_isSection W1384 t0 rfl (by decide) rfl rfl rfl ⟨Nat.le_of_ble_eq_true rfl, Nat.le_of_ble_eq_true rfl⟩ ⟨Nat.zero_le _, Nat.zero_le _⟩ (Nat.le_of_ble_eq_true rfl) dX9_transpose_7) (fun H locs hH hL => ?_)
  refine lv_if_ne (tgt := 19) hx hb dX9_transpose_10 (by decide) (fun c4 => q_neg c4 ?_) (fun c4 => q_pos c4 ?_)
  · refine lv_aload_n hx hb dX9_transpose_19 rfl (lv_at hl 0 rfl) ?_
    refine q_b1 (fun u6 M7 e5 => ?_)
    refine my_doneU hL (my_runV X hH hl.1 (co_X9_remembers g l hst a0 M1 t0 u6 M7 e5) ok_X9_remembers W1360 t0 rfl (by decide) rfl rfl rfl ⟨Nat.le_of_ble_eq_true rfl, Nat.le_of_ble_eq_true rfl⟩ ⟨Nat.zero_le _, Nat.zero_le _⟩ (Nat.le_of_ble_eq_true rfl) dX9_transpose_20) (fun H locs hH hL => ?_)
    refine lv_aload_n hx hb dX9_transpose_23 rfl (lv_at hl 0 rfl) ?_
    refine lv_iload_n hx hb dX9_transpose_24 rfl (lv_at hl 1 rfl) ?_
    refine q_b1 (fun v9 M10 e8 => ?_)
    refine my_doneI hL (my_runV X hH hl.1 (co_X9_transposes g l hst a0 p1_ M7 t0 v9 M10 e8) ok_X9_transposes W1440 t0 rfl (by decide) rfl rfl rfl ⟨Nat.le_of_ble_eq_true rfl, Nat.le_of_ble_eq_true rfl⟩ ⟨Nat.zero_le _, Nat.zero_le _⟩ (Nat.le_of_ble_eq_true rfl) dX9_transpose_25) (fun H locs hH hL => ?_)
    exact q_end1 (m_iret X hr hH hL dX9_transpose_28)
  · refine lv_aload_n hx hb dX9_transpose_13 rfl (lv_at hl 0 rfl) ?_
    refine lv_iconst (v := 1) hx hb dX9_transpose_14 (by decide) ?_
    refine q_b1 (fun v12 M13 e11 => ?_)
    refine my_doneI hL (my_runV X hH hl.1 (co_X9_fails g l hst a0 1 M1 t0 v12 M13 e11) ok_X9_fails W1356 t0 rfl (by decide) rfl rfl rfl ⟨Nat.le_of_ble_eq_true rfl, Nat.le_of_ble_eq_true rfl⟩ ⟨Nat.zero_le _, Nat.zero_le _⟩ (Nat.le_of_ble_eq_true rfl) dX9_transpose_15) (fun H locs hH hL => ?_)
    exact q_end1 (m_iret X hr hH hL dX9_transpose_18)

set_option maxRecDepth 20000 in
set_option maxHeartbeats 4000000 in
theorem co_X9_reverses (g : GP) (l : Launch) (hst : l.stackTraces = false) (a0 : Nat) (p1_ : Int32) (M : Mem) (t0 : tyT a0 = 9) (v : Int32) (M' : Mem) (hF : F_X9_reverses a0 p1_ M = some (v, M')) : CO g l yX9_reverses cX9_reverses 8 (some .int) 2 47 rvI [.ref (adr g a0), .int p1_] M (.inl v : Int32 ⊕ String) M' := by
  refine CO_of hst (by decide) (Nat.le_of_ble_eq_true rfl) ?_
  intro p e s m below meth c ls X hr htb hH hL hl
  have hx := X.1
  have hb := X.2.1
  have hts := X.2.2.2.2.1
  refine q_out hF ?_
  rw [F_X9_reverses]
  replace hl : lv_has ls 8 [(0, .ref (adr g a0)), (1, .int p1_)] := hl
  refine lv_iconst (v := 0) hx hb dX9_reverses_0 (by decide) ?_
  refine lv_istore_n (lv' := [(2, .int 0), (0, .ref (adr g a0)), (1, .int p1_)]) hx hb dX9_reverses_1 rfl hl (by decide) rfl (fun ls hl => ?_)
  refine lv_aload_n hx hb dX9_reverses_2 rfl (lv_at hl 1 rfl) ?_
  refine lv_iload_n hx hb dX9_reverses_3 rfl (lv_at hl 2 rfl) ?_
  refine lv_iconst (v := 2) hx hb dX9_reverses_4 (by decide) ?_
  refine q_bind (fun v2 e1 => ?_)
  refine my_doneI hL (my_runV X hH hl.1 (co_X9_of g l hst a0 p1_ 2 M t0 v2 e1) ok_X9_of W1404 t0 rfl (by decide) rfl rfl rfl ⟨Nat.le_of_ble_eq_true rfl, Nat.le_of_ble_eq_true rfl⟩ ⟨Nat.zero_le _, Nat.zero_le _⟩ (Nat.le_of_ble_eq_true rfl) dX9_reverses_5) (fun H locs hH hL => ?_)
  refine lv_istore_n (lv' := [(3, .int v2), (2, .int 0), (0, .ref (adr g a0)), (1, .int p1_)]) hx hb dX9_reverses_8 rfl hl (by decide) rfl (fun ls hl => ?_)
  refine lv_iconst (v := 0) hx hb dX9_reverses_9 (by decide) ?_
  refine lv_istore (lv' := [(4, .int 0), (3, .int v2), (2, .int 0), (0, .ref (adr g a0)), (1, .int p1_)]) hx hb dX9_reverses_10 hl (by decide) rfl (fun ls hl => ?_)
  have L35 : ∀ (K : Int32 → Int32 → Mem → Option (Int32 × Mem)) (_ : ∀ (i3 : Int32) (i4 : Int32) (M5 : Mem) (H : Heap) (locs : List Loc) (ls : Array Slot), HR g M5 H → LK g s H locs → lv_has ls 8 [(0, .ref (adr g a0)), (1, .int p1_), (2, .int i3), (3, .int v2), (4, .int i4)] → W p l e (rmO (.inl v : Int32 ⊕ String) 2 47) s m ([.ref (adr g a0), .int p1_] : List Value).toArray below meth c H locs 0 0 (GQ (K i3 i4 M5) (v, M') (MQO g below rvI (.inl v : Int32 ⊕ String) M' ([.ref (adr g a0), .int p1_] : List Value).toArray s)) (F0 m 115 ls [])) (n : Nat) (i3 : Int32) (i4 : Int32) (M5 : Mem) (H : Heap) (locs : List Loc) (ls : Array Slot), HR g M5 H → LK g s H locs → lv_has ls 8 [(0, .ref (adr g a0)), (1, .int p1_), (2, .int i3), (3, .int v2), (4, .int i4)] → W p l e (rmO (.inl v : Int32 ⊕ String) 2 47) s m ([.ref (adr g a0), .int p1_] : List Value).toArray below meth c H locs 0 0 (GQ (F_X9_reverses_L1 a0 p1_ v2 K n i3 i4 M5) (v, M') (MQO g below rvI (.inl v : Int32 ⊕ String) M' ([.ref (adr g a0), .int p1_] : List Value).toArray s)) (F0 m 12 ls []) := by
    intro K hK n
    induction n with
    | zero => intros; exact q_none
    | succ n ih =>
      intro i3 i4 M5 H locs ls hH hL hl 
      rw [F_X9_reverses_L1]
      refine lv_iload hx hb dX9_reverses_12 (lv_at hl 4 rfl) ?_
      refine lv_aload_n hx hb dX9_reverses_14 rfl (lv_at hl 0 rfl) ?_
      refine lv_iload_n hx hb dX9_reverses_15 rfl (lv_at hl 1 rfl) ?_
      refine lv_iconst (v := 1) hx hb dX9_reverses_16 (by decide) ?_
      refine q_bind (fun v8 e7 => ?_)
      refine my_doneI hL (my_runV X hH hl.1 (co_X9_of g l hst a0 p1_ 1 M5 t0 v8 e7) ok_X9_of W1404 t0 rfl (by decide) rfl rfl rfl ⟨Nat.le_of_ble_eq_true rfl, Nat.le_of_ble_eq_true rfl⟩ ⟨Nat.zero_le _, Nat.zero_le _⟩ (Nat.le_of_ble_eq_true rfl) dX9_reverses_17) (fun H locs hH hL => ?_)
      refine lv_icmp_ge (tgt := 115) hx hb dX9_reverses_20 (by decide) (fun c9 => q_pos c9 ?_) (fun c9 => q_neg c9 ?_)
      · exact hK i3 i4 M5 _ _ ls hH hL hl 
      · refine lv_iconst (v := 0) hx hb dX9_reverses_23 (by decide) ?_
        refine lv_istore (lv' := [(5, .int 0), (0, .ref (adr g a0)), (1, .int p1_), (2, .int i3), (3, .int v2), (4, .int i4)]) hx hb dX9_reverses_24 hl (by decide) rfl (fun ls hl => ?_)
        have L30 : ∀ (K : Int32 → Int32 → Mem → Option (Int32 × Mem)) (_ : ∀ (i10 : Int32) (i11 : Int32) (M12 : Mem) (H : Heap) (locs : List Loc) (ls : Array Slot), HR g M12 H → LK g s H locs → lv_has ls 8 [(0, .ref (adr g a0)), (1, .int p1_), (2, .int i10), (3, .int v2), (4, .int i4), (5, .int i11)] → W p l e (rmO (.inl v : Int32 ⊕ String) 2 47) s m ([.ref (adr g a0), .int p1_] : List Value).toArray below meth c H locs 0 0 (GQ (K i10 i11 M12) (v, M') (MQO g below rvI (.inl v : Int32 ⊕ String) M' ([.ref (adr g a0), .int p1_] : List Value).toArray s)) (F0 m 109 ls [])) (n : Nat) (i10 : Int32) (i11 : Int32) (M12 : Mem) (H : Heap) (locs : List Loc) (ls : Array Slot), HR g M12 H → LK g s H locs → lv_has ls 8 [(0, .ref (adr g a0)), (1, .int p1_), (2, .int i10), (3, .int v2), (4, .int i4), (5, .int i11)] → W p l e (rmO (.inl v : Int32 ⊕ String) 2 47) s m ([.ref (adr g a0), .int p1_] : List Value).toArray below meth c H locs 0 0 (GQ (F_X9_reverses_L2 a0 p1_ v2 i4 K n i10 i11 M12) (v, M') (MQO g below rvI (.inl v : Int32 ⊕ String) M' ([.ref (adr g a0), .int p1_] : List Value).toArray s)) (F0 m 26 ls []) := by
          intro K hK n
          induction n with
          | zero => intros; exact q_none
          | succ n ih =>
            intro i10 i11 M12 H locs ls hH hL hl 
            rw [F_X9_reverses_L2]
            refine lv_iconst (v := 2) hx hb dX9_reverses_26 (by decide) ?_
            refine lv_iload hx hb dX9_reverses_27 (lv_at hl 5 rfl) ?_
            refine lv_imul hx hb dX9_reverses_29 ?_
            refine lv_iconst (v := 1) hx hb dX9_reverses_30 (by decide) ?_
            refine lv_iadd hx hb dX9_reverses_31 ?_
            refine lv_iload_n hx hb dX9_reverses_32 rfl (lv_at hl 3 rfl) ?_
            refine lv_icmp_ge (tgt := 109) hx hb dX9_reverses_33 (by decide) (fun c14 => q_pos c14 ?_) (fun c14 => q_neg c14 ?_)
            · exact hK i10 i11 M12 _ _ ls hH hL hl 
            · refine lv_aload_n hx hb dX9_reverses_36 rfl (lv_at hl 0 rfl) ?_
              refine lv_iload_n hx hb dX9_reverses_37 rfl (lv_at hl 1 rfl) ?_
              refine lv_iload hx hb dX9_reverses_38 (lv_at hl 4 rfl) ?_
              refine lv_iload hx hb dX9_reverses_40 (lv_at hl 5 rfl) ?_
              refine q_bind (fun v16 e15 => ?_)
              refine my_doneI hL (my_runV X hH hl.1 (co_X9_noteAt g l hst a0 p1_ i4 i11 M12 t0 v16 e15) ok_X9_noteAt W1412 t0 rfl (by decide) rfl rfl rfl ⟨Nat.le_of_ble_eq_true rfl, Nat.le_of_ble_eq_true rfl⟩ ⟨Nat.zero_le _, Nat.zero_le _⟩ (Nat.le_of_ble_eq_true rfl) dX9_reverses_42) (fun H locs hH hL => ?_)
              refine lv_istore (lv' := [(6, .int v16), (0, .ref (adr g a0)), (1, .int p1_), (2, .int i10), (3, .int v2), (4, .int i4), (5, .int i11)]) hx hb dX9_reverses_45 hl (by decide) rfl (fun ls hl => ?_)
              refine lv_aload_n hx hb dX9_reverses_47 rfl (lv_at hl 1 rfl) ?_
              refine lv_iload_n hx hb dX9_reverses_48 rfl (lv_at hl 2 rfl) ?_
              refine lv_iload hx hb dX9_reverses_49 (lv_at hl 5 rfl) ?_
              refine lv_iload_n hx hb dX9_reverses_51 rfl (lv_at hl 4 rfl) ?_
              refine lv_iconst (v := 1) hx hb dX9_reverses_52 (by decide) ?_
              refine lv_isub hx hb dX9_reverses_53 ?_
              refine lv_iload hx hb dX9_reverses_54 (lv_at hl 6 rfl) ?_
              refine lv_isub hx hb dX9_reverses_56 ?_
              refine q_bind (fun v18 e17 => ?_)
              refine my_doneI hL (my_runV X hH hl.1 (co_X9_noteAt g l hst a0 p1_ i4 ((v2 - 1) - i11) M12 t0 v18 e17) ok_X9_noteAt W1412 t0 rfl (by decide) rfl rfl rfl ⟨Nat.le_of_ble_eq_true rfl, Nat.le_of_ble_eq_true rfl⟩ ⟨Nat.zero_le _, Nat.zero_le _⟩ (Nat.le_of_ble_eq_true rfl) dX9_reverses_57) (fun H locs hH hL => ?_)
              refine lv_istore (lv' := [(7, .int v18), (6, .int v16), (0, .ref (adr g a0)), (1, .int p1_), (2, .int i10), (3, .int v2), (4, .int i4), (5, .int i11)]) hx hb dX9_reverses_60 hl (by decide) rfl (fun ls hl => ?_)
              refine lv_aload_n hx hb dX9_reverses_62 rfl (lv_at hl 2 rfl) ?_
              refine lv_iload_n hx hb dX9_reverses_63 rfl (lv_at hl 3 rfl) ?_
              refine lv_iload hx hb dX9_reverses_64 (lv_at hl 6 rfl) ?_
              refine lv_iload hx hb dX9_reverses_66 (lv_at hl 7 rfl) ?_
              refine lv_iload hx hb dX9_reverses_68 (lv_at hl 0 rfl) ?_
              refine q_b1 (fun u20 M21 e19 => ?_)
              refine my_doneU hL (my_runV X hH hl.1 (co_X9_putsNote g l hst a0 p1_ i4 i11 v18 M12 t0 u20 M21 e19) ok_X9_putsNote W1416 t0 rfl (by decide) rfl rfl rfl ⟨Nat.le_of_ble_eq_true rfl, Nat.le_of_ble_eq_true rfl⟩ ⟨Nat.zero_le _, Nat.zero_le _⟩ (Nat.le_of_ble_eq_true rfl) dX9_reverses_70) (fun H locs hH hL => ?_)
              refine lv_aload_n hx hb dX9_reverses_73 rfl (lv_at hl 2 rfl) ?_
              refine lv_iload_n hx hb dX9_reverses_74 rfl (lv_at hl 3 rfl) ?_
              refine lv_iload hx hb dX9_reverses_75 (lv_at hl 6 rfl) ?_
              refine lv_iload_n hx hb dX9_reverses_77 rfl (lv_at hl 5 rfl) ?_
              refine lv_iconst (v := 1) hx hb dX9_reverses_78 (by decide) ?_
              refine lv_isub hx hb dX9_reverses_79 ?_
              refine lv_iload hx hb dX9_reverses_80 (lv_at hl 7 rfl) ?_
              refine lv_isub hx hb dX9_reverses_82 ?_
              refine lv_iload hx hb dX9_reverses_83 (lv_at hl 1 rfl) ?_
              refine q_b1 (fun u23 M24 e22 => ?_)
              refine my_doneU hL (my_runV X hH hl.1 (co_X9_putsNote g l hst a0 p1_ i4 ((v2 - 1) - i11) v16 M21 t0 u23 M24 e22) ok_X9_putsNote W1416 t0 rfl (by decide) rfl rfl rfl ⟨Nat.le_of_ble_eq_true rfl, Nat.le_of_ble_eq_true rfl⟩ ⟨Nat.zero_le _, Nat.zero_le _⟩ (Nat.le_of_ble_eq_true rfl) dX9_reverses_85) (fun H locs hH hL => ?_)
              refine lv_iload_n hx hb dX9_reverses_88 rfl (lv_at hl 4 rfl) ?_
              refine lv_iload hx hb dX9_reverses_89 (lv_at hl 1 rfl) ?_
              refine lv_iload hx hb dX9_reverses_91 (lv_at hl 0 rfl) ?_
              refine lv_icmp_ne (tgt := 100) hx hb dX9_reverses_93 (by decide) (fun c25 => q_neg c25 ?_) (fun c25 => q_pos c25 ?_)
              · refine lv_iconst (v := 2) hx hb dX9_reverses_100 (by decide) ?_
                refine lv_iadd hx hb dX9_reverses_101 ?_
                refine q_lt (fun v26 e_v26 => ?_)
                refine q_topI e_v26 ?_
                refine lv_istore_n (lv' := [(2, .int v26), (7, .int v18), (6, .int v16), (0, .ref (adr g a0)), (1, .int p1_), (3, .int v2), (4, .int i4), (5, .int i11)]) hx hb dX9_reverses_102 rfl hl (by decide) rfl (fun ls hl => ?_)
                refine q_lt (fun v27 e_v27 => ?_)
                refine lv_iinc (v := v27) (lv' := [(5, .int v27), (2, .int v26), (7, .int v18), (6, .int v16), (0, .ref (adr g a0)), (1, .int p1_), (3, .int v2), (4, .int i4)]) hx hb dX9_reverses_103 hl (k := 7) rfl (by rw [e_v27]; rfl) (by decide) rfl (fun ls hl => ?_)
                refine lv_goto (tgt := 26) hx hb dX9_reverses_106 (by decide) ?_
                exact ih v26 v27 M24 _ _ ls hH hL (lv_sub hl [4, 5, 1, 6, 7, 0] rfl) 
              · refine lv_iconst (v := 0) hx hb dX9_reverses_96 (by decide) ?_
                refine lv_goto (tgt := 101) hx hb dX9_reverses_97 (by decide) ?_
                refine lv_iadd hx hb dX9_reverses_101 ?_
                refine q_lt (fun v28 e_v28 => ?_)
                refine q_topI e_v28 ?_
                refine lv_istore_n (lv' := [(2, .int v28), (7, .int v18), (6, .int v16), (0, .ref (adr g a0)), (1, .int p1_), (3, .int v2), (4, .int i4), (5, .int i11)]) hx hb dX9_reverses_102 rfl hl (by decide) rfl (fun ls hl => ?_)
                refine q_lt (fun v29 e_v29 => ?_)
                refine lv_iinc (v := v29) (lv' := [(5, .int v29), (2, .int v28), (7, .int v18), (6, .int v16), (0, .ref (adr g a0)), (1, .int p1_), (3, .int v2), (4, .int i4)]) hx hb dX9_reverses_103 hl (k := 7) rfl (by rw [e_v29]; rfl) (by decide) rfl (fun ls hl => ?_)
                refine lv_goto (tgt := 26) hx hb dX9_reverses_106 (by decide) ?_
                exact ih v28 v29 M24 _ _ ls hH hL (lv_sub hl [4, 5, 1, 6, 7, 0] rfl) 
        refine L30 _ (fun x31 x32 M33 H locs ls hH hL hl  => ?_) 3000 i3 0 M5 _ _ ls hH hL (lv_sub hl [1, 2, 3, 4, 5, 0] rfl) 
        refine q_lt (fun v34 e_v34 => ?_)
        refine lv_iinc (v := v34) (lv' := [(4, .int v34), (0, .ref (adr g a0)), (1, .int p1_), (2, .int x31), (3, .int v2), (5, .int x32)]) hx hb dX9_reverses_109 hl (k := 4) rfl (by rw [e_v34]; rfl) (by decide) rfl (fun ls hl => ?_)
        refine lv_goto (tgt := 12) hx hb dX9_reverses_112 (by decide) ?_
        exact ih x31 v34 M33 _ _ ls hH hL (lv_sub hl [1, 2, 3, 4, 0] rfl) 
  refine L35 _ (fun x36 x37 M38 H locs ls hH hL hl  => ?_) 3000 0 0 M _ _ ls hH hL (lv_sub hl [3, 4, 2, 1, 0] rfl) 
  refine lv_iload_n hx hb dX9_reverses_115 rfl (lv_at hl 2 rfl) ?_
  exact q_end1 (m_iret X hr hH hL dX9_reverses_116)

