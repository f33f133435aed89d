set_option maxRecDepth 20000 in
set_option maxHeartbeats 4000000 in
theorem co_X9_thrown (g : GP) (l : Launch) (hst : l.stackTraces = false) (a0 : Nat) (M : Mem) (t0 : tyT a0 = 9) (v : Int32) (hF : F_X9_thrown a0 M = some v) : CO g l yX9_thrown cX9_thrown 1 (some .int) 0 0 rvI [.ref (adr g a0)] M (.inl v : Int32 ⊕ String) M := by
  refine CO_of hst (by decide) (Nat.le_of_ble_eq_true rfl) ?_
  intro p e s m below meth c ls X hr htb hH hL hl
  have hx := X.1
  have hb := X.2.1
  have hts := X.2.2.2.2.1
  refine q_out hF ?_
  rw [F_X9_thrown]
  replace hl : lv_has ls 1 [(0, .ref (adr g a0))] := hl
  refine lv_aload_n hx hb dX9_thrown_0 rfl (lv_at hl 0 rfl) ?_
  refine m_gI (k := 0) X hH inC9 t0 rfl W1280 dX9_thrown_1 ?_
  exact q_end0 (m_iret X hr hH hL dX9_thrown_4)

set_option maxRecDepth 20000 in
set_option maxHeartbeats 4000000 in
theorem co_X9_fails (g : GP) (l : Launch) (hst : l.stackTraces = false) (a0 : Nat) (p1_ : Int32) (M : Mem) (t0 : tyT a0 = 9) (v : Int32) (M' : Mem) (hF : F_X9_fails a0 p1_ M = some (v, M')) : CO g l yX9_fails cX9_fails 2 (some .int) 0 0 rvI [.ref (adr g a0), .int p1_] M (.inl v : Int32 ⊕ String) M' := by
  refine CO_of hst (by decide) (Nat.le_of_ble_eq_true rfl) ?_
  intro p e s m below meth c ls X hr htb hH hL hl
  have hx := X.1
  have hb := X.2.1
  have hts := X.2.2.2.2.1
  refine q_out hF ?_
  rw [F_X9_fails]
  replace hl : lv_has ls 2 [(0, .ref (adr g a0)), (1, .int p1_)] := hl
  refine lv_aload_n hx hb dX9_fails_0 rfl (lv_at hl 0 rfl) ?_
  refine lv_iload_n hx hb dX9_fails_1 rfl (lv_at hl 1 rfl) ?_
  refine q_lt (fun M1 e_M1 => ?_)
  refine m_pI (k := 0) X hH hL okC9 t0 rfl rfl rfl rfl W1280 dX9_fails_2 e_M1 (fun H locs hH hL => ?_)
  refine lv_iconst (v := 0) hx hb dX9_fails_5 (by decide) ?_
  exact q_end1 (m_iret X hr hH hL dX9_fails_6)

set_option maxRecDepth 20000 in
set_option maxHeartbeats 4000000 in
theorem co_X9_isBetween (g : GP) (l : Launch) (hst : l.stackTraces = false) (p1_ : Int32) (p2_ : Int32) (p3_ : Int32) (M : Mem)  (v : Int32) (hF : F_X9_isBetween p1_ p2_ p3_ = some v) : CO g l yX9_isBetween cX9_isBetween 3 (some .boolean) 0 0 rvI [.int p1_, .int p2_, .int p3_] M (.inl v : Int32 ⊕ String) M := by
  refine CO_of hst (by decide) (Nat.le_of_ble_eq_true rfl) ?_
  intro p e s m below meth c ls X hr htb hH hL hl
  have hx := X.1
  have hb := X.2.1
  have hts := X.2.2.2.2.1
  refine q_out hF ?_
  rw [F_X9_isBetween]
  replace hl : lv_has ls 3 [(0, .int p1_), (1, .int p2_), (2, .int p3_)] := hl
  refine lv_iload_n hx hb dX9_isBetween_0 rfl (lv_at hl 1 rfl) ?_
  refine lv_iload_n hx hb dX9_isBetween_1 rfl (lv_at hl 0 rfl) ?_
  refine lv_icmp_gt (tgt := 14) hx hb dX9_isBetween_2 (by decide) (fun c1 => q_pos c1 ?_) (fun c1 => q_neg c1 ?_)
  · refine lv_iconst (v := 0) hx hb dX9_isBetween_14 (by decide) ?_
    exact q_end0 (m_zret X hr hH hL (by decide) dX9_isBetween_15)
  · refine lv_iload_n hx hb dX9_isBetween_5 rfl (lv_at hl 0 rfl) ?_
    refine lv_iload_n hx hb dX9_isBetween_6 rfl (lv_at hl 2 rfl) ?_
    refine lv_icmp_gt (tgt := 14) hx hb dX9_isBetween_7 (by decide) (fun c2 => q_pos c2 ?_) (fun c2 => q_neg c2 ?_)
    · refine lv_iconst (v := 0) hx hb dX9_isBetween_14 (by decide) ?_
      exact q_end0 (m_zret X hr hH hL (by decide) dX9_isBetween_15)
    · refine lv_iconst (v := 1) hx hb dX9_isBetween_10 (by decide) ?_
      refine lv_goto (tgt := 15) hx hb dX9_isBetween_11 (by decide) ?_
      exact q_end0 (m_zret X hr hH hL (by decide) dX9_isBetween_15)

set_option maxRecDepth 20000 in
set_option maxHeartbeats 4000000 in
theorem co_X9_copies (g : GP) (l : Launch) (hst : l.stackTraces = false) (a0 : Nat) (M : Mem) (t0 : tyT a0 = 9) (v : Unit) (M' : Mem) (hF : F_X9_copies a0 M = some (v, M')) : CO g l yX9_copies cX9_copies 2 none 0 0 rvU [.ref (adr g a0)] M (.inl v : Unit ⊕ String) M' := by
  refine CO_of hst (by decide) (Nat.le_of_ble_eq_true rfl) ?_
  intro p e s m below meth c ls X hr htb hH hL hl
  have hx := X.1
  have hb := X.2.1
  have hts := X.2.2.2.2.1
  refine q_out hF ?_
  rw [F_X9_copies]
  replace hl : lv_has ls 2 [(0, .ref (adr g a0))] := hl
  refine lv_iconst (v := 0) hx hb dX9_copies_0 (by decide) ?_
  refine lv_istore_n (lv' := [(1, .int 0), (0, .ref (adr g a0))]) hx hb dX9_copies_1 rfl hl (by decide) rfl (fun ls hl => ?_)
  have L11 : ∀ (K : Int32 → Mem → Option (Unit × Mem)) (_ : ∀ (i1 : Int32) (M2 : Mem) (H : Heap) (locs : List Loc) (ls : Array Slot), HR g M2 H → LK g s H locs → lv_has ls 2 [(0, .ref (adr g a0)), (1, .int i1)] → W p l e (rmO (.inl v : Unit ⊕ String) 0 0) s m ([.ref (adr g a0)] : List Value).toArray below meth c H locs 0 0 (GQ (K i1 M2) (v, M') (MQO g below rvU (.inl v : Unit ⊕ String) M' ([.ref (adr g a0)] : List Value).toArray s)) (F0 m 27 ls [])) (n : Nat) (i1 : Int32) (M2 : Mem) (H : Heap) (locs : List Loc) (ls : Array Slot), HR g M2 H → LK g s H locs → lv_has ls 2 [(0, .ref (adr g a0)), (1, .int i1)] → W p l e (rmO (.inl v : Unit ⊕ String) 0 0) s m ([.ref (adr g a0)] : List Value).toArray below meth c H locs 0 0 (GQ (F_X9_copies_L1 a0 K n i1 M2) (v, M') (MQO g below rvU (.inl v : Unit ⊕ String) M' ([.ref (adr g a0)] : List Value).toArray s)) (F0 m 2 ls []) := by
    intro K hK n
    induction n with
    | zero => intros; exact q_none
    | succ n ih =>
      intro i1 M2 H locs ls hH hL hl 
      rw [F_X9_copies_L1]
      refine lv_iload_n hx hb dX9_copies_2 rfl (lv_at hl 1 rfl) ?_
      refine lv_sipush (v := 260) hx hb dX9_copies_3 (by decide) ?_
      refine lv_icmp_ge (tgt := 27) hx hb dX9_copies_6 (by decide) (fun c4 => q_pos c4 ?_) (fun c4 => q_neg c4 ?_)
      · exact hK i1 M2 H locs ls hH hL hl 
      · refine lv_aload_n hx hb dX9_copies_9 rfl (lv_at hl 0 rfl) ?_
        refine m_gR (k := 4) X hH inC9 t0 rfl W1284 dX9_copies_10 24 rfl (fun t5 => ?_)
        refine lv_iload_n hx hb dX9_copies_13 rfl (lv_at hl 1 rfl) ?_
        refine lv_aload_n hx hb dX9_copies_14 rfl (lv_at hl 0 rfl) ?_
        refine m_gR (k := 1) X hH inC9 t0 rfl W1281 dX9_copies_15 24 rfl (fun t6 => ?_)
        refine lv_iload_n hx hb dX9_copies_18 rfl (lv_at hl 1 rfl) ?_
        refine q_chk (fun hb7 => ?_)
        refine m_iald X hH t6 rfl (by decide) (fun _ => rfl) rfl rfl hb7 dX9_copies_19 ?_
        refine q_chk (fun hb8 => ?_)
        refine q_lt (fun M9 e_M9 => ?_)
        refine m_is X hH hL t5 rfl (by decide) (fun _ => rfl) rfl rfl hb8 dX9_copies_20 e_M9 (fun H locs hH hL => ?_)
        refine q_lt (fun v10 e_v10 => ?_)
        refine lv_iinc (v := v10) (lv' := [(1, .int v10), (0, .ref (adr g a0))]) hx hb dX9_copies_21 hl (k := 1) rfl (by rw [e_v10]; rfl) (by decide) rfl (fun ls hl => ?_)
        refine lv_goto (tgt := 2) hx hb dX9_copies_24 (by decide) ?_
        exact ih v10 M9 H locs ls hH hL (lv_sub hl [1, 0] rfl) 
  refine L11 _ (fun x12 M13 H locs ls hH hL hl  => ?_) 3000 0 M H locs ls hH hL (lv_sub hl [1, 0] rfl) 
  exact q_end1 (m_vret X hr hH hL dX9_copies_27)

set_option maxRecDepth 20000 in
set_option maxHeartbeats 4000000 in
theorem co_X9_goesBack (g : GP) (l : Launch) (hst : l.stackTraces = false) (a0 : Nat) (M : Mem) (t0 : tyT a0 = 9) (v : Unit) (M' : Mem) (hF : F_X9_goesBack a0 M = some (v, M')) : CO g l yX9_goesBack cX9_goesBack 2 none 0 0 rvU [.ref (adr g a0)] M (.inl v : Unit ⊕ String) M' := by
  refine CO_of hst (by decide) (Nat.le_of_ble_eq_true rfl) ?_
  intro p e s m below meth c ls X hr htb hH hL hl
  have hx := X.1
  have hb := X.2.1
  have hts := X.2.2.2.2.1
  refine q_out hF ?_
  rw [F_X9_goesBack]
  replace hl : lv_has ls 2 [(0, .ref (adr g a0))] := hl
  refine lv_iconst (v := 0) hx hb dX9_goesBack_0 (by decide) ?_
  refine lv_istore_n (lv' := [(1, .int 0), (0, .ref (adr g a0))]) hx hb dX9_goesBack_1 rfl hl (by decide) rfl (fun ls hl => ?_)
  have L11 : ∀ (K : Int32 → Mem → Option (Unit × Mem)) (_ : ∀ (i1 : Int32) (M2 : Mem) (H : Heap) (locs : List Loc) (ls : Array Slot), HR g M2 H → LK g s H locs → lv_has ls 2 [(0, .ref (adr g a0)), (1, .int i1)] → W p l e (rmO (.inl v : Unit ⊕ String) 0 0) s m ([.ref (adr g a0)] : List Value).toArray below meth c H locs 0 0 (GQ (K i1 M2) (v, M') (MQO g below rvU (.inl v : Unit ⊕ String) M' ([.ref (adr g a0)] : List Value).toArray s)) (F0 m 27 ls [])) (n : Nat) (i1 : Int32) (M2 : Mem) (H : Heap) (locs : List Loc) (ls : Array Slot), HR g M2 H → LK g s H locs → lv_has ls 2 [(0, .ref (adr g a0)), (1, .int i1)] → W p l e (rmO (.inl v : Unit ⊕ String) 0 0) s m ([.ref (adr g a0)] : List Value).toArray below meth c H locs 0 0 (GQ (F_X9_goesBack_L1 a0 K n i1 M2) (v, M') (MQO g below rvU (.inl v : Unit ⊕ String) M' ([.ref (adr g a0)] : List Value).toArray s)) (F0 m 2 ls []) := by
    intro K hK n
    induction n with
    | zero => intros; exact q_none
    | succ n ih =>
      intro i1 M2 H locs ls hH hL hl 
      rw [F_X9_goesBack_L1]
      refine lv_iload_n hx hb dX9_goesBack_2 rfl (lv_at hl 1 rfl) ?_
      refine lv_sipush (v := 260) hx hb dX9_goesBack_3 (by decide) ?_
      refine lv_icmp_ge (tgt := 27) hx hb dX9_goesBack_6 (by decide) (fun c4 => q_pos c4 ?_) (fun c4 => q_neg c4 ?_)
      · exact hK i1 M2 H locs ls hH hL hl 
      · refine lv_aload_n hx hb dX9_goesBack_9 rfl (lv_at hl 0 rfl) ?_
        refine m_gR (k := 1) X hH inC9 t0 rfl W1281 dX9_goesBack_10 24 rfl (fun t5 => ?_)
        refine lv_iload_n hx hb dX9_goesBack_13 rfl (lv_at hl 1 rfl) ?_
        refine lv_aload_n hx hb dX9_goesBack_14 rfl (lv_at hl 0 rfl) ?_
        refine m_gR (k := 4) X hH inC9 t0 rfl W1284 dX9_goesBack_15 24 rfl (fun t6 => ?_)
        refine lv_iload_n hx hb dX9_goesBack_18 rfl (lv_at hl 1 rfl) ?_
        refine q_chk (fun hb7 => ?_)
        refine m_iald X hH t6 rfl (by decide) (fun _ => rfl) rfl rfl hb7 dX9_goesBack_19 ?_
        refine q_chk (fun hb8 => ?_)
        refine q_lt (fun M9 e_M9 => ?_)
        refine m_is X hH hL t5 rfl (by decide) (fun _ => rfl) rfl rfl hb8 dX9_goesBack_20 e_M9 (fun H locs hH hL => ?_)
        refine q_lt (fun v10 e_v10 => ?_)
        refine lv_iinc (v := v10) (lv' := [(1, .int v10), (0, .ref (adr g a0))]) hx hb dX9_goesBack_21 hl (k := 1) rfl (by rw [e_v10]; rfl) (by decide) rfl (fun ls hl => ?_)
        refine lv_goto (tgt := 2) hx hb dX9_goesBack_24 (by decide) ?_
        exact ih v10 M9 H locs ls hH hL (lv_sub hl [1, 0] rfl) 
  refine L11 _ (fun x12 M13 H locs ls hH hL hl  => ?_) 3000 0 M H locs ls hH hL (lv_sub hl [1, 0] rfl) 
  exact q_end1 (m_vret X hr hH hL dX9_goesBack_27)

