set_option maxRecDepth 20000 in
set_option maxHeartbeats 4000000 in
theorem co_X9_reverse (g : GP) (l : Launch) (hst : l.stackTraces = false) (a0 : Nat) (p1_ : Int32) (M : Mem) (t0 : tyT a0 = 9) (v : Int32) (M' : Mem) (hF : F_X9_reverse a0 p1_ M = some (v, M')) : CO g l yX9_reverse cX9_reverse 2 (some .int) 3 74 rvI [.ref (adr g a0), .int p1_] M (.inl v : Int32 ⊕ String) M' := by
  refine CO_of hst (by decide) (Nat.le_of_ble_eq_true rfl) ?_
  intro p e s m below meth c ls X hr htb hH hL hl
  have hx := X.1
  have hb := X.2.1
  have hts := X.2.2.2.2.1
  refine q_out hF ?_
  rw [F_X9_reverse]
  replace hl : lv_has ls 2 [(0, .ref (adr g a0)), (1, .int p1_)] := hl
  refine lv_aload_n hx hb dX9_reverse_0 rfl (lv_at hl 0 rfl) ?_
  refine lv_iconst (v := 0) hx hb dX9_reverse_1 (by decide) ?_
  refine q_lt (fun M1 e_M1 => ?_)
  refine m_pI (k := 0) X hH hL okC9 t0 rfl rfl rfl rfl W1284 dX9_reverse_2 e_M1 (fun H locs hH hL => ?_)
  refine lv_aload_n hx hb dX9_reverse_5 rfl (lv_at hl 0 rfl) ?_
  refine lv_iload_n hx hb dX9_reverse_6 rfl (lv_at hl 1 rfl) ?_
  refine q_bind (fun v3 e2 => ?_)
  refine my_doneI hL (my_runV X hH hl.1 (co_X9_isSection g l hst a0 p1_ M1 t0 v3 e2) ok_X9_isSection W1384 t0 rfl (by decide) rfl rfl rfl ⟨Nat.le_of_ble_eq_true rfl, Nat.le_of_ble_eq_true rfl⟩ ⟨Nat.zero_le _, Nat.zero_le _⟩ (Nat.le_of_ble_eq_true rfl) dX9_reverse_7) (fun H locs hH hL => ?_)
  refine lv_if_ne (tgt := 19) hx hb dX9_reverse_10 (by decide) (fun c4 => q_neg c4 ?_) (fun c4 => q_pos c4 ?_)
  · refine lv_aload_n hx hb dX9_reverse_19 rfl (lv_at hl 0 rfl) ?_
    refine q_b1 (fun u6 M7 e5 => ?_)
    refine my_doneU hL (my_runV X hH hl.1 (co_X9_remembers g l hst a0 M1 t0 u6 M7 e5) ok_X9_remembers W1360 t0 rfl (by decide) rfl rfl rfl ⟨Nat.le_of_ble_eq_true rfl, Nat.le_of_ble_eq_true rfl⟩ ⟨Nat.zero_le _, Nat.zero_le _⟩ (Nat.le_of_ble_eq_true rfl) dX9_reverse_20) (fun H locs hH hL => ?_)
    refine lv_aload_n hx hb dX9_reverse_23 rfl (lv_at hl 0 rfl) ?_
    refine lv_iload_n hx hb dX9_reverse_24 rfl (lv_at hl 1 rfl) ?_
    refine q_b1 (fun v9 M10 e8 => ?_)
    refine my_doneI hL (my_runV X hH hl.1 (co_X9_reverses g l hst a0 p1_ M7 t0 v9 M10 e8) ok_X9_reverses W1448 t0 rfl (by decide) rfl rfl rfl ⟨Nat.le_of_ble_eq_true rfl, Nat.le_of_ble_eq_true rfl⟩ ⟨Nat.zero_le _, Nat.zero_le _⟩ (Nat.le_of_ble_eq_true rfl) dX9_reverse_25) (fun H locs hH hL => ?_)
    exact q_end1 (m_iret X hr hH hL dX9_reverse_28)
  · refine lv_aload_n hx hb dX9_reverse_13 rfl (lv_at hl 0 rfl) ?_
    refine lv_iconst (v := 1) hx hb dX9_reverse_14 (by decide) ?_
    refine q_b1 (fun v12 M13 e11 => ?_)
    refine my_doneI hL (my_runV X hH hl.1 (co_X9_fails g l hst a0 1 M1 t0 v12 M13 e11) ok_X9_fails W1356 t0 rfl (by decide) rfl rfl rfl ⟨Nat.le_of_ble_eq_true rfl, Nat.le_of_ble_eq_true rfl⟩ ⟨Nat.zero_le _, Nat.zero_le _⟩ (Nat.le_of_ble_eq_true rfl) dX9_reverse_15) (fun H locs hH hL => ?_)
    exact q_end1 (m_iret X hr hH hL dX9_reverse_18)

set_option maxRecDepth 20000 in
set_option maxHeartbeats 4000000 in
theorem co_X9_notRaise (g : GP) (l : Launch) (hst : l.stackTraces = false) (a0 : Nat) (p1_ : Int32) (p2_ : Int32) (M : Mem) (t0 : tyT a0 = 9) (v : Int32) (hF : F_X9_notRaise a0 p1_ p2_ M = some v) : CO g l yX9_notRaise cX9_notRaise 4 (some .int) 2 43 rvI [.ref (adr g a0), .int p1_, .int p2_] M (.inl v : Int32 ⊕ String) M := by
  refine CO_of hst (by decide) (Nat.le_of_ble_eq_true rfl) ?_
  intro p e s m below meth c ls X hr htb hH hL hl
  have hx := X.1
  have hb := X.2.1
  have hts := X.2.2.2.2.1
  refine q_out hF ?_
  rw [F_X9_notRaise]
  replace hl : lv_has ls 4 [(0, .ref (adr g a0)), (1, .int p1_), (2, .int p2_)] := hl
  refine lv_aload_n hx hb dX9_notRaise_0 rfl (lv_at hl 0 rfl) ?_
  refine lv_iload_n hx hb dX9_notRaise_1 rfl (lv_at hl 1 rfl) ?_
  refine q_bind (fun v2 e1 => ?_)
  refine my_doneI hL (my_runV X hH hl.1 (co_X9_isSection g l hst a0 p1_ M t0 v2 e1) ok_X9_isSection W1384 t0 rfl (by decide) rfl rfl rfl ⟨Nat.le_of_ble_eq_true rfl, Nat.le_of_ble_eq_true rfl⟩ ⟨Nat.zero_le _, Nat.zero_le _⟩ (Nat.le_of_ble_eq_true rfl) dX9_notRaise_2) (fun H locs hH hL => ?_)
  refine lv_if_ne (tgt := 10) hx hb dX9_notRaise_5 (by decide) (fun c3 => q_neg c3 ?_) (fun c3 => q_pos c3 ?_)
  · refine lv_iload_n hx hb dX9_notRaise_10 rfl (lv_at hl 2 rfl) ?_
    refine lv_bipush (v := (-9)) hx hb dX9_notRaise_11 (by decide) ?_
    refine lv_bipush (v := 9) hx hb dX9_notRaise_13 (by decide) ?_
    refine q_bind (fun v5 e4 => ?_)
    refine my_doneI hL (my_runS X hH hl.1 (co_X9_isBetween g l hst p2_ (-9) 9 M v5 e4) ok_X9_isBetween W1353 rfl rfl ⟨Nat.le_of_ble_eq_true rfl, Nat.le_of_ble_eq_true rfl⟩ ⟨Nat.zero_le _, Nat.zero_le _⟩ (Nat.le_of_ble_eq_true rfl) dX9_notRaise_15) (fun H locs hH hL => ?_)
    refine lv_if_ne (tgt := 23) hx hb dX9_notRaise_18 (by decide) (fun c6 => q_neg c6 ?_) (fun c6 => q_pos c6 ?_)
    · refine lv_bipush (v := 7) hx hb dX9_notRaise_23 (by decide) ?_
      refine lv_istore_n (lv' := [(3, .int 7), (0, .ref (adr g a0)), (1, .int p1_), (2, .int p2_)]) hx hb dX9_notRaise_25 rfl hl (by decide) rfl (fun ls hl => ?_)
      have L20 : ∀ (K : Int32 → Option Int32) (_ : ∀ (i7 : Int32) (H : Heap) (locs : List Loc) (ls : Array Slot), HR g M H → LK g s H locs → lv_has ls 4 [(0, .ref (adr g a0)), (1, .int p1_), (2, .int p2_), (3, .int i7)] → W p l e (rmO (.inl v : Int32 ⊕ String) 2 43) s m ([.ref (adr g a0), .int p1_, .int p2_] : List Value).toArray below meth c H locs 0 0 (GQ (K i7) v (MQO g below rvI (.inl v : Int32 ⊕ String) M ([.ref (adr g a0), .int p1_, .int p2_] : List Value).toArray s)) (F0 m 66 ls [])) (n : Nat) (i7 : Int32) (H : Heap) (locs : List Loc) (ls : Array Slot), HR g M H → LK g s H locs → lv_has ls 4 [(0, .ref (adr g a0)), (1, .int p1_), (2, .int p2_), (3, .int i7)] → W p l e (rmO (.inl v : Int32 ⊕ String) 2 43) s m ([.ref (adr g a0), .int p1_, .int p2_] : List Value).toArray below meth c H locs 0 0 (GQ (F_X9_notRaise_L1 a0 p1_ p2_ M K n i7) v (MQO g below rvI (.inl v : Int32 ⊕ String) M ([.ref (adr g a0), .int p1_, .int p2_] : List Value).toArray s)) (F0 m 26 ls []) := by
        intro K hK n
        induction n with
        | zero => intros; exact q_none
        | succ n ih =>
          intro i7 H locs ls hH hL hl 
          rw [F_X9_notRaise_L1]
          refine lv_iload_n hx hb dX9_notRaise_26 rfl (lv_at hl 3 rfl) ?_
          refine lv_bipush (v := 43) hx hb dX9_notRaise_27 (by decide) ?_
          refine lv_icmp_ge (tgt := 66) hx hb dX9_notRaise_29 (by decide) (fun c9 => q_pos c9 ?_) (fun c9 => q_neg c9 ?_)
          · exact hK i7 _ _ ls hH hL hl 
          · refine lv_aload_n hx hb dX9_notRaise_32 rfl (lv_at hl 0 rfl) ?_
            refine lv_iload_n hx hb dX9_notRaise_33 rfl (lv_at hl 1 rfl) ?_
            refine lv_iload_n hx hb dX9_notRaise_34 rfl (lv_at hl 3 rfl) ?_
            refine q_bind (fun v11 e10 => ?_)
            refine my_doneI hL (my_runV X hH hl.1 (co_X9_of g l hst a0 p1_ i7 M t0 v11 e10) ok_X9_of W1404 t0 rfl (by decide) rfl rfl rfl ⟨Nat.le_of_ble_eq_true rfl, Nat.le_of_ble_eq_true rfl⟩ ⟨Nat.zero_le _, Nat.zero_le _⟩ (Nat.le_of_ble_eq_true rfl) dX9_notRaise_35) (fun H locs hH hL => ?_)
            refine lv_if_eq (tgt := 60) hx hb dX9_notRaise_38 (by decide) (fun c12 => q_pos c12 ?_) (fun c12 => q_neg c12 ?_)
            · refine q_lt (fun v13 e_v13 => ?_)
              refine lv_iinc (v := v13) (lv' := [(3, .int v13), (0, .ref (adr g a0)), (1, .int p1_), (2, .int p2_)]) hx hb dX9_notRaise_60 hl (k := 3) rfl (by rw [e_v13]; rfl) (by decide) rfl (fun ls hl => ?_)
              refine lv_goto (tgt := 26) hx hb dX9_notRaise_63 (by decide) ?_
              exact ih v13 _ _ ls hH hL (lv_sub hl [1, 2, 3, 0] rfl) 
            · refine lv_aload_n hx hb dX9_notRaise_41 rfl (lv_at hl 0 rfl) ?_
              refine lv_iload_n hx hb dX9_notRaise_42 rfl (lv_at hl 1 rfl) ?_
              refine lv_iload_n hx hb dX9_notRaise_43 rfl (lv_at hl 3 rfl) ?_
              refine q_bind (fun v15 e14 => ?_)
              refine my_doneI hL (my_runV X hH hl.1 (co_X9_of g l hst a0 p1_ i7 M t0 v15 e14) ok_X9_of W1404 t0 rfl (by decide) rfl rfl rfl ⟨Nat.le_of_ble_eq_true rfl, Nat.le_of_ble_eq_true rfl⟩ ⟨Nat.zero_le _, Nat.zero_le _⟩ (Nat.le_of_ble_eq_true rfl) dX9_notRaise_44) (fun H locs hH hL => ?_)
              refine lv_iload_n hx hb dX9_notRaise_47 rfl (lv_at hl 2 rfl) ?_
              refine lv_iadd hx hb dX9_notRaise_48 ?_
              refine lv_iconst (v := 1) hx hb dX9_notRaise_49 (by decide) ?_
              refine lv_bipush (v := 9) hx hb dX9_notRaise_50 (by decide) ?_
              refine q_bind (fun v17 e16 => ?_)
              refine my_doneI hL (my_runS X hH hl.1 (co_X9_isBetween g l hst (v15 + p2_) 1 9 M v17 e16) ok_X9_isBetween W1353 rfl rfl ⟨Nat.le_of_ble_eq_true rfl, Nat.le_of_ble_eq_true rfl⟩ ⟨Nat.zero_le _, Nat.zero_le _⟩ (Nat.le_of_ble_eq_true rfl) dX9_notRaise_52) (fun H locs hH hL => ?_)
              refine lv_if_ne (tgt := 60) hx hb dX9_notRaise_55 (by decide) (fun c18 => q_neg c18 ?_) (fun c18 => q_pos c18 ?_)
              · refine q_lt (fun v19 e_v19 => ?_)
                refine lv_iinc (v := v19) (lv' := [(3, .int v19), (0, .ref (adr g a0)), (1, .int p1_), (2, .int p2_)]) hx hb dX9_notRaise_60 hl (k := 3) rfl (by rw [e_v19]; rfl) (by decide) rfl (fun ls hl => ?_)
                refine lv_goto (tgt := 26) hx hb dX9_notRaise_63 (by decide) ?_
                exact ih v19 _ _ ls hH hL (lv_sub hl [1, 2, 3, 0] rfl) 
              · refine lv_iconst (v := 3) hx hb dX9_notRaise_58 (by decide) ?_
                exact q_end0 (m_iret X hr hH hL dX9_notRaise_59)
      refine L20 _ (fun x21 H locs ls hH hL hl  => ?_) 3000 7 _ _ ls hH hL (lv_sub hl [1, 2, 3, 0] rfl) 
      refine lv_iconst (v := 0) hx hb dX9_notRaise_66 (by decide) ?_
      exact q_end0 (m_iret X hr hH hL dX9_notRaise_67)
    · refine lv_iconst (v := 2) hx hb dX9_notRaise_21 (by decide) ?_
      exact q_end0 (m_iret X hr hH hL dX9_notRaise_22)
  · refine lv_iconst (v := 1) hx hb dX9_notRaise_8 (by decide) ?_
    exact q_end0 (m_iret X hr hH hL dX9_notRaise_9)

set_option maxRecDepth 20000 in
set_option maxHeartbeats 4000000 in
theorem co_X9_raises (g : GP) (l : Launch) (hst : l.stackTraces = false) (a0 : Nat) (p1_ : Int32) (p2_ : Int32) (M : Mem) (t0 : tyT a0 = 9) (v : Int32) (M' : Mem) (hF : F_X9_raises a0 p1_ p2_ M = some (v, M')) : CO g l yX9_raises cX9_raises 5 (some .int) 1 23 rvI [.ref (adr g a0), .int p1_, .int p2_] M (.inl v : Int32 ⊕ String) M' := by
  refine CO_of hst (by decide) (Nat.le_of_ble_eq_true rfl) ?_
  intro p e s m below meth c ls X hr htb hH hL hl
  have hx := X.1
  have hb := X.2.1
  have hts := X.2.2.2.2.1
  refine q_out hF ?_
  rw [F_X9_raises]
  replace hl : lv_has ls 5 [(0, .ref (adr g a0)), (1, .int p1_), (2, .int p2_)] := hl
  refine lv_iconst (v := 0) hx hb dX9_raises_0 (by decide) ?_
  refine lv_istore_n (lv' := [(3, .int 0), (0, .ref (adr g a0)), (1, .int p1_), (2, .int p2_)]) hx hb dX9_raises_1 rfl hl (by decide) rfl (fun ls hl => ?_)
  refine lv_bipush (v := 7) hx hb dX9_raises_2 (by decide) ?_
  refine lv_istore (lv' := [(4, .int 7), (3, .int 0), (0, .ref (adr g a0)), (1, .int p1_), (2, .int p2_)]) hx hb dX9_raises_4 hl (by decide) rfl (fun ls hl => ?_)
  have L17 : ∀ (K : Int32 → Int32 → Mem → Option (Int32 × Mem)) (_ : ∀ (i1 : Int32) (i2 : Int32) (M3 : Mem) (H : Heap) (locs : List Loc) (ls : Array Slot), HR g M3 H → LK g s H locs → lv_has ls 5 [(0, .ref (adr g a0)), (1, .int p1_), (2, .int p2_), (3, .int i1), (4, .int i2)] → W p l e (rmO (.inl v : Int32 ⊕ String) 1 23) s m ([.ref (adr g a0), .int p1_, .int p2_] : List Value).toArray below meth c H locs 0 0 (GQ (K i1 i2 M3) (v, M') (MQO g below rvI (.inl v : Int32 ⊕ String) M' ([.ref (adr g a0), .int p1_, .int p2_] : List Value).toArray s)) (F0 m 51 ls [])) (n : Nat) (i1 : Int32) (i2 : Int32) (M3 : Mem) (H : Heap) (locs : List Loc) (ls : Array Slot), HR g M3 H → LK g s H locs → lv_has ls 5 [(0, .ref (adr g a0)), (1, .int p1_), (2, .int p2_), (3, .int i1), (4, .int i2)] → W p l e (rmO (.inl v : Int32 ⊕ String) 1 23) s m ([.ref (adr g a0), .int p1_, .int p2_] : List Value).toArray below meth c H locs 0 0 (GQ (F_X9_raises_L1 a0 p1_ p2_ K n i1 i2 M3) (v, M') (MQO g below rvI (.inl v : Int32 ⊕ String) M' ([.ref (adr g a0), .int p1_, .int p2_] : List Value).toArray s)) (F0 m 6 ls []) := by
    intro K hK n
    induction n with
    | zero => intros; exact q_none
    | succ n ih =>
      intro i1 i2 M3 H locs ls hH hL hl 
      rw [F_X9_raises_L1]
      refine lv_iload hx hb dX9_raises_6 (lv_at hl 4 rfl) ?_
      refine lv_bipush (v := 43) hx hb dX9_raises_8 (by decide) ?_
      refine lv_icmp_ge (tgt := 51) hx hb dX9_raises_10 (by decide) (fun c5 => q_pos c5 ?_) (fun c5 => q_neg c5 ?_)
      · exact hK i1 i2 M3 _ _ ls hH hL hl 
      · refine lv_aload_n hx hb dX9_raises_13 rfl (lv_at hl 0 rfl) ?_
        refine lv_iload_n hx hb dX9_raises_14 rfl (lv_at hl 1 rfl) ?_
        refine lv_iload hx hb dX9_raises_15 (lv_at hl 4 rfl) ?_
        refine q_bind (fun v7 e6 => ?_)
        refine my_doneI hL (my_runV X hH hl.1 (co_X9_of g l hst a0 p1_ i2 M3 t0 v7 e6) ok_X9_of W1404 t0 rfl (by decide) rfl rfl rfl ⟨Nat.le_of_ble_eq_true rfl, Nat.le_of_ble_eq_true rfl⟩ ⟨Nat.zero_le _, Nat.zero_le _⟩ (Nat.le_of_ble_eq_true rfl) dX9_raises_17) (fun H locs hH hL => ?_)
        refine lv_if_ne (tgt := 26) hx hb dX9_raises_20 (by decide) (fun c8 => q_neg c8 ?_) (fun c8 => q_pos c8 ?_)
        · refine lv_aload_n hx hb dX9_raises_26 rfl (lv_at hl 0 rfl) ?_
          refine lv_iload_n hx hb dX9_raises_27 rfl (lv_at hl 1 rfl) ?_
          refine lv_iload hx hb dX9_raises_28 (lv_at hl 4 rfl) ?_
          refine lv_aload_n hx hb dX9_raises_30 rfl (lv_at hl 0 rfl) ?_
          refine lv_iload_n hx hb dX9_raises_31 rfl (lv_at hl 1 rfl) ?_
          refine lv_iload hx hb dX9_raises_32 (lv_at hl 4 rfl) ?_
          refine q_bind (fun v10 e9 => ?_)
          refine my_doneI hL (my_runV X hH hl.1 (co_X9_of g l hst a0 p1_ i2 M3 t0 v10 e9) ok_X9_of W1404 t0 rfl (by decide) rfl rfl rfl ⟨Nat.le_of_ble_eq_true rfl, Nat.le_of_ble_eq_true rfl⟩ ⟨Nat.zero_le _, Nat.zero_le _⟩ (Nat.le_of_ble_eq_true rfl) dX9_raises_34) (fun H locs hH hL => ?_)
          refine lv_iload_n hx hb dX9_raises_37 rfl (lv_at hl 2 rfl) ?_
          refine lv_iadd hx hb dX9_raises_38 ?_
          refine q_b1 (fun u12 M13 e11 => ?_)
          refine my_doneU hL (my_runV X hH hl.1 (co_X9_puts g l hst a0 p1_ i2 (v10 + p2_) M3 t0 u12 M13 e11) ok_X9_puts W1376 t0 rfl (by decide) rfl rfl rfl ⟨Nat.le_of_ble_eq_true rfl, Nat.le_of_ble_eq_true rfl⟩ ⟨Nat.zero_le _, Nat.zero_le _⟩ (Nat.le_of_ble_eq_true rfl) dX9_raises_39) (fun H locs hH hL => ?_)
          refine q_lt (fun v14 e_v14 => ?_)
          refine lv_iinc (v := v14) (lv' := [(3, .int v14), (0, .ref (adr g a0)), (1, .int p1_), (2, .int p2_), (4, .int i2)]) hx hb dX9_raises_42 hl (k := 3) rfl (by rw [e_v14]; rfl) (by decide) rfl (fun ls hl => ?_)
          refine q_lt (fun v15 e_v15 => ?_)
          refine lv_iinc (v := v15) (lv' := [(4, .int v15), (3, .int v14), (0, .ref (adr g a0)), (1, .int p1_), (2, .int p2_)]) hx hb dX9_raises_45 hl (k := 4) rfl (by rw [e_v15]; rfl) (by decide) rfl (fun ls hl => ?_)
          refine lv_goto (tgt := 6) hx hb dX9_raises_48 (by decide) ?_
          exact ih v14 v15 M13 _ _ ls hH hL (lv_sub hl [2, 3, 4, 1, 0] rfl) 
        · refine lv_goto (tgt := 45) hx hb dX9_raises_23 (by decide) ?_
          refine q_lt (fun v16 e_v16 => ?_)
          refine lv_iinc (v := v16) (lv' := [(4, .int v16), (0, .ref (adr g a0)), (1, .int p1_), (2, .int p2_), (3, .int i1)]) hx hb dX9_raises_45 hl (k := 4) rfl (by rw [e_v16]; rfl) (by decide) rfl (fun ls hl => ?_)
          refine lv_goto (tgt := 6) hx hb dX9_raises_48 (by decide) ?_
          exact ih i1 v16 M3 _ _ ls hH hL (lv_sub hl [1, 2, 3, 4, 0] rfl) 
  refine L17 _ (fun x18 x19 M20 H locs ls hH hL hl  => ?_) 3000 0 7 M _ _ ls hH hL (lv_sub hl [2, 3, 4, 1, 0] rfl) 
  refine lv_iload_n hx hb dX9_raises_51 rfl (lv_at hl 3 rfl) ?_
  exact q_end1 (m_iret X hr hH hL dX9_raises_52)

set_option maxRecDepth 20000 in
set_option maxHeartbeats 4000000 in
theorem co_X9_raise (g : GP) (l : Launch) (hst : l.stackTraces = false) (a0 : Nat) (p1_ : Int32) (p2_ : Int32) (M : Mem) (t0 : tyT a0 = 9) (v : Int32) (M' : Mem) (hF : F_X9_raise a0 p1_ p2_ M = some (v, M')) : CO g l yX9_raise cX9_raise 4 (some .int) 3 66 rvI [.ref (adr g a0), .int p1_, .int p2_] M (.inl v : Int32 ⊕ String) M' := by
  refine CO_of hst (by decide) (Nat.le_of_ble_eq_true rfl) ?_
  intro p e s m below meth c ls X hr htb hH hL hl
  have hx := X.1
  have hb := X.2.1
  have hts := X.2.2.2.2.1
  refine q_out hF ?_
  rw [F_X9_raise]
  replace hl : lv_has ls 4 [(0, .ref (adr g a0)), (1, .int p1_), (2, .int p2_)] := hl
  refine lv_aload_n hx hb dX9_raise_0 rfl (lv_at hl 0 rfl) ?_
  refine lv_iconst (v := 0) hx hb dX9_raise_1 (by decide) ?_
  refine q_lt (fun M1 e_M1 => ?_)
  refine m_pI (k := 0) X hH hL okC9 t0 rfl rfl rfl rfl W1284 dX9_raise_2 e_M1 (fun H locs hH hL => ?_)
  refine lv_aload_n hx hb dX9_raise_5 rfl (lv_at hl 0 rfl) ?_
  refine lv_iload_n hx hb dX9_raise_6 rfl (lv_at hl 1 rfl) ?_
  refine lv_iload_n hx hb dX9_raise_7 rfl (lv_at hl 2 rfl) ?_
  refine q_bind (fun v3 e2 => ?_)
  refine my_doneI hL (my_runV X hH hl.1 (co_X9_notRaise g l hst a0 p1_ p2_ M1 t0 v3 e2) ok_X9_notRaise W1456 t0 rfl (by decide) rfl rfl rfl ⟨Nat.le_of_ble_eq_true rfl, Nat.le_of_ble_eq_true rfl⟩ ⟨Nat.zero_le _, Nat.zero_le _⟩ (Nat.le_of_ble_eq_true rfl) dX9_raise_8) (fun H locs hH hL => ?_)
  refine lv_istore_n (lv' := [(3, .int v3), (0, .ref (adr g a0)), (1, .int p1_), (2, .int p2_)]) hx hb dX9_raise_11 rfl hl (by decide) rfl (fun ls hl => ?_)
  refine lv_iload_n hx hb dX9_raise_12 rfl (lv_at hl 0 rfl) ?_
  refine lv_if_eq (tgt := 22) hx hb dX9_raise_13 (by decide) (fun c4 => q_pos c4 ?_) (fun c4 => q_neg c4 ?_)
  · refine lv_aload_n hx hb dX9_raise_22 rfl (lv_at hl 1 rfl) ?_
    refine q_b1 (fun u6 M7 e5 => ?_)
    refine my_doneU hL (my_runV X hH hl.1 (co_X9_remembers g l hst a0 M1 t0 u6 M7 e5) ok_X9_remembers W1360 t0 rfl (by decide) rfl rfl rfl ⟨Nat.le_of_ble_eq_true rfl, Nat.le_of_ble_eq_true rfl⟩ ⟨Nat.zero_le _, Nat.zero_le _⟩ (Nat.le_of_ble_eq_true rfl) dX9_raise_23) (fun H locs hH hL => ?_)
    refine lv_aload_n hx hb dX9_raise_26 rfl (lv_at hl 1 rfl) ?_
    refine lv_iload_n hx hb dX9_raise_27 rfl (lv_at hl 2 rfl) ?_
    refine lv_iload_n hx hb dX9_raise_28 rfl (lv_at hl 3 rfl) ?_
    refine q_b1 (fun v9 M10 e8 => ?_)
    refine my_doneI hL (my_runV X hH hl.1 (co_X9_raises g l hst a0 p1_ p2_ M7 t0 v9 M10 e8) ok_X9_raises W1460 t0 rfl (by decide) rfl rfl rfl ⟨Nat.le_of_ble_eq_true rfl, Nat.le_of_ble_eq_true rfl⟩ ⟨Nat.zero_le _, Nat.zero_le _⟩ (Nat.le_of_ble_eq_true rfl) dX9_raise_29) (fun H locs hH hL => ?_)
    exact q_end1 (m_iret X hr hH hL dX9_raise_32)
  · refine lv_aload_n hx hb dX9_raise_16 rfl (lv_at hl 1 rfl) ?_
    refine lv_iload_n hx hb dX9_raise_17 rfl (lv_at hl 0 rfl) ?_
    refine q_b1 (fun v12 M13 e11 => ?_)
    refine my_doneI hL (my_runV X hH hl.1 (co_X9_fails g l hst a0 v3 M1 t0 v12 M13 e11) ok_X9_fails W1356 t0 rfl (by decide) rfl rfl rfl ⟨Nat.le_of_ble_eq_true rfl, Nat.le_of_ble_eq_true rfl⟩ ⟨Nat.zero_le _, Nat.zero_le _⟩ (Nat.le_of_ble_eq_true rfl) dX9_raise_18) (fun H locs hH hL => ?_)
    exact q_end1 (m_iret X hr hH hL dX9_raise_21)

set_option maxRecDepth 20000 in
set_option maxHeartbeats 4000000 in
theorem co_X9_notTempo (g : GP) (l : Launch) (hst : l.stackTraces = false) (p1_ : Int32) (M : Mem)  (v : Int32) (hF : F_X9_notTempo p1_ = some v) : CO g l yX9_notTempo cX9_notTempo 1 (some .int) 1 22 rvI [.int p1_] M (.inl v : Int32 ⊕ String) M := by
  refine CO_of hst (by decide) (Nat.le_of_ble_eq_true rfl) ?_
  intro p e s m below meth c ls X hr htb hH hL hl
  have hx := X.1
  have hb := X.2.1
  have hts := X.2.2.2.2.1
  refine q_out hF ?_
  rw [F_X9_notTempo]
  replace hl : lv_has ls 1 [(0, .int p1_)] := hl
  refine lv_iload_n hx hb dX9_notTempo_0 rfl (lv_at hl 0 rfl) ?_
  refine lv_iconst (v := 1) hx hb dX9_notTempo_1 (by decide) ?_
  refine lv_iconst (v := 5) hx hb dX9_notTempo_2 (by decide) ?_
  refine q_bind (fun v2 e1 => ?_)
  refine my_doneI hL (my_runS X hH hl.1 (co_X9_isBetween g l hst p1_ 1 5 M v2 e1) ok_X9_isBetween W1353 rfl rfl ⟨Nat.le_of_ble_eq_true rfl, Nat.le_of_ble_eq_true rfl⟩ ⟨Nat.zero_le _, Nat.zero_le _⟩ (Nat.le_of_ble_eq_true rfl) dX9_notTempo_3) (fun H locs hH hL => ?_)
  refine lv_if_eq (tgt := 13) hx hb dX9_notTempo_6 (by decide) (fun c3 => q_pos c3 ?_) (fun c3 => q_neg c3 ?_)
  · refine lv_iconst (v := 1) hx hb dX9_notTempo_13 (by decide) ?_
    exact q_end0 (m_iret X hr hH hL dX9_notTempo_14)
  · refine lv_iconst (v := 0) hx hb dX9_notTempo_9 (by decide) ?_
    refine lv_goto (tgt := 14) hx hb dX9_notTempo_10 (by decide) ?_
    exact q_end0 (m_iret X hr hH hL dX9_notTempo_14)

set_option maxRecDepth 20000 in
set_option maxHeartbeats 4000000 in
theorem co_X9_sets (g : GP) (l : Launch) (hst : l.stackTraces = false) (a0 : Nat) (p1_ : Int32) (p2_ : Int32) (M : Mem) (t0 : tyT a0 = 9) (v : Int32) (M' : Mem) (hF : F_X9_sets a0 p1_ p2_ M = some (v, M')) : CO g l yX9_sets cX9_sets 4 (some .int) 0 0 rvI [.ref (adr g a0), .int p1_, .int p2_] M (.inl v : Int32 ⊕ String) M' := by
  refine CO_of hst (by decide) (Nat.le_of_ble_eq_true rfl) ?_
  intro p e s m below meth c ls X hr htb hH hL hl
  have hx := X.1
  have hb := X.2.1
  have hts := X.2.2.2.2.1
  refine q_out hF ?_
  rw [F_X9_sets]
  replace hl : lv_has ls 4 [(0, .ref (adr g a0)), (1, .int p1_), (2, .int p2_)] := hl
  refine lv_aload_n hx hb dX9_sets_0 rfl (lv_at hl 0 rfl) ?_
  refine m_gR (k := 1) X hH inC9 t0 rfl W1285 dX9_sets_1 24 rfl (fun t1 => ?_)
  refine lv_iload_n hx hb dX9_sets_4 rfl (lv_at hl 1 rfl) ?_
  refine q_chk (fun hb2 => ?_)
  refine m_iald X hH t1 rfl (by decide) (fun _ => rfl) rfl rfl hb2 dX9_sets_5 ?_
  refine q_lt (fun v3 e_v3 => ?_)
  refine q_topI e_v3 ?_
  refine lv_istore_n (lv' := [(3, .int v3), (0, .ref (adr g a0)), (1, .int p1_), (2, .int p2_)]) hx hb dX9_sets_6 rfl hl (by decide) rfl (fun ls hl => ?_)
  refine lv_aload_n hx hb dX9_sets_7 rfl (lv_at hl 1 rfl) ?_
  refine m_gR (k := 1) X hH inC9 t0 rfl W1285 dX9_sets_8 24 rfl (fun t4 => ?_)
  refine lv_iload_n hx hb dX9_sets_11 rfl (lv_at hl 2 rfl) ?_
  refine lv_iload_n hx hb dX9_sets_12 rfl (lv_at hl 3 rfl) ?_
  refine q_chk (fun hb5 => ?_)
  refine q_lt (fun M6 e_M6 => ?_)
  refine m_is X hH hL t4 rfl (by decide) (fun _ => rfl) rfl rfl hb5 dX9_sets_13 e_M6 (fun H locs hH hL => ?_)
  refine lv_iload_n hx hb dX9_sets_14 rfl (lv_at hl 0 rfl) ?_
  exact q_end1 (m_iret X hr hH hL dX9_sets_15)

set_option maxRecDepth 20000 in
set_option maxHeartbeats 4000000 in
theorem co_X9_setTempo (g : GP) (l : Launch) (hst : l.stackTraces = false) (a0 : Nat) (p1_ : Int32) (M : Mem) (t0 : tyT a0 = 9) (v : Int32) (M' : Mem) (hF : F_X9_setTempo a0 p1_ M = some (v, M')) : CO g l yX9_setTempo cX9_setTempo 2 (some .int) 2 42 rvI [.ref (adr g a0), .int p1_] M (.inl v : Int32 ⊕ String) M' := by
  refine CO_of hst (by decide) (Nat.le_of_ble_eq_true rfl) ?_
  intro p e s m below meth c ls X hr htb hH hL hl
  have hx := X.1
  have hb := X.2.1
  have hts := X.2.2.2.2.1
  refine q_out hF ?_
  rw [F_X9_setTempo]
  replace hl : lv_has ls 2 [(0, .ref (adr g a0)), (1, .int p1_)] := hl
  refine lv_aload_n hx hb dX9_setTempo_0 rfl (lv_at hl 0 rfl) ?_
  refine lv_iconst (v := 0) hx hb dX9_setTempo_1 (by decide) ?_
  refine q_lt (fun M1 e_M1 => ?_)
  refine m_pI (k := 0) X hH hL okC9 t0 rfl rfl rfl rfl W1284 dX9_setTempo_2 e_M1 (fun H locs hH hL => ?_)
  refine lv_iload_n hx hb dX9_setTempo_5 rfl (lv_at hl 1 rfl) ?_
  refine q_bind (fun v3 e2 => ?_)
  refine my_doneI hL (my_runS X hH hl.1 (co_X9_notTempo g l hst p1_ M1 v3 e2) ok_X9_notTempo W1468 rfl rfl ⟨Nat.le_of_ble_eq_true rfl, Nat.le_of_ble_eq_true rfl⟩ ⟨Nat.zero_le _, Nat.zero_le _⟩ (Nat.le_of_ble_eq_true rfl) dX9_setTempo_6) (fun H locs hH hL => ?_)
  refine lv_if_eq (tgt := 18) hx hb dX9_setTempo_9 (by decide) (fun c4 => q_pos c4 ?_) (fun c4 => q_neg c4 ?_)
  · refine lv_aload_n hx hb dX9_setTempo_18 rfl (lv_at hl 0 rfl) ?_
    refine q_b1 (fun u6 M7 e5 => ?_)
    refine my_doneU hL (my_runV X hH hl.1 (co_X9_remembers g l hst a0 M1 t0 u6 M7 e5) ok_X9_remembers W1360 t0 rfl (by decide) rfl rfl rfl ⟨Nat.le_of_ble_eq_true rfl, Nat.le_of_ble_eq_true rfl⟩ ⟨Nat.zero_le _, Nat.zero_le _⟩ (Nat.le_of_ble_eq_true rfl) dX9_setTempo_19) (fun H locs hH hL => ?_)
    refine lv_aload_n hx hb dX9_setTempo_22 rfl (lv_at hl 0 rfl) ?_
    refine lv_iconst (v := 2) hx hb dX9_setTempo_23 (by decide) ?_
    refine lv_iload_n hx hb dX9_setTempo_24 rfl (lv_at hl 1 rfl) ?_
    refine q_b1 (fun v9 M10 e8 => ?_)
    refine my_doneI hL (my_runV X hH hl.1 (co_X9_sets g l hst a0 2 p1_ M7 t0 v9 M10 e8) ok_X9_sets W1471 t0 rfl (by decide) rfl rfl rfl ⟨Nat.le_of_ble_eq_true rfl, Nat.le_of_ble_eq_true rfl⟩ ⟨Nat.zero_le _, Nat.zero_le _⟩ (Nat.le_of_ble_eq_true rfl) dX9_setTempo_25) (fun H locs hH hL => ?_)
    exact q_end1 (m_iret X hr hH hL dX9_setTempo_28)
  · refine lv_aload_n hx hb dX9_setTempo_12 rfl (lv_at hl 0 rfl) ?_
    refine lv_iconst (v := 1) hx hb dX9_setTempo_13 (by decide) ?_
    refine q_b1 (fun v12 M13 e11 => ?_)
    refine my_doneI hL (my_runV X hH hl.1 (co_X9_fails g l hst a0 1 M1 t0 v12 M13 e11) ok_X9_fails W1356 t0 rfl (by decide) rfl rfl rfl ⟨Nat.le_of_ble_eq_true rfl, Nat.le_of_ble_eq_true rfl⟩ ⟨Nat.zero_le _, Nat.zero_le _⟩ (Nat.le_of_ble_eq_true rfl) dX9_setTempo_14) (fun H locs hH hL => ?_)
    exact q_end1 (m_iret X hr hH hL dX9_setTempo_17)

set_option maxRecDepth 20000 in
set_option maxHeartbeats 4000000 in
theorem co_X9_notLimit (g : GP) (l : Launch) (hst : l.stackTraces = false) (p1_ : Int32) (M : Mem)  (v : Int32) (hF : F_X9_notLimit p1_ = some v) : CO g l yX9_notLimit cX9_notLimit 1 (some .int) 1 22 rvI [.int p1_] M (.inl v : Int32 ⊕ String) M := by
  refine CO_of hst (by decide) (Nat.le_of_ble_eq_true rfl) ?_
  intro p e s m below meth c ls X hr htb hH hL hl
  have hx := X.1
  have hb := X.2.1
  have hts := X.2.2.2.2.1
  refine q_out hF ?_
  rw [F_X9_notLimit]
  replace hl : lv_has ls 1 [(0, .int p1_)] := hl
  refine lv_iload_n hx hb dX9_notLimit_0 rfl (lv_at hl 0 rfl) ?_
  refine lv_iconst (v := 1) hx hb dX9_notLimit_1 (by decide) ?_
  refine lv_bipush (v := 99) hx hb dX9_notLimit_2 (by decide) ?_
  refine q_bind (fun v2 e1 => ?_)
  refine my_doneI hL (my_runS X hH hl.1 (co_X9_isBetween g l hst p1_ 1 99 M v2 e1) ok_X9_isBetween W1353 rfl rfl ⟨Nat.le_of_ble_eq_true rfl, Nat.le_of_ble_eq_true rfl⟩ ⟨Nat.zero_le _, Nat.zero_le _⟩ (Nat.le_of_ble_eq_true rfl) dX9_notLimit_4) (fun H locs hH hL => ?_)
  refine lv_if_eq (tgt := 14) hx hb dX9_notLimit_7 (by decide) (fun c3 => q_pos c3 ?_) (fun c3 => q_neg c3 ?_)
  · refine lv_iconst (v := 1) hx hb dX9_notLimit_14 (by decide) ?_
    exact q_end0 (m_iret X hr hH hL dX9_notLimit_15)
  · refine lv_iconst (v := 0) hx hb dX9_notLimit_10 (by decide) ?_
    refine lv_goto (tgt := 15) hx hb dX9_notLimit_11 (by decide) ?_
    exact q_end0 (m_iret X hr hH hL dX9_notLimit_15)

set_option maxRecDepth 20000 in
set_option maxHeartbeats 4000000 in
theorem co_X9_setLimit (g : GP) (l : Launch) (hst : l.stackTraces = false) (a0 : Nat) (p1_ : Int32) (M : Mem) (t0 : tyT a0 = 9) (v : Int32) (M' : Mem) (hF : F_X9_setLimit a0 p1_ M = some (v, M')) : CO g l yX9_setLimit cX9_setLimit 2 (some .int) 2 42 rvI [.ref (adr g a0), .int p1_] M (.inl v : Int32 ⊕ String) M' := by
  refine CO_of hst (by decide) (Nat.le_of_ble_eq_true rfl) ?_
  intro p e s m below meth c ls X hr htb hH hL hl
  have hx := X.1
  have hb := X.2.1
  have hts := X.2.2.2.2.1
  refine q_out hF ?_
  rw [F_X9_setLimit]
  replace hl : lv_has ls 2 [(0, .ref (adr g a0)), (1, .int p1_)] := hl
  refine lv_aload_n hx hb dX9_setLimit_0 rfl (lv_at hl 0 rfl) ?_
  refine lv_iconst (v := 0) hx hb dX9_setLimit_1 (by decide) ?_
  refine q_lt (fun M1 e_M1 => ?_)
  refine m_pI (k := 0) X hH hL okC9 t0 rfl rfl rfl rfl W1284 dX9_setLimit_2 e_M1 (fun H locs hH hL => ?_)
  refine lv_iload_n hx hb dX9_setLimit_5 rfl (lv_at hl 1 rfl) ?_
  refine q_bind (fun v3 e2 => ?_)
  refine my_doneI hL (my_runS X hH hl.1 (co_X9_notLimit g l hst p1_ M1 v3 e2) ok_X9_notLimit W1479 rfl rfl ⟨Nat.le_of_ble_eq_true rfl, Nat.le_of_ble_eq_true rfl⟩ ⟨Nat.zero_le _, Nat.zero_le _⟩ (Nat.le_of_ble_eq_true rfl) dX9_setLimit_6) (fun H locs hH hL => ?_)
  refine lv_if_eq (tgt := 18) hx hb dX9_setLimit_9 (by decide) (fun c4 => q_pos c4 ?_) (fun c4 => q_neg c4 ?_)
  · refine lv_aload_n hx hb dX9_setLimit_18 rfl (lv_at hl 0 rfl) ?_
    refine q_b1 (fun u6 M7 e5 => ?_)
    refine my_doneU hL (my_runV X hH hl.1 (co_X9_remembers g l hst a0 M1 t0 u6 M7 e5) ok_X9_remembers W1360 t0 rfl (by decide) rfl rfl rfl ⟨Nat.le_of_ble_eq_true rfl, Nat.le_of_ble_eq_true rfl⟩ ⟨Nat.zero_le _, Nat.zero_le _⟩ (Nat.le_of_ble_eq_true rfl) dX9_setLimit_19) (fun H locs hH hL => ?_)
    refine lv_aload_n hx hb dX9_setLimit_22 rfl (lv_at hl 0 rfl) ?_
    refine lv_iconst (v := 3) hx hb dX9_setLimit_23 (by decide) ?_
    refine lv_iload_n hx hb dX9_setLimit_24 rfl (lv_at hl 1 rfl) ?_
    refine q_b1 (fun v9 M10 e8 => ?_)
    refine my_doneI hL (my_runV X hH hl.1 (co_X9_sets g l hst a0 3 p1_ M7 t0 v9 M10 e8) ok_X9_sets W1471 t0 rfl (by decide) rfl rfl rfl ⟨Nat.le_of_ble_eq_true rfl, Nat.le_of_ble_eq_true rfl⟩ ⟨Nat.zero_le _, Nat.zero_le _⟩ (Nat.le_of_ble_eq_true rfl) dX9_setLimit_25) (fun H locs hH hL => ?_)
    exact q_end1 (m_iret X hr hH hL dX9_setLimit_28)
  · refine lv_aload_n hx hb dX9_setLimit_12 rfl (lv_at hl 0 rfl) ?_
    refine lv_iconst (v := 1) hx hb dX9_setLimit_13 (by decide) ?_
    refine q_b1 (fun v12 M13 e11 => ?_)
    refine my_doneI hL (my_runV X hH hl.1 (co_X9_fails g l hst a0 1 M1 t0 v12 M13 e11) ok_X9_fails W1356 t0 rfl (by decide) rfl rfl rfl ⟨Nat.le_of_ble_eq_true rfl, Nat.le_of_ble_eq_true rfl⟩ ⟨Nat.zero_le _, Nat.zero_le _⟩ (Nat.le_of_ble_eq_true rfl) dX9_setLimit_14) (fun H locs hH hL => ?_)
    exact q_end1 (m_iret X hr hH hL dX9_setLimit_17)

set_option maxRecDepth 20000 in
set_option maxHeartbeats 4000000 in
theorem co_X9_columnNow (g : GP) (l : Launch) (hst : l.stackTraces = false) (a0 : Nat) (p1_ : Int32) (M : Mem) (t0 : tyT a0 = 9) (v : Int32) (hF : F_X9_columnNow a0 p1_ M = some v) : CO g l yX9_columnNow cX9_columnNow 2 (some .int) 1 22 rvI [.ref (adr g a0), .int p1_] M (.inl v : Int32 ⊕ String) M := by
  refine CO_of hst (by decide) (Nat.le_of_ble_eq_true rfl) ?_
  intro p e s m below meth c ls X hr htb hH hL hl
  have hx := X.1
  have hb := X.2.1
  have hts := X.2.2.2.2.1
  refine q_out hF ?_
  rw [F_X9_columnNow]
  replace hl : lv_has ls 2 [(0, .ref (adr g a0)), (1, .int p1_)] := hl
  refine lv_aload_n hx hb dX9_columnNow_0 rfl (lv_at hl 0 rfl) ?_
  refine m_gR (k := 1) X hH inC9 t0 rfl W1285 dX9_columnNow_1 24 rfl (fun t1 => ?_)
  refine lv_iconst (v := 1) hx hb dX9_columnNow_4 (by decide) ?_
  refine q_chk (fun hb2 => ?_)
  refine m_iald X hH t1 rfl (by decide) (fun _ => rfl) rfl rfl hb2 dX9_columnNow_5 ?_
  refine lv_aload_n hx hb dX9_columnNow_6 rfl (lv_at hl 0 rfl) ?_
  refine lv_iload_n hx hb dX9_columnNow_7 rfl (lv_at hl 1 rfl) ?_
  refine lv_iconst (v := 2) hx hb dX9_columnNow_8 (by decide) ?_
  refine q_bind (fun v4 e3 => ?_)
  refine my_doneI hL (my_runV X hH hl.1 (co_X9_of g l hst a0 p1_ 2 M t0 v4 e3) ok_X9_of W1404 t0 rfl (by decide) rfl rfl rfl ⟨Nat.le_of_ble_eq_true rfl, Nat.le_of_ble_eq_true rfl⟩ ⟨Nat.zero_le _, Nat.zero_le _⟩ (Nat.le_of_ble_eq_true rfl) dX9_columnNow_9) (fun H locs hH hL => ?_)
  refine q_chk (fun hz5 => ?_)
  refine lv_irem hx hb dX9_columnNow_12 (nz_n hz5) ?_
  exact q_end0 (m_iret X hr hH hL dX9_columnNow_13)

set_option maxRecDepth 20000 in
set_option maxHeartbeats 4000000 in
theorem co_X9_plays (g : GP) (l : Launch) (hst : l.stackTraces = false) (a0 : Nat) (p1_ : Int32) (M : Mem) (t0 : tyT a0 = 9) (v : Int32) (hF : F_X9_plays a0 p1_ M = some v) : CO g l yX9_plays cX9_plays 2 (some .boolean) 2 44 rvI [.ref (adr g a0), .int p1_] M (.inl v : Int32 ⊕ String) M := by
  refine CO_of hst (by decide) (Nat.le_of_ble_eq_true rfl) ?_
  intro p e s m below meth c ls X hr htb hH hL hl
  have hx := X.1
  have hb := X.2.1
  have hts := X.2.2.2.2.1
  refine q_out hF ?_
  rw [F_X9_plays]
  replace hl : lv_has ls 2 [(0, .ref (adr g a0)), (1, .int p1_)] := hl
  refine lv_aload_n hx hb dX9_plays_0 rfl (lv_at hl 0 rfl) ?_
  refine lv_iload_n hx hb dX9_plays_1 rfl (lv_at hl 1 rfl) ?_
  refine lv_iconst (v := 5) hx hb dX9_plays_2 (by decide) ?_
  refine q_bind (fun v2 e1 => ?_)
  refine my_doneI hL (my_runV X hH hl.1 (co_X9_of g l hst a0 p1_ 5 M t0 v2 e1) ok_X9_of W1404 t0 rfl (by decide) rfl rfl rfl ⟨Nat.le_of_ble_eq_true rfl, Nat.le_of_ble_eq_true rfl⟩ ⟨Nat.zero_le _, Nat.zero_le _⟩ (Nat.le_of_ble_eq_true rfl) dX9_plays_3) (fun H locs hH hL => ?_)
  refine lv_if_ne (tgt := 26) hx hb dX9_plays_6 (by decide) (fun c3 => q_neg c3 ?_) (fun c3 => q_pos c3 ?_)
  · refine lv_iconst (v := 0) hx hb dX9_plays_26 (by decide) ?_
    exact q_end0 (m_zret X hr hH hL (by decide) dX9_plays_27)
  · refine lv_aload_n hx hb dX9_plays_9 rfl (lv_at hl 0 rfl) ?_
    refine lv_iload_n hx hb dX9_plays_10 rfl (lv_at hl 1 rfl) ?_
    refine lv_aload_n hx hb dX9_plays_11 rfl (lv_at hl 0 rfl) ?_
    refine lv_iload_n hx hb dX9_plays_12 rfl (lv_at hl 1 rfl) ?_
    refine q_bind (fun v5 e4 => ?_)
    refine my_doneI hL (my_runV X hH hl.1 (co_X9_columnNow g l hst a0 p1_ M t0 v5 e4) ok_X9_columnNow W1502 t0 rfl (by decide) rfl rfl rfl ⟨Nat.le_of_ble_eq_true rfl, Nat.le_of_ble_eq_true rfl⟩ ⟨Nat.zero_le _, Nat.zero_le _⟩ (Nat.le_of_ble_eq_true rfl) dX9_plays_13) (fun H locs hH hL => ?_)
    refine q_bind (fun v7 e6 => ?_)
    refine my_doneI hL (my_runV X hH hl.1 (co_X9_isMaskedAt g l hst a0 p1_ v5 M t0 v7 e6) ok_X9_isMaskedAt W1432 t0 rfl (by decide) rfl rfl rfl ⟨Nat.le_of_ble_eq_true rfl, Nat.le_of_ble_eq_true rfl⟩ ⟨Nat.zero_le _, Nat.zero_le _⟩ (Nat.le_of_ble_eq_true rfl) dX9_plays_16) (fun H locs hH hL => ?_)
    refine lv_if_ne (tgt := 26) hx hb dX9_plays_19 (by decide) (fun c8 => q_neg c8 ?_) (fun c8 => q_pos c8 ?_)
    · refine lv_iconst (v := 0) hx hb dX9_plays_26 (by decide) ?_
      exact q_end0 (m_zret X hr hH hL (by decide) dX9_plays_27)
    · refine lv_iconst (v := 1) hx hb dX9_plays_22 (by decide) ?_
      refine lv_goto (tgt := 27) hx hb dX9_plays_23 (by decide) ?_
      exact q_end0 (m_zret X hr hH hL (by decide) dX9_plays_27)

set_option maxRecDepth 20000 in
set_option maxHeartbeats 4000000 in
theorem co_X9_volumeNow (g : GP) (l : Launch) (hst : l.stackTraces = false) (a0 : Nat) (p1_ : Int32) (M : Mem) (t0 : tyT a0 = 9) (v : Int32) (hF : F_X9_volumeNow a0 p1_ M = some v) : CO g l yX9_volumeNow cX9_volumeNow 2 (some .int) 3 69 rvI [.ref (adr g a0), .int p1_] M (.inl v : Int32 ⊕ String) M := by
  refine CO_of hst (by decide) (Nat.le_of_ble_eq_true rfl) ?_
  intro p e s m below meth c ls X hr htb hH hL hl
  have hx := X.1
  have hb := X.2.1
  have hts := X.2.2.2.2.1
  refine q_out hF ?_
  rw [F_X9_volumeNow]
  replace hl : lv_has ls 2 [(0, .ref (adr g a0)), (1, .int p1_)] := hl
  refine lv_aload_n hx hb dX9_volumeNow_0 rfl (lv_at hl 0 rfl) ?_
  refine lv_iload_n hx hb dX9_volumeNow_1 rfl (lv_at hl 1 rfl) ?_
  refine q_bind (fun v2 e1 => ?_)
  refine my_doneI hL (my_runV X hH hl.1 (co_X9_plays g l hst a0 p1_ M t0 v2 e1) ok_X9_plays W1498 t0 rfl (by decide) rfl rfl rfl ⟨Nat.le_of_ble_eq_true rfl, Nat.le_of_ble_eq_true rfl⟩ ⟨Nat.zero_le _, Nat.zero_le _⟩ (Nat.le_of_ble_eq_true rfl) dX9_volumeNow_2) (fun H locs hH hL => ?_)
  refine lv_if_eq (tgt := 21) hx hb dX9_volumeNow_5 (by decide) (fun c3 => q_pos c3 ?_) (fun c3 => q_neg c3 ?_)
  · refine lv_iconst (v := 0) hx hb dX9_volumeNow_21 (by decide) ?_
    exact q_end0 (m_iret X hr hH hL dX9_volumeNow_22)
  · refine lv_aload_n hx hb dX9_volumeNow_8 rfl (lv_at hl 0 rfl) ?_
    refine lv_iload_n hx hb dX9_volumeNow_9 rfl (lv_at hl 1 rfl) ?_
    refine lv_aload_n hx hb dX9_volumeNow_10 rfl (lv_at hl 0 rfl) ?_
    refine lv_iload_n hx hb dX9_volumeNow_11 rfl (lv_at hl 1 rfl) ?_
    refine q_bind (fun v5 e4 => ?_)
    refine my_doneI hL (my_runV X hH hl.1 (co_X9_columnNow g l hst a0 p1_ M t0 v5 e4) ok_X9_columnNow W1502 t0 rfl (by decide) rfl rfl rfl ⟨Nat.le_of_ble_eq_true rfl, Nat.le_of_ble_eq_true rfl⟩ ⟨Nat.zero_le _, Nat.zero_le _⟩ (Nat.le_of_ble_eq_true rfl) dX9_volumeNow_12) (fun H locs hH hL => ?_)
    refine q_bind (fun v7 e6 => ?_)
    refine my_doneI hL (my_runV X hH hl.1 (co_X9_volumeOfColumn g l hst a0 p1_ v5 M t0 v7 e6) ok_X9_volumeOfColumn W1506 t0 rfl (by decide) rfl rfl rfl ⟨Nat.le_of_ble_eq_true rfl, Nat.le_of_ble_eq_true rfl⟩ ⟨Nat.zero_le _, Nat.zero_le _⟩ (Nat.le_of_ble_eq_true rfl) dX9_volumeNow_15) (fun H locs hH hL => ?_)
    refine lv_goto (tgt := 22) hx hb dX9_volumeNow_18 (by decide) ?_
    exact q_end0 (m_iret X hr hH hL dX9_volumeNow_22)

set_option maxRecDepth 20000 in
set_option maxHeartbeats 4000000 in
theorem co_X9_sounds (g : GP) (l : Launch) (hst : l.stackTraces = false) (a0 : Nat) (p1_ : Int32) (p2_ : Int32) (M : Mem) (t0 : tyT a0 = 9) (v : Unit) (M' : Mem) (hF : F_X9_sounds a0 p1_ p2_ M = some (v, M')) : CO g l yX9_sounds cX9_sounds 5 none 2 45 rvU [.ref (adr g a0), .int p1_, .int p2_] M (.inl v : Unit ⊕ String) M' := by
  refine CO_of hst (by decide) (Nat.le_of_ble_eq_true rfl) ?_
  intro p e s m below meth c ls X hr htb hH hL hl
  have hx := X.1
  have hb := X.2.1
  have hts := X.2.2.2.2.1
  refine q_out hF ?_
  rw [F_X9_sounds]
  replace hl : lv_has ls 5 [(0, .ref (adr g a0)), (1, .int p1_), (2, .int p2_)] := hl
  refine lv_iconst (v := 0) hx hb dX9_sounds_0 (by decide) ?_
  refine lv_istore_n (lv' := [(3, .int 0), (0, .ref (adr g a0)), (1, .int p1_), (2, .int p2_)]) hx hb dX9_sounds_1 rfl hl (by decide) rfl (fun ls hl => ?_)
  have L18 : ∀ (K : Int32 → Mem → Option (Unit × Mem)) (_ : ∀ (i1 : Int32) (M2 : Mem) (H : Heap) (locs : List Loc) (ls : Array Slot), HR g M2 H → LK g s H locs → lv_has ls 5 [(0, .ref (adr g a0)), (1, .int p1_), (2, .int p2_), (3, .int i1)] → W p l e (rmO (.inl v : Unit ⊕ String) 2 45) s m ([.ref (adr g a0), .int p1_, .int p2_] : List Value).toArray below meth c H locs 0 0 (GQ (K i1 M2) (v, M') (MQO g below rvU (.inl v : Unit ⊕ String) M' ([.ref (adr g a0), .int p1_, .int p2_] : List Value).toArray s)) (F0 m 58 ls [])) (n : Nat) (i1 : Int32) (M2 : Mem) (H : Heap) (locs : List Loc) (ls : Array Slot), HR g M2 H → LK g s H locs → lv_has ls 5 [(0, .ref (adr g a0)), (1, .int p1_), (2, .int p2_), (3, .int i1)] → W p l e (rmO (.inl v : Unit ⊕ String) 2 45) s m ([.ref (adr g a0), .int p1_, .int p2_] : List Value).toArray below meth c H locs 0 0 (GQ (F_X9_sounds_L1 a0 p1_ p2_ K n i1 M2) (v, M') (MQO g below rvU (.inl v : Unit ⊕ String) M' ([.ref (adr g a0), .int p1_, .int p2_] : List Value).toArray s)) (F0 m 2 ls []) := by
    intro K hK n
    induction n with
    | zero => intros; exact q_none
    | succ n ih =>
      intro i1 M2 H locs ls hH hL hl 
      rw [F_X9_sounds_L1]
      refine lv_iload_n hx hb dX9_sounds_2 rfl (lv_at hl 3 rfl) ?_
      refine lv_aload_n hx hb dX9_sounds_3 rfl (lv_at hl 0 rfl) ?_
      refine lv_iload_n hx hb dX9_sounds_4 rfl (lv_at hl 1 rfl) ?_
      refine lv_iconst (v := 1) hx hb dX9_sounds_5 (by decide) ?_
      refine q_bind (fun v5 e4 => ?_)
      refine my_doneI hL (my_runV X hH hl.1 (co_X9_of g l hst a0 p1_ 1 M2 t0 v5 e4) ok_X9_of W1404 t0 rfl (by decide) rfl rfl rfl ⟨Nat.le_of_ble_eq_true rfl, Nat.le_of_ble_eq_true rfl⟩ ⟨Nat.zero_le _, Nat.zero_le _⟩ (Nat.le_of_ble_eq_true rfl) dX9_sounds_6) (fun H locs hH hL => ?_)
      refine lv_icmp_ge (tgt := 58) hx hb dX9_sounds_9 (by decide) (fun c6 => q_pos c6 ?_) (fun c6 => q_neg c6 ?_)
      · exact hK i1 M2 _ _ ls hH hL hl 
      · refine lv_aload_n hx hb dX9_sounds_12 rfl (lv_at hl 0 rfl) ?_
        refine lv_iload_n hx hb dX9_sounds_13 rfl (lv_at hl 1 rfl) ?_
        refine lv_iload_n hx hb dX9_sounds_14 rfl (lv_at hl 3 rfl) ?_
        refine lv_iload_n hx hb dX9_sounds_15 rfl (lv_at hl 2 rfl) ?_
        refine q_bind (fun v8 e7 => ?_)
        refine my_doneI hL (my_runV X hH hl.1 (co_X9_noteAt g l hst a0 p1_ i1 p2_ M2 t0 v8 e7) ok_X9_noteAt W1412 t0 rfl (by decide) rfl rfl rfl ⟨Nat.le_of_ble_eq_true rfl, Nat.le_of_ble_eq_true rfl⟩ ⟨Nat.zero_le _, Nat.zero_le _⟩ (Nat.le_of_ble_eq_true rfl) dX9_sounds_16) (fun H locs hH hL => ?_)
        refine lv_istore (lv' := [(4, .int v8), (0, .ref (adr g a0)), (1, .int p1_), (2, .int p2_), (3, .int i1)]) hx hb dX9_sounds_19 hl (by decide) rfl (fun ls hl => ?_)
        refine lv_iload hx hb dX9_sounds_21 (lv_at hl 0 rfl) ?_
        refine lv_if_le (tgt := 52) hx hb dX9_sounds_23 (by decide) (fun c9 => q_pos c9 ?_) (fun c9 => q_neg c9 ?_)
        · refine q_lt (fun v10 e_v10 => ?_)
          refine lv_iinc (v := v10) (lv' := [(3, .int v10), (4, .int v8), (0, .ref (adr g a0)), (1, .int p1_), (2, .int p2_)]) hx hb dX9_sounds_52 hl (k := 4) rfl (by rw [e_v10]; rfl) (by decide) rfl (fun ls hl => ?_)
          refine lv_goto (tgt := 2) hx hb dX9_sounds_55 (by decide) ?_
          exact ih v10 M2 _ _ ls hH hL (lv_sub hl [2, 3, 4, 0] rfl) 
        · refine lv_aload_n hx hb dX9_sounds_26 rfl (lv_at hl 1 rfl) ?_
          refine m_gR (k := 1) X hH inC9 t0 rfl W1285 dX9_sounds_27 24 rfl (fun t11 => ?_)
          refine lv_bipush (v := 18) hx hb dX9_sounds_30 (by decide) ?_
          refine lv_bipush (v := 9) hx hb dX9_sounds_32 (by decide) ?_
          refine lv_aload_n hx hb dX9_sounds_34 rfl (lv_at hl 1 rfl) ?_
          refine lv_iload_n hx hb dX9_sounds_35 rfl (lv_at hl 2 rfl) ?_
          refine lv_iconst (v := 0) hx hb dX9_sounds_36 (by decide) ?_
          refine q_bind (fun v13 e12 => ?_)
          refine my_doneI hL (my_runV X hH hl.1 (co_X9_of g l hst a0 p1_ 0 M2 t0 v13 e12) ok_X9_of W1404 t0 rfl (by decide) rfl rfl rfl ⟨Nat.le_of_ble_eq_true rfl, Nat.le_of_ble_eq_true rfl⟩ ⟨Nat.zero_le _, Nat.zero_le _⟩ (Nat.le_of_ble_eq_true rfl) dX9_sounds_37) (fun H locs hH hL => ?_)
          refine lv_imul hx hb dX9_sounds_40 ?_
          refine lv_iadd hx hb dX9_sounds_41 ?_
          refine lv_iload hx hb dX9_sounds_42 (lv_at hl 0 rfl) ?_
          refine lv_iadd hx hb dX9_sounds_44 ?_
          refine lv_iconst (v := 1) hx hb dX9_sounds_45 (by decide) ?_
          refine lv_isub hx hb dX9_sounds_46 ?_
          refine lv_dup2_11 hx hb dX9_sounds_47 rfl rfl ?_
          refine q_chk (fun hb14 => ?_)
          refine m_iald X hH t11 rfl (by decide) (fun _ => rfl) rfl rfl hb14 dX9_sounds_48 ?_
          refine lv_iconst (v := 1) hx hb dX9_sounds_49 (by decide) ?_
          refine lv_iadd hx hb dX9_sounds_50 ?_
          refine q_chk (fun hb15 => ?_)
          refine q_lt (fun M16 e_M16 => ?_)
          refine m_is X hH hL t11 rfl (by decide) (fun _ => rfl) rfl rfl hb15 dX9_sounds_51 e_M16 (fun H locs hH hL => ?_)
          refine q_lt (fun v17 e_v17 => ?_)
          refine lv_iinc (v := v17) (lv' := [(3, .int v17), (4, .int v8), (0, .ref (adr g a0)), (1, .int p1_), (2, .int p2_)]) hx hb dX9_sounds_52 hl (k := 4) rfl (by rw [e_v17]; rfl) (by decide) rfl (fun ls hl => ?_)
          refine lv_goto (tgt := 2) hx hb dX9_sounds_55 (by decide) ?_
          exact ih v17 M16 _ _ ls hH hL (lv_sub hl [2, 3, 4, 0] rfl) 
  refine L18 _ (fun x19 M20 H locs ls hH hL hl  => ?_) 3000 0 M _ _ ls hH hL (lv_sub hl [1, 2, 3, 0] rfl) 
  exact q_end1 (m_vret X hr hH hL dX9_sounds_58)

set_option maxRecDepth 20000 in
set_option maxHeartbeats 4000000 in
theorem co_X9_tires (g : GP) (l : Launch) (hst : l.stackTraces = false) (a0 : Nat) (p1_ : Int32) (M : Mem) (t0 : tyT a0 = 9) (v : Unit) (M' : Mem) (hF : F_X9_tires a0 p1_ M = some (v, M')) : CO g l yX9_tires cX9_tires 2 none 1 23 rvU [.ref (adr g a0), .int p1_] M (.inl v : Unit ⊕ String) M' := by
  refine CO_of hst (by decide) (Nat.le_of_ble_eq_true rfl) ?_
  intro p e s m below meth c ls X hr htb hH hL hl
  have hx := X.1
  have hb := X.2.1
  have hts := X.2.2.2.2.1
  refine q_out hF ?_
  rw [F_X9_tires]
  replace hl : lv_has ls 2 [(0, .ref (adr g a0)), (1, .int p1_)] := hl
  refine lv_aload_n hx hb dX9_tires_0 rfl (lv_at hl 0 rfl) ?_
  refine lv_iload_n hx hb dX9_tires_1 rfl (lv_at hl 1 rfl) ?_
  refine lv_iconst (v := 4) hx hb dX9_tires_2 (by decide) ?_
  refine lv_aload_n hx hb dX9_tires_3 rfl (lv_at hl 0 rfl) ?_
  refine lv_iload_n hx hb dX9_tires_4 rfl (lv_at hl 1 rfl) ?_
  refine lv_iconst (v := 4) hx hb dX9_tires_5 (by decide) ?_
  refine q_bind (fun v2 e1 => ?_)
  refine my_doneI hL (my_runV X hH hl.1 (co_X9_of g l hst a0 p1_ 4 M t0 v2 e1) ok_X9_of W1404 t0 rfl (by decide) rfl rfl rfl ⟨Nat.le_of_ble_eq_true rfl, Nat.le_of_ble_eq_true rfl⟩ ⟨Nat.zero_le _, Nat.zero_le _⟩ (Nat.le_of_ble_eq_true rfl) dX9_tires_6) (fun H locs hH hL => ?_)
  refine lv_iconst (v := 1) hx hb dX9_tires_9 (by decide) ?_
  refine lv_iadd hx hb dX9_tires_10 ?_
  refine q_b1 (fun u4 M5 e3 => ?_)
  refine my_doneU hL (my_runV X hH hl.1 (co_X9_puts g l hst a0 p1_ 4 (v2 + 1) M t0 u4 M5 e3) ok_X9_puts W1376 t0 rfl (by decide) rfl rfl rfl ⟨Nat.le_of_ble_eq_true rfl, Nat.le_of_ble_eq_true rfl⟩ ⟨Nat.zero_le _, Nat.zero_le _⟩ (Nat.le_of_ble_eq_true rfl) dX9_tires_11) (fun H locs hH hL => ?_)
  refine lv_aload_n hx hb dX9_tires_14 rfl (lv_at hl 0 rfl) ?_
  refine lv_iload_n hx hb dX9_tires_15 rfl (lv_at hl 1 rfl) ?_
  refine lv_iconst (v := 4) hx hb dX9_tires_16 (by decide) ?_
  refine q_bind (fun v7 e6 => ?_)
  refine my_doneI hL (my_runV X hH hl.1 (co_X9_of g l hst a0 p1_ 4 M5 t0 v7 e6) ok_X9_of W1404 t0 rfl (by decide) rfl rfl rfl ⟨Nat.le_of_ble_eq_true rfl, Nat.le_of_ble_eq_true rfl⟩ ⟨Nat.zero_le _, Nat.zero_le _⟩ (Nat.le_of_ble_eq_true rfl) dX9_tires_17) (fun H locs hH hL => ?_)
  refine lv_iconst (v := 3) hx hb dX9_tires_20 (by decide) ?_
  refine lv_icmp_ge (tgt := 25) hx hb dX9_tires_21 (by decide) (fun c8 => q_pos c8 ?_) (fun c8 => q_neg c8 ?_)
  · refine lv_aload_n hx hb dX9_tires_25 rfl (lv_at hl 0 rfl) ?_
    refine lv_iload_n hx hb dX9_tires_26 rfl (lv_at hl 1 rfl) ?_
    refine lv_iconst (v := 4) hx hb dX9_tires_27 (by decide) ?_
    refine lv_iconst (v := 0) hx hb dX9_tires_28 (by decide) ?_
    refine q_b1 (fun u10 M11 e9 => ?_)
    refine my_doneU hL (my_runV X hH hl.1 (co_X9_puts g l hst a0 p1_ 4 0 M5 t0 u10 M11 e9) ok_X9_puts W1376 t0 rfl (by decide) rfl rfl rfl ⟨Nat.le_of_ble_eq_true rfl, Nat.le_of_ble_eq_true rfl⟩ ⟨Nat.zero_le _, Nat.zero_le _⟩ (Nat.le_of_ble_eq_true rfl) dX9_tires_29) (fun H locs hH hL => ?_)
    refine lv_aload_n hx hb dX9_tires_32 rfl (lv_at hl 0 rfl) ?_
    refine lv_iload_n hx hb dX9_tires_33 rfl (lv_at hl 1 rfl) ?_
    refine lv_iconst (v := 5) hx hb dX9_tires_34 (by decide) ?_
    refine lv_iconst (v := 2) hx hb dX9_tires_35 (by decide) ?_
    refine q_b1 (fun u13 M14 e12 => ?_)
    refine my_doneU hL (my_runV X hH hl.1 (co_X9_puts g l hst a0 p1_ 5 2 M11 t0 u13 M14 e12) ok_X9_puts W1376 t0 rfl (by decide) rfl rfl rfl ⟨Nat.le_of_ble_eq_true rfl, Nat.le_of_ble_eq_true rfl⟩ ⟨Nat.zero_le _, Nat.zero_le _⟩ (Nat.le_of_ble_eq_true rfl) dX9_tires_36) (fun H locs hH hL => ?_)
    exact q_end1 (m_vret X hr hH hL dX9_tires_39)
  · exact q_end1 (m_vret X hr hH hL dX9_tires_24)

set_option maxRecDepth 20000 in
set_option maxHeartbeats 4000000 in
theorem co_X9_logs (g : GP) (l : Launch) (hst : l.stackTraces = false) (a0 : Nat) (p1_ : Int32) (M : Mem) (t0 : tyT a0 = 9) (v : Unit) (M' : Mem) (hF : F_X9_logs a0 p1_ M = some (v, M')) : CO g l yX9_logs cX9_logs 3 none 0 0 rvU [.ref (adr g a0), .int p1_] M (.inl v : Unit ⊕ String) M' := by
  refine CO_of hst (by decide) (Nat.le_of_ble_eq_true rfl) ?_
  intro p e s m below meth c ls X hr htb hH hL hl
  have hx := X.1
  have hb := X.2.1
  have hts := X.2.2.2.2.1
  refine q_out hF ?_
  rw [F_X9_logs]
  replace hl : lv_has ls 3 [(0, .ref (adr g a0)), (1, .int p1_)] := hl
  refine lv_aload_n hx hb dX9_logs_0 rfl (lv_at hl 0 rfl) ?_
  refine m_gR (k := 1) X hH inC9 t0 rfl W1285 dX9_logs_1 24 rfl (fun t1 => ?_)
  refine lv_bipush (v := 7) hx hb dX9_logs_4 (by decide) ?_
  refine q_chk (fun hb2 => ?_)
  refine m_iald X hH t1 rfl (by decide) (fun _ => rfl) rfl rfl hb2 dX9_logs_6 ?_
  refine lv_bipush (v := 10) hx hb dX9_logs_7 (by decide) ?_
  refine lv_icmp_ge (tgt := 23) hx hb dX9_logs_9 (by decide) (fun c3 => q_pos c3 ?_) (fun c3 => q_neg c3 ?_)
  · refine lv_aload_n hx hb dX9_logs_23 rfl (lv_at hl 0 rfl) ?_
    refine m_gR (k := 1) X hH inC9 t0 rfl W1285 dX9_logs_24 24 rfl (fun t4 => ?_)
    refine lv_bipush (v := 7) hx hb dX9_logs_27 (by decide) ?_
    refine q_chk (fun hb5 => ?_)
    refine m_iald X hH t4 rfl (by decide) (fun _ => rfl) rfl rfl hb5 dX9_logs_29 ?_
    refine lv_iconst (v := 1) hx hb dX9_logs_30 (by decide) ?_
    refine lv_isub hx hb dX9_logs_31 ?_
    refine q_lt (fun v6 e_v6 => ?_)
    refine q_topI e_v6 ?_
    refine lv_istore_n (lv' := [(2, .int v6), (0, .ref (adr g a0)), (1, .int p1_)]) hx hb dX9_logs_32 rfl hl (by decide) rfl (fun ls hl => ?_)
    have L17 : ∀ (K : Int32 → Mem → Option (Unit × Mem)) (_ : ∀ (i7 : Int32) (M8 : Mem) (H : Heap) (locs : List Loc) (ls : Array Slot), HR g M8 H → LK g s H locs → lv_has ls 3 [(0, .ref (adr g a0)), (1, .int p1_), (2, .int i7)] → W p l e (rmO (.inl v : Unit ⊕ String) 0 0) s m ([.ref (adr g a0), .int p1_] : List Value).toArray below meth c H locs 0 0 (GQ (K i7 M8) (v, M') (MQO g below rvU (.inl v : Unit ⊕ String) M' ([.ref (adr g a0), .int p1_] : List Value).toArray s)) (F0 m 63 ls [])) (n : Nat) (i7 : Int32) (M8 : Mem) (H : Heap) (locs : List Loc) (ls : Array Slot), HR g M8 H → LK g s H locs → lv_has ls 3 [(0, .ref (adr g a0)), (1, .int p1_), (2, .int i7)] → W p l e (rmO (.inl v : Unit ⊕ String) 0 0) s m ([.ref (adr g a0), .int p1_] : List Value).toArray below meth c H locs 0 0 (GQ (F_X9_logs_L1 a0 K n i7 M8) (v, M') (MQO g below rvU (.inl v : Unit ⊕ String) M' ([.ref (adr g a0), .int p1_] : List Value).toArray s)) (F0 m 33 ls []) := by
      intro K hK n
      induction n with
      | zero => intros; exact q_none
      | succ n ih =>
        intro i7 M8 H locs ls hH hL hl 
        rw [F_X9_logs_L1]
        refine lv_iload_n hx hb dX9_logs_33 rfl (lv_at hl 2 rfl) ?_
        refine lv_if_le (tgt := 63) hx hb dX9_logs_34 (by decide) (fun c10 => q_pos c10 ?_) (fun c10 => q_neg c10 ?_)
        · exact hK i7 M8 _ _ ls hH hL hl 
        · refine lv_aload_n hx hb dX9_logs_37 rfl (lv_at hl 0 rfl) ?_
          refine m_gR (k := 1) X hH inC9 t0 rfl W1285 dX9_logs_38 24 rfl (fun t11 => ?_)
          refine lv_bipush (v := 8) hx hb dX9_logs_41 (by decide) ?_
          refine lv_iload_n hx hb dX9_logs_43 rfl (lv_at hl 2 rfl) ?_
          refine lv_iadd hx hb dX9_logs_44 ?_
          refine lv_aload_n hx hb dX9_logs_45 rfl (lv_at hl 0 rfl) ?_
          refine m_gR (k := 1) X hH inC9 t0 rfl W1285 dX9_logs_46 24 rfl (fun t12 => ?_)
          refine lv_bipush (v := 8) hx hb dX9_logs_49 (by decide) ?_
          refine lv_iload_n hx hb dX9_logs_51 rfl (lv_at hl 2 rfl) ?_
          refine lv_iadd hx hb dX9_logs_52 ?_
          refine lv_iconst (v := 1) hx hb dX9_logs_53 (by decide) ?_
          refine lv_isub hx hb dX9_logs_54 ?_
          refine q_chk (fun hb13 => ?_)
          refine m_iald X hH t12 rfl (by decide) (fun _ => rfl) rfl rfl hb13 dX9_logs_55 ?_
          refine q_chk (fun hb14 => ?_)
          refine q_lt (fun M15 e_M15 => ?_)
          refine m_is X hH hL t11 rfl (by decide) (fun _ => rfl) rfl rfl hb14 dX9_logs_56 e_M15 (fun H locs hH hL => ?_)
          refine q_lt (fun v16 e_v16 => ?_)
          refine lv_iinc (v := v16) (lv' := [(2, .int v16), (0, .ref (adr g a0)), (1, .int p1_)]) hx hb dX9_logs_57 hl (k := 2) rfl (by rw [e_v16]; rfl) (by decide) rfl (fun ls hl => ?_)
          refine lv_goto (tgt := 33) hx hb dX9_logs_60 (by decide) ?_
          exact ih v16 M15 _ _ ls hH hL (lv_sub hl [1, 2, 0] rfl) 
    refine L17 _ (fun x18 M19 H locs ls hH hL hl  => ?_) 3000 v6 M _ _ ls hH hL (lv_sub hl [1, 2, 0] rfl) 
    refine lv_aload_n hx hb dX9_logs_63 rfl (lv_at hl 0 rfl) ?_
    refine m_gR (k := 1) X hH inC9 t0 rfl W1285 dX9_logs_64 24 rfl (fun t20 => ?_)
    refine lv_bipush (v := 8) hx hb dX9_logs_67 (by decide) ?_
    refine lv_iload_n hx hb dX9_logs_69 rfl (lv_at hl 1 rfl) ?_
    refine q_chk (fun hb21 => ?_)
    refine q_lt (fun M22 e_M22 => ?_)
    refine m_is X hH hL t20 rfl (by decide) (fun _ => rfl) rfl rfl hb21 dX9_logs_70 e_M22 (fun H locs hH hL => ?_)
    refine lv_iload_n hx hb dX9_logs_71 rfl (lv_at hl 1 rfl) ?_
    refine lv_aload_n hx hb dX9_logs_72 rfl (lv_at hl 0 rfl) ?_
    refine m_gR (k := 1) X hH inC9 t0 rfl W1285 dX9_logs_73 24 rfl (fun t23 => ?_)
    refine lv_bipush (v := 6) hx hb dX9_logs_76 (by decide) ?_
    refine q_chk (fun hb24 => ?_)
    refine m_iald X hH t23 rfl (by decide) (fun _ => rfl) rfl rfl hb24 dX9_logs_78 ?_
    refine lv_icmp_le (tgt := 90) hx hb dX9_logs_79 (by decide) (fun c25 => q_pos c25 ?_) (fun c25 => q_neg c25 ?_)
    · exact q_end1 (m_vret X hr hH hL dX9_logs_90)
    · refine lv_aload_n hx hb dX9_logs_82 rfl (lv_at hl 0 rfl) ?_
      refine m_gR (k := 1) X hH inC9 t0 rfl W1285 dX9_logs_83 24 rfl (fun t26 => ?_)
      refine lv_bipush (v := 6) hx hb dX9_logs_86 (by decide) ?_
      refine lv_iload_n hx hb dX9_logs_88 rfl (lv_at hl 1 rfl) ?_
      refine q_chk (fun hb27 => ?_)
      refine q_lt (fun M28 e_M28 => ?_)
      refine m_is X hH hL t26 rfl (by decide) (fun _ => rfl) rfl rfl hb27 dX9_logs_89 e_M28 (fun H locs hH hL => ?_)
      exact q_end1 (m_vret X hr hH hL dX9_logs_90)
  · refine lv_aload_n hx hb dX9_logs_12 rfl (lv_at hl 0 rfl) ?_
    refine m_gR (k := 1) X hH inC9 t0 rfl W1285 dX9_logs_13 24 rfl (fun t29 => ?_)
    refine lv_bipush (v := 7) hx hb dX9_logs_16 (by decide) ?_
    refine lv_dup2_11 hx hb dX9_logs_18 rfl rfl ?_
    refine q_chk (fun hb30 => ?_)
    refine m_iald X hH t29 rfl (by decide) (fun _ => rfl) rfl rfl hb30 dX9_logs_19 ?_
    refine lv_iconst (v := 1) hx hb dX9_logs_20 (by decide) ?_
    refine lv_iadd hx hb dX9_logs_21 ?_
    refine q_chk (fun hb31 => ?_)
    refine q_lt (fun M32 e_M32 => ?_)
    refine m_is X hH hL t29 rfl (by decide) (fun _ => rfl) rfl rfl hb31 dX9_logs_22 e_M32 (fun H locs hH hL => ?_)
    refine lv_aload_n hx hb dX9_logs_23 rfl (lv_at hl 0 rfl) ?_
    refine m_gR (k := 1) X hH inC9 t0 rfl W1285 dX9_logs_24 24 rfl (fun t33 => ?_)
    refine lv_bipush (v := 7) hx hb dX9_logs_27 (by decide) ?_
    refine q_chk (fun hb34 => ?_)
    refine m_iald X hH t33 rfl (by decide) (fun _ => rfl) rfl rfl hb34 dX9_logs_29 ?_
    refine lv_iconst (v := 1) hx hb dX9_logs_30 (by decide) ?_
    refine lv_isub hx hb dX9_logs_31 ?_
    refine q_lt (fun v35 e_v35 => ?_)
    refine q_topI e_v35 ?_
    refine lv_istore_n (lv' := [(2, .int v35), (0, .ref (adr g a0)), (1, .int p1_)]) hx hb dX9_logs_32 rfl hl (by decide) rfl (fun ls hl => ?_)
    have L46 : ∀ (K : Int32 → Mem → Option (Unit × Mem)) (_ : ∀ (i36 : Int32) (M37 : Mem) (H : Heap) (locs : List Loc) (ls : Array Slot), HR g M37 H → LK g s H locs → lv_has ls 3 [(0, .ref (adr g a0)), (1, .int p1_), (2, .int i36)] → W p l e (rmO (.inl v : Unit ⊕ String) 0 0) s m ([.ref (adr g a0), .int p1_] : List Value).toArray below meth c H locs 0 0 (GQ (K i36 M37) (v, M') (MQO g below rvU (.inl v : Unit ⊕ String) M' ([.ref (adr g a0), .int p1_] : List Value).toArray s)) (F0 m 63 ls [])) (n : Nat) (i36 : Int32) (M37 : Mem) (H : Heap) (locs : List Loc) (ls : Array Slot), HR g M37 H → LK g s H locs → lv_has ls 3 [(0, .ref (adr g a0)), (1, .int p1_), (2, .int i36)] → W p l e (rmO (.inl v : Unit ⊕ String) 0 0) s m ([.ref (adr g a0), .int p1_] : List Value).toArray below meth c H locs 0 0 (GQ (F_X9_logs_L2 a0 K n i36 M37) (v, M') (MQO g below rvU (.inl v : Unit ⊕ String) M' ([.ref (adr g a0), .int p1_] : List Value).toArray s)) (F0 m 33 ls []) := by
      intro K hK n
      induction n with
      | zero => intros; exact q_none
      | succ n ih =>
        intro i36 M37 H locs ls hH hL hl 
        rw [F_X9_logs_L2]
        refine lv_iload_n hx hb dX9_logs_33 rfl (lv_at hl 2 rfl) ?_
        refine lv_if_le (tgt := 63) hx hb dX9_logs_34 (by decide) (fun c39 => q_pos c39 ?_) (fun c39 => q_neg c39 ?_)
        · exact hK i36 M37 _ _ ls hH hL hl 
        · refine lv_aload_n hx hb dX9_logs_37 rfl (lv_at hl 0 rfl) ?_
          refine m_gR (k := 1) X hH inC9 t0 rfl W1285 dX9_logs_38 24 rfl (fun t40 => ?_)
          refine lv_bipush (v := 8) hx hb dX9_logs_41 (by decide) ?_
          refine lv_iload_n hx hb dX9_logs_43 rfl (lv_at hl 2 rfl) ?_
          refine lv_iadd hx hb dX9_logs_44 ?_
          refine lv_aload_n hx hb dX9_logs_45 rfl (lv_at hl 0 rfl) ?_
          refine m_gR (k := 1) X hH inC9 t0 rfl W1285 dX9_logs_46 24 rfl (fun t41 => ?_)
          refine lv_bipush (v := 8) hx hb dX9_logs_49 (by decide) ?_
          refine lv_iload_n hx hb dX9_logs_51 rfl (lv_at hl 2 rfl) ?_
          refine lv_iadd hx hb dX9_logs_52 ?_
          refine lv_iconst (v := 1) hx hb dX9_logs_53 (by decide) ?_
          refine lv_isub hx hb dX9_logs_54 ?_
          refine q_chk (fun hb42 => ?_)
          refine m_iald X hH t41 rfl (by decide) (fun _ => rfl) rfl rfl hb42 dX9_logs_55 ?_
          refine q_chk (fun hb43 => ?_)
          refine q_lt (fun M44 e_M44 => ?_)
          refine m_is X hH hL t40 rfl (by decide) (fun _ => rfl) rfl rfl hb43 dX9_logs_56 e_M44 (fun H locs hH hL => ?_)
          refine q_lt (fun v45 e_v45 => ?_)
          refine lv_iinc (v := v45) (lv' := [(2, .int v45), (0, .ref (adr g a0)), (1, .int p1_)]) hx hb dX9_logs_57 hl (k := 2) rfl (by rw [e_v45]; rfl) (by decide) rfl (fun ls hl => ?_)
          refine lv_goto (tgt := 33) hx hb dX9_logs_60 (by decide) ?_
          exact ih v45 M44 _ _ ls hH hL (lv_sub hl [1, 2, 0] rfl) 
    refine L46 _ (fun x47 M48 H locs ls hH hL hl  => ?_) 3000 v35 M32 _ _ ls hH hL (lv_sub hl [1, 2, 0] rfl) 
    refine lv_aload_n hx hb dX9_logs_63 rfl (lv_at hl 0 rfl) ?_
    refine m_gR (k := 1) X hH inC9 t0 rfl W1285 dX9_logs_64 24 rfl (fun t49 => ?_)
    refine lv_bipush (v := 8) hx hb dX9_logs_67 (by decide) ?_
    refine lv_iload_n hx hb dX9_logs_69 rfl (lv_at hl 1 rfl) ?_
    refine q_chk (fun hb50 => ?_)
    refine q_lt (fun M51 e_M51 => ?_)
    refine m_is X hH hL t49 rfl (by decide) (fun _ => rfl) rfl rfl hb50 dX9_logs_70 e_M51 (fun H locs hH hL => ?_)
    refine lv_iload_n hx hb dX9_logs_71 rfl (lv_at hl 1 rfl) ?_
    refine lv_aload_n hx hb dX9_logs_72 rfl (lv_at hl 0 rfl) ?_
    refine m_gR (k := 1) X hH inC9 t0 rfl W1285 dX9_logs_73 24 rfl (fun t52 => ?_)
    refine lv_bipush (v := 6) hx hb dX9_logs_76 (by decide) ?_
    refine q_chk (fun hb53 => ?_)
    refine m_iald X hH t52 rfl (by decide) (fun _ => rfl) rfl rfl hb53 dX9_logs_78 ?_
    refine lv_icmp_le (tgt := 90) hx hb dX9_logs_79 (by decide) (fun c54 => q_pos c54 ?_) (fun c54 => q_neg c54 ?_)
    · exact q_end1 (m_vret X hr hH hL dX9_logs_90)
    · refine lv_aload_n hx hb dX9_logs_82 rfl (lv_at hl 0 rfl) ?_
      refine m_gR (k := 1) X hH inC9 t0 rfl W1285 dX9_logs_83 24 rfl (fun t55 => ?_)
      refine lv_bipush (v := 6) hx hb dX9_logs_86 (by decide) ?_
      refine lv_iload_n hx hb dX9_logs_88 rfl (lv_at hl 1 rfl) ?_
      refine q_chk (fun hb56 => ?_)
      refine q_lt (fun M57 e_M57 => ?_)
      refine m_is X hH hL t55 rfl (by decide) (fun _ => rfl) rfl rfl hb56 dX9_logs_89 e_M57 (fun H locs hH hL => ?_)
      exact q_end1 (m_vret X hr hH hL dX9_logs_90)

set_option maxRecDepth 20000 in
set_option maxHeartbeats 4000000 in
theorem co_X9_beats (g : GP) (l : Launch) (hst : l.stackTraces = false) (a0 : Nat) (M : Mem) (t0 : tyT a0 = 9) (v : Int32) (M' : Mem) (hF : F_X9_beats a0 M = some (v, M')) : CO g l yX9_beats cX9_beats 6 (some .int) 4 90 rvI [.ref (adr g a0)] M (.inl v : Int32 ⊕ String) M' := by
  refine CO_of hst (by decide) (Nat.le_of_ble_eq_true rfl) ?_
  intro p e s m below meth c ls X hr htb hH hL hl
  have hx := X.1
  have hb := X.2.1
  have hts := X.2.2.2.2.1
  refine q_out hF ?_
  rw [F_X9_beats]
  replace hl : lv_has ls 6 [(0, .ref (adr g a0))] := hl
  refine lv_iconst (v := 0) hx hb dX9_beats_0 (by decide) ?_
  refine lv_istore_n (lv' := [(1, .int 0), (0, .ref (adr g a0))]) hx hb dX9_beats_1 rfl hl (by decide) rfl (fun ls hl => ?_)
  refine lv_iconst (v := 0) hx hb dX9_beats_2 (by decide) ?_
  refine lv_istore_n (lv' := [(2, .int 0), (1, .int 0), (0, .ref (adr g a0))]) hx hb dX9_beats_3 rfl hl (by decide) rfl (fun ls hl => ?_)
  refine lv_iconst (v := (-1)) hx hb dX9_beats_4 (by decide) ?_
  refine lv_istore_n (lv' := [(3, .int (-1)), (2, .int 0), (1, .int 0), (0, .ref (adr g a0))]) hx hb dX9_beats_5 rfl hl (by decide) rfl (fun ls hl => ?_)
  refine lv_iconst (v := 0) hx hb dX9_beats_6 (by decide) ?_
  refine lv_istore (lv' := [(4, .int 0), (3, .int (-1)), (2, .int 0), (1, .int 0), (0, .ref (adr g a0))]) hx hb dX9_beats_7 hl (by decide) rfl (fun ls hl => ?_)
  have L72 : ∀ (K : Int32 → Int32 → Int32 → Int32 → Mem → Option (Int32 × Mem)) (_ : ∀ (i1 : Int32) (i2 : Int32) (i3 : Int32) (i4 : Int32) (M5 : Mem) (H : Heap) (locs : List Loc) (ls : Array Slot), HR g M5 H → LK g s H locs → lv_has ls 6 [(0, .ref (adr g a0)), (1, .int i1), (2, .int i2), (3, .int i3), (4, .int i4)] → W p l e (rmO (.inl v : Int32 ⊕ String) 4 90) s m ([.ref (adr g a0)] : List Value).toArray below meth c H locs 0 0 (GQ (K i1 i2 i3 i4 M5) (v, M') (MQO g below rvI (.inl v : Int32 ⊕ String) M' ([.ref (adr g a0)] : List Value).toArray s)) (F0 m 117 ls [])) (n : Nat) (i1 : Int32) (i2 : Int32) (i3 : Int32) (i4 : Int32) (M5 : Mem) (H : Heap) (locs : List Loc) (ls : Array Slot), HR g M5 H → LK g s H locs → lv_has ls 6 [(0, .ref (adr g a0)), (1, .int i1), (2, .int i2), (3, .int i3), (4, .int i4)] → W p l e (rmO (.inl v : Int32 ⊕ String) 4 90) s m ([.ref (adr g a0)] : List Value).toArray below meth c H locs 0 0 (GQ (F_X9_beats_L1 a0 K n i1 i2 i3 i4 M5) (v, M') (MQO g below rvI (.inl v : Int32 ⊕ String) M' ([.ref (adr g a0)] : List Value).toArray s)) (F0 m 9 ls []) := by
    intro K hK n
    induction n with
    | zero => intros; exact q_none
    | succ n ih =>
      intro i1 i2 i3 i4 M5 H locs ls hH hL hl 
      rw [F_X9_beats_L1]
      refine lv_iload hx hb dX9_beats_9 (lv_at hl 4 rfl) ?_
      refine lv_aload_n hx hb dX9_beats_11 rfl (lv_at hl 0 rfl) ?_
      refine m_gR (k := 1) X hH inC9 t0 rfl W1285 dX9_beats_12 24 rfl (fun t7 => ?_)
      refine lv_iconst (v := 0) hx hb dX9_beats_15 (by decide) ?_
      refine q_chk (fun hb8 => ?_)
      refine m_iald X hH t7 rfl (by decide) (fun _ => rfl) rfl rfl hb8 dX9_beats_16 ?_
      refine lv_icmp_ge (tgt := 117) hx hb dX9_beats_17 (by decide) (fun c9 => q_pos c9 ?_) (fun c9 => q_neg c9 ?_)
      · exact hK i1 i2 i3 i4 M5 _ _ ls hH hL hl 
      · refine lv_aload_n hx hb dX9_beats_20 rfl (lv_at hl 0 rfl) ?_
        refine lv_iload hx hb dX9_beats_21 (lv_at hl 4 rfl) ?_
        refine q_bind (fun v11 e10 => ?_)
        refine my_doneI hL (my_runV X hH hl.1 (co_X9_volumeNow g l hst a0 i4 M5 t0 v11 e10) ok_X9_volumeNow W1494 t0 rfl (by decide) rfl rfl rfl ⟨Nat.le_of_ble_eq_true rfl, Nat.le_of_ble_eq_true rfl⟩ ⟨Nat.zero_le _, Nat.zero_le _⟩ (Nat.le_of_ble_eq_true rfl) dX9_beats_23) (fun H locs hH hL => ?_)
        refine lv_istore (lv' := [(5, .int v11), (0, .ref (adr g a0)), (1, .int i1), (2, .int i2), (3, .int i3), (4, .int i4)]) hx hb dX9_beats_26 hl (by decide) rfl (fun ls hl => ?_)
        refine lv_aload_n hx hb dX9_beats_28 rfl (lv_at hl 1 rfl) ?_
        refine lv_iload hx hb dX9_beats_29 (lv_at hl 5 rfl) ?_
        refine q_bind (fun v13 e12 => ?_)
        refine my_doneI hL (my_runV X hH hl.1 (co_X9_plays g l hst a0 i4 M5 t0 v13 e12) ok_X9_plays W1498 t0 rfl (by decide) rfl rfl rfl ⟨Nat.le_of_ble_eq_true rfl, Nat.le_of_ble_eq_true rfl⟩ ⟨Nat.zero_le _, Nat.zero_le _⟩ (Nat.le_of_ble_eq_true rfl) dX9_beats_31) (fun H locs hH hL => ?_)
        refine lv_if_eq (tgt := 49) hx hb dX9_beats_34 (by decide) (fun c14 => q_pos c14 ?_) (fun c14 => q_neg c14 ?_)
        · refine lv_aload_n hx hb dX9_beats_49 rfl (lv_at hl 1 rfl) ?_
          refine lv_iload hx hb dX9_beats_50 (lv_at hl 5 rfl) ?_
          refine lv_iconst (v := 5) hx hb dX9_beats_52 (by decide) ?_
          refine q_bind (fun v16 e15 => ?_)
          refine my_doneI hL (my_runV X hH hl.1 (co_X9_of g l hst a0 i4 5 M5 t0 v16 e15) ok_X9_of W1404 t0 rfl (by decide) rfl rfl rfl ⟨Nat.le_of_ble_eq_true rfl, Nat.le_of_ble_eq_true rfl⟩ ⟨Nat.zero_le _, Nat.zero_le _⟩ (Nat.le_of_ble_eq_true rfl) dX9_beats_53) (fun H locs hH hL => ?_)
          refine lv_if_le (tgt := 75) hx hb dX9_beats_56 (by decide) (fun c17 => q_pos c17 ?_) (fun c17 => q_neg c17 ?_)
          · refine lv_aload_n hx hb dX9_beats_75 rfl (lv_at hl 1 rfl) ?_
            refine lv_iload hx hb dX9_beats_76 (lv_at hl 5 rfl) ?_
            refine lv_bipush (v := 6) hx hb dX9_beats_78 (by decide) ?_
            refine lv_aload_n hx hb dX9_beats_80 rfl (lv_at hl 1 rfl) ?_
            refine lv_iload hx hb dX9_beats_81 (lv_at hl 5 rfl) ?_
            refine lv_bipush (v := 6) hx hb dX9_beats_83 (by decide) ?_
            refine q_bind (fun v19 e18 => ?_)
            refine my_doneI hL (my_runV X hH hl.1 (co_X9_of g l hst a0 i4 6 M5 t0 v19 e18) ok_X9_of W1404 t0 rfl (by decide) rfl rfl rfl ⟨Nat.le_of_ble_eq_true rfl, Nat.le_of_ble_eq_true rfl⟩ ⟨Nat.zero_le _, Nat.zero_le _⟩ (Nat.le_of_ble_eq_true rfl) dX9_beats_85) (fun H locs hH hL => ?_)
            refine lv_iload hx hb dX9_beats_88 (lv_at hl 0 rfl) ?_
            refine lv_iadd hx hb dX9_beats_90 ?_
            refine q_b1 (fun u21 M22 e20 => ?_)
            refine my_doneU hL (my_runV X hH hl.1 (co_X9_puts g l hst a0 i4 6 (v19 + v11) M5 t0 u21 M22 e20) ok_X9_puts W1376 t0 rfl (by decide) rfl rfl rfl ⟨Nat.le_of_ble_eq_true rfl, Nat.le_of_ble_eq_true rfl⟩ ⟨Nat.zero_le _, Nat.zero_le _⟩ (Nat.le_of_ble_eq_true rfl) dX9_beats_91) (fun H locs hH hL => ?_)
            refine lv_iload_n hx hb dX9_beats_94 rfl (lv_at hl 2 rfl) ?_
            refine lv_iload hx hb dX9_beats_95 (lv_at hl 0 rfl) ?_
            refine lv_iadd hx hb dX9_beats_97 ?_
            refine q_lt (fun v23 e_v23 => ?_)
            refine q_topI e_v23 ?_
            refine lv_istore_n (lv' := [(1, .int v23), (5, .int v11), (0, .ref (adr g a0)), (2, .int i2), (3, .int i3), (4, .int i4)]) hx hb dX9_beats_98 rfl hl (by decide) rfl (fun ls hl => ?_)
            refine lv_iload hx hb dX9_beats_99 (lv_at hl 1 rfl) ?_
            refine lv_iload_n hx hb dX9_beats_101 rfl (lv_at hl 4 rfl) ?_
            refine lv_icmp_le (tgt := 111) hx hb dX9_beats_102 (by decide) (fun c24 => q_pos c24 ?_) (fun c24 => q_neg c24 ?_)
            · refine q_lt (fun v25 e_v25 => ?_)
              refine lv_iinc (v := v25) (lv' := [(4, .int v25), (1, .int v23), (5, .int v11), (0, .ref (adr g a0)), (2, .int i2), (3, .int i3)]) hx hb dX9_beats_111 hl (k := 5) rfl (by rw [e_v25]; rfl) (by decide) rfl (fun ls hl => ?_)
              refine lv_goto (tgt := 9) hx hb dX9_beats_114 (by decide) ?_
              exact ih v23 i2 i3 v25 M22 _ _ ls hH hL (lv_sub hl [3, 1, 4, 5, 0] rfl) 
            · refine lv_iload hx hb dX9_beats_105 (lv_at hl 1 rfl) ?_
              refine lv_istore_n (lv' := [(3, .int v11), (1, .int v23), (5, .int v11), (0, .ref (adr g a0)), (2, .int i2), (4, .int i4)]) hx hb dX9_beats_107 rfl hl (by decide) rfl (fun ls hl => ?_)
              refine lv_iload hx hb dX9_beats_108 (lv_at hl 5 rfl) ?_
              refine lv_istore_n (lv' := [(2, .int i4), (3, .int v11), (1, .int v23), (5, .int v11), (0, .ref (adr g a0)), (4, .int i4)]) hx hb dX9_beats_110 rfl hl (by decide) rfl (fun ls hl => ?_)
              refine q_lt (fun v26 e_v26 => ?_)
              refine lv_iinc (v := v26) (lv' := [(4, .int v26), (2, .int i4), (3, .int v11), (1, .int v23), (5, .int v11), (0, .ref (adr g a0))]) hx hb dX9_beats_111 hl (k := 5) rfl (by rw [e_v26]; rfl) (by decide) rfl (fun ls hl => ?_)
              refine lv_goto (tgt := 9) hx hb dX9_beats_114 (by decide) ?_
              exact ih v23 i4 v11 v26 M22 _ _ ls hH hL (lv_sub hl [5, 3, 1, 2, 0] rfl) 
          · refine lv_aload_n hx hb dX9_beats_59 rfl (lv_at hl 1 rfl) ?_
            refine lv_iload hx hb dX9_beats_60 (lv_at hl 5 rfl) ?_
            refine lv_iconst (v := 5) hx hb dX9_beats_62 (by decide) ?_
            refine lv_aload_n hx hb dX9_beats_63 rfl (lv_at hl 1 rfl) ?_
            refine lv_iload hx hb dX9_beats_64 (lv_at hl 5 rfl) ?_
            refine lv_iconst (v := 5) hx hb dX9_beats_66 (by decide) ?_
            refine q_bind (fun v28 e27 => ?_)
            refine my_doneI hL (my_runV X hH hl.1 (co_X9_of g l hst a0 i4 5 M5 t0 v28 e27) ok_X9_of W1404 t0 rfl (by decide) rfl rfl rfl ⟨Nat.le_of_ble_eq_true rfl, Nat.le_of_ble_eq_true rfl⟩ ⟨Nat.zero_le _, Nat.zero_le _⟩ (Nat.le_of_ble_eq_true rfl) dX9_beats_67) (fun H locs hH hL => ?_)
            refine lv_iconst (v := 1) hx hb dX9_beats_70 (by decide) ?_
            refine lv_isub hx hb dX9_beats_71 ?_
            refine q_b1 (fun u30 M31 e29 => ?_)
            refine my_doneU hL (my_runV X hH hl.1 (co_X9_puts g l hst a0 i4 5 (v28 - 1) M5 t0 u30 M31 e29) ok_X9_puts W1376 t0 rfl (by decide) rfl rfl rfl ⟨Nat.le_of_ble_eq_true rfl, Nat.le_of_ble_eq_true rfl⟩ ⟨Nat.zero_le _, Nat.zero_le _⟩ (Nat.le_of_ble_eq_true rfl) dX9_beats_72) (fun H locs hH hL => ?_)
            refine lv_aload_n hx hb dX9_beats_75 rfl (lv_at hl 1 rfl) ?_
            refine lv_iload hx hb dX9_beats_76 (lv_at hl 5 rfl) ?_
            refine lv_bipush (v := 6) hx hb dX9_beats_78 (by decide) ?_
            refine lv_aload_n hx hb dX9_beats_80 rfl (lv_at hl 1 rfl) ?_
            refine lv_iload hx hb dX9_beats_81 (lv_at hl 5 rfl) ?_
            refine lv_bipush (v := 6) hx hb dX9_beats_83 (by decide) ?_
            refine q_bind (fun v33 e32 => ?_)
            refine my_doneI hL (my_runV X hH hl.1 (co_X9_of g l hst a0 i4 6 M31 t0 v33 e32) ok_X9_of W1404 t0 rfl (by decide) rfl rfl rfl ⟨Nat.le_of_ble_eq_true rfl, Nat.le_of_ble_eq_true rfl⟩ ⟨Nat.zero_le _, Nat.zero_le _⟩ (Nat.le_of_ble_eq_true rfl) dX9_beats_85) (fun H locs hH hL => ?_)
            refine lv_iload hx hb dX9_beats_88 (lv_at hl 0 rfl) ?_
            refine lv_iadd hx hb dX9_beats_90 ?_
            refine q_b1 (fun u35 M36 e34 => ?_)
            refine my_doneU hL (my_runV X hH hl.1 (co_X9_puts g l hst a0 i4 6 (v33 + v11) M31 t0 u35 M36 e34) ok_X9_puts W1376 t0 rfl (by decide) rfl rfl rfl ⟨Nat.le_of_ble_eq_true rfl, Nat.le_of_ble_eq_true rfl⟩ ⟨Nat.zero_le _, Nat.zero_le _⟩ (Nat.le_of_ble_eq_true rfl) dX9_beats_91) (fun H locs hH hL => ?_)
            refine lv_iload_n hx hb dX9_beats_94 rfl (lv_at hl 2 rfl) ?_
            refine lv_iload hx hb dX9_beats_95 (lv_at hl 0 rfl) ?_
            refine lv_iadd hx hb dX9_beats_97 ?_
            refine q_lt (fun v37 e_v37 => ?_)
            refine q_topI e_v37 ?_
            refine lv_istore_n (lv' := [(1, .int v37), (5, .int v11), (0, .ref (adr g a0)), (2, .int i2), (3, .int i3), (4, .int i4)]) hx hb dX9_beats_98 rfl hl (by decide) rfl (fun ls hl => ?_)
            refine lv_iload hx hb dX9_beats_99 (lv_at hl 1 rfl) ?_
            refine lv_iload_n hx hb dX9_beats_101 rfl (lv_at hl 4 rfl) ?_
            refine lv_icmp_le (tgt := 111) hx hb dX9_beats_102 (by decide) (fun c38 => q_pos c38 ?_) (fun c38 => q_neg c38 ?_)
            · refine q_lt (fun v39 e_v39 => ?_)
              refine lv_iinc (v := v39) (lv' := [(4, .int v39), (1, .int v37), (5, .int v11), (0, .ref (adr g a0)), (2, .int i2), (3, .int i3)]) hx hb dX9_beats_111 hl (k := 5) rfl (by rw [e_v39]; rfl) (by decide) rfl (fun ls hl => ?_)
              refine lv_goto (tgt := 9) hx hb dX9_beats_114 (by decide) ?_
              exact ih v37 i2 i3 v39 M36 _ _ ls hH hL (lv_sub hl [3, 1, 4, 5, 0] rfl) 
            · refine lv_iload hx hb dX9_beats_105 (lv_at hl 1 rfl) ?_
              refine lv_istore_n (lv' := [(3, .int v11), (1, .int v37), (5, .int v11), (0, .ref (adr g a0)), (2, .int i2), (4, .int i4)]) hx hb dX9_beats_107 rfl hl (by decide) rfl (fun ls hl => ?_)
              refine lv_iload hx hb dX9_beats_108 (lv_at hl 5 rfl) ?_
              refine lv_istore_n (lv' := [(2, .int i4), (3, .int v11), (1, .int v37), (5, .int v11), (0, .ref (adr g a0)), (4, .int i4)]) hx hb dX9_beats_110 rfl hl (by decide) rfl (fun ls hl => ?_)
              refine q_lt (fun v40 e_v40 => ?_)
              refine lv_iinc (v := v40) (lv' := [(4, .int v40), (2, .int i4), (3, .int v11), (1, .int v37), (5, .int v11), (0, .ref (adr g a0))]) hx hb dX9_beats_111 hl (k := 5) rfl (by rw [e_v40]; rfl) (by decide) rfl (fun ls hl => ?_)
              refine lv_goto (tgt := 9) hx hb dX9_beats_114 (by decide) ?_
              exact ih v37 i4 v11 v40 M36 _ _ ls hH hL (lv_sub hl [5, 3, 1, 2, 0] rfl) 
        · refine lv_aload_n hx hb dX9_beats_37 rfl (lv_at hl 1 rfl) ?_
          refine lv_iload hx hb dX9_beats_38 (lv_at hl 5 rfl) ?_
          refine lv_aload_n hx hb dX9_beats_40 rfl (lv_at hl 1 rfl) ?_
          refine lv_iload hx hb dX9_beats_41 (lv_at hl 5 rfl) ?_
          refine q_bind (fun v42 e41 => ?_)
          refine my_doneI hL (my_runV X hH hl.1 (co_X9_columnNow g l hst a0 i4 M5 t0 v42 e41) ok_X9_columnNow W1502 t0 rfl (by decide) rfl rfl rfl ⟨Nat.le_of_ble_eq_true rfl, Nat.le_of_ble_eq_true rfl⟩ ⟨Nat.zero_le _, Nat.zero_le _⟩ (Nat.le_of_ble_eq_true rfl) dX9_beats_43) (fun H locs hH hL => ?_)
          refine q_b1 (fun u44 M45 e43 => ?_)
          refine my_doneU hL (my_runV X hH hl.1 (co_X9_sounds g l hst a0 i4 v42 M5 t0 u44 M45 e43) ok_X9_sounds W1513 t0 rfl (by decide) rfl rfl rfl ⟨Nat.le_of_ble_eq_true rfl, Nat.le_of_ble_eq_true rfl⟩ ⟨Nat.zero_le _, Nat.zero_le _⟩ (Nat.le_of_ble_eq_true rfl) dX9_beats_46) (fun H locs hH hL => ?_)
          refine lv_aload_n hx hb dX9_beats_49 rfl (lv_at hl 1 rfl) ?_
          refine lv_iload hx hb dX9_beats_50 (lv_at hl 5 rfl) ?_
          refine lv_iconst (v := 5) hx hb dX9_beats_52 (by decide) ?_
          refine q_bind (fun v47 e46 => ?_)
          refine my_doneI hL (my_runV X hH hl.1 (co_X9_of g l hst a0 i4 5 M45 t0 v47 e46) ok_X9_of W1404 t0 rfl (by decide) rfl rfl rfl ⟨Nat.le_of_ble_eq_true rfl, Nat.le_of_ble_eq_true rfl⟩ ⟨Nat.zero_le _, Nat.zero_le _⟩ (Nat.le_of_ble_eq_true rfl) dX9_beats_53) (fun H locs hH hL => ?_)
          refine lv_if_le (tgt := 75) hx hb dX9_beats_56 (by decide) (fun c48 => q_pos c48 ?_) (fun c48 => q_neg c48 ?_)
          · refine lv_aload_n hx hb dX9_beats_75 rfl (lv_at hl 1 rfl) ?_
            refine lv_iload hx hb dX9_beats_76 (lv_at hl 5 rfl) ?_
            refine lv_bipush (v := 6) hx hb dX9_beats_78 (by decide) ?_
            refine lv_aload_n hx hb dX9_beats_80 rfl (lv_at hl 1 rfl) ?_
            refine lv_iload hx hb dX9_beats_81 (lv_at hl 5 rfl) ?_
            refine lv_bipush (v := 6) hx hb dX9_beats_83 (by decide) ?_
            refine q_bind (fun v50 e49 => ?_)
            refine my_doneI hL (my_runV X hH hl.1 (co_X9_of g l hst a0 i4 6 M45 t0 v50 e49) ok_X9_of W1404 t0 rfl (by decide) rfl rfl rfl ⟨Nat.le_of_ble_eq_true rfl, Nat.le_of_ble_eq_true rfl⟩ ⟨Nat.zero_le _, Nat.zero_le _⟩ (Nat.le_of_ble_eq_true rfl) dX9_beats_85) (fun H locs hH hL => ?_)
            refine lv_iload hx hb dX9_beats_88 (lv_at hl 0 rfl) ?_
            refine lv_iadd hx hb dX9_beats_90 ?_
            refine q_b1 (fun u52 M53 e51 => ?_)
            refine my_doneU hL (my_runV X hH hl.1 (co_X9_puts g l hst a0 i4 6 (v50 + v11) M45 t0 u52 M53 e51) ok_X9_puts W1376 t0 rfl (by decide) rfl rfl rfl ⟨Nat.le_of_ble_eq_true rfl, Nat.le_of_ble_eq_true rfl⟩ ⟨Nat.zero_le _, Nat.zero_le _⟩ (Nat.le_of_ble_eq_true rfl) dX9_beats_91) (fun H locs hH hL => ?_)
            refine lv_iload_n hx hb dX9_beats_94 rfl (lv_at hl 2 rfl) ?_
            refine lv_iload hx hb dX9_beats_95 (lv_at hl 0 rfl) ?_
            refine lv_iadd hx hb dX9_beats_97 ?_
            refine q_lt (fun v54 e_v54 => ?_)
            refine q_topI e_v54 ?_
            refine lv_istore_n (lv' := [(1, .int v54), (5, .int v11), (0, .ref (adr g a0)), (2, .int i2), (3, .int i3), (4, .int i4)]) hx hb dX9_beats_98 rfl hl (by decide) rfl (fun ls hl => ?_)
            refine lv_iload hx hb dX9_beats_99 (lv_at hl 1 rfl) ?_
            refine lv_iload_n hx hb dX9_beats_101 rfl (lv_at hl 4 rfl) ?_
            refine lv_icmp_le (tgt := 111) hx hb dX9_beats_102 (by decide) (fun c55 => q_pos c55 ?_) (fun c55 => q_neg c55 ?_)
            · refine q_lt (fun v56 e_v56 => ?_)
              refine lv_iinc (v := v56) (lv' := [(4, .int v56), (1, .int v54), (5, .int v11), (0, .ref (adr g a0)), (2, .int i2), (3, .int i3)]) hx hb dX9_beats_111 hl (k := 5) rfl (by rw [e_v56]; rfl) (by decide) rfl (fun ls hl => ?_)
              refine lv_goto (tgt := 9) hx hb dX9_beats_114 (by decide) ?_
              exact ih v54 i2 i3 v56 M53 _ _ ls hH hL (lv_sub hl [3, 1, 4, 5, 0] rfl) 
            · refine lv_iload hx hb dX9_beats_105 (lv_at hl 1 rfl) ?_
              refine lv_istore_n (lv' := [(3, .int v11), (1, .int v54), (5, .int v11), (0, .ref (adr g a0)), (2, .int i2), (4, .int i4)]) hx hb dX9_beats_107 rfl hl (by decide) rfl (fun ls hl => ?_)
              refine lv_iload hx hb dX9_beats_108 (lv_at hl 5 rfl) ?_
              refine lv_istore_n (lv' := [(2, .int i4), (3, .int v11), (1, .int v54), (5, .int v11), (0, .ref (adr g a0)), (4, .int i4)]) hx hb dX9_beats_110 rfl hl (by decide) rfl (fun ls hl => ?_)
              refine q_lt (fun v57 e_v57 => ?_)
              refine lv_iinc (v := v57) (lv' := [(4, .int v57), (2, .int i4), (3, .int v11), (1, .int v54), (5, .int v11), (0, .ref (adr g a0))]) hx hb dX9_beats_111 hl (k := 5) rfl (by rw [e_v57]; rfl) (by decide) rfl (fun ls hl => ?_)
              refine lv_goto (tgt := 9) hx hb dX9_beats_114 (by decide) ?_
              exact ih v54 i4 v11 v57 M53 _ _ ls hH hL (lv_sub hl [5, 3, 1, 2, 0] rfl) 
          · refine lv_aload_n hx hb dX9_beats_59 rfl (lv_at hl 1 rfl) ?_
            refine lv_iload hx hb dX9_beats_60 (lv_at hl 5 rfl) ?_
            refine lv_iconst (v := 5) hx hb dX9_beats_62 (by decide) ?_
            refine lv_aload_n hx hb dX9_beats_63 rfl (lv_at hl 1 rfl) ?_
            refine lv_iload hx hb dX9_beats_64 (lv_at hl 5 rfl) ?_
            refine lv_iconst (v := 5) hx hb dX9_beats_66 (by decide) ?_
            refine q_bind (fun v59 e58 => ?_)
            refine my_doneI hL (my_runV X hH hl.1 (co_X9_of g l hst a0 i4 5 M45 t0 v59 e58) ok_X9_of W1404 t0 rfl (by decide) rfl rfl rfl ⟨Nat.le_of_ble_eq_true rfl, Nat.le_of_ble_eq_true rfl⟩ ⟨Nat.zero_le _, Nat.zero_le _⟩ (Nat.le_of_ble_eq_true rfl) dX9_beats_67) (fun H locs hH hL => ?_)
            refine lv_iconst (v := 1) hx hb dX9_beats_70 (by decide) ?_
            refine lv_isub hx hb dX9_beats_71 ?_
            refine q_b1 (fun u61 M62 e60 => ?_)
            refine my_doneU hL (my_runV X hH hl.1 (co_X9_puts g l hst a0 i4 5 (v59 - 1) M45 t0 u61 M62 e60) ok_X9_puts W1376 t0 rfl (by decide) rfl rfl rfl ⟨Nat.le_of_ble_eq_true rfl, Nat.le_of_ble_eq_true rfl⟩ ⟨Nat.zero_le _, Nat.zero_le _⟩ (Nat.le_of_ble_eq_true rfl) dX9_beats_72) (fun H locs hH hL => ?_)
            refine lv_aload_n hx hb dX9_beats_75 rfl (lv_at hl 1 rfl) ?_
            refine lv_iload hx hb dX9_beats_76 (lv_at hl 5 rfl) ?_
            refine lv_bipush (v := 6) hx hb dX9_beats_78 (by decide) ?_
            refine lv_aload_n hx hb dX9_beats_80 rfl (lv_at hl 1 rfl) ?_
            refine lv_iload hx hb dX9_beats_81 (lv_at hl 5 rfl) ?_
            refine lv_bipush (v := 6) hx hb dX9_beats_83 (by decide) ?_
            refine q_bind (fun v64 e63 => ?_)
            refine my_doneI hL (my_runV X hH hl.1 (co_X9_of g l hst a0 i4 6 M62 t0 v64 e63) ok_X9_of W1404 t0 rfl (by decide) rfl rfl rfl ⟨Nat.le_of_ble_eq_true rfl, Nat.le_of_ble_eq_true rfl⟩ ⟨Nat.zero_le _, Nat.zero_le _⟩ (Nat.le_of_ble_eq_true rfl) dX9_beats_85) (fun H locs hH hL => ?_)
            refine lv_iload hx hb dX9_beats_88 (lv_at hl 0 rfl) ?_
            refine lv_iadd hx hb dX9_beats_90 ?_
            refine q_b1 (fun u66 M67 e65 => ?_)
            refine my_doneU hL (my_runV X hH hl.1 (co_X9_puts g l hst a0 i4 6 (v64 + v11) M62 t0 u66 M67 e65) ok_X9_puts W1376 t0 rfl (by decide) rfl rfl rfl ⟨Nat.le_of_ble_eq_true rfl, Nat.le_of_ble_eq_true rfl⟩ ⟨Nat.zero_le _, Nat.zero_le _⟩ (Nat.le_of_ble_eq_true rfl) dX9_beats_91) (fun H locs hH hL => ?_)
            refine lv_iload_n hx hb dX9_beats_94 rfl (lv_at hl 2 rfl) ?_
            refine lv_iload hx hb dX9_beats_95 (lv_at hl 0 rfl) ?_
            refine lv_iadd hx hb dX9_beats_97 ?_
            refine q_lt (fun v68 e_v68 => ?_)
            refine q_topI e_v68 ?_
            refine lv_istore_n (lv' := [(1, .int v68), (5, .int v11), (0, .ref (adr g a0)), (2, .int i2), (3, .int i3), (4, .int i4)]) hx hb dX9_beats_98 rfl hl (by decide) rfl (fun ls hl => ?_)
            refine lv_iload hx hb dX9_beats_99 (lv_at hl 1 rfl) ?_
            refine lv_iload_n hx hb dX9_beats_101 rfl (lv_at hl 4 rfl) ?_
            refine lv_icmp_le (tgt := 111) hx hb dX9_beats_102 (by decide) (fun c69 => q_pos c69 ?_) (fun c69 => q_neg c69 ?_)
            · refine q_lt (fun v70 e_v70 => ?_)
              refine lv_iinc (v := v70) (lv' := [(4, .int v70), (1, .int v68), (5, .int v11), (0, .ref (adr g a0)), (2, .int i2), (3, .int i3)]) hx hb dX9_beats_111 hl (k := 5) rfl (by rw [e_v70]; rfl) (by decide) rfl (fun ls hl => ?_)
              refine lv_goto (tgt := 9) hx hb dX9_beats_114 (by decide) ?_
              exact ih v68 i2 i3 v70 M67 _ _ ls hH hL (lv_sub hl [3, 1, 4, 5, 0] rfl) 
            · refine lv_iload hx hb dX9_beats_105 (lv_at hl 1 rfl) ?_
              refine lv_istore_n (lv' := [(3, .int v11), (1, .int v68), (5, .int v11), (0, .ref (adr g a0)), (2, .int i2), (4, .int i4)]) hx hb dX9_beats_107 rfl hl (by decide) rfl (fun ls hl => ?_)
              refine lv_iload hx hb dX9_beats_108 (lv_at hl 5 rfl) ?_
              refine lv_istore_n (lv' := [(2, .int i4), (3, .int v11), (1, .int v68), (5, .int v11), (0, .ref (adr g a0)), (4, .int i4)]) hx hb dX9_beats_110 rfl hl (by decide) rfl (fun ls hl => ?_)
              refine q_lt (fun v71 e_v71 => ?_)
              refine lv_iinc (v := v71) (lv' := [(4, .int v71), (2, .int i4), (3, .int v11), (1, .int v68), (5, .int v11), (0, .ref (adr g a0))]) hx hb dX9_beats_111 hl (k := 5) rfl (by rw [e_v71]; rfl) (by decide) rfl (fun ls hl => ?_)
              refine lv_goto (tgt := 9) hx hb dX9_beats_114 (by decide) ?_
              exact ih v68 i4 v11 v71 M67 _ _ ls hH hL (lv_sub hl [5, 3, 1, 2, 0] rfl) 
  refine L72 _ (fun x73 x74 x75 x76 M77 H locs ls hH hL hl  => ?_) 3000 0 0 (-1) 0 M _ _ ls hH hL (lv_sub hl [4, 3, 2, 1, 0] rfl) 
  refine lv_iload_n hx hb dX9_beats_117 rfl (lv_at hl 1 rfl) ?_
  refine lv_aload_n hx hb dX9_beats_118 rfl (lv_at hl 0 rfl) ?_
  refine m_gR (k := 1) X hH inC9 t0 rfl W1285 dX9_beats_119 24 rfl (fun t78 => ?_)
  refine lv_iconst (v := 3) hx hb dX9_beats_122 (by decide) ?_
  refine q_chk (fun hb79 => ?_)
  refine m_iald X hH t78 rfl (by decide) (fun _ => rfl) rfl rfl hb79 dX9_beats_123 ?_
  refine lv_icmp_le (tgt := 142) hx hb dX9_beats_124 (by decide) (fun c80 => q_pos c80 ?_) (fun c80 => q_neg c80 ?_)
  · refine lv_aload_n hx hb dX9_beats_142 rfl (lv_at hl 0 rfl) ?_
    refine m_gR (k := 1) X hH inC9 t0 rfl W1285 dX9_beats_143 24 rfl (fun t81 => ?_)
    refine lv_iconst (v := 1) hx hb dX9_beats_146 (by decide) ?_
    refine lv_dup2_11 hx hb dX9_beats_147 rfl rfl ?_
    refine q_chk (fun hb82 => ?_)
    refine m_iald X hH t81 rfl (by decide) (fun _ => rfl) rfl rfl hb82 dX9_beats_148 ?_
    refine lv_iconst (v := 1) hx hb dX9_beats_149 (by decide) ?_
    refine lv_iadd hx hb dX9_beats_150 ?_
    refine q_chk (fun hb83 => ?_)
    refine q_lt (fun M84 e_M84 => ?_)
    refine m_is X hH hL t81 rfl (by decide) (fun _ => rfl) rfl rfl hb83 dX9_beats_151 e_M84 (fun H locs hH hL => ?_)
    refine lv_aload_n hx hb dX9_beats_152 rfl (lv_at hl 0 rfl) ?_
    refine m_gR (k := 1) X hH inC9 t0 rfl W1285 dX9_beats_153 24 rfl (fun t85 => ?_)
    refine lv_iconst (v := 5) hx hb dX9_beats_156 (by decide) ?_
    refine lv_dup2_11 hx hb dX9_beats_157 rfl rfl ?_
    refine q_chk (fun hb86 => ?_)
    refine m_iald X hH t85 rfl (by decide) (fun _ => rfl) rfl rfl hb86 dX9_beats_158 ?_
    refine lv_iload_n hx hb dX9_beats_159 rfl (lv_at hl 1 rfl) ?_
    refine lv_iadd hx hb dX9_beats_160 ?_
    refine q_chk (fun hb87 => ?_)
    refine q_lt (fun M88 e_M88 => ?_)
    refine m_is X hH hL t85 rfl (by decide) (fun _ => rfl) rfl rfl hb87 dX9_beats_161 e_M88 (fun H locs hH hL => ?_)
    refine lv_aload_n hx hb dX9_beats_162 rfl (lv_at hl 0 rfl) ?_
    refine lv_iload_n hx hb dX9_beats_163 rfl (lv_at hl 1 rfl) ?_
    refine q_b1 (fun u90 M91 e89 => ?_)
    refine my_doneU hL (my_runV X hH hl.1 (co_X9_logs g l hst a0 x73 M88 t0 u90 M91 e89) ok_X9_logs W1521 t0 rfl (by decide) rfl rfl rfl ⟨Nat.le_of_ble_eq_true rfl, Nat.le_of_ble_eq_true rfl⟩ ⟨Nat.zero_le _, Nat.zero_le _⟩ (Nat.le_of_ble_eq_true rfl) dX9_beats_164) (fun H locs hH hL => ?_)
    refine lv_iload_n hx hb dX9_beats_167 rfl (lv_at hl 1 rfl) ?_
    exact q_end1 (m_iret X hr hH hL dX9_beats_168)
  · refine lv_aload_n hx hb dX9_beats_127 rfl (lv_at hl 0 rfl) ?_
    refine m_gR (k := 1) X hH inC9 t0 rfl W1285 dX9_beats_128 24 rfl (fun t92 => ?_)
    refine lv_iconst (v := 4) hx hb dX9_beats_131 (by decide) ?_
    refine lv_dup2_11 hx hb dX9_beats_132 rfl rfl ?_
    refine q_chk (fun hb93 => ?_)
    refine m_iald X hH t92 rfl (by decide) (fun _ => rfl) rfl rfl hb93 dX9_beats_133 ?_
    refine lv_iconst (v := 1) hx hb dX9_beats_134 (by decide) ?_
    refine lv_iadd hx hb dX9_beats_135 ?_
    refine q_chk (fun hb94 => ?_)
    refine q_lt (fun M95 e_M95 => ?_)
    refine m_is X hH hL t92 rfl (by decide) (fun _ => rfl) rfl rfl hb94 dX9_beats_136 e_M95 (fun H locs hH hL => ?_)
    refine lv_aload_n hx hb dX9_beats_137 rfl (lv_at hl 0 rfl) ?_
    refine lv_iload_n hx hb dX9_beats_138 rfl (lv_at hl 2 rfl) ?_
    refine q_b1 (fun u97 M98 e96 => ?_)
    refine my_doneU hL (my_runV X hH hl.1 (co_X9_tires g l hst a0 x74 M95 t0 u97 M98 e96) ok_X9_tires W1517 t0 rfl (by decide) rfl rfl rfl ⟨Nat.le_of_ble_eq_true rfl, Nat.le_of_ble_eq_true rfl⟩ ⟨Nat.zero_le _, Nat.zero_le _⟩ (Nat.le_of_ble_eq_true rfl) dX9_beats_139) (fun H locs hH hL => ?_)
    refine lv_aload_n hx hb dX9_beats_142 rfl (lv_at hl 0 rfl) ?_
    refine m_gR (k := 1) X hH inC9 t0 rfl W1285 dX9_beats_143 24 rfl (fun t99 => ?_)
    refine lv_iconst (v := 1) hx hb dX9_beats_146 (by decide) ?_
    refine lv_dup2_11 hx hb dX9_beats_147 rfl rfl ?_
    refine q_chk (fun hb100 => ?_)
    refine m_iald X hH t99 rfl (by decide) (fun _ => rfl) rfl rfl hb100 dX9_beats_148 ?_
    refine lv_iconst (v := 1) hx hb dX9_beats_149 (by decide) ?_
    refine lv_iadd hx hb dX9_beats_150 ?_
    refine q_chk (fun hb101 => ?_)
    refine q_lt (fun M102 e_M102 => ?_)
    refine m_is X hH hL t99 rfl (by decide) (fun _ => rfl) rfl rfl hb101 dX9_beats_151 e_M102 (fun H locs hH hL => ?_)
    refine lv_aload_n hx hb dX9_beats_152 rfl (lv_at hl 0 rfl) ?_
    refine m_gR (k := 1) X hH inC9 t0 rfl W1285 dX9_beats_153 24 rfl (fun t103 => ?_)
    refine lv_iconst (v := 5) hx hb dX9_beats_156 (by decide) ?_
    refine lv_dup2_11 hx hb dX9_beats_157 rfl rfl ?_
    refine q_chk (fun hb104 => ?_)
    refine m_iald X hH t103 rfl (by decide) (fun _ => rfl) rfl rfl hb104 dX9_beats_158 ?_
    refine lv_iload_n hx hb dX9_beats_159 rfl (lv_at hl 1 rfl) ?_
    refine lv_iadd hx hb dX9_beats_160 ?_
    refine q_chk (fun hb105 => ?_)
    refine q_lt (fun M106 e_M106 => ?_)
    refine m_is X hH hL t103 rfl (by decide) (fun _ => rfl) rfl rfl hb105 dX9_beats_161 e_M106 (fun H locs hH hL => ?_)
    refine lv_aload_n hx hb dX9_beats_162 rfl (lv_at hl 0 rfl) ?_
    refine lv_iload_n hx hb dX9_beats_163 rfl (lv_at hl 1 rfl) ?_
    refine q_b1 (fun u108 M109 e107 => ?_)
    refine my_doneU hL (my_runV X hH hl.1 (co_X9_logs g l hst a0 x73 M106 t0 u108 M109 e107) ok_X9_logs W1521 t0 rfl (by decide) rfl rfl rfl ⟨Nat.le_of_ble_eq_true rfl, Nat.le_of_ble_eq_true rfl⟩ ⟨Nat.zero_le _, Nat.zero_le _⟩ (Nat.le_of_ble_eq_true rfl) dX9_beats_164) (fun H locs hH hL => ?_)
    refine lv_iload_n hx hb dX9_beats_167 rfl (lv_at hl 1 rfl) ?_
    exact q_end1 (m_iret X hr hH hL dX9_beats_168)

set_option maxRecDepth 20000 in
set_option maxHeartbeats 4000000 in
theorem co_X9_beatsTimes (g : GP) (l : Launch) (hst : l.stackTraces = false) (a0 : Nat) (p1_ : Int32) (M : Mem) (t0 : tyT a0 = 9) (v : Int32) (M' : Mem) (hF : F_X9_beatsTimes a0 p1_ M = some (v, M')) : CO g l yX9_beatsTimes cX9_beatsTimes 4 (some .int) 5 115 rvI [.ref (adr g a0), .int p1_] M (.inl v : Int32 ⊕ String) M' := by
  refine CO_of hst (by decide) (Nat.le_of_ble_eq_true rfl) ?_
  intro p e s m below meth c ls X hr htb hH hL hl
  have hx := X.1
  have hb := X.2.1
  have hts := X.2.2.2.2.1
  refine q_out hF ?_
  rw [F_X9_beatsTimes]
  replace hl : lv_has ls 4 [(0, .ref (adr g a0)), (1, .int p1_)] := hl
  refine lv_iconst (v := 0) hx hb dX9_beatsTimes_0 (by decide) ?_
  refine lv_istore_n (lv' := [(2, .int 0), (0, .ref (adr g a0)), (1, .int p1_)]) hx hb dX9_beatsTimes_1 rfl hl (by decide) rfl (fun ls hl => ?_)
  refine lv_iconst (v := 0) hx hb dX9_beatsTimes_2 (by decide) ?_
  refine lv_istore_n (lv' := [(3, .int 0), (2, .int 0), (0, .ref (adr g a0)), (1, .int p1_)]) hx hb dX9_beatsTimes_3 rfl hl (by decide) rfl (fun ls hl => ?_)
  have L11 : ∀ (K : Int32 → Int32 → Mem → Option (Int32 × Mem)) (_ : ∀ (i1 : Int32) (i2 : Int32) (M3 : Mem) (H : Heap) (locs : List Loc) (ls : Array Slot), HR g M3 H → LK g s H locs → lv_has ls 4 [(0, .ref (adr g a0)), (1, .int p1_), (2, .int i1), (3, .int i2)] → W p l e (rmO (.inl v : Int32 ⊕ String) 5 115) s m ([.ref (adr g a0), .int p1_] : List Value).toArray below meth c H locs 0 0 (GQ (K i1 i2 M3) (v, M') (MQO g below rvI (.inl v : Int32 ⊕ String) M' ([.ref (adr g a0), .int p1_] : List Value).toArray s)) (F0 m 22 ls [])) (n : Nat) (i1 : Int32) (i2 : Int32) (M3 : Mem) (H : Heap) (locs : List Loc) (ls : Array Slot), HR g M3 H → LK g s H locs → lv_has ls 4 [(0, .ref (adr g a0)), (1, .int p1_), (2, .int i1), (3, .int i2)] → W p l e (rmO (.inl v : Int32 ⊕ String) 5 115) s m ([.ref (adr g a0), .int p1_] : List Value).toArray below meth c H locs 0 0 (GQ (F_X9_beatsTimes_L1 a0 p1_ K n i1 i2 M3) (v, M') (MQO g below rvI (.inl v : Int32 ⊕ String) M' ([.ref (adr g a0), .int p1_] : List Value).toArray s)) (F0 m 4 ls []) := by
    intro K hK n
    induction n with
    | zero => intros; exact q_none
    | succ n ih =>
      intro i1 i2 M3 H locs ls hH hL hl 
      rw [F_X9_beatsTimes_L1]
      refine lv_iload_n hx hb dX9_beatsTimes_4 rfl (lv_at hl 3 rfl) ?_
      refine lv_iload_n hx hb dX9_beatsTimes_5 rfl (lv_at hl 1 rfl) ?_
      refine lv_icmp_ge (tgt := 22) hx hb dX9_beatsTimes_6 (by decide) (fun c5 => q_pos c5 ?_) (fun c5 => q_neg c5 ?_)
      · exact hK i1 i2 M3 _ _ ls hH hL hl 
      · refine lv_iload_n hx hb dX9_beatsTimes_9 rfl (lv_at hl 2 rfl) ?_
        refine lv_aload_n hx hb dX9_beatsTimes_10 rfl (lv_at hl 0 rfl) ?_
        refine q_b1 (fun v7 M8 e6 => ?_)
        refine my_doneI hL (my_runV X hH hl.1 (co_X9_beats g l hst a0 M3 t0 v7 M8 e6) ok_X9_beats W1490 t0 rfl (by decide) rfl rfl rfl ⟨Nat.le_of_ble_eq_true rfl, Nat.le_of_ble_eq_true rfl⟩ ⟨Nat.zero_le _, Nat.zero_le _⟩ (Nat.le_of_ble_eq_true rfl) dX9_beatsTimes_11) (fun H locs hH hL => ?_)
        refine lv_iadd hx hb dX9_beatsTimes_14 ?_
        refine q_lt (fun v9 e_v9 => ?_)
        refine q_topI e_v9 ?_
        refine lv_istore_n (lv' := [(2, .int v9), (0, .ref (adr g a0)), (1, .int p1_), (3, .int i2)]) hx hb dX9_beatsTimes_15 rfl hl (by decide) rfl (fun ls hl => ?_)
        refine q_lt (fun v10 e_v10 => ?_)
        refine lv_iinc (v := v10) (lv' := [(3, .int v10), (2, .int v9), (0, .ref (adr g a0)), (1, .int p1_)]) hx hb dX9_beatsTimes_16 hl (k := 3) rfl (by rw [e_v10]; rfl) (by decide) rfl (fun ls hl => ?_)
        refine lv_goto (tgt := 4) hx hb dX9_beatsTimes_19 (by decide) ?_
        exact ih v9 v10 M8 _ _ ls hH hL (lv_sub hl [2, 3, 1, 0] rfl) 
  refine L11 _ (fun x12 x13 M14 H locs ls hH hL hl  => ?_) 3000 0 0 M _ _ ls hH hL (lv_sub hl [2, 3, 1, 0] rfl) 
  refine lv_iload_n hx hb dX9_beatsTimes_22 rfl (lv_at hl 2 rfl) ?_
  exact q_end1 (m_iret X hr hH hL dX9_beatsTimes_23)

set_option maxRecDepth 20000 in
set_option maxHeartbeats 4000000 in
theorem co_X9_conductWave (g : GP) (l : Launch) (hst : l.stackTraces = false) (a0 : Nat) (M : Mem) (t0 : tyT a0 = 9) (v : Int32) (M' : Mem) (hF : F_X9_conductWave a0 M = some (v, M')) : CO g l yX9_conductWave cX9_conductWave 1 (some .int) 6 138 rvI [.ref (adr g a0)] M (.inl v : Int32 ⊕ String) M' := by
  refine CO_of hst (by decide) (Nat.le_of_ble_eq_true rfl) ?_
  intro p e s m below meth c ls X hr htb hH hL hl
  have hx := X.1
  have hb := X.2.1
  have hts := X.2.2.2.2.1
  refine q_out hF ?_
  rw [F_X9_conductWave]
  replace hl : lv_has ls 1 [(0, .ref (adr g a0))] := hl
  refine lv_aload_n hx hb dX9_conductWave_0 rfl (lv_at hl 0 rfl) ?_
  refine lv_iconst (v := 0) hx hb dX9_conductWave_1 (by decide) ?_
  refine q_lt (fun M1 e_M1 => ?_)
  refine m_pI (k := 0) X hH hL okC9 t0 rfl rfl rfl rfl W1284 dX9_conductWave_2 e_M1 (fun H locs hH hL => ?_)
  refine lv_aload_n hx hb dX9_conductWave_5 rfl (lv_at hl 0 rfl) ?_
  refine q_b1 (fun u3 M4 e2 => ?_)
  refine my_doneU hL (my_runV X hH hl.1 (co_X9_remembers g l hst a0 M1 t0 u3 M4 e2) ok_X9_remembers W1360 t0 rfl (by decide) rfl rfl rfl ⟨Nat.le_of_ble_eq_true rfl, Nat.le_of_ble_eq_true rfl⟩ ⟨Nat.zero_le _, Nat.zero_le _⟩ (Nat.le_of_ble_eq_true rfl) dX9_conductWave_6) (fun H locs hH hL => ?_)
  refine lv_aload_n hx hb dX9_conductWave_9 rfl (lv_at hl 0 rfl) ?_
  refine lv_aload_n hx hb dX9_conductWave_10 rfl (lv_at hl 0 rfl) ?_
  refine m_gR (k := 1) X hH inC9 t0 rfl W1285 dX9_conductWave_11 24 rfl (fun t5 => ?_)
  refine lv_iconst (v := 2) hx hb dX9_conductWave_14 (by decide) ?_
  refine q_chk (fun hb6 => ?_)
  refine m_iald X hH t5 rfl (by decide) (fun _ => rfl) rfl rfl hb6 dX9_conductWave_15 ?_
  refine q_b1 (fun v8 M9 e7 => ?_)
  refine my_doneI hL (my_runV X hH hl.1 (co_X9_beatsTimes g l hst a0 (mI M4 (mR M4 a0 1) 2) M4 t0 v8 M9 e7) ok_X9_beatsTimes W1486 t0 rfl (by decide) rfl rfl rfl ⟨Nat.le_of_ble_eq_true rfl, Nat.le_of_ble_eq_true rfl⟩ ⟨Nat.zero_le _, Nat.zero_le _⟩ (Nat.le_of_ble_eq_true rfl) dX9_conductWave_16) (fun H locs hH hL => ?_)
  exact q_end1 (m_iret X hr hH hL dX9_conductWave_19)

set_option maxRecDepth 20000 in
set_option maxHeartbeats 4000000 in
theorem co_X9_notBeats (g : GP) (l : Launch) (hst : l.stackTraces = false) (p1_ : Int32) (M : Mem)  (v : Int32) (hF : F_X9_notBeats p1_ = some v) : CO g l yX9_notBeats cX9_notBeats 1 (some .int) 1 22 rvI [.int p1_] M (.inl v : Int32 ⊕ String) M := by
  refine CO_of hst (by decide) (Nat.le_of_ble_eq_true rfl) ?_
  intro p e s m below meth c ls X hr htb hH hL hl
  have hx := X.1
  have hb := X.2.1
  have hts := X.2.2.2.2.1
  refine q_out hF ?_
  rw [F_X9_notBeats]
  replace hl : lv_has ls 1 [(0, .int p1_)] := hl
  refine lv_iload_n hx hb dX9_notBeats_0 rfl (lv_at hl 0 rfl) ?_
  refine lv_iconst (v := 1) hx hb dX9_notBeats_1 (by decide) ?_
  refine lv_bipush (v := 40) hx hb dX9_notBeats_2 (by decide) ?_
  refine q_bind (fun v2 e1 => ?_)
  refine my_doneI hL (my_runS X hH hl.1 (co_X9_isBetween g l hst p1_ 1 40 M v2 e1) ok_X9_isBetween W1353 rfl rfl ⟨Nat.le_of_ble_eq_true rfl, Nat.le_of_ble_eq_true rfl⟩ ⟨Nat.zero_le _, Nat.zero_le _⟩ (Nat.le_of_ble_eq_true rfl) dX9_notBeats_4) (fun H locs hH hL => ?_)
  refine lv_if_eq (tgt := 14) hx hb dX9_notBeats_7 (by decide) (fun c3 => q_pos c3 ?_) (fun c3 => q_neg c3 ?_)
  · refine lv_iconst (v := 1) hx hb dX9_notBeats_14 (by decide) ?_
    exact q_end0 (m_iret X hr hH hL dX9_notBeats_15)
  · refine lv_iconst (v := 0) hx hb dX9_notBeats_10 (by decide) ?_
    refine lv_goto (tgt := 15) hx hb dX9_notBeats_11 (by decide) ?_
    exact q_end0 (m_iret X hr hH hL dX9_notBeats_15)

set_option maxRecDepth 20000 in
set_option maxHeartbeats 4000000 in
theorem co_X9_conductBeats (g : GP) (l : Launch) (hst : l.stackTraces = false) (a0 : Nat) (p1_ : Int32) (M : Mem) (t0 : tyT a0 = 9) (v : Int32) (M' : Mem) (hF : F_X9_conductBeats a0 p1_ M = some (v, M')) : CO g l yX9_conductBeats cX9_conductBeats 2 (some .int) 6 138 rvI [.ref (adr g a0), .int p1_] M (.inl v : Int32 ⊕ String) M' := by
  refine CO_of hst (by decide) (Nat.le_of_ble_eq_true rfl) ?_
  intro p e s m below meth c ls X hr htb hH hL hl
  have hx := X.1
  have hb := X.2.1
  have hts := X.2.2.2.2.1
  refine q_out hF ?_
  rw [F_X9_conductBeats]
  replace hl : lv_has ls 2 [(0, .ref (adr g a0)), (1, .int p1_)] := hl
  refine lv_aload_n hx hb dX9_conductBeats_0 rfl (lv_at hl 0 rfl) ?_
  refine lv_iconst (v := 0) hx hb dX9_conductBeats_1 (by decide) ?_
  refine q_lt (fun M1 e_M1 => ?_)
  refine m_pI (k := 0) X hH hL okC9 t0 rfl rfl rfl rfl W1284 dX9_conductBeats_2 e_M1 (fun H locs hH hL => ?_)
  refine lv_iload_n hx hb dX9_conductBeats_5 rfl (lv_at hl 1 rfl) ?_
  refine q_bind (fun v3 e2 => ?_)
  refine my_doneI hL (my_runS X hH hl.1 (co_X9_notBeats g l hst p1_ M1 v3 e2) ok_X9_notBeats W1529 rfl rfl ⟨Nat.le_of_ble_eq_true rfl, Nat.le_of_ble_eq_true rfl⟩ ⟨Nat.zero_le _, Nat.zero_le _⟩ (Nat.le_of_ble_eq_true rfl) dX9_conductBeats_6) (fun H locs hH hL => ?_)
  refine lv_if_eq (tgt := 18) hx hb dX9_conductBeats_9 (by decide) (fun c4 => q_pos c4 ?_) (fun c4 => q_neg c4 ?_)
  · refine lv_aload_n hx hb dX9_conductBeats_18 rfl (lv_at hl 0 rfl) ?_
    refine q_b1 (fun u6 M7 e5 => ?_)
    refine my_doneU hL (my_runV X hH hl.1 (co_X9_remembers g l hst a0 M1 t0 u6 M7 e5) ok_X9_remembers W1360 t0 rfl (by decide) rfl rfl rfl ⟨Nat.le_of_ble_eq_true rfl, Nat.le_of_ble_eq_true rfl⟩ ⟨Nat.zero_le _, Nat.zero_le _⟩ (Nat.le_of_ble_eq_true rfl) dX9_conductBeats_19) (fun H locs hH hL => ?_)
    refine lv_aload_n hx hb dX9_conductBeats_22 rfl (lv_at hl 0 rfl) ?_
    refine lv_iload_n hx hb dX9_conductBeats_23 rfl (lv_at hl 1 rfl) ?_
    refine q_b1 (fun v9 M10 e8 => ?_)
    refine my_doneI hL (my_runV X hH hl.1 (co_X9_beatsTimes g l hst a0 p1_ M7 t0 v9 M10 e8) ok_X9_beatsTimes W1486 t0 rfl (by decide) rfl rfl rfl ⟨Nat.le_of_ble_eq_true rfl, Nat.le_of_ble_eq_true rfl⟩ ⟨Nat.zero_le _, Nat.zero_le _⟩ (Nat.le_of_ble_eq_true rfl) dX9_conductBeats_24) (fun H locs hH hL => ?_)
    exact q_end1 (m_iret X hr hH hL dX9_conductBeats_27)
  · refine lv_aload_n hx hb dX9_conductBeats_12 rfl (lv_at hl 0 rfl) ?_
    refine lv_iconst (v := 1) hx hb dX9_conductBeats_13 (by decide) ?_
    refine q_b1 (fun v12 M13 e11 => ?_)
    refine my_doneI hL (my_runV X hH hl.1 (co_X9_fails g l hst a0 1 M1 t0 v12 M13 e11) ok_X9_fails W1356 t0 rfl (by decide) rfl rfl rfl ⟨Nat.le_of_ble_eq_true rfl, Nat.le_of_ble_eq_true rfl⟩ ⟨Nat.zero_le _, Nat.zero_le _⟩ (Nat.le_of_ble_eq_true rfl) dX9_conductBeats_14) (fun H locs hH hL => ?_)
    exact q_end1 (m_iret X hr hH hL dX9_conductBeats_17)

set_option maxRecDepth 20000 in
set_option maxHeartbeats 4000000 in
theorem co_X9_asks (g : GP) (l : Launch) (hst : l.stackTraces = false) (a0 : Nat) (p1_ : Int32) (M : Mem) (t0 : tyT a0 = 9) (v : Int32) (M' : Mem) (hF : F_X9_asks a0 p1_ M = some (v, M')) : CO g l yX9_asks cX9_asks 2 (some .int) 0 0 rvI [.ref (adr g a0), .int p1_] M (.inl v : Int32 ⊕ String) M' := by
  refine CO_of hst (by decide) (Nat.le_of_ble_eq_true rfl) ?_
  intro p e s m below meth c ls X hr htb hH hL hl
  have hx := X.1
  have hb := X.2.1
  have hts := X.2.2.2.2.1
  refine q_out hF ?_
  rw [F_X9_asks]
  replace hl : lv_has ls 2 [(0, .ref (adr g a0)), (1, .int p1_)] := hl
  refine lv_aload_n hx hb dX9_asks_0 rfl (lv_at hl 0 rfl) ?_
  refine lv_iconst (v := 0) hx hb dX9_asks_1 (by decide) ?_
  refine q_lt (fun M1 e_M1 => ?_)
  refine m_pI (k := 0) X hH hL okC9 t0 rfl rfl rfl rfl W1284 dX9_asks_2 e_M1 (fun H locs hH hL => ?_)
  refine lv_aload_n hx hb dX9_asks_5 rfl (lv_at hl 0 rfl) ?_
  refine m_gR (k := 1) X hH inC9 t0 rfl W1285 dX9_asks_6 24 rfl (fun t2 => ?_)
  refine lv_iload_n hx hb dX9_asks_9 rfl (lv_at hl 1 rfl) ?_
  refine q_chk (fun hb3 => ?_)
  refine m_iald X hH t2 rfl (by decide) (fun _ => rfl) rfl rfl hb3 dX9_asks_10 ?_
  exact q_end1 (m_iret X hr hH hL dX9_asks_11)

set_option maxRecDepth 20000 in
set_option maxHeartbeats 4000000 in
theorem co_X9_beatCount (g : GP) (l : Launch) (hst : l.stackTraces = false) (a0 : Nat) (M : Mem) (t0 : tyT a0 = 9) (v : Int32) (M' : Mem) (hF : F_X9_beatCount a0 M = some (v, M')) : CO g l yX9_beatCount cX9_beatCount 1 (some .int) 1 21 rvI [.ref (adr g a0)] M (.inl v : Int32 ⊕ String) M' := by
  refine CO_of hst (by decide) (Nat.le_of_ble_eq_true rfl) ?_
  intro p e s m below meth c ls X hr htb hH hL hl
  have hx := X.1
  have hb := X.2.1
  have hts := X.2.2.2.2.1
  refine q_out hF ?_
  rw [F_X9_beatCount]
  replace hl : lv_has ls 1 [(0, .ref (adr g a0))] := hl
  refine lv_aload_n hx hb dX9_beatCount_0 rfl (lv_at hl 0 rfl) ?_
  refine lv_iconst (v := 1) hx hb dX9_beatCount_1 (by decide) ?_
  refine q_b1 (fun v2 M3 e1 => ?_)
  refine my_doneI hL (my_runV X hH hl.1 (co_X9_asks g l hst a0 1 M t0 v2 M3 e1) ok_X9_asks W1536 t0 rfl (by decide) rfl rfl rfl ⟨Nat.le_of_ble_eq_true rfl, Nat.le_of_ble_eq_true rfl⟩ ⟨Nat.zero_le _, Nat.zero_le _⟩ (Nat.le_of_ble_eq_true rfl) dX9_beatCount_2) (fun H locs hH hL => ?_)
  exact q_end1 (m_iret X hr hH hL dX9_beatCount_5)

set_option maxRecDepth 20000 in
set_option maxHeartbeats 4000000 in
theorem co_X9_sectionCount (g : GP) (l : Launch) (hst : l.stackTraces = false) (a0 : Nat) (M : Mem) (t0 : tyT a0 = 9) (v : Int32) (M' : Mem) (hF : F_X9_sectionCount a0 M = some (v, M')) : CO g l yX9_sectionCount cX9_sectionCount 1 (some .int) 1 21 rvI [.ref (adr g a0)] M (.inl v : Int32 ⊕ String) M' := by
  refine CO_of hst (by decide) (Nat.le_of_ble_eq_true rfl) ?_
  intro p e s m below meth c ls X hr htb hH hL hl
  have hx := X.1
  have hb := X.2.1
  have hts := X.2.2.2.2.1
  refine q_out hF ?_
  rw [F_X9_sectionCount]
  replace hl : lv_has ls 1 [(0, .ref (adr g a0))] := hl
  refine lv_aload_n hx hb dX9_sectionCount_0 rfl (lv_at hl 0 rfl) ?_
  refine lv_iconst (v := 0) hx hb dX9_sectionCount_1 (by decide) ?_
  refine q_b1 (fun v2 M3 e1 => ?_)
  refine my_doneI hL (my_runV X hH hl.1 (co_X9_asks g l hst a0 0 M t0 v2 M3 e1) ok_X9_asks W1536 t0 rfl (by decide) rfl rfl rfl ⟨Nat.le_of_ble_eq_true rfl, Nat.le_of_ble_eq_true rfl⟩ ⟨Nat.zero_le _, Nat.zero_le _⟩ (Nat.le_of_ble_eq_true rfl) dX9_sectionCount_2) (fun H locs hH hL => ?_)
  exact q_end1 (m_iret X hr hH hL dX9_sectionCount_5)

set_option maxRecDepth 20000 in
set_option maxHeartbeats 4000000 in
theorem co_X9_tempo (g : GP) (l : Launch) (hst : l.stackTraces = false) (a0 : Nat) (M : Mem) (t0 : tyT a0 = 9) (v : Int32) (M' : Mem) (hF : F_X9_tempo a0 M = some (v, M')) : CO g l yX9_tempo cX9_tempo 1 (some .int) 1 21 rvI [.ref (adr g a0)] M (.inl v : Int32 ⊕ String) M' := by
  refine CO_of hst (by decide) (Nat.le_of_ble_eq_true rfl) ?_
  intro p e s m below meth c ls X hr htb hH hL hl
  have hx := X.1
  have hb := X.2.1
  have hts := X.2.2.2.2.1
  refine q_out hF ?_
  rw [F_X9_tempo]
  replace hl : lv_has ls 1 [(0, .ref (adr g a0))] := hl
  refine lv_aload_n hx hb dX9_tempo_0 rfl (lv_at hl 0 rfl) ?_
  refine lv_iconst (v := 2) hx hb dX9_tempo_1 (by decide) ?_
  refine q_b1 (fun v2 M3 e1 => ?_)
  refine my_doneI hL (my_runV X hH hl.1 (co_X9_asks g l hst a0 2 M t0 v2 M3 e1) ok_X9_asks W1536 t0 rfl (by decide) rfl rfl rfl ⟨Nat.le_of_ble_eq_true rfl, Nat.le_of_ble_eq_true rfl⟩ ⟨Nat.zero_le _, Nat.zero_le _⟩ (Nat.le_of_ble_eq_true rfl) dX9_tempo_2) (fun H locs hH hL => ?_)
  exact q_end1 (m_iret X hr hH hL dX9_tempo_5)

set_option maxRecDepth 20000 in
set_option maxHeartbeats 4000000 in
theorem co_X9_limit (g : GP) (l : Launch) (hst : l.stackTraces = false) (a0 : Nat) (M : Mem) (t0 : tyT a0 = 9) (v : Int32) (M' : Mem) (hF : F_X9_limit a0 M = some (v, M')) : CO g l yX9_limit cX9_limit 1 (some .int) 1 21 rvI [.ref (adr g a0)] M (.inl v : Int32 ⊕ String) M' := by
  refine CO_of hst (by decide) (Nat.le_of_ble_eq_true rfl) ?_
  intro p e s m below meth c ls X hr htb hH hL hl
  have hx := X.1
  have hb := X.2.1
  have hts := X.2.2.2.2.1
  refine q_out hF ?_
  rw [F_X9_limit]
  replace hl : lv_has ls 1 [(0, .ref (adr g a0))] := hl
  refine lv_aload_n hx hb dX9_limit_0 rfl (lv_at hl 0 rfl) ?_
  refine lv_iconst (v := 3) hx hb dX9_limit_1 (by decide) ?_
  refine q_b1 (fun v2 M3 e1 => ?_)
  refine my_doneI hL (my_runV X hH hl.1 (co_X9_asks g l hst a0 3 M t0 v2 M3 e1) ok_X9_asks W1536 t0 rfl (by decide) rfl rfl rfl ⟨Nat.le_of_ble_eq_true rfl, Nat.le_of_ble_eq_true rfl⟩ ⟨Nat.zero_le _, Nat.zero_le _⟩ (Nat.le_of_ble_eq_true rfl) dX9_limit_2) (fun H locs hH hL => ?_)
  exact q_end1 (m_iret X hr hH hL dX9_limit_5)

set_option maxRecDepth 20000 in
set_option maxHeartbeats 4000000 in
theorem co_X9_asksSection (g : GP) (l : Launch) (hst : l.stackTraces = false) (a0 : Nat) (p1_ : Int32) (p2_ : Int32) (M : Mem) (t0 : tyT a0 = 9) (v : Int32) (M' : Mem) (hF : F_X9_asksSection a0 p1_ p2_ M = some (v, M')) : CO g l yX9_asksSection cX9_asksSection 3 (some .int) 2 43 rvI [.ref (adr g a0), .int p1_, .int p2_] M (.inl v : Int32 ⊕ String) M' := by
  refine CO_of hst (by decide) (Nat.le_of_ble_eq_true rfl) ?_
  intro p e s m below meth c ls X hr htb hH hL hl
  have hx := X.1
  have hb := X.2.1
  have hts := X.2.2.2.2.1
  refine q_out hF ?_
  rw [F_X9_asksSection]
  replace hl : lv_has ls 3 [(0, .ref (adr g a0)), (1, .int p1_), (2, .int p2_)] := hl
  refine lv_aload_n hx hb dX9_asksSection_0 rfl (lv_at hl 0 rfl) ?_
  refine lv_iconst (v := 0) hx hb dX9_asksSection_1 (by decide) ?_
  refine q_lt (fun M1 e_M1 => ?_)
  refine m_pI (k := 0) X hH hL okC9 t0 rfl rfl rfl rfl W1284 dX9_asksSection_2 e_M1 (fun H locs hH hL => ?_)
  refine lv_aload_n hx hb dX9_asksSection_5 rfl (lv_at hl 0 rfl) ?_
  refine lv_iload_n hx hb dX9_asksSection_6 rfl (lv_at hl 1 rfl) ?_
  refine q_bind (fun v3 e2 => ?_)
  refine my_doneI hL (my_runV X hH hl.1 (co_X9_isSection g l hst a0 p1_ M1 t0 v3 e2) ok_X9_isSection W1384 t0 rfl (by decide) rfl rfl rfl ⟨Nat.le_of_ble_eq_true rfl, Nat.le_of_ble_eq_true rfl⟩ ⟨Nat.zero_le _, Nat.zero_le _⟩ (Nat.le_of_ble_eq_true rfl) dX9_asksSection_7) (fun H locs hH hL => ?_)
  refine lv_if_eq (tgt := 22) hx hb dX9_asksSection_10 (by decide) (fun c4 => q_pos c4 ?_) (fun c4 => q_neg c4 ?_)
  · refine lv_aload_n hx hb dX9_asksSection_22 rfl (lv_at hl 0 rfl) ?_
    refine lv_iconst (v := 1) hx hb dX9_asksSection_23 (by decide) ?_
    refine q_b1 (fun v6 M7 e5 => ?_)
    refine my_doneI hL (my_runV X hH hl.1 (co_X9_fails g l hst a0 1 M1 t0 v6 M7 e5) ok_X9_fails W1356 t0 rfl (by decide) rfl rfl rfl ⟨Nat.le_of_ble_eq_true rfl, Nat.le_of_ble_eq_true rfl⟩ ⟨Nat.zero_le _, Nat.zero_le _⟩ (Nat.le_of_ble_eq_true rfl) dX9_asksSection_24) (fun H locs hH hL => ?_)
    exact q_end1 (m_iret X hr hH hL dX9_asksSection_27)
  · refine lv_aload_n hx hb dX9_asksSection_13 rfl (lv_at hl 0 rfl) ?_
    refine lv_iload_n hx hb dX9_asksSection_14 rfl (lv_at hl 1 rfl) ?_
    refine lv_iload_n hx hb dX9_asksSection_15 rfl (lv_at hl 2 rfl) ?_
    refine q_bind (fun v9 e8 => ?_)
    refine my_doneI hL (my_runV X hH hl.1 (co_X9_of g l hst a0 p1_ p2_ M1 t0 v9 e8) ok_X9_of W1404 t0 rfl (by decide) rfl rfl rfl ⟨Nat.le_of_ble_eq_true rfl, Nat.le_of_ble_eq_true rfl⟩ ⟨Nat.zero_le _, Nat.zero_le _⟩ (Nat.le_of_ble_eq_true rfl) dX9_asksSection_16) (fun H locs hH hL => ?_)
    refine lv_goto (tgt := 27) hx hb dX9_asksSection_19 (by decide) ?_
    exact q_end1 (m_iret X hr hH hL dX9_asksSection_27)

set_option maxRecDepth 20000 in
set_option maxHeartbeats 4000000 in
theorem co_X9_kind (g : GP) (l : Launch) (hst : l.stackTraces = false) (a0 : Nat) (p1_ : Int32) (M : Mem) (t0 : tyT a0 = 9) (v : Int32) (M' : Mem) (hF : F_X9_kind a0 p1_ M = some (v, M')) : CO g l yX9_kind cX9_kind 3 (some .char) 3 65 rvI [.ref (adr g a0), .int p1_] M (.inl v : Int32 ⊕ String) M' := by
  refine CO_of hst (by decide) (Nat.le_of_ble_eq_true rfl) ?_
  intro p e s m below meth c ls X hr htb hH hL hl
  have hx := X.1
  have hb := X.2.1
  have hts := X.2.2.2.2.1
  refine q_out hF ?_
  rw [F_X9_kind]
  replace hl : lv_has ls 3 [(0, .ref (adr g a0)), (1, .int p1_)] := hl
  refine lv_aload_n hx hb dX9_kind_0 rfl (lv_at hl 0 rfl) ?_
  refine lv_iload_n hx hb dX9_kind_1 rfl (lv_at hl 1 rfl) ?_
  refine lv_iconst (v := 0) hx hb dX9_kind_2 (by decide) ?_
  refine q_b1 (fun v2 M3 e1 => ?_)
  refine my_doneI hL (my_runV X hH hl.1 (co_X9_asksSection g l hst a0 p1_ 0 M t0 v2 M3 e1) ok_X9_asksSection W1556 t0 rfl (by decide) rfl rfl rfl ⟨Nat.le_of_ble_eq_true rfl, Nat.le_of_ble_eq_true rfl⟩ ⟨Nat.zero_le _, Nat.zero_le _⟩ (Nat.le_of_ble_eq_true rfl) dX9_kind_3) (fun H locs hH hL => ?_)
  refine lv_istore_n (lv' := [(2, .int v2), (0, .ref (adr g a0)), (1, .int p1_)]) hx hb dX9_kind_6 rfl hl (by decide) rfl (fun ls hl => ?_)
  refine lv_aload_n hx hb dX9_kind_7 rfl (lv_at hl 1 rfl) ?_
  refine m_gI (k := 0) X hH inC9 t0 rfl W1284 dX9_kind_8 ?_
  refine lv_if_eq (tgt := 16) hx hb dX9_kind_11 (by decide) (fun c4 => q_pos c4 ?_) (fun c4 => q_neg c4 ?_)
  · refine lv_iload_n hx hb dX9_kind_16 rfl (lv_at hl 0 rfl) ?_
    refine q_bind (fun v6 e5 => ?_)
    refine my_doneI hL (my_runS X hH hl.1 (co_X9_letterOf g l hst v2 M3 v6 e5) ok_X9_letterOf W1560 rfl rfl ⟨Nat.le_of_ble_eq_true rfl, Nat.le_of_ble_eq_true rfl⟩ ⟨Nat.zero_le _, Nat.zero_le _⟩ (Nat.le_of_ble_eq_true rfl) dX9_kind_17) (fun H locs hH hL => ?_)
    refine q_chk (fun hn7 => ?_)
    exact q_end1 (m_zret X hr hH hL (nokC_n hn7) dX9_kind_20)
  · refine lv_iconst (v := 0) hx hb dX9_kind_14 (by decide) ?_
    exact q_end1 (m_zret X hr hH hL (by decide) dX9_kind_15)

set_option maxRecDepth 20000 in
set_option maxHeartbeats 4000000 in
theorem co_X9_rows (g : GP) (l : Launch) (hst : l.stackTraces = false) (a0 : Nat) (p1_ : Int32) (M : Mem) (t0 : tyT a0 = 9) (v : Int32) (M' : Mem) (hF : F_X9_rows a0 p1_ M = some (v, M')) : CO g l yX9_rows cX9_rows 2 (some .int) 3 65 rvI [.ref (adr g a0), .int p1_] M (.inl v : Int32 ⊕ String) M' := by
  refine CO_of hst (by decide) (Nat.le_of_ble_eq_true rfl) ?_
  intro p e s m below meth c ls X hr htb hH hL hl
  have hx := X.1
  have hb := X.2.1
  have hts := X.2.2.2.2.1
  refine q_out hF ?_
  rw [F_X9_rows]
  replace hl : lv_has ls 2 [(0, .ref (adr g a0)), (1, .int p1_)] := hl
  refine lv_aload_n hx hb dX9_rows_0 rfl (lv_at hl 0 rfl) ?_
  refine lv_iload_n hx hb dX9_rows_1 rfl (lv_at hl 1 rfl) ?_
  refine lv_iconst (v := 1) hx hb dX9_rows_2 (by decide) ?_
  refine q_b1 (fun v2 M3 e1 => ?_)
  refine my_doneI hL (my_runV X hH hl.1 (co_X9_asksSection g l hst a0 p1_ 1 M t0 v2 M3 e1) ok_X9_asksSection W1556 t0 rfl (by decide) rfl rfl rfl ⟨Nat.le_of_ble_eq_true rfl, Nat.le_of_ble_eq_true rfl⟩ ⟨Nat.zero_le _, Nat.zero_le _⟩ (Nat.le_of_ble_eq_true rfl) dX9_rows_3) (fun H locs hH hL => ?_)
  exact q_end1 (m_iret X hr hH hL dX9_rows_6)

set_option maxRecDepth 20000 in
set_option maxHeartbeats 4000000 in
theorem co_X9_columns (g : GP) (l : Launch) (hst : l.stackTraces = false) (a0 : Nat) (p1_ : Int32) (M : Mem) (t0 : tyT a0 = 9) (v : Int32) (M' : Mem) (hF : F_X9_columns a0 p1_ M = some (v, M')) : CO g l yX9_columns cX9_columns 2 (some .int) 3 65 rvI [.ref (adr g a0), .int p1_] M (.inl v : Int32 ⊕ String) M' := by
  refine CO_of hst (by decide) (Nat.le_of_ble_eq_true rfl) ?_
  intro p e s m below meth c ls X hr htb hH hL hl
  have hx := X.1
  have hb := X.2.1
  have hts := X.2.2.2.2.1
  refine q_out hF ?_
  rw [F_X9_columns]
  replace hl : lv_has ls 2 [(0, .ref (adr g a0)), (1, .int p1_)] := hl
  refine lv_aload_n hx hb dX9_columns_0 rfl (lv_at hl 0 rfl) ?_
  refine lv_iload_n hx hb dX9_columns_1 rfl (lv_at hl 1 rfl) ?_
  refine lv_iconst (v := 2) hx hb dX9_columns_2 (by decide) ?_
  refine q_b1 (fun v2 M3 e1 => ?_)
  refine my_doneI hL (my_runV X hH hl.1 (co_X9_asksSection g l hst a0 p1_ 2 M t0 v2 M3 e1) ok_X9_asksSection W1556 t0 rfl (by decide) rfl rfl rfl ⟨Nat.le_of_ble_eq_true rfl, Nat.le_of_ble_eq_true rfl⟩ ⟨Nat.zero_le _, Nat.zero_le _⟩ (Nat.le_of_ble_eq_true rfl) dX9_columns_3) (fun H locs hH hL => ?_)
  exact q_end1 (m_iret X hr hH hL dX9_columns_6)

set_option maxRecDepth 20000 in
set_option maxHeartbeats 4000000 in
theorem co_X9_note (g : GP) (l : Launch) (hst : l.stackTraces = false) (a0 : Nat) (p1_ : Int32) (p2_ : Int32) (p3_ : Int32) (M : Mem) (t0 : tyT a0 = 9) (v : Int32) (M' : Mem) (hF : F_X9_note a0 p1_ p2_ p3_ M = some (v, M')) : CO g l yX9_note cX9_note 4 (some .int) 3 66 rvI [.ref (adr g a0), .int p1_, .int p2_, .int p3_] M (.inl v : Int32 ⊕ String) M' := by
  refine CO_of hst (by decide) (Nat.le_of_ble_eq_true rfl) ?_
  intro p e s m below meth c ls X hr htb hH hL hl
  have hx := X.1
  have hb := X.2.1
  have hts := X.2.2.2.2.1
  refine q_out hF ?_
  rw [F_X9_note]
  replace hl : lv_has ls 4 [(0, .ref (adr g a0)), (1, .int p1_), (2, .int p2_), (3, .int p3_)] := hl
  refine lv_aload_n hx hb dX9_note_0 rfl (lv_at hl 0 rfl) ?_
  refine lv_iconst (v := 0) hx hb dX9_note_1 (by decide) ?_
  refine q_lt (fun M1 e_M1 => ?_)
  refine m_pI (k := 0) X hH hL okC9 t0 rfl rfl rfl rfl W1284 dX9_note_2 e_M1 (fun H locs hH hL => ?_)
  refine lv_aload_n hx hb dX9_note_5 rfl (lv_at hl 0 rfl) ?_
  refine lv_iload_n hx hb dX9_note_6 rfl (lv_at hl 1 rfl) ?_
  refine lv_iload_n hx hb dX9_note_7 rfl (lv_at hl 2 rfl) ?_
  refine lv_iload_n hx hb dX9_note_8 rfl (lv_at hl 3 rfl) ?_
  refine q_bind (fun v3 e2 => ?_)
  refine my_doneI hL (my_runV X hH hl.1 (co_X9_isCell g l hst a0 p1_ p2_ p3_ M1 t0 v3 e2) ok_X9_isCell W1400 t0 rfl (by decide) rfl rfl rfl ⟨Nat.le_of_ble_eq_true rfl, Nat.le_of_ble_eq_true rfl⟩ ⟨Nat.zero_le _, Nat.zero_le _⟩ (Nat.le_of_ble_eq_true rfl) dX9_note_9) (fun H locs hH hL => ?_)
  refine lv_if_eq (tgt := 25) hx hb dX9_note_12 (by decide) (fun c4 => q_pos c4 ?_) (fun c4 => q_neg c4 ?_)
  · refine lv_aload_n hx hb dX9_note_25 rfl (lv_at hl 0 rfl) ?_
    refine lv_iconst (v := 1) hx hb dX9_note_26 (by decide) ?_
    refine q_b1 (fun v6 M7 e5 => ?_)
    refine my_doneI hL (my_runV X hH hl.1 (co_X9_fails g l hst a0 1 M1 t0 v6 M7 e5) ok_X9_fails W1356 t0 rfl (by decide) rfl rfl rfl ⟨Nat.le_of_ble_eq_true rfl, Nat.le_of_ble_eq_true rfl⟩ ⟨Nat.zero_le _, Nat.zero_le _⟩ (Nat.le_of_ble_eq_true rfl) dX9_note_27) (fun H locs hH hL => ?_)
    exact q_end1 (m_iret X hr hH hL dX9_note_30)
  · refine lv_aload_n hx hb dX9_note_15 rfl (lv_at hl 0 rfl) ?_
    refine lv_iload_n hx hb dX9_note_16 rfl (lv_at hl 1 rfl) ?_
    refine lv_iload_n hx hb dX9_note_17 rfl (lv_at hl 2 rfl) ?_
    refine lv_iload_n hx hb dX9_note_18 rfl (lv_at hl 3 rfl) ?_
    refine q_bind (fun v9 e8 => ?_)
    refine my_doneI hL (my_runV X hH hl.1 (co_X9_noteAt g l hst a0 p1_ p2_ p3_ M1 t0 v9 e8) ok_X9_noteAt W1412 t0 rfl (by decide) rfl rfl rfl ⟨Nat.le_of_ble_eq_true rfl, Nat.le_of_ble_eq_true rfl⟩ ⟨Nat.zero_le _, Nat.zero_le _⟩ (Nat.le_of_ble_eq_true rfl) dX9_note_19) (fun H locs hH hL => ?_)
    refine lv_goto (tgt := 30) hx hb dX9_note_22 (by decide) ?_
    exact q_end1 (m_iret X hr hH hL dX9_note_30)

set_option maxRecDepth 20000 in
set_option maxHeartbeats 4000000 in
theorem co_X9_isMasked (g : GP) (l : Launch) (hst : l.stackTraces = false) (a0 : Nat) (p1_ : Int32) (p2_ : Int32) (M : Mem) (t0 : tyT a0 = 9) (v : Int32) (M' : Mem) (hF : F_X9_isMasked a0 p1_ p2_ M = some (v, M')) : CO g l yX9_isMasked cX9_isMasked 4 (some .boolean) 3 65 rvI [.ref (adr g a0), .int p1_, .int p2_] M (.inl v : Int32 ⊕ String) M' := by
  refine CO_of hst (by decide) (Nat.le_of_ble_eq_true rfl) ?_
  intro p e s m below meth c ls X hr htb hH hL hl
  have hx := X.1
  have hb := X.2.1
  have hts := X.2.2.2.2.1
  refine q_out hF ?_
  rw [F_X9_isMasked]
  replace hl : lv_has ls 4 [(0, .ref (adr g a0)), (1, .int p1_), (2, .int p2_)] := hl
  refine lv_aload_n hx hb dX9_isMasked_0 rfl (lv_at hl 0 rfl) ?_
  refine lv_iconst (v := 0) hx hb dX9_isMasked_1 (by decide) ?_
  refine q_lt (fun M1 e_M1 => ?_)
  refine m_pI (k := 0) X hH hL okC9 t0 rfl rfl rfl rfl W1284 dX9_isMasked_2 e_M1 (fun H locs hH hL => ?_)
  refine lv_aload_n hx hb dX9_isMasked_5 rfl (lv_at hl 0 rfl) ?_
  refine lv_iload_n hx hb dX9_isMasked_6 rfl (lv_at hl 1 rfl) ?_
  refine lv_iload_n hx hb dX9_isMasked_7 rfl (lv_at hl 2 rfl) ?_
  refine q_bind (fun v3 e2 => ?_)
  refine my_doneI hL (my_runV X hH hl.1 (co_X9_notMask g l hst a0 p1_ p2_ M1 t0 v3 e2) ok_X9_notMask W1424 t0 rfl (by decide) rfl rfl rfl ⟨Nat.le_of_ble_eq_true rfl, Nat.le_of_ble_eq_true rfl⟩ ⟨Nat.zero_le _, Nat.zero_le _⟩ (Nat.le_of_ble_eq_true rfl) dX9_isMasked_8) (fun H locs hH hL => ?_)
  refine lv_istore_n (lv' := [(3, .int v3), (0, .ref (adr g a0)), (1, .int p1_), (2, .int p2_)]) hx hb dX9_isMasked_11 rfl hl (by decide) rfl (fun ls hl => ?_)
  refine lv_iload_n hx hb dX9_isMasked_12 rfl (lv_at hl 0 rfl) ?_
  refine lv_if_eq (tgt := 30) hx hb dX9_isMasked_13 (by decide) (fun c4 => q_pos c4 ?_) (fun c4 => q_neg c4 ?_)
  · refine lv_aload_n hx hb dX9_isMasked_30 rfl (lv_at hl 1 rfl) ?_
    refine lv_iload_n hx hb dX9_isMasked_31 rfl (lv_at hl 2 rfl) ?_
    refine lv_iload_n hx hb dX9_isMasked_32 rfl (lv_at hl 3 rfl) ?_
    refine q_bind (fun v6 e5 => ?_)
    refine my_doneI hL (my_runV X hH hl.1 (co_X9_isMaskedAt g l hst a0 p1_ p2_ M1 t0 v6 e5) ok_X9_isMaskedAt W1432 t0 rfl (by decide) rfl rfl rfl ⟨Nat.le_of_ble_eq_true rfl, Nat.le_of_ble_eq_true rfl⟩ ⟨Nat.zero_le _, Nat.zero_le _⟩ (Nat.le_of_ble_eq_true rfl) dX9_isMasked_33) (fun H locs hH hL => ?_)
    refine q_chk (fun hn7 => ?_)
    exact q_end1 (m_zret X hr hH hL (nokZ_n hn7) dX9_isMasked_36)
  · refine lv_aload_n hx hb dX9_isMasked_16 rfl (lv_at hl 1 rfl) ?_
    refine lv_iload_n hx hb dX9_isMasked_17 rfl (lv_at hl 0 rfl) ?_
    refine q_b1 (fun v9 M10 e8 => ?_)
    refine my_doneI hL (my_runV X hH hl.1 (co_X9_fails g l hst a0 v3 M1 t0 v9 M10 e8) ok_X9_fails W1356 t0 rfl (by decide) rfl rfl rfl ⟨Nat.le_of_ble_eq_true rfl, Nat.le_of_ble_eq_true rfl⟩ ⟨Nat.zero_le _, Nat.zero_le _⟩ (Nat.le_of_ble_eq_true rfl) dX9_isMasked_18) (fun H locs hH hL => ?_)
    refine lv_if_le (tgt := 28) hx hb dX9_isMasked_21 (by decide) (fun c11 => q_pos c11 ?_) (fun c11 => q_neg c11 ?_)
    · refine lv_iconst (v := 0) hx hb dX9_isMasked_28 (by decide) ?_
      exact q_end1 (m_zret X hr hH hL (by decide) dX9_isMasked_29)
    · refine lv_iconst (v := 1) hx hb dX9_isMasked_24 (by decide) ?_
      refine lv_goto (tgt := 29) hx hb dX9_isMasked_25 (by decide) ?_
      exact q_end1 (m_zret X hr hH hL (by decide) dX9_isMasked_29)

set_option maxRecDepth 20000 in
set_option maxHeartbeats 4000000 in
theorem co_X9_fatigue (g : GP) (l : Launch) (hst : l.stackTraces = false) (a0 : Nat) (p1_ : Int32) (M : Mem) (t0 : tyT a0 = 9) (v : Int32) (M' : Mem) (hF : F_X9_fatigue a0 p1_ M = some (v, M')) : CO g l yX9_fatigue cX9_fatigue 2 (some .int) 3 65 rvI [.ref (adr g a0), .int p1_] M (.inl v : Int32 ⊕ String) M' := by
  refine CO_of hst (by decide) (Nat.le_of_ble_eq_true rfl) ?_
  intro p e s m below meth c ls X hr htb hH hL hl
  have hx := X.1
  have hb := X.2.1
  have hts := X.2.2.2.2.1
  refine q_out hF ?_
  rw [F_X9_fatigue]
  replace hl : lv_has ls 2 [(0, .ref (adr g a0)), (1, .int p1_)] := hl
  refine lv_aload_n hx hb dX9_fatigue_0 rfl (lv_at hl 0 rfl) ?_
  refine lv_iload_n hx hb dX9_fatigue_1 rfl (lv_at hl 1 rfl) ?_
  refine lv_iconst (v := 4) hx hb dX9_fatigue_2 (by decide) ?_
  refine q_b1 (fun v2 M3 e1 => ?_)
  refine my_doneI hL (my_runV X hH hl.1 (co_X9_asksSection g l hst a0 p1_ 4 M t0 v2 M3 e1) ok_X9_asksSection W1556 t0 rfl (by decide) rfl rfl rfl ⟨Nat.le_of_ble_eq_true rfl, Nat.le_of_ble_eq_true rfl⟩ ⟨Nat.zero_le _, Nat.zero_le _⟩ (Nat.le_of_ble_eq_true rfl) dX9_fatigue_3) (fun H locs hH hL => ?_)
  exact q_end1 (m_iret X hr hH hL dX9_fatigue_6)

set_option maxRecDepth 20000 in
set_option maxHeartbeats 4000000 in
theorem co_X9_restingBeats (g : GP) (l : Launch) (hst : l.stackTraces = false) (a0 : Nat) (p1_ : Int32) (M : Mem) (t0 : tyT a0 = 9) (v : Int32) (M' : Mem) (hF : F_X9_restingBeats a0 p1_ M = some (v, M')) : CO g l yX9_restingBeats cX9_restingBeats 2 (some .int) 3 65 rvI [.ref (adr g a0), .int p1_] M (.inl v : Int32 ⊕ String) M' := by
  refine CO_of hst (by decide) (Nat.le_of_ble_eq_true rfl) ?_
  intro p e s m below meth c ls X hr htb hH hL hl
  have hx := X.1
  have hb := X.2.1
  have hts := X.2.2.2.2.1
  refine q_out hF ?_
  rw [F_X9_restingBeats]
  replace hl : lv_has ls 2 [(0, .ref (adr g a0)), (1, .int p1_)] := hl
  refine lv_aload_n hx hb dX9_restingBeats_0 rfl (lv_at hl 0 rfl) ?_
  refine lv_iload_n hx hb dX9_restingBeats_1 rfl (lv_at hl 1 rfl) ?_
  refine lv_iconst (v := 5) hx hb dX9_restingBeats_2 (by decide) ?_
  refine q_b1 (fun v2 M3 e1 => ?_)
  refine my_doneI hL (my_runV X hH hl.1 (co_X9_asksSection g l hst a0 p1_ 5 M t0 v2 M3 e1) ok_X9_asksSection W1556 t0 rfl (by decide) rfl rfl rfl ⟨Nat.le_of_ble_eq_true rfl, Nat.le_of_ble_eq_true rfl⟩ ⟨Nat.zero_le _, Nat.zero_le _⟩ (Nat.le_of_ble_eq_true rfl) dX9_restingBeats_3) (fun H locs hH hL => ?_)
  exact q_end1 (m_iret X hr hH hL dX9_restingBeats_6)

