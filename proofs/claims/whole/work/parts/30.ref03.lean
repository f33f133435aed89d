set_option maxRecDepth 20000 in
set_option maxHeartbeats 4000000 in
theorem co_X9_isSymmetric (g : GP) (l : Launch) (hst : l.stackTraces = false) (a0 : Nat) (p1_ : Int32) (M : Mem) (t0 : tyT a0 = 9) (v : Int32) (M' : Mem) (hF : F_X9_isSymmetric a0 p1_ M = some (v, M')) : CO g l yX9_isSymmetric cX9_isSymmetric 4 (some .boolean) 2 45 rvI [.ref (adr g a0), .int p1_] M (.inl v : Int32 ⊕ String) M' := by
  refine CO_of hst (by decide) (Nat.le_of_ble_eq_true rfl) ?_
  intro p e s m below meth c ls X hr htb hH hL hl
  have hx := X.1
  have hb := X.2.1
  have hts := X.2.2.2.2.1
  refine q_out hF ?_
  rw [F_X9_isSymmetric]
  replace hl : lv_has ls 4 [(0, .ref (adr g a0)), (1, .int p1_)] := hl
  refine lv_aload_n hx hb dX9_isSymmetric_0 rfl (lv_at hl 0 rfl) ?_
  refine lv_iconst (v := 0) hx hb dX9_isSymmetric_1 (by decide) ?_
  refine q_lt (fun M1 e_M1 => ?_)
  refine m_pI (k := 0) X hH hL okC9 t0 rfl rfl rfl rfl W1284 dX9_isSymmetric_2 e_M1 (fun H locs hH hL => ?_)
  refine lv_aload_n hx hb dX9_isSymmetric_5 rfl (lv_at hl 0 rfl) ?_
  refine lv_iload_n hx hb dX9_isSymmetric_6 rfl (lv_at hl 1 rfl) ?_
  refine q_bind (fun v3 e2 => ?_)
  refine my_doneI hL (my_runV X hH hl.1 (co_X9_isSection g l hst a0 p1_ M1 t0 v3 e2) ok_X9_isSection W1384 t0 rfl (by decide) rfl rfl rfl ⟨Nat.le_of_ble_eq_true rfl, Nat.le_of_ble_eq_true rfl⟩ ⟨Nat.zero_le _, Nat.zero_le _⟩ (Nat.le_of_ble_eq_true rfl) dX9_isSymmetric_7) (fun H locs hH hL => ?_)
  refine lv_if_ne (tgt := 27) hx hb dX9_isSymmetric_10 (by decide) (fun c4 => q_neg c4 ?_) (fun c4 => q_pos c4 ?_)
  · refine lv_aload_n hx hb dX9_isSymmetric_27 rfl (lv_at hl 0 rfl) ?_
    refine lv_iload_n hx hb dX9_isSymmetric_28 rfl (lv_at hl 1 rfl) ?_
    refine lv_iconst (v := 1) hx hb dX9_isSymmetric_29 (by decide) ?_
    refine q_bind (fun v6 e5 => ?_)
    refine my_doneI hL (my_runV X hH hl.1 (co_X9_of g l hst a0 p1_ 1 M1 t0 v6 e5) ok_X9_of W1404 t0 rfl (by decide) rfl rfl rfl ⟨Nat.le_of_ble_eq_true rfl, Nat.le_of_ble_eq_true rfl⟩ ⟨Nat.zero_le _, Nat.zero_le _⟩ (Nat.le_of_ble_eq_true rfl) dX9_isSymmetric_30) (fun H locs hH hL => ?_)
    refine lv_aload_n hx hb dX9_isSymmetric_33 rfl (lv_at hl 0 rfl) ?_
    refine lv_iload_n hx hb dX9_isSymmetric_34 rfl (lv_at hl 1 rfl) ?_
    refine lv_iconst (v := 2) hx hb dX9_isSymmetric_35 (by decide) ?_
    refine q_bind (fun v8 e7 => ?_)
    refine my_doneI hL (my_runV X hH hl.1 (co_X9_of g l hst a0 p1_ 2 M1 t0 v8 e7) ok_X9_of W1404 t0 rfl (by decide) rfl rfl rfl ⟨Nat.le_of_ble_eq_true rfl, Nat.le_of_ble_eq_true rfl⟩ ⟨Nat.zero_le _, Nat.zero_le _⟩ (Nat.le_of_ble_eq_true rfl) dX9_isSymmetric_36) (fun H locs hH hL => ?_)
    refine lv_icmp_eq (tgt := 44) hx hb dX9_isSymmetric_39 (by decide) (fun c9 => q_pos c9 ?_) (fun c9 => q_neg c9 ?_)
    · refine lv_iconst (v := 0) hx hb dX9_isSymmetric_44 (by decide) ?_
      refine lv_istore_n (lv' := [(2, .int 0), (0, .ref (adr g a0)), (1, .int p1_)]) hx hb dX9_isSymmetric_45 rfl hl (by decide) rfl (fun ls hl => ?_)
      have L27 : ∀ (K : Int32 → Option (Int32 × Mem)) (_ : ∀ (i10 : Int32) (H : Heap) (locs : List Loc) (ls : Array Slot), HR g M1 H → LK g s H locs → lv_has ls 4 [(0, .ref (adr g a0)), (1, .int p1_), (2, .int i10)] → W p l e (rmO (.inl v : Int32 ⊕ String) 2 45) s m ([.ref (adr g a0), .int p1_] : List Value).toArray below meth c H locs 0 0 (GQ (K i10) (v, M') (MQO g below rvI (.inl v : Int32 ⊕ String) M' ([.ref (adr g a0), .int p1_] : List Value).toArray s)) (F0 m 94 ls [])) (n : Nat) (i10 : Int32) (H : Heap) (locs : List Loc) (ls : Array Slot), HR g M1 H → LK g s H locs → lv_has ls 4 [(0, .ref (adr g a0)), (1, .int p1_), (2, .int i10)] → W p l e (rmO (.inl v : Int32 ⊕ String) 2 45) s m ([.ref (adr g a0), .int p1_] : List Value).toArray below meth c H locs 0 0 (GQ (F_X9_isSymmetric_L1 a0 p1_ M1 K n i10) (v, M') (MQO g below rvI (.inl v : Int32 ⊕ String) M' ([.ref (adr g a0), .int p1_] : List Value).toArray s)) (F0 m 46 ls []) := by
        intro K hK n
        induction n with
        | zero => intros; exact q_none
        | succ n ih =>
          intro i10 H locs ls hH hL hl 
          rw [F_X9_isSymmetric_L1]
          refine lv_iload_n hx hb dX9_isSymmetric_46 rfl (lv_at hl 2 rfl) ?_
          refine lv_aload_n hx hb dX9_isSymmetric_47 rfl (lv_at hl 0 rfl) ?_
          refine lv_iload_n hx hb dX9_isSymmetric_48 rfl (lv_at hl 1 rfl) ?_
          refine lv_iconst (v := 1) hx hb dX9_isSymmetric_49 (by decide) ?_
          refine q_bind (fun v13 e12 => ?_)
          refine my_doneI hL (my_runV X hH hl.1 (co_X9_of g l hst a0 p1_ 1 M1 t0 v13 e12) ok_X9_of W1404 t0 rfl (by decide) rfl rfl rfl ⟨Nat.le_of_ble_eq_true rfl, Nat.le_of_ble_eq_true rfl⟩ ⟨Nat.zero_le _, Nat.zero_le _⟩ (Nat.le_of_ble_eq_true rfl) dX9_isSymmetric_50) (fun H locs hH hL => ?_)
          refine lv_icmp_ge (tgt := 94) hx hb dX9_isSymmetric_53 (by decide) (fun c14 => q_pos c14 ?_) (fun c14 => q_neg c14 ?_)
          · exact hK i10 _ _ ls hH hL hl 
          · refine lv_iconst (v := 0) hx hb dX9_isSymmetric_56 (by decide) ?_
            refine lv_istore_n (lv' := [(3, .int 0), (0, .ref (adr g a0)), (1, .int p1_), (2, .int i10)]) hx hb dX9_isSymmetric_57 rfl hl (by decide) rfl (fun ls hl => ?_)
            have L24 : ∀ (K : Int32 → Option (Int32 × Mem)) (_ : ∀ (i15 : Int32) (H : Heap) (locs : List Loc) (ls : Array Slot), HR g M1 H → LK g s H locs → lv_has ls 4 [(0, .ref (adr g a0)), (1, .int p1_), (2, .int i10), (3, .int i15)] → W p l e (rmO (.inl v : Int32 ⊕ String) 2 45) s m ([.ref (adr g a0), .int p1_] : List Value).toArray below meth c H locs 0 0 (GQ (K i15) (v, M') (MQO g below rvI (.inl v : Int32 ⊕ String) M' ([.ref (adr g a0), .int p1_] : List Value).toArray s)) (F0 m 88 ls [])) (n : Nat) (i15 : Int32) (H : Heap) (locs : List Loc) (ls : Array Slot), HR g M1 H → LK g s H locs → lv_has ls 4 [(0, .ref (adr g a0)), (1, .int p1_), (2, .int i10), (3, .int i15)] → W p l e (rmO (.inl v : Int32 ⊕ String) 2 45) s m ([.ref (adr g a0), .int p1_] : List Value).toArray below meth c H locs 0 0 (GQ (F_X9_isSymmetric_L2 a0 p1_ M1 i10 K n i15) (v, M') (MQO g below rvI (.inl v : Int32 ⊕ String) M' ([.ref (adr g a0), .int p1_] : List Value).toArray s)) (F0 m 58 ls []) := by
              intro K hK n
              induction n with
              | zero => intros; exact q_none
              | succ n ih =>
                intro i15 H locs ls hH hL hl 
                rw [F_X9_isSymmetric_L2]
                refine lv_iload_n hx hb dX9_isSymmetric_58 rfl (lv_at hl 3 rfl) ?_
                refine lv_iload_n hx hb dX9_isSymmetric_59 rfl (lv_at hl 2 rfl) ?_
                refine lv_icmp_ge (tgt := 88) hx hb dX9_isSymmetric_60 (by decide) (fun c17 => q_pos c17 ?_) (fun c17 => q_neg c17 ?_)
                · exact hK i15 _ _ ls hH hL hl 
                · refine lv_aload_n hx hb dX9_isSymmetric_63 rfl (lv_at hl 0 rfl) ?_
                  refine lv_iload_n hx hb dX9_isSymmetric_64 rfl (lv_at hl 1 rfl) ?_
                  refine lv_iload_n hx hb dX9_isSymmetric_65 rfl (lv_at hl 2 rfl) ?_
                  refine lv_iload_n hx hb dX9_isSymmetric_66 rfl (lv_at hl 3 rfl) ?_
                  refine q_bind (fun v19 e18 => ?_)
                  refine my_doneI hL (my_runV X hH hl.1 (co_X9_noteAt g l hst a0 p1_ i10 i15 M1 t0 v19 e18) ok_X9_noteAt W1412 t0 rfl (by decide) rfl rfl rfl ⟨Nat.le_of_ble_eq_true rfl, Nat.le_of_ble_eq_true rfl⟩ ⟨Nat.zero_le _, Nat.zero_le _⟩ (Nat.le_of_ble_eq_true rfl) dX9_isSymmetric_67) (fun H locs hH hL => ?_)
                  refine lv_aload_n hx hb dX9_isSymmetric_70 rfl (lv_at hl 0 rfl) ?_
                  refine lv_iload_n hx hb dX9_isSymmetric_71 rfl (lv_at hl 1 rfl) ?_
                  refine lv_iload_n hx hb dX9_isSymmetric_72 rfl (lv_at hl 3 rfl) ?_
                  refine lv_iload_n hx hb dX9_isSymmetric_73 rfl (lv_at hl 2 rfl) ?_
                  refine q_bind (fun v21 e20 => ?_)
                  refine my_doneI hL (my_runV X hH hl.1 (co_X9_noteAt g l hst a0 p1_ i15 i10 M1 t0 v21 e20) ok_X9_noteAt W1412 t0 rfl (by decide) rfl rfl rfl ⟨Nat.le_of_ble_eq_true rfl, Nat.le_of_ble_eq_true rfl⟩ ⟨Nat.zero_le _, Nat.zero_le _⟩ (Nat.le_of_ble_eq_true rfl) dX9_isSymmetric_74) (fun H locs hH hL => ?_)
                  refine lv_icmp_eq (tgt := 82) hx hb dX9_isSymmetric_77 (by decide) (fun c22 => q_pos c22 ?_) (fun c22 => q_neg c22 ?_)
                  · refine q_lt (fun v23 e_v23 => ?_)
                    refine lv_iinc (v := v23) (lv' := [(3, .int v23), (0, .ref (adr g a0)), (1, .int p1_), (2, .int i10)]) hx hb dX9_isSymmetric_82 hl (k := 3) rfl (by rw [e_v23]; rfl) (by decide) rfl (fun ls hl => ?_)
                    refine lv_goto (tgt := 58) hx hb dX9_isSymmetric_85 (by decide) ?_
                    exact ih v23 _ _ ls hH hL (lv_sub hl [1, 2, 3, 0] rfl) 
                  · refine lv_iconst (v := 0) hx hb dX9_isSymmetric_80 (by decide) ?_
                    exact q_end1 (m_zret X hr hH hL (by decide) dX9_isSymmetric_81)
            refine L24 _ (fun x25 H locs ls hH hL hl  => ?_) 3000 0 _ _ ls hH hL (lv_sub hl [1, 2, 3, 0] rfl) 
            refine q_lt (fun v26 e_v26 => ?_)
            refine lv_iinc (v := v26) (lv' := [(2, .int v26), (0, .ref (adr g a0)), (1, .int p1_), (3, .int x25)]) hx hb dX9_isSymmetric_88 hl (k := 2) rfl (by rw [e_v26]; rfl) (by decide) rfl (fun ls hl => ?_)
            refine lv_goto (tgt := 46) hx hb dX9_isSymmetric_91 (by decide) ?_
            exact ih v26 _ _ ls hH hL (lv_sub hl [1, 2, 0] rfl) 
      refine L27 _ (fun x28 H locs ls hH hL hl  => ?_) 3000 0 _ _ ls hH hL (lv_sub hl [1, 2, 0] rfl) 
      refine lv_iconst (v := 1) hx hb dX9_isSymmetric_94 (by decide) ?_
      exact q_end1 (m_zret X hr hH hL (by decide) dX9_isSymmetric_95)
    · refine lv_iconst (v := 0) hx hb dX9_isSymmetric_42 (by decide) ?_
      exact q_end1 (m_zret X hr hH hL (by decide) dX9_isSymmetric_43)
  · refine lv_aload_n hx hb dX9_isSymmetric_13 rfl (lv_at hl 0 rfl) ?_
    refine lv_iconst (v := 1) hx hb dX9_isSymmetric_14 (by decide) ?_
    refine q_b1 (fun v30 M31 e29 => ?_)
    refine my_doneI hL (my_runV X hH hl.1 (co_X9_fails g l hst a0 1 M1 t0 v30 M31 e29) ok_X9_fails W1356 t0 rfl (by decide) rfl rfl rfl ⟨Nat.le_of_ble_eq_true rfl, Nat.le_of_ble_eq_true rfl⟩ ⟨Nat.zero_le _, Nat.zero_le _⟩ (Nat.le_of_ble_eq_true rfl) dX9_isSymmetric_15) (fun H locs hH hL => ?_)
    refine lv_if_le (tgt := 25) hx hb dX9_isSymmetric_18 (by decide) (fun c32 => q_pos c32 ?_) (fun c32 => q_neg c32 ?_)
    · refine lv_iconst (v := 0) hx hb dX9_isSymmetric_25 (by decide) ?_
      exact q_end1 (m_zret X hr hH hL (by decide) dX9_isSymmetric_26)
    · refine lv_iconst (v := 1) hx hb dX9_isSymmetric_21 (by decide) ?_
      refine lv_goto (tgt := 26) hx hb dX9_isSymmetric_22 (by decide) ?_
      exact q_end1 (m_zret X hr hH hL (by decide) dX9_isSymmetric_26)

set_option maxRecDepth 20000 in
set_option maxHeartbeats 4000000 in
theorem co_X9_areAlike (g : GP) (l : Launch) (hst : l.stackTraces = false) (a0 : Nat) (p1_ : Int32) (p2_ : Int32) (M : Mem) (t0 : tyT a0 = 9) (v : Int32) (M' : Mem) (hF : F_X9_areAlike a0 p1_ p2_ M = some (v, M')) : CO g l yX9_areAlike cX9_areAlike 4 (some .boolean) 2 43 rvI [.ref (adr g a0), .int p1_, .int p2_] M (.inl v : Int32 ⊕ String) M' := by
  refine CO_of hst (by decide) (Nat.le_of_ble_eq_true rfl) ?_
  intro p e s m below meth c ls X hr htb hH hL hl
  have hx := X.1
  have hb := X.2.1
  have hts := X.2.2.2.2.1
  refine q_out hF ?_
  rw [F_X9_areAlike]
  replace hl : lv_has ls 4 [(0, .ref (adr g a0)), (1, .int p1_), (2, .int p2_)] := hl
  refine lv_aload_n hx hb dX9_areAlike_0 rfl (lv_at hl 0 rfl) ?_
  refine lv_iconst (v := 0) hx hb dX9_areAlike_1 (by decide) ?_
  refine q_lt (fun M1 e_M1 => ?_)
  refine m_pI (k := 0) X hH hL okC9 t0 rfl rfl rfl rfl W1284 dX9_areAlike_2 e_M1 (fun H locs hH hL => ?_)
  refine lv_aload_n hx hb dX9_areAlike_5 rfl (lv_at hl 0 rfl) ?_
  refine lv_iload_n hx hb dX9_areAlike_6 rfl (lv_at hl 1 rfl) ?_
  refine q_bind (fun v3 e2 => ?_)
  refine my_doneI hL (my_runV X hH hl.1 (co_X9_isSection g l hst a0 p1_ M1 t0 v3 e2) ok_X9_isSection W1384 t0 rfl (by decide) rfl rfl rfl ⟨Nat.le_of_ble_eq_true rfl, Nat.le_of_ble_eq_true rfl⟩ ⟨Nat.zero_le _, Nat.zero_le _⟩ (Nat.le_of_ble_eq_true rfl) dX9_areAlike_7) (fun H locs hH hL => ?_)
  refine lv_if_eq (tgt := 21) hx hb dX9_areAlike_10 (by decide) (fun c4 => q_pos c4 ?_) (fun c4 => q_neg c4 ?_)
  · refine lv_aload_n hx hb dX9_areAlike_21 rfl (lv_at hl 0 rfl) ?_
    refine lv_iconst (v := 1) hx hb dX9_areAlike_22 (by decide) ?_
    refine q_b1 (fun v6 M7 e5 => ?_)
    refine my_doneI hL (my_runV X hH hl.1 (co_X9_fails g l hst a0 1 M1 t0 v6 M7 e5) ok_X9_fails W1356 t0 rfl (by decide) rfl rfl rfl ⟨Nat.le_of_ble_eq_true rfl, Nat.le_of_ble_eq_true rfl⟩ ⟨Nat.zero_le _, Nat.zero_le _⟩ (Nat.le_of_ble_eq_true rfl) dX9_areAlike_23) (fun H locs hH hL => ?_)
    refine lv_if_le (tgt := 33) hx hb dX9_areAlike_26 (by decide) (fun c8 => q_pos c8 ?_) (fun c8 => q_neg c8 ?_)
    · refine lv_iconst (v := 0) hx hb dX9_areAlike_33 (by decide) ?_
      exact q_end1 (m_zret X hr hH hL (by decide) dX9_areAlike_34)
    · refine lv_iconst (v := 1) hx hb dX9_areAlike_29 (by decide) ?_
      refine lv_goto (tgt := 34) hx hb dX9_areAlike_30 (by decide) ?_
      exact q_end1 (m_zret X hr hH hL (by decide) dX9_areAlike_34)
  · refine lv_aload_n hx hb dX9_areAlike_13 rfl (lv_at hl 0 rfl) ?_
    refine lv_iload_n hx hb dX9_areAlike_14 rfl (lv_at hl 2 rfl) ?_
    refine q_bind (fun v10 e9 => ?_)
    refine my_doneI hL (my_runV X hH hl.1 (co_X9_isSection g l hst a0 p2_ M1 t0 v10 e9) ok_X9_isSection W1384 t0 rfl (by decide) rfl rfl rfl ⟨Nat.le_of_ble_eq_true rfl, Nat.le_of_ble_eq_true rfl⟩ ⟨Nat.zero_le _, Nat.zero_le _⟩ (Nat.le_of_ble_eq_true rfl) dX9_areAlike_15) (fun H locs hH hL => ?_)
    refine lv_if_ne (tgt := 35) hx hb dX9_areAlike_18 (by decide) (fun c11 => q_neg c11 ?_) (fun c11 => q_pos c11 ?_)
    · refine lv_aload_n hx hb dX9_areAlike_35 rfl (lv_at hl 0 rfl) ?_
      refine lv_iload_n hx hb dX9_areAlike_36 rfl (lv_at hl 1 rfl) ?_
      refine lv_iconst (v := 1) hx hb dX9_areAlike_37 (by decide) ?_
      refine q_bind (fun v13 e12 => ?_)
      refine my_doneI hL (my_runV X hH hl.1 (co_X9_of g l hst a0 p1_ 1 M1 t0 v13 e12) ok_X9_of W1404 t0 rfl (by decide) rfl rfl rfl ⟨Nat.le_of_ble_eq_true rfl, Nat.le_of_ble_eq_true rfl⟩ ⟨Nat.zero_le _, Nat.zero_le _⟩ (Nat.le_of_ble_eq_true rfl) dX9_areAlike_38) (fun H locs hH hL => ?_)
      refine lv_aload_n hx hb dX9_areAlike_41 rfl (lv_at hl 0 rfl) ?_
      refine lv_iload_n hx hb dX9_areAlike_42 rfl (lv_at hl 2 rfl) ?_
      refine lv_iconst (v := 1) hx hb dX9_areAlike_43 (by decide) ?_
      refine q_bind (fun v15 e14 => ?_)
      refine my_doneI hL (my_runV X hH hl.1 (co_X9_of g l hst a0 p2_ 1 M1 t0 v15 e14) ok_X9_of W1404 t0 rfl (by decide) rfl rfl rfl ⟨Nat.le_of_ble_eq_true rfl, Nat.le_of_ble_eq_true rfl⟩ ⟨Nat.zero_le _, Nat.zero_le _⟩ (Nat.le_of_ble_eq_true rfl) dX9_areAlike_44) (fun H locs hH hL => ?_)
      refine lv_icmp_ne (tgt := 65) hx hb dX9_areAlike_47 (by decide) (fun c16 => q_neg c16 ?_) (fun c16 => q_pos c16 ?_)
      · refine lv_iconst (v := 0) hx hb dX9_areAlike_65 (by decide) ?_
        exact q_end1 (m_zret X hr hH hL (by decide) dX9_areAlike_66)
      · refine lv_aload_n hx hb dX9_areAlike_50 rfl (lv_at hl 0 rfl) ?_
        refine lv_iload_n hx hb dX9_areAlike_51 rfl (lv_at hl 1 rfl) ?_
        refine lv_iconst (v := 2) hx hb dX9_areAlike_52 (by decide) ?_
        refine q_bind (fun v18 e17 => ?_)
        refine my_doneI hL (my_runV X hH hl.1 (co_X9_of g l hst a0 p1_ 2 M1 t0 v18 e17) ok_X9_of W1404 t0 rfl (by decide) rfl rfl rfl ⟨Nat.le_of_ble_eq_true rfl, Nat.le_of_ble_eq_true rfl⟩ ⟨Nat.zero_le _, Nat.zero_le _⟩ (Nat.le_of_ble_eq_true rfl) dX9_areAlike_53) (fun H locs hH hL => ?_)
        refine lv_aload_n hx hb dX9_areAlike_56 rfl (lv_at hl 0 rfl) ?_
        refine lv_iload_n hx hb dX9_areAlike_57 rfl (lv_at hl 2 rfl) ?_
        refine lv_iconst (v := 2) hx hb dX9_areAlike_58 (by decide) ?_
        refine q_bind (fun v20 e19 => ?_)
        refine my_doneI hL (my_runV X hH hl.1 (co_X9_of g l hst a0 p2_ 2 M1 t0 v20 e19) ok_X9_of W1404 t0 rfl (by decide) rfl rfl rfl ⟨Nat.le_of_ble_eq_true rfl, Nat.le_of_ble_eq_true rfl⟩ ⟨Nat.zero_le _, Nat.zero_le _⟩ (Nat.le_of_ble_eq_true rfl) dX9_areAlike_59) (fun H locs hH hL => ?_)
        refine lv_icmp_eq (tgt := 67) hx hb dX9_areAlike_62 (by decide) (fun c21 => q_pos c21 ?_) (fun c21 => q_neg c21 ?_)
        · refine lv_bipush (v := 7) hx hb dX9_areAlike_67 (by decide) ?_
          refine lv_istore_n (lv' := [(3, .int 7), (0, .ref (adr g a0)), (1, .int p1_), (2, .int p2_)]) hx hb dX9_areAlike_69 rfl hl (by decide) rfl (fun ls hl => ?_)
          have L31 : ∀ (K : Int32 → Option (Int32 × Mem)) (_ : ∀ (i22 : Int32) (H : Heap) (locs : List Loc) (ls : Array Slot), HR g M1 H → LK g s H locs → lv_has ls 4 [(0, .ref (adr g a0)), (1, .int p1_), (2, .int p2_), (3, .int i22)] → W p l e (rmO (.inl v : Int32 ⊕ String) 2 43) s m ([.ref (adr g a0), .int p1_, .int p2_] : List Value).toArray below meth c H locs 0 0 (GQ (K i22) (v, M') (MQO g below rvI (.inl v : Int32 ⊕ String) M' ([.ref (adr g a0), .int p1_, .int p2_] : List Value).toArray s)) (F0 m 99 ls [])) (n : Nat) (i22 : Int32) (H : Heap) (locs : List Loc) (ls : Array Slot), HR g M1 H → LK g s H locs → lv_has ls 4 [(0, .ref (adr g a0)), (1, .int p1_), (2, .int p2_), (3, .int i22)] → W p l e (rmO (.inl v : Int32 ⊕ String) 2 43) s m ([.ref (adr g a0), .int p1_, .int p2_] : List Value).toArray below meth c H locs 0 0 (GQ (F_X9_areAlike_L1 a0 p1_ p2_ M1 K n i22) (v, M') (MQO g below rvI (.inl v : Int32 ⊕ String) M' ([.ref (adr g a0), .int p1_, .int p2_] : List Value).toArray s)) (F0 m 70 ls []) := by
            intro K hK n
            induction n with
            | zero => intros; exact q_none
            | succ n ih =>
              intro i22 H locs ls hH hL hl 
              rw [F_X9_areAlike_L1]
              refine lv_iload_n hx hb dX9_areAlike_70 rfl (lv_at hl 3 rfl) ?_
              refine lv_bipush (v := 43) hx hb dX9_areAlike_71 (by decide) ?_
              refine lv_icmp_ge (tgt := 99) hx hb dX9_areAlike_73 (by decide) (fun c24 => q_pos c24 ?_) (fun c24 => q_neg c24 ?_)
              · exact hK i22 _ _ ls hH hL hl 
              · refine lv_aload_n hx hb dX9_areAlike_76 rfl (lv_at hl 0 rfl) ?_
                refine lv_iload_n hx hb dX9_areAlike_77 rfl (lv_at hl 1 rfl) ?_
                refine lv_iload_n hx hb dX9_areAlike_78 rfl (lv_at hl 3 rfl) ?_
                refine q_bind (fun v26 e25 => ?_)
                refine my_doneI hL (my_runV X hH hl.1 (co_X9_of g l hst a0 p1_ i22 M1 t0 v26 e25) ok_X9_of W1404 t0 rfl (by decide) rfl rfl rfl ⟨Nat.le_of_ble_eq_true rfl, Nat.le_of_ble_eq_true rfl⟩ ⟨Nat.zero_le _, Nat.zero_le _⟩ (Nat.le_of_ble_eq_true rfl) dX9_areAlike_79) (fun H locs hH hL => ?_)
                refine lv_aload_n hx hb dX9_areAlike_82 rfl (lv_at hl 0 rfl) ?_
                refine lv_iload_n hx hb dX9_areAlike_83 rfl (lv_at hl 2 rfl) ?_
                refine lv_iload_n hx hb dX9_areAlike_84 rfl (lv_at hl 3 rfl) ?_
                refine q_bind (fun v28 e27 => ?_)
                refine my_doneI hL (my_runV X hH hl.1 (co_X9_of g l hst a0 p2_ i22 M1 t0 v28 e27) ok_X9_of W1404 t0 rfl (by decide) rfl rfl rfl ⟨Nat.le_of_ble_eq_true rfl, Nat.le_of_ble_eq_true rfl⟩ ⟨Nat.zero_le _, Nat.zero_le _⟩ (Nat.le_of_ble_eq_true rfl) dX9_areAlike_85) (fun H locs hH hL => ?_)
                refine lv_icmp_eq (tgt := 93) hx hb dX9_areAlike_88 (by decide) (fun c29 => q_pos c29 ?_) (fun c29 => q_neg c29 ?_)
                · refine q_lt (fun v30 e_v30 => ?_)
                  refine lv_iinc (v := v30) (lv' := [(3, .int v30), (0, .ref (adr g a0)), (1, .int p1_), (2, .int p2_)]) hx hb dX9_areAlike_93 hl (k := 3) rfl (by rw [e_v30]; rfl) (by decide) rfl (fun ls hl => ?_)
                  refine lv_goto (tgt := 70) hx hb dX9_areAlike_96 (by decide) ?_
                  exact ih v30 _ _ ls hH hL (lv_sub hl [1, 2, 3, 0] rfl) 
                · refine lv_iconst (v := 0) hx hb dX9_areAlike_91 (by decide) ?_
                  exact q_end1 (m_zret X hr hH hL (by decide) dX9_areAlike_92)
          refine L31 _ (fun x32 H locs ls hH hL hl  => ?_) 3000 7 _ _ ls hH hL (lv_sub hl [1, 2, 3, 0] rfl) 
          refine lv_iconst (v := 1) hx hb dX9_areAlike_99 (by decide) ?_
          exact q_end1 (m_zret X hr hH hL (by decide) dX9_areAlike_100)
        · refine lv_iconst (v := 0) hx hb dX9_areAlike_65 (by decide) ?_
          exact q_end1 (m_zret X hr hH hL (by decide) dX9_areAlike_66)
    · refine lv_aload_n hx hb dX9_areAlike_21 rfl (lv_at hl 0 rfl) ?_
      refine lv_iconst (v := 1) hx hb dX9_areAlike_22 (by decide) ?_
      refine q_b1 (fun v34 M35 e33 => ?_)
      refine my_doneI hL (my_runV X hH hl.1 (co_X9_fails g l hst a0 1 M1 t0 v34 M35 e33) ok_X9_fails W1356 t0 rfl (by decide) rfl rfl rfl ⟨Nat.le_of_ble_eq_true rfl, Nat.le_of_ble_eq_true rfl⟩ ⟨Nat.zero_le _, Nat.zero_le _⟩ (Nat.le_of_ble_eq_true rfl) dX9_areAlike_23) (fun H locs hH hL => ?_)
      refine lv_if_le (tgt := 33) hx hb dX9_areAlike_26 (by decide) (fun c36 => q_pos c36 ?_) (fun c36 => q_neg c36 ?_)
      · refine lv_iconst (v := 0) hx hb dX9_areAlike_33 (by decide) ?_
        exact q_end1 (m_zret X hr hH hL (by decide) dX9_areAlike_34)
      · refine lv_iconst (v := 1) hx hb dX9_areAlike_29 (by decide) ?_
        refine lv_goto (tgt := 34) hx hb dX9_areAlike_30 (by decide) ?_
        exact q_end1 (m_zret X hr hH hL (by decide) dX9_areAlike_34)

set_option maxRecDepth 20000 in
set_option maxHeartbeats 4000000 in
theorem co_X9_noteVolume (g : GP) (l : Launch) (hst : l.stackTraces = false) (a0 : Nat) (p1_ : Int32) (p2_ : Int32) (M : Mem) (t0 : tyT a0 = 9) (v : Int32) (M' : Mem) (hF : F_X9_noteVolume a0 p1_ p2_ M = some (v, M')) : CO g l yX9_noteVolume cX9_noteVolume 3 (some .int) 1 22 rvI [.ref (adr g a0), .int p1_, .int p2_] M (.inl v : Int32 ⊕ String) M' := by
  refine CO_of hst (by decide) (Nat.le_of_ble_eq_true rfl) ?_
  intro p e s m below meth c ls X hr htb hH hL hl
  have hx := X.1
  have hb := X.2.1
  have hts := X.2.2.2.2.1
  refine q_out hF ?_
  rw [F_X9_noteVolume]
  replace hl : lv_has ls 3 [(0, .ref (adr g a0)), (1, .int p1_), (2, .int p2_)] := hl
  refine lv_aload_n hx hb dX9_noteVolume_0 rfl (lv_at hl 0 rfl) ?_
  refine lv_iconst (v := 0) hx hb dX9_noteVolume_1 (by decide) ?_
  refine q_lt (fun M1 e_M1 => ?_)
  refine m_pI (k := 0) X hH hL okC9 t0 rfl rfl rfl rfl W1284 dX9_noteVolume_2 e_M1 (fun H locs hH hL => ?_)
  refine lv_iload_n hx hb dX9_noteVolume_5 rfl (lv_at hl 1 rfl) ?_
  refine q_bind (fun v3 e2 => ?_)
  refine my_doneI hL (my_runS X hH hl.1 (co_X9_kindOf g l hst p1_ M1 v3 e2) ok_X9_kindOf W1350 rfl rfl ⟨Nat.le_of_ble_eq_true rfl, Nat.le_of_ble_eq_true rfl⟩ ⟨Nat.zero_le _, Nat.zero_le _⟩ (Nat.le_of_ble_eq_true rfl) dX9_noteVolume_6) (fun H locs hH hL => ?_)
  refine lv_if_lt (tgt := 22) hx hb dX9_noteVolume_9 (by decide) (fun c4 => q_pos c4 ?_) (fun c4 => q_neg c4 ?_)
  · refine lv_aload_n hx hb dX9_noteVolume_22 rfl (lv_at hl 0 rfl) ?_
    refine lv_iconst (v := 1) hx hb dX9_noteVolume_23 (by decide) ?_
    refine q_b1 (fun v6 M7 e5 => ?_)
    refine my_doneI hL (my_runV X hH hl.1 (co_X9_fails g l hst a0 1 M1 t0 v6 M7 e5) ok_X9_fails W1356 t0 rfl (by decide) rfl rfl rfl ⟨Nat.le_of_ble_eq_true rfl, Nat.le_of_ble_eq_true rfl⟩ ⟨Nat.zero_le _, Nat.zero_le _⟩ (Nat.le_of_ble_eq_true rfl) dX9_noteVolume_24) (fun H locs hH hL => ?_)
    refine lv_goto (tgt := 38) hx hb dX9_noteVolume_27 (by decide) ?_
    exact q_end1 (m_iret X hr hH hL dX9_noteVolume_38)
  · refine lv_iload_n hx hb dX9_noteVolume_12 rfl (lv_at hl 2 rfl) ?_
    refine lv_iconst (v := 0) hx hb dX9_noteVolume_13 (by decide) ?_
    refine lv_bipush (v := 9) hx hb dX9_noteVolume_14 (by decide) ?_
    refine q_bind (fun v9 e8 => ?_)
    refine my_doneI hL (my_runS X hH hl.1 (co_X9_isBetween g l hst p2_ 0 9 M1 v9 e8) ok_X9_isBetween W1353 rfl rfl ⟨Nat.le_of_ble_eq_true rfl, Nat.le_of_ble_eq_true rfl⟩ ⟨Nat.zero_le _, Nat.zero_le _⟩ (Nat.le_of_ble_eq_true rfl) dX9_noteVolume_16) (fun H locs hH hL => ?_)
    refine lv_if_ne (tgt := 30) hx hb dX9_noteVolume_19 (by decide) (fun c10 => q_neg c10 ?_) (fun c10 => q_pos c10 ?_)
    · refine lv_iload_n hx hb dX9_noteVolume_30 rfl (lv_at hl 1 rfl) ?_
      refine q_bind (fun v12 e11 => ?_)
      refine my_doneI hL (my_runS X hH hl.1 (co_X9_kindOf g l hst p1_ M1 v12 e11) ok_X9_kindOf W1350 rfl rfl ⟨Nat.le_of_ble_eq_true rfl, Nat.le_of_ble_eq_true rfl⟩ ⟨Nat.zero_le _, Nat.zero_le _⟩ (Nat.le_of_ble_eq_true rfl) dX9_noteVolume_31) (fun H locs hH hL => ?_)
      refine lv_iload_n hx hb dX9_noteVolume_34 rfl (lv_at hl 2 rfl) ?_
      refine q_bind (fun v14 e13 => ?_)
      refine my_doneI hL (my_runS X hH hl.1 (co_X9_volumeOf g l hst v12 p2_ M1 v14 e13) ok_X9_volumeOf W1510 rfl rfl ⟨Nat.le_of_ble_eq_true rfl, Nat.le_of_ble_eq_true rfl⟩ ⟨Nat.zero_le _, Nat.zero_le _⟩ (Nat.le_of_ble_eq_true rfl) dX9_noteVolume_35) (fun H locs hH hL => ?_)
      exact q_end1 (m_iret X hr hH hL dX9_noteVolume_38)
    · refine lv_aload_n hx hb dX9_noteVolume_22 rfl (lv_at hl 0 rfl) ?_
      refine lv_iconst (v := 1) hx hb dX9_noteVolume_23 (by decide) ?_
      refine q_b1 (fun v16 M17 e15 => ?_)
      refine my_doneI hL (my_runV X hH hl.1 (co_X9_fails g l hst a0 1 M1 t0 v16 M17 e15) ok_X9_fails W1356 t0 rfl (by decide) rfl rfl rfl ⟨Nat.le_of_ble_eq_true rfl, Nat.le_of_ble_eq_true rfl⟩ ⟨Nat.zero_le _, Nat.zero_le _⟩ (Nat.le_of_ble_eq_true rfl) dX9_noteVolume_24) (fun H locs hH hL => ?_)
      refine lv_goto (tgt := 38) hx hb dX9_noteVolume_27 (by decide) ?_
      exact q_end1 (m_iret X hr hH hL dX9_noteVolume_38)

set_option maxRecDepth 20000 in
set_option maxHeartbeats 4000000 in
theorem co_X9_columnVolume (g : GP) (l : Launch) (hst : l.stackTraces = false) (a0 : Nat) (p1_ : Int32) (p2_ : Int32) (M : Mem) (t0 : tyT a0 = 9) (v : Int32) (M' : Mem) (hF : F_X9_columnVolume a0 p1_ p2_ M = some (v, M')) : CO g l yX9_columnVolume cX9_columnVolume 3 (some .int) 3 69 rvI [.ref (adr g a0), .int p1_, .int p2_] M (.inl v : Int32 ⊕ String) M' := by
  refine CO_of hst (by decide) (Nat.le_of_ble_eq_true rfl) ?_
  intro p e s m below meth c ls X hr htb hH hL hl
  have hx := X.1
  have hb := X.2.1
  have hts := X.2.2.2.2.1
  refine q_out hF ?_
  rw [F_X9_columnVolume]
  replace hl : lv_has ls 3 [(0, .ref (adr g a0)), (1, .int p1_), (2, .int p2_)] := hl
  refine lv_aload_n hx hb dX9_columnVolume_0 rfl (lv_at hl 0 rfl) ?_
  refine lv_iconst (v := 0) hx hb dX9_columnVolume_1 (by decide) ?_
  refine q_lt (fun M1 e_M1 => ?_)
  refine m_pI (k := 0) X hH hL okC9 t0 rfl rfl rfl rfl W1284 dX9_columnVolume_2 e_M1 (fun H locs hH hL => ?_)
  refine lv_aload_n hx hb dX9_columnVolume_5 rfl (lv_at hl 0 rfl) ?_
  refine lv_iload_n hx hb dX9_columnVolume_6 rfl (lv_at hl 1 rfl) ?_
  refine lv_iconst (v := 0) hx hb dX9_columnVolume_7 (by decide) ?_
  refine lv_iload_n hx hb dX9_columnVolume_8 rfl (lv_at hl 2 rfl) ?_
  refine q_bind (fun v3 e2 => ?_)
  refine my_doneI hL (my_runV X hH hl.1 (co_X9_isCell g l hst a0 p1_ 0 p2_ M1 t0 v3 e2) ok_X9_isCell W1400 t0 rfl (by decide) rfl rfl rfl ⟨Nat.le_of_ble_eq_true rfl, Nat.le_of_ble_eq_true rfl⟩ ⟨Nat.zero_le _, Nat.zero_le _⟩ (Nat.le_of_ble_eq_true rfl) dX9_columnVolume_9) (fun H locs hH hL => ?_)
  refine lv_if_eq (tgt := 24) hx hb dX9_columnVolume_12 (by decide) (fun c4 => q_pos c4 ?_) (fun c4 => q_neg c4 ?_)
  · refine lv_aload_n hx hb dX9_columnVolume_24 rfl (lv_at hl 0 rfl) ?_
    refine lv_iconst (v := 1) hx hb dX9_columnVolume_25 (by decide) ?_
    refine q_b1 (fun v6 M7 e5 => ?_)
    refine my_doneI hL (my_runV X hH hl.1 (co_X9_fails g l hst a0 1 M1 t0 v6 M7 e5) ok_X9_fails W1356 t0 rfl (by decide) rfl rfl rfl ⟨Nat.le_of_ble_eq_true rfl, Nat.le_of_ble_eq_true rfl⟩ ⟨Nat.zero_le _, Nat.zero_le _⟩ (Nat.le_of_ble_eq_true rfl) dX9_columnVolume_26) (fun H locs hH hL => ?_)
    exact q_end1 (m_iret X hr hH hL dX9_columnVolume_29)
  · refine lv_aload_n hx hb dX9_columnVolume_15 rfl (lv_at hl 0 rfl) ?_
    refine lv_iload_n hx hb dX9_columnVolume_16 rfl (lv_at hl 1 rfl) ?_
    refine lv_iload_n hx hb dX9_columnVolume_17 rfl (lv_at hl 2 rfl) ?_
    refine q_bind (fun v9 e8 => ?_)
    refine my_doneI hL (my_runV X hH hl.1 (co_X9_volumeOfColumn g l hst a0 p1_ p2_ M1 t0 v9 e8) ok_X9_volumeOfColumn W1506 t0 rfl (by decide) rfl rfl rfl ⟨Nat.le_of_ble_eq_true rfl, Nat.le_of_ble_eq_true rfl⟩ ⟨Nat.zero_le _, Nat.zero_le _⟩ (Nat.le_of_ble_eq_true rfl) dX9_columnVolume_18) (fun H locs hH hL => ?_)
    refine lv_goto (tgt := 29) hx hb dX9_columnVolume_21 (by decide) ?_
    exact q_end1 (m_iret X hr hH hL dX9_columnVolume_29)

set_option maxRecDepth 20000 in
set_option maxHeartbeats 4000000 in
theorem co_X9_columnVolumeByTransposing (g : GP) (l : Launch) (hst : l.stackTraces = false) (a0 : Nat) (p1_ : Int32) (p2_ : Int32) (M : Mem) (t0 : tyT a0 = 9) (v : Int32) (M' : Mem) (hF : F_X9_columnVolumeByTransposing a0 p1_ p2_ M = some (v, M')) : CO g l yX9_columnVolumeByTransposing cX9_columnVolumeByTransposing 3 (some .int) 4 91 rvI [.ref (adr g a0), .int p1_, .int p2_] M (.inl v : Int32 ⊕ String) M' := by
  refine CO_of hst (by decide) (Nat.le_of_ble_eq_true rfl) ?_
  intro p e s m below meth c ls X hr htb hH hL hl
  have hx := X.1
  have hb := X.2.1
  have hts := X.2.2.2.2.1
  refine q_out hF ?_
  rw [F_X9_columnVolumeByTransposing]
  replace hl : lv_has ls 3 [(0, .ref (adr g a0)), (1, .int p1_), (2, .int p2_)] := hl
  refine lv_aload_n hx hb dX9_columnVolumeByTransposing_0 rfl (lv_at hl 0 rfl) ?_
  refine lv_iload_n hx hb dX9_columnVolumeByTransposing_1 rfl (lv_at hl 1 rfl) ?_
  refine lv_iload_n hx hb dX9_columnVolumeByTransposing_2 rfl (lv_at hl 2 rfl) ?_
  refine q_b1 (fun v2 M3 e1 => ?_)
  refine my_doneI hL (my_runV X hH hl.1 (co_X9_columnVolume g l hst a0 p1_ p2_ M t0 v2 M3 e1) ok_X9_columnVolume W1607 t0 rfl (by decide) rfl rfl rfl ⟨Nat.le_of_ble_eq_true rfl, Nat.le_of_ble_eq_true rfl⟩ ⟨Nat.zero_le _, Nat.zero_le _⟩ (Nat.le_of_ble_eq_true rfl) dX9_columnVolumeByTransposing_3) (fun H locs hH hL => ?_)
  exact q_end1 (m_iret X hr hH hL dX9_columnVolumeByTransposing_6)

set_option maxRecDepth 20000 in
set_option maxHeartbeats 4000000 in
theorem co_X9_nextVolume (g : GP) (l : Launch) (hst : l.stackTraces = false) (a0 : Nat) (p1_ : Int32) (M : Mem) (t0 : tyT a0 = 9) (v : Int32) (M' : Mem) (hF : F_X9_nextVolume a0 p1_ M = some (v, M')) : CO g l yX9_nextVolume cX9_nextVolume 2 (some .int) 4 90 rvI [.ref (adr g a0), .int p1_] M (.inl v : Int32 ⊕ String) M' := by
  refine CO_of hst (by decide) (Nat.le_of_ble_eq_true rfl) ?_
  intro p e s m below meth c ls X hr htb hH hL hl
  have hx := X.1
  have hb := X.2.1
  have hts := X.2.2.2.2.1
  refine q_out hF ?_
  rw [F_X9_nextVolume]
  replace hl : lv_has ls 2 [(0, .ref (adr g a0)), (1, .int p1_)] := hl
  refine lv_aload_n hx hb dX9_nextVolume_0 rfl (lv_at hl 0 rfl) ?_
  refine lv_iconst (v := 0) hx hb dX9_nextVolume_1 (by decide) ?_
  refine q_lt (fun M1 e_M1 => ?_)
  refine m_pI (k := 0) X hH hL okC9 t0 rfl rfl rfl rfl W1284 dX9_nextVolume_2 e_M1 (fun H locs hH hL => ?_)
  refine lv_aload_n hx hb dX9_nextVolume_5 rfl (lv_at hl 0 rfl) ?_
  refine lv_iload_n hx hb dX9_nextVolume_6 rfl (lv_at hl 1 rfl) ?_
  refine q_bind (fun v3 e2 => ?_)
  refine my_doneI hL (my_runV X hH hl.1 (co_X9_isSection g l hst a0 p1_ M1 t0 v3 e2) ok_X9_isSection W1384 t0 rfl (by decide) rfl rfl rfl ⟨Nat.le_of_ble_eq_true rfl, Nat.le_of_ble_eq_true rfl⟩ ⟨Nat.zero_le _, Nat.zero_le _⟩ (Nat.le_of_ble_eq_true rfl) dX9_nextVolume_7) (fun H locs hH hL => ?_)
  refine lv_if_eq (tgt := 21) hx hb dX9_nextVolume_10 (by decide) (fun c4 => q_pos c4 ?_) (fun c4 => q_neg c4 ?_)
  · refine lv_aload_n hx hb dX9_nextVolume_21 rfl (lv_at hl 0 rfl) ?_
    refine lv_iconst (v := 1) hx hb dX9_nextVolume_22 (by decide) ?_
    refine q_b1 (fun v6 M7 e5 => ?_)
    refine my_doneI hL (my_runV X hH hl.1 (co_X9_fails g l hst a0 1 M1 t0 v6 M7 e5) ok_X9_fails W1356 t0 rfl (by decide) rfl rfl rfl ⟨Nat.le_of_ble_eq_true rfl, Nat.le_of_ble_eq_true rfl⟩ ⟨Nat.zero_le _, Nat.zero_le _⟩ (Nat.le_of_ble_eq_true rfl) dX9_nextVolume_23) (fun H locs hH hL => ?_)
    exact q_end1 (m_iret X hr hH hL dX9_nextVolume_26)
  · refine lv_aload_n hx hb dX9_nextVolume_13 rfl (lv_at hl 0 rfl) ?_
    refine lv_iload_n hx hb dX9_nextVolume_14 rfl (lv_at hl 1 rfl) ?_
    refine q_bind (fun v9 e8 => ?_)
    refine my_doneI hL (my_runV X hH hl.1 (co_X9_volumeNow g l hst a0 p1_ M1 t0 v9 e8) ok_X9_volumeNow W1494 t0 rfl (by decide) rfl rfl rfl ⟨Nat.le_of_ble_eq_true rfl, Nat.le_of_ble_eq_true rfl⟩ ⟨Nat.zero_le _, Nat.zero_le _⟩ (Nat.le_of_ble_eq_true rfl) dX9_nextVolume_15) (fun H locs hH hL => ?_)
    refine lv_goto (tgt := 26) hx hb dX9_nextVolume_18 (by decide) ?_
    exact q_end1 (m_iret X hr hH hL dX9_nextVolume_26)

set_option maxRecDepth 20000 in
set_option maxHeartbeats 4000000 in
theorem co_X9_nextTotal (g : GP) (l : Launch) (hst : l.stackTraces = false) (a0 : Nat) (M : Mem) (t0 : tyT a0 = 9) (v : Int32) (M' : Mem) (hF : F_X9_nextTotal a0 M = some (v, M')) : CO g l yX9_nextTotal cX9_nextTotal 3 (some .int) 4 90 rvI [.ref (adr g a0)] M (.inl v : Int32 ⊕ String) M' := by
  refine CO_of hst (by decide) (Nat.le_of_ble_eq_true rfl) ?_
  intro p e s m below meth c ls X hr htb hH hL hl
  have hx := X.1
  have hb := X.2.1
  have hts := X.2.2.2.2.1
  refine q_out hF ?_
  rw [F_X9_nextTotal]
  replace hl : lv_has ls 3 [(0, .ref (adr g a0))] := hl
  refine lv_aload_n hx hb dX9_nextTotal_0 rfl (lv_at hl 0 rfl) ?_
  refine lv_iconst (v := 0) hx hb dX9_nextTotal_1 (by decide) ?_
  refine q_lt (fun M1 e_M1 => ?_)
  refine m_pI (k := 0) X hH hL okC9 t0 rfl rfl rfl rfl W1284 dX9_nextTotal_2 e_M1 (fun H locs hH hL => ?_)
  refine lv_iconst (v := 0) hx hb dX9_nextTotal_5 (by decide) ?_
  refine lv_istore_n (lv' := [(1, .int 0), (0, .ref (adr g a0))]) hx hb dX9_nextTotal_6 rfl hl (by decide) rfl (fun ls hl => ?_)
  refine lv_iconst (v := 0) hx hb dX9_nextTotal_7 (by decide) ?_
  refine lv_istore_n (lv' := [(2, .int 0), (1, .int 0), (0, .ref (adr g a0))]) hx hb dX9_nextTotal_8 rfl hl (by decide) rfl (fun ls hl => ?_)
  have L12 : ∀ (K : Int32 → Int32 → Option (Int32 × Mem)) (_ : ∀ (i2 : Int32) (i3 : Int32) (H : Heap) (locs : List Loc) (ls : Array Slot), HR g M1 H → LK g s H locs → lv_has ls 3 [(0, .ref (adr g a0)), (1, .int i2), (2, .int i3)] → W p l e (rmO (.inl v : Int32 ⊕ String) 4 90) s m ([.ref (adr g a0)] : List Value).toArray below meth c H locs 0 0 (GQ (K i2 i3) (v, M') (MQO g below rvI (.inl v : Int32 ⊕ String) M' ([.ref (adr g a0)] : List Value).toArray s)) (F0 m 33 ls [])) (n : Nat) (i2 : Int32) (i3 : Int32) (H : Heap) (locs : List Loc) (ls : Array Slot), HR g M1 H → LK g s H locs → lv_has ls 3 [(0, .ref (adr g a0)), (1, .int i2), (2, .int i3)] → W p l e (rmO (.inl v : Int32 ⊕ String) 4 90) s m ([.ref (adr g a0)] : List Value).toArray below meth c H locs 0 0 (GQ (F_X9_nextTotal_L1 a0 M1 K n i2 i3) (v, M') (MQO g below rvI (.inl v : Int32 ⊕ String) M' ([.ref (adr g a0)] : List Value).toArray s)) (F0 m 9 ls []) := by
    intro K hK n
    induction n with
    | zero => intros; exact q_none
    | succ n ih =>
      intro i2 i3 H locs ls hH hL hl 
      rw [F_X9_nextTotal_L1]
      refine lv_iload_n hx hb dX9_nextTotal_9 rfl (lv_at hl 2 rfl) ?_
      refine lv_aload_n hx hb dX9_nextTotal_10 rfl (lv_at hl 0 rfl) ?_
      refine m_gR (k := 1) X hH inC9 t0 rfl W1285 dX9_nextTotal_11 24 rfl (fun t5 => ?_)
      refine lv_iconst (v := 0) hx hb dX9_nextTotal_14 (by decide) ?_
      refine q_chk (fun hb6 => ?_)
      refine m_iald X hH t5 rfl (by decide) (fun _ => rfl) rfl rfl hb6 dX9_nextTotal_15 ?_
      refine lv_icmp_ge (tgt := 33) hx hb dX9_nextTotal_16 (by decide) (fun c7 => q_pos c7 ?_) (fun c7 => q_neg c7 ?_)
      · exact hK i2 i3 _ _ ls hH hL hl 
      · refine lv_iload_n hx hb dX9_nextTotal_19 rfl (lv_at hl 1 rfl) ?_
        refine lv_aload_n hx hb dX9_nextTotal_20 rfl (lv_at hl 0 rfl) ?_
        refine lv_iload_n hx hb dX9_nextTotal_21 rfl (lv_at hl 2 rfl) ?_
        refine q_bind (fun v9 e8 => ?_)
        refine my_doneI hL (my_runV X hH hl.1 (co_X9_volumeNow g l hst a0 i3 M1 t0 v9 e8) ok_X9_volumeNow W1494 t0 rfl (by decide) rfl rfl rfl ⟨Nat.le_of_ble_eq_true rfl, Nat.le_of_ble_eq_true rfl⟩ ⟨Nat.zero_le _, Nat.zero_le _⟩ (Nat.le_of_ble_eq_true rfl) dX9_nextTotal_22) (fun H locs hH hL => ?_)
        refine lv_iadd hx hb dX9_nextTotal_25 ?_
        refine q_lt (fun v10 e_v10 => ?_)
        refine q_topI e_v10 ?_
        refine lv_istore_n (lv' := [(1, .int v10), (0, .ref (adr g a0)), (2, .int i3)]) hx hb dX9_nextTotal_26 rfl hl (by decide) rfl (fun ls hl => ?_)
        refine q_lt (fun v11 e_v11 => ?_)
        refine lv_iinc (v := v11) (lv' := [(2, .int v11), (1, .int v10), (0, .ref (adr g a0))]) hx hb dX9_nextTotal_27 hl (k := 2) rfl (by rw [e_v11]; rfl) (by decide) rfl (fun ls hl => ?_)
        refine lv_goto (tgt := 9) hx hb dX9_nextTotal_30 (by decide) ?_
        exact ih v10 v11 _ _ ls hH hL (lv_sub hl [2, 1, 0] rfl) 
  refine L12 _ (fun x13 x14 H locs ls hH hL hl  => ?_) 3000 0 0 _ _ ls hH hL (lv_sub hl [2, 1, 0] rfl) 
  refine lv_iload_n hx hb dX9_nextTotal_33 rfl (lv_at hl 1 rfl) ?_
  exact q_end1 (m_iret X hr hH hL dX9_nextTotal_34)

set_option maxRecDepth 20000 in
set_option maxHeartbeats 4000000 in
theorem co_X9_isPeriod (g : GP) (l : Launch) (hst : l.stackTraces = false) (a0 : Nat) (p1_ : Int32) (M : Mem) (t0 : tyT a0 = 9) (v : Int32) (hF : F_X9_isPeriod a0 p1_ M = some v) : CO g l yX9_isPeriod cX9_isPeriod 3 (some .boolean) 1 22 rvI [.ref (adr g a0), .int p1_] M (.inl v : Int32 ⊕ String) M := by
  refine CO_of hst (by decide) (Nat.le_of_ble_eq_true rfl) ?_
  intro p e s m below meth c ls X hr htb hH hL hl
  have hx := X.1
  have hb := X.2.1
  have hts := X.2.2.2.2.1
  refine q_out hF ?_
  rw [F_X9_isPeriod]
  replace hl : lv_has ls 3 [(0, .ref (adr g a0)), (1, .int p1_)] := hl
  refine lv_iconst (v := 0) hx hb dX9_isPeriod_0 (by decide) ?_
  refine lv_istore_n (lv' := [(2, .int 0), (0, .ref (adr g a0)), (1, .int p1_)]) hx hb dX9_isPeriod_1 rfl hl (by decide) rfl (fun ls hl => ?_)
  have L11 : ∀ (K : Int32 → Option Int32) (_ : ∀ (i1 : Int32) (H : Heap) (locs : List Loc) (ls : Array Slot), HR g M H → LK g s H locs → lv_has ls 3 [(0, .ref (adr g a0)), (1, .int p1_), (2, .int i1)] → W p l e (rmO (.inl v : Int32 ⊕ String) 1 22) s m ([.ref (adr g a0), .int p1_] : List Value).toArray below meth c H locs 0 0 (GQ (K i1) v (MQO g below rvI (.inl v : Int32 ⊕ String) M ([.ref (adr g a0), .int p1_] : List Value).toArray s)) (F0 m 31 ls [])) (n : Nat) (i1 : Int32) (H : Heap) (locs : List Loc) (ls : Array Slot), HR g M H → LK g s H locs → lv_has ls 3 [(0, .ref (adr g a0)), (1, .int p1_), (2, .int i1)] → W p l e (rmO (.inl v : Int32 ⊕ String) 1 22) s m ([.ref (adr g a0), .int p1_] : List Value).toArray below meth c H locs 0 0 (GQ (F_X9_isPeriod_L1 a0 p1_ M K n i1) v (MQO g below rvI (.inl v : Int32 ⊕ String) M ([.ref (adr g a0), .int p1_] : List Value).toArray s)) (F0 m 2 ls []) := by
    intro K hK n
    induction n with
    | zero => intros; exact q_none
    | succ n ih =>
      intro i1 H locs ls hH hL hl 
      rw [F_X9_isPeriod_L1]
      refine lv_iload_n hx hb dX9_isPeriod_2 rfl (lv_at hl 2 rfl) ?_
      refine lv_aload_n hx hb dX9_isPeriod_3 rfl (lv_at hl 0 rfl) ?_
      refine m_gR (k := 1) X hH inC9 t0 rfl W1285 dX9_isPeriod_4 24 rfl (fun t3 => ?_)
      refine lv_iconst (v := 0) hx hb dX9_isPeriod_7 (by decide) ?_
      refine q_chk (fun hb4 => ?_)
      refine m_iald X hH t3 rfl (by decide) (fun _ => rfl) rfl rfl hb4 dX9_isPeriod_8 ?_
      refine lv_icmp_ge (tgt := 31) hx hb dX9_isPeriod_9 (by decide) (fun c5 => q_pos c5 ?_) (fun c5 => q_neg c5 ?_)
      · exact hK i1 _ _ ls hH hL hl 
      · refine lv_iload_n hx hb dX9_isPeriod_12 rfl (lv_at hl 1 rfl) ?_
        refine lv_aload_n hx hb dX9_isPeriod_13 rfl (lv_at hl 0 rfl) ?_
        refine lv_iload_n hx hb dX9_isPeriod_14 rfl (lv_at hl 2 rfl) ?_
        refine lv_iconst (v := 2) hx hb dX9_isPeriod_15 (by decide) ?_
        refine q_bind (fun v7 e6 => ?_)
        refine my_doneI hL (my_runV X hH hl.1 (co_X9_of g l hst a0 i1 2 M t0 v7 e6) ok_X9_of W1404 t0 rfl (by decide) rfl rfl rfl ⟨Nat.le_of_ble_eq_true rfl, Nat.le_of_ble_eq_true rfl⟩ ⟨Nat.zero_le _, Nat.zero_le _⟩ (Nat.le_of_ble_eq_true rfl) dX9_isPeriod_16) (fun H locs hH hL => ?_)
        refine q_chk (fun hz8 => ?_)
        refine lv_irem hx hb dX9_isPeriod_19 (nz_n hz8) ?_
        refine lv_if_eq (tgt := 25) hx hb dX9_isPeriod_20 (by decide) (fun c9 => q_pos c9 ?_) (fun c9 => q_neg c9 ?_)
        · refine q_lt (fun v10 e_v10 => ?_)
          refine lv_iinc (v := v10) (lv' := [(2, .int v10), (0, .ref (adr g a0)), (1, .int p1_)]) hx hb dX9_isPeriod_25 hl (k := 2) rfl (by rw [e_v10]; rfl) (by decide) rfl (fun ls hl => ?_)
          refine lv_goto (tgt := 2) hx hb dX9_isPeriod_28 (by decide) ?_
          exact ih v10 _ _ ls hH hL (lv_sub hl [1, 2, 0] rfl) 
        · refine lv_iconst (v := 0) hx hb dX9_isPeriod_23 (by decide) ?_
          exact q_end0 (m_zret X hr hH hL (by decide) dX9_isPeriod_24)
  refine L11 _ (fun x12 H locs ls hH hL hl  => ?_) 3000 0 _ _ ls hH hL (lv_sub hl [1, 2, 0] rfl) 
  refine lv_iconst (v := 1) hx hb dX9_isPeriod_31 (by decide) ?_
  exact q_end0 (m_zret X hr hH hL (by decide) dX9_isPeriod_32)

set_option maxRecDepth 20000 in
set_option maxHeartbeats 4000000 in
theorem co_X9_period (g : GP) (l : Launch) (hst : l.stackTraces = false) (a0 : Nat) (M : Mem) (t0 : tyT a0 = 9) (v : Int32) (M' : Mem) (hF : F_X9_period a0 M = some (v, M')) : CO g l yX9_period cX9_period 2 (some .int) 2 44 rvI [.ref (adr g a0)] M (.inl v : Int32 ⊕ String) M' := by
  refine CO_of hst (by decide) (Nat.le_of_ble_eq_true rfl) ?_
  intro p e s m below meth c ls X hr htb hH hL hl
  have hx := X.1
  have hb := X.2.1
  have hts := X.2.2.2.2.1
  refine q_out hF ?_
  rw [F_X9_period]
  replace hl : lv_has ls 2 [(0, .ref (adr g a0))] := hl
  refine lv_aload_n hx hb dX9_period_0 rfl (lv_at hl 0 rfl) ?_
  refine lv_iconst (v := 0) hx hb dX9_period_1 (by decide) ?_
  refine q_lt (fun M1 e_M1 => ?_)
  refine m_pI (k := 0) X hH hL okC9 t0 rfl rfl rfl rfl W1284 dX9_period_2 e_M1 (fun H locs hH hL => ?_)
  refine lv_iconst (v := 1) hx hb dX9_period_5 (by decide) ?_
  refine lv_istore_n (lv' := [(1, .int 1), (0, .ref (adr g a0))]) hx hb dX9_period_6 rfl hl (by decide) rfl (fun ls hl => ?_)
  have L8 : ∀ (K : Int32 → Option (Int32 × Mem)) (_ : ∀ (i2 : Int32) (H : Heap) (locs : List Loc) (ls : Array Slot), HR g M1 H → LK g s H locs → lv_has ls 2 [(0, .ref (adr g a0)), (1, .int i2)] → W p l e (rmO (.inl v : Int32 ⊕ String) 2 44) s m ([.ref (adr g a0)] : List Value).toArray below meth c H locs 0 0 (GQ (K i2) (v, M') (MQO g below rvI (.inl v : Int32 ⊕ String) M' ([.ref (adr g a0)] : List Value).toArray s)) (F0 m 21 ls [])) (n : Nat) (i2 : Int32) (H : Heap) (locs : List Loc) (ls : Array Slot), HR g M1 H → LK g s H locs → lv_has ls 2 [(0, .ref (adr g a0)), (1, .int i2)] → W p l e (rmO (.inl v : Int32 ⊕ String) 2 44) s m ([.ref (adr g a0)] : List Value).toArray below meth c H locs 0 0 (GQ (F_X9_period_L1 a0 M1 K n i2) (v, M') (MQO g below rvI (.inl v : Int32 ⊕ String) M' ([.ref (adr g a0)] : List Value).toArray s)) (F0 m 7 ls []) := by
    intro K hK n
    induction n with
    | zero => intros; exact q_none
    | succ n ih =>
      intro i2 H locs ls hH hL hl 
      rw [F_X9_period_L1]
      refine lv_aload_n hx hb dX9_period_7 rfl (lv_at hl 0 rfl) ?_
      refine lv_iload_n hx hb dX9_period_8 rfl (lv_at hl 1 rfl) ?_
      refine q_bind (fun v5 e4 => ?_)
      refine my_doneI hL (my_runV X hH hl.1 (co_X9_isPeriod g l hst a0 i2 M1 t0 v5 e4) ok_X9_isPeriod W1620 t0 rfl (by decide) rfl rfl rfl ⟨Nat.le_of_ble_eq_true rfl, Nat.le_of_ble_eq_true rfl⟩ ⟨Nat.zero_le _, Nat.zero_le _⟩ (Nat.le_of_ble_eq_true rfl) dX9_period_9) (fun H locs hH hL => ?_)
      refine lv_if_ne (tgt := 21) hx hb dX9_period_12 (by decide) (fun c6 => q_neg c6 ?_) (fun c6 => q_pos c6 ?_)
      · exact hK i2 _ _ ls hH hL hl 
      · refine q_lt (fun v7 e_v7 => ?_)
        refine lv_iinc (v := v7) (lv' := [(1, .int v7), (0, .ref (adr g a0))]) hx hb dX9_period_15 hl (k := 1) rfl (by rw [e_v7]; rfl) (by decide) rfl (fun ls hl => ?_)
        refine lv_goto (tgt := 7) hx hb dX9_period_18 (by decide) ?_
        exact ih v7 _ _ ls hH hL (lv_sub hl [1, 0] rfl) 
  refine L8 _ (fun x9 H locs ls hH hL hl  => ?_) 3000 1 _ _ ls hH hL (lv_sub hl [1, 0] rfl) 
  refine lv_iload_n hx hb dX9_period_21 rfl (lv_at hl 1 rfl) ?_
  exact q_end1 (m_iret X hr hH hL dX9_period_22)

set_option maxRecDepth 20000 in
set_option maxHeartbeats 4000000 in
theorem co_X9_periodBySearch (g : GP) (l : Launch) (hst : l.stackTraces = false) (a0 : Nat) (M : Mem) (t0 : tyT a0 = 9) (v : Int32) (M' : Mem) (hF : F_X9_periodBySearch a0 M = some (v, M')) : CO g l yX9_periodBySearch cX9_periodBySearch 1 (some .int) 3 65 rvI [.ref (adr g a0)] M (.inl v : Int32 ⊕ String) M' := by
  refine CO_of hst (by decide) (Nat.le_of_ble_eq_true rfl) ?_
  intro p e s m below meth c ls X hr htb hH hL hl
  have hx := X.1
  have hb := X.2.1
  have hts := X.2.2.2.2.1
  refine q_out hF ?_
  rw [F_X9_periodBySearch]
  replace hl : lv_has ls 1 [(0, .ref (adr g a0))] := hl
  refine lv_aload_n hx hb dX9_periodBySearch_0 rfl (lv_at hl 0 rfl) ?_
  refine q_b1 (fun v2 M3 e1 => ?_)
  refine my_doneI hL (my_runV X hH hl.1 (co_X9_period g l hst a0 M t0 v2 M3 e1) ok_X9_period W1628 t0 rfl (by decide) rfl rfl rfl ⟨Nat.le_of_ble_eq_true rfl, Nat.le_of_ble_eq_true rfl⟩ ⟨Nat.zero_le _, Nat.zero_le _⟩ (Nat.le_of_ble_eq_true rfl) dX9_periodBySearch_1) (fun H locs hH hL => ?_)
  exact q_end1 (m_iret X hr hH hL dX9_periodBySearch_4)

set_option maxRecDepth 20000 in
set_option maxHeartbeats 4000000 in
theorem co_X9_looksAhead (g : GP) (l : Launch) (hst : l.stackTraces = false) (a0 : Nat) (M : Mem) (t0 : tyT a0 = 9) (v : Unit) (M' : Mem) (hF : F_X9_looksAhead a0 M = some (v, M')) : CO g l yX9_looksAhead cX9_looksAhead 2 none 0 0 rvU [.ref (adr g a0)] M (.inl v : Unit ⊕ String) M' := by
  refine CO_of hst (by decide) (Nat.le_of_ble_eq_true rfl) ?_
  intro p e s m below meth c ls X hr htb hH hL hl
  have hx := X.1
  have hb := X.2.1
  have hts := X.2.2.2.2.1
  refine q_out hF ?_
  rw [F_X9_looksAhead]
  replace hl : lv_has ls 2 [(0, .ref (adr g a0))] := hl
  refine lv_iconst (v := 0) hx hb dX9_looksAhead_0 (by decide) ?_
  refine lv_istore_n (lv' := [(1, .int 0), (0, .ref (adr g a0))]) hx hb dX9_looksAhead_1 rfl hl (by decide) rfl (fun ls hl => ?_)
  have L11 : ∀ (K : Int32 → Mem → Option (Unit × Mem)) (_ : ∀ (i1 : Int32) (M2 : Mem) (H : Heap) (locs : List Loc) (ls : Array Slot), HR g M2 H → LK g s H locs → lv_has ls 2 [(0, .ref (adr g a0)), (1, .int i1)] → W p l e (rmO (.inl v : Unit ⊕ String) 0 0) s m ([.ref (adr g a0)] : List Value).toArray below meth c H locs 0 0 (GQ (K i1 M2) (v, M') (MQO g below rvU (.inl v : Unit ⊕ String) M' ([.ref (adr g a0)] : List Value).toArray s)) (F0 m 27 ls [])) (n : Nat) (i1 : Int32) (M2 : Mem) (H : Heap) (locs : List Loc) (ls : Array Slot), HR g M2 H → LK g s H locs → lv_has ls 2 [(0, .ref (adr g a0)), (1, .int i1)] → W p l e (rmO (.inl v : Unit ⊕ String) 0 0) s m ([.ref (adr g a0)] : List Value).toArray below meth c H locs 0 0 (GQ (F_X9_looksAhead_L1 a0 K n i1 M2) (v, M') (MQO g below rvU (.inl v : Unit ⊕ String) M' ([.ref (adr g a0)] : List Value).toArray s)) (F0 m 2 ls []) := by
    intro K hK n
    induction n with
    | zero => intros; exact q_none
    | succ n ih =>
      intro i1 M2 H locs ls hH hL hl 
      rw [F_X9_looksAhead_L1]
      refine lv_iload_n hx hb dX9_looksAhead_2 rfl (lv_at hl 1 rfl) ?_
      refine lv_sipush (v := 260) hx hb dX9_looksAhead_3 (by decide) ?_
      refine lv_icmp_ge (tgt := 27) hx hb dX9_looksAhead_6 (by decide) (fun c4 => q_pos c4 ?_) (fun c4 => q_neg c4 ?_)
      · exact hK i1 M2 _ _ ls hH hL hl 
      · refine lv_aload_n hx hb dX9_looksAhead_9 rfl (lv_at hl 0 rfl) ?_
        refine m_gR (k := 5) X hH inC9 t0 rfl W1289 dX9_looksAhead_10 24 rfl (fun t5 => ?_)
        refine lv_iload_n hx hb dX9_looksAhead_13 rfl (lv_at hl 1 rfl) ?_
        refine lv_aload_n hx hb dX9_looksAhead_14 rfl (lv_at hl 0 rfl) ?_
        refine m_gR (k := 1) X hH inC9 t0 rfl W1285 dX9_looksAhead_15 24 rfl (fun t6 => ?_)
        refine lv_iload_n hx hb dX9_looksAhead_18 rfl (lv_at hl 1 rfl) ?_
        refine q_chk (fun hb7 => ?_)
        refine m_iald X hH t6 rfl (by decide) (fun _ => rfl) rfl rfl hb7 dX9_looksAhead_19 ?_
        refine q_chk (fun hb8 => ?_)
        refine q_lt (fun M9 e_M9 => ?_)
        refine m_is X hH hL t5 rfl (by decide) (fun _ => rfl) rfl rfl hb8 dX9_looksAhead_20 e_M9 (fun H locs hH hL => ?_)
        refine q_lt (fun v10 e_v10 => ?_)
        refine lv_iinc (v := v10) (lv' := [(1, .int v10), (0, .ref (adr g a0))]) hx hb dX9_looksAhead_21 hl (k := 1) rfl (by rw [e_v10]; rfl) (by decide) rfl (fun ls hl => ?_)
        refine lv_goto (tgt := 2) hx hb dX9_looksAhead_24 (by decide) ?_
        exact ih v10 M9 _ _ ls hH hL (lv_sub hl [1, 0] rfl) 
  refine L11 _ (fun x12 M13 H locs ls hH hL hl  => ?_) 3000 0 M _ _ ls hH hL (lv_sub hl [1, 0] rfl) 
  exact q_end1 (m_vret X hr hH hL dX9_looksAhead_27)

set_option maxRecDepth 20000 in
set_option maxHeartbeats 4000000 in
theorem co_X9_looksBack (g : GP) (l : Launch) (hst : l.stackTraces = false) (a0 : Nat) (M : Mem) (t0 : tyT a0 = 9) (v : Unit) (M' : Mem) (hF : F_X9_looksBack a0 M = some (v, M')) : CO g l yX9_looksBack cX9_looksBack 2 none 0 0 rvU [.ref (adr g a0)] M (.inl v : Unit ⊕ String) M' := by
  refine CO_of hst (by decide) (Nat.le_of_ble_eq_true rfl) ?_
  intro p e s m below meth c ls X hr htb hH hL hl
  have hx := X.1
  have hb := X.2.1
  have hts := X.2.2.2.2.1
  refine q_out hF ?_
  rw [F_X9_looksBack]
  replace hl : lv_has ls 2 [(0, .ref (adr g a0))] := hl
  refine lv_iconst (v := 0) hx hb dX9_looksBack_0 (by decide) ?_
  refine lv_istore_n (lv' := [(1, .int 0), (0, .ref (adr g a0))]) hx hb dX9_looksBack_1 rfl hl (by decide) rfl (fun ls hl => ?_)
  have L11 : ∀ (K : Int32 → Mem → Option (Unit × Mem)) (_ : ∀ (i1 : Int32) (M2 : Mem) (H : Heap) (locs : List Loc) (ls : Array Slot), HR g M2 H → LK g s H locs → lv_has ls 2 [(0, .ref (adr g a0)), (1, .int i1)] → W p l e (rmO (.inl v : Unit ⊕ String) 0 0) s m ([.ref (adr g a0)] : List Value).toArray below meth c H locs 0 0 (GQ (K i1 M2) (v, M') (MQO g below rvU (.inl v : Unit ⊕ String) M' ([.ref (adr g a0)] : List Value).toArray s)) (F0 m 27 ls [])) (n : Nat) (i1 : Int32) (M2 : Mem) (H : Heap) (locs : List Loc) (ls : Array Slot), HR g M2 H → LK g s H locs → lv_has ls 2 [(0, .ref (adr g a0)), (1, .int i1)] → W p l e (rmO (.inl v : Unit ⊕ String) 0 0) s m ([.ref (adr g a0)] : List Value).toArray below meth c H locs 0 0 (GQ (F_X9_looksBack_L1 a0 K n i1 M2) (v, M') (MQO g below rvU (.inl v : Unit ⊕ String) M' ([.ref (adr g a0)] : List Value).toArray s)) (F0 m 2 ls []) := by
    intro K hK n
    induction n with
    | zero => intros; exact q_none
    | succ n ih =>
      intro i1 M2 H locs ls hH hL hl 
      rw [F_X9_looksBack_L1]
      refine lv_iload_n hx hb dX9_looksBack_2 rfl (lv_at hl 1 rfl) ?_
      refine lv_sipush (v := 260) hx hb dX9_looksBack_3 (by decide) ?_
      refine lv_icmp_ge (tgt := 27) hx hb dX9_looksBack_6 (by decide) (fun c4 => q_pos c4 ?_) (fun c4 => q_neg c4 ?_)
      · exact hK i1 M2 _ _ ls hH hL hl 
      · refine lv_aload_n hx hb dX9_looksBack_9 rfl (lv_at hl 0 rfl) ?_
        refine m_gR (k := 1) X hH inC9 t0 rfl W1285 dX9_looksBack_10 24 rfl (fun t5 => ?_)
        refine lv_iload_n hx hb dX9_looksBack_13 rfl (lv_at hl 1 rfl) ?_
        refine lv_aload_n hx hb dX9_looksBack_14 rfl (lv_at hl 0 rfl) ?_
        refine m_gR (k := 5) X hH inC9 t0 rfl W1289 dX9_looksBack_15 24 rfl (fun t6 => ?_)
        refine lv_iload_n hx hb dX9_looksBack_18 rfl (lv_at hl 1 rfl) ?_
        refine q_chk (fun hb7 => ?_)
        refine m_iald X hH t6 rfl (by decide) (fun _ => rfl) rfl rfl hb7 dX9_looksBack_19 ?_
        refine q_chk (fun hb8 => ?_)
        refine q_lt (fun M9 e_M9 => ?_)
        refine m_is X hH hL t5 rfl (by decide) (fun _ => rfl) rfl rfl hb8 dX9_looksBack_20 e_M9 (fun H locs hH hL => ?_)
        refine q_lt (fun v10 e_v10 => ?_)
        refine lv_iinc (v := v10) (lv' := [(1, .int v10), (0, .ref (adr g a0))]) hx hb dX9_looksBack_21 hl (k := 1) rfl (by rw [e_v10]; rfl) (by decide) rfl (fun ls hl => ?_)
        refine lv_goto (tgt := 2) hx hb dX9_looksBack_24 (by decide) ?_
        exact ih v10 M9 _ _ ls hH hL (lv_sub hl [1, 0] rfl) 
  refine L11 _ (fun x12 M13 H locs ls hH hL hl  => ?_) 3000 0 M _ _ ls hH hL (lv_sub hl [1, 0] rfl) 
  exact q_end1 (m_vret X hr hH hL dX9_looksBack_27)

set_option maxRecDepth 20000 in
set_option maxHeartbeats 4000000 in
theorem co_X9_beatsUntilBreak (g : GP) (l : Launch) (hst : l.stackTraces = false) (a0 : Nat) (M : Mem) (t0 : tyT a0 = 9) (v : Int32) (M' : Mem) (hF : F_X9_beatsUntilBreak a0 M = some (v, M')) : CO g l yX9_beatsUntilBreak cX9_beatsUntilBreak 4 (some .int) 5 115 rvI [.ref (adr g a0)] M (.inl v : Int32 ⊕ String) M' := by
  refine CO_of hst (by decide) (Nat.le_of_ble_eq_true rfl) ?_
  intro p e s m below meth c ls X hr htb hH hL hl
  have hx := X.1
  have hb := X.2.1
  have hts := X.2.2.2.2.1
  refine q_out hF ?_
  rw [F_X9_beatsUntilBreak]
  replace hl : lv_has ls 4 [(0, .ref (adr g a0))] := hl
  refine lv_aload_n hx hb dX9_beatsUntilBreak_0 rfl (lv_at hl 0 rfl) ?_
  refine lv_iconst (v := 0) hx hb dX9_beatsUntilBreak_1 (by decide) ?_
  refine q_lt (fun M1 e_M1 => ?_)
  refine m_pI (k := 0) X hH hL okC9 t0 rfl rfl rfl rfl W1284 dX9_beatsUntilBreak_2 e_M1 (fun H locs hH hL => ?_)
  refine lv_aload_n hx hb dX9_beatsUntilBreak_5 rfl (lv_at hl 0 rfl) ?_
  refine q_b1 (fun u3 M4 e2 => ?_)
  refine my_doneU hL (my_runV X hH hl.1 (co_X9_looksAhead g l hst a0 M1 t0 u3 M4 e2) ok_X9_looksAhead W1633 t0 rfl (by decide) rfl rfl rfl ⟨Nat.le_of_ble_eq_true rfl, Nat.le_of_ble_eq_true rfl⟩ ⟨Nat.zero_le _, Nat.zero_le _⟩ (Nat.le_of_ble_eq_true rfl) dX9_beatsUntilBreak_6) (fun H locs hH hL => ?_)
  refine lv_aload_n hx hb dX9_beatsUntilBreak_9 rfl (lv_at hl 0 rfl) ?_
  refine m_gR (k := 1) X hH inC9 t0 rfl W1285 dX9_beatsUntilBreak_10 24 rfl (fun t5 => ?_)
  refine lv_iconst (v := 4) hx hb dX9_beatsUntilBreak_13 (by decide) ?_
  refine q_chk (fun hb6 => ?_)
  refine m_iald X hH t5 rfl (by decide) (fun _ => rfl) rfl rfl hb6 dX9_beatsUntilBreak_14 ?_
  refine q_lt (fun v7 e_v7 => ?_)
  refine q_topI e_v7 ?_
  refine lv_istore_n (lv' := [(1, .int v7), (0, .ref (adr g a0))]) hx hb dX9_beatsUntilBreak_15 rfl hl (by decide) rfl (fun ls hl => ?_)
  refine lv_iconst (v := 0) hx hb dX9_beatsUntilBreak_16 (by decide) ?_
  refine lv_istore_n (lv' := [(2, .int 0), (1, .int v7), (0, .ref (adr g a0))]) hx hb dX9_beatsUntilBreak_17 rfl hl (by decide) rfl (fun ls hl => ?_)
  have L19 : ∀ (K : Int32 → Mem → Option (Int32 × Mem)) (_ : ∀ (i8 : Int32) (M9 : Mem) (H : Heap) (locs : List Loc) (ls : Array Slot), HR g M9 H → LK g s H locs → lv_has ls 4 [(0, .ref (adr g a0)), (1, .int v7), (2, .int i8)] → W p l e (rmO (.inl v : Int32 ⊕ String) 5 115) s m ([.ref (adr g a0)] : List Value).toArray below meth c H locs 0 0 (GQ (K i8 M9) (v, M') (MQO g below rvI (.inl v : Int32 ⊕ String) M' ([.ref (adr g a0)] : List Value).toArray s)) (F0 m 45 ls [])) (n : Nat) (i8 : Int32) (M9 : Mem) (H : Heap) (locs : List Loc) (ls : Array Slot), HR g M9 H → LK g s H locs → lv_has ls 4 [(0, .ref (adr g a0)), (1, .int v7), (2, .int i8)] → W p l e (rmO (.inl v : Int32 ⊕ String) 5 115) s m ([.ref (adr g a0)] : List Value).toArray below meth c H locs 0 0 (GQ (F_X9_beatsUntilBreak_L1 a0 v7 K n i8 M9) (v, M') (MQO g below rvI (.inl v : Int32 ⊕ String) M' ([.ref (adr g a0)] : List Value).toArray s)) (F0 m 18 ls []) := by
    intro K hK n
    induction n with
    | zero => intros; exact q_none
    | succ n ih =>
      intro i8 M9 H locs ls hH hL hl 
      rw [F_X9_beatsUntilBreak_L1]
      refine lv_iload_n hx hb dX9_beatsUntilBreak_18 rfl (lv_at hl 2 rfl) ?_
      refine lv_bipush (v := 60) hx hb dX9_beatsUntilBreak_19 (by decide) ?_
      refine lv_icmp_ge (tgt := 45) hx hb dX9_beatsUntilBreak_21 (by decide) (fun c11 => q_pos c11 ?_) (fun c11 => q_neg c11 ?_)
      · exact hK i8 M9 _ _ ls hH hL hl 
      · refine lv_aload_n hx hb dX9_beatsUntilBreak_24 rfl (lv_at hl 0 rfl) ?_
        refine m_gR (k := 1) X hH inC9 t0 rfl W1285 dX9_beatsUntilBreak_25 24 rfl (fun t12 => ?_)
        refine lv_iconst (v := 4) hx hb dX9_beatsUntilBreak_28 (by decide) ?_
        refine q_chk (fun hb13 => ?_)
        refine m_iald X hH t12 rfl (by decide) (fun _ => rfl) rfl rfl hb13 dX9_beatsUntilBreak_29 ?_
        refine lv_iload_n hx hb dX9_beatsUntilBreak_30 rfl (lv_at hl 1 rfl) ?_
        refine lv_icmp_ne (tgt := 45) hx hb dX9_beatsUntilBreak_31 (by decide) (fun c14 => q_neg c14 ?_) (fun c14 => q_pos c14 ?_)
        · exact hK i8 M9 _ _ ls hH hL hl 
        · refine lv_aload_n hx hb dX9_beatsUntilBreak_34 rfl (lv_at hl 0 rfl) ?_
          refine q_b1 (fun v16 M17 e15 => ?_)
          refine my_doneI hL (my_runV X hH hl.1 (co_X9_beats g l hst a0 M9 t0 v16 M17 e15) ok_X9_beats W1490 t0 rfl (by decide) rfl rfl rfl ⟨Nat.le_of_ble_eq_true rfl, Nat.le_of_ble_eq_true rfl⟩ ⟨Nat.zero_le _, Nat.zero_le _⟩ (Nat.le_of_ble_eq_true rfl) dX9_beatsUntilBreak_35) (fun H locs hH hL => ?_)
          refine lv_pop hx hb dX9_beatsUntilBreak_38 rfl ?_
          refine q_lt (fun v18 e_v18 => ?_)
          refine lv_iinc (v := v18) (lv' := [(2, .int v18), (0, .ref (adr g a0)), (1, .int v7)]) hx hb dX9_beatsUntilBreak_39 hl (k := 2) rfl (by rw [e_v18]; rfl) (by decide) rfl (fun ls hl => ?_)
          refine lv_goto (tgt := 18) hx hb dX9_beatsUntilBreak_42 (by decide) ?_
          exact ih v18 M17 _ _ ls hH hL (lv_sub hl [1, 2, 0] rfl) 
  refine L19 _ (fun x20 M21 H locs ls hH hL hl  => ?_) 3000 0 M4 _ _ ls hH hL (lv_sub hl [2, 1, 0] rfl) 
  refine lv_aload_n hx hb dX9_beatsUntilBreak_45 rfl (lv_at hl 0 rfl) ?_
  refine m_gR (k := 1) X hH inC9 t0 rfl W1285 dX9_beatsUntilBreak_46 24 rfl (fun t22 => ?_)
  refine lv_iconst (v := 4) hx hb dX9_beatsUntilBreak_49 (by decide) ?_
  refine q_chk (fun hb23 => ?_)
  refine m_iald X hH t22 rfl (by decide) (fun _ => rfl) rfl rfl hb23 dX9_beatsUntilBreak_50 ?_
  refine lv_iload_n hx hb dX9_beatsUntilBreak_51 rfl (lv_at hl 1 rfl) ?_
  refine lv_icmp_le (tgt := 59) hx hb dX9_beatsUntilBreak_52 (by decide) (fun c24 => q_pos c24 ?_) (fun c24 => q_neg c24 ?_)
  · refine lv_iconst (v := 0) hx hb dX9_beatsUntilBreak_59 (by decide) ?_
    refine lv_istore_n (lv' := [(3, .int 0), (0, .ref (adr g a0)), (1, .int v7), (2, .int x20)]) hx hb dX9_beatsUntilBreak_60 rfl hl (by decide) rfl (fun ls hl => ?_)
    refine lv_aload_n hx hb dX9_beatsUntilBreak_61 rfl (lv_at hl 1 rfl) ?_
    refine q_b1 (fun u26 M27 e25 => ?_)
    refine my_doneU hL (my_runV X hH hl.1 (co_X9_looksBack g l hst a0 M21 t0 u26 M27 e25) ok_X9_looksBack W1637 t0 rfl (by decide) rfl rfl rfl ⟨Nat.le_of_ble_eq_true rfl, Nat.le_of_ble_eq_true rfl⟩ ⟨Nat.zero_le _, Nat.zero_le _⟩ (Nat.le_of_ble_eq_true rfl) dX9_beatsUntilBreak_62) (fun H locs hH hL => ?_)
    refine lv_iload_n hx hb dX9_beatsUntilBreak_65 rfl (lv_at hl 0 rfl) ?_
    refine lv_if_eq (tgt := 73) hx hb dX9_beatsUntilBreak_66 (by decide) (fun _ => ?_) (fun c => absurd c (by decide))
    refine lv_aload_n hx hb dX9_beatsUntilBreak_73 rfl (lv_at hl 1 rfl) ?_
    refine lv_iconst (v := 1) hx hb dX9_beatsUntilBreak_74 (by decide) ?_
    refine q_b1 (fun v30 M31 e29 => ?_)
    refine my_doneI hL (my_runV X hH hl.1 (co_X9_fails g l hst a0 1 M27 t0 v30 M31 e29) ok_X9_fails W1356 t0 rfl (by decide) rfl rfl rfl ⟨Nat.le_of_ble_eq_true rfl, Nat.le_of_ble_eq_true rfl⟩ ⟨Nat.zero_le _, Nat.zero_le _⟩ (Nat.le_of_ble_eq_true rfl) dX9_beatsUntilBreak_75) (fun H locs hH hL => ?_)
    exact q_end1 (m_iret X hr hH hL dX9_beatsUntilBreak_78)
  · refine lv_iconst (v := 1) hx hb dX9_beatsUntilBreak_55 (by decide) ?_
    refine lv_goto (tgt := 60) hx hb dX9_beatsUntilBreak_56 (by decide) ?_
    refine lv_istore_n (lv' := [(3, .int 1), (0, .ref (adr g a0)), (1, .int v7), (2, .int x20)]) hx hb dX9_beatsUntilBreak_60 rfl hl (by decide) rfl (fun ls hl => ?_)
    refine lv_aload_n hx hb dX9_beatsUntilBreak_61 rfl (lv_at hl 1 rfl) ?_
    refine q_b1 (fun u33 M34 e32 => ?_)
    refine my_doneU hL (my_runV X hH hl.1 (co_X9_looksBack g l hst a0 M21 t0 u33 M34 e32) ok_X9_looksBack W1637 t0 rfl (by decide) rfl rfl rfl ⟨Nat.le_of_ble_eq_true rfl, Nat.le_of_ble_eq_true rfl⟩ ⟨Nat.zero_le _, Nat.zero_le _⟩ (Nat.le_of_ble_eq_true rfl) dX9_beatsUntilBreak_62) (fun H locs hH hL => ?_)
    refine lv_iload_n hx hb dX9_beatsUntilBreak_65 rfl (lv_at hl 0 rfl) ?_
    refine lv_if_eq (tgt := 73) hx hb dX9_beatsUntilBreak_66 (by decide) (fun c => absurd c (by decide)) (fun _ => ?_)
    refine lv_iload_n hx hb dX9_beatsUntilBreak_69 rfl (lv_at hl 3 rfl) ?_
    refine lv_goto (tgt := 78) hx hb dX9_beatsUntilBreak_70 (by decide) ?_
    exact q_end1 (m_iret X hr hH hL dX9_beatsUntilBreak_78)

set_option maxRecDepth 20000 in
set_option maxHeartbeats 4000000 in
theorem co_X9_totalWithin (g : GP) (l : Launch) (hst : l.stackTraces = false) (a0 : Nat) (p1_ : Int32) (M : Mem) (t0 : tyT a0 = 9) (v : Int32) (M' : Mem) (hF : F_X9_totalWithin a0 p1_ M = some (v, M')) : CO g l yX9_totalWithin cX9_totalWithin 3 (some .int) 6 138 rvI [.ref (adr g a0), .int p1_] M (.inl v : Int32 ⊕ String) M' := by
  refine CO_of hst (by decide) (Nat.le_of_ble_eq_true rfl) ?_
  intro p e s m below meth c ls X hr htb hH hL hl
  have hx := X.1
  have hb := X.2.1
  have hts := X.2.2.2.2.1
  refine q_out hF ?_
  rw [F_X9_totalWithin]
  replace hl : lv_has ls 3 [(0, .ref (adr g a0)), (1, .int p1_)] := hl
  refine lv_aload_n hx hb dX9_totalWithin_0 rfl (lv_at hl 0 rfl) ?_
  refine lv_iconst (v := 0) hx hb dX9_totalWithin_1 (by decide) ?_
  refine q_lt (fun M1 e_M1 => ?_)
  refine m_pI (k := 0) X hH hL okC9 t0 rfl rfl rfl rfl W1284 dX9_totalWithin_2 e_M1 (fun H locs hH hL => ?_)
  refine lv_iload_n hx hb dX9_totalWithin_5 rfl (lv_at hl 1 rfl) ?_
  refine lv_iconst (v := 0) hx hb dX9_totalWithin_6 (by decide) ?_
  refine lv_bipush (v := 60) hx hb dX9_totalWithin_7 (by decide) ?_
  refine q_bind (fun v3 e2 => ?_)
  refine my_doneI hL (my_runS X hH hl.1 (co_X9_isBetween g l hst p1_ 0 60 M1 v3 e2) ok_X9_isBetween W1353 rfl rfl ⟨Nat.le_of_ble_eq_true rfl, Nat.le_of_ble_eq_true rfl⟩ ⟨Nat.zero_le _, Nat.zero_le _⟩ (Nat.le_of_ble_eq_true rfl) dX9_totalWithin_9) (fun H locs hH hL => ?_)
  refine lv_if_ne (tgt := 21) hx hb dX9_totalWithin_12 (by decide) (fun c4 => q_neg c4 ?_) (fun c4 => q_pos c4 ?_)
  · refine lv_aload_n hx hb dX9_totalWithin_21 rfl (lv_at hl 0 rfl) ?_
    refine q_b1 (fun u6 M7 e5 => ?_)
    refine my_doneU hL (my_runV X hH hl.1 (co_X9_looksAhead g l hst a0 M1 t0 u6 M7 e5) ok_X9_looksAhead W1633 t0 rfl (by decide) rfl rfl rfl ⟨Nat.le_of_ble_eq_true rfl, Nat.le_of_ble_eq_true rfl⟩ ⟨Nat.zero_le _, Nat.zero_le _⟩ (Nat.le_of_ble_eq_true rfl) dX9_totalWithin_22) (fun H locs hH hL => ?_)
    refine lv_aload_n hx hb dX9_totalWithin_25 rfl (lv_at hl 0 rfl) ?_
    refine lv_iload_n hx hb dX9_totalWithin_26 rfl (lv_at hl 1 rfl) ?_
    refine q_b1 (fun v9 M10 e8 => ?_)
    refine my_doneI hL (my_runV X hH hl.1 (co_X9_beatsTimes g l hst a0 p1_ M7 t0 v9 M10 e8) ok_X9_beatsTimes W1486 t0 rfl (by decide) rfl rfl rfl ⟨Nat.le_of_ble_eq_true rfl, Nat.le_of_ble_eq_true rfl⟩ ⟨Nat.zero_le _, Nat.zero_le _⟩ (Nat.le_of_ble_eq_true rfl) dX9_totalWithin_27) (fun H locs hH hL => ?_)
    refine lv_istore_n (lv' := [(2, .int v9), (0, .ref (adr g a0)), (1, .int p1_)]) hx hb dX9_totalWithin_30 rfl hl (by decide) rfl (fun ls hl => ?_)
    refine lv_aload_n hx hb dX9_totalWithin_31 rfl (lv_at hl 1 rfl) ?_
    refine q_b1 (fun u12 M13 e11 => ?_)
    refine my_doneU hL (my_runV X hH hl.1 (co_X9_looksBack g l hst a0 M10 t0 u12 M13 e11) ok_X9_looksBack W1637 t0 rfl (by decide) rfl rfl rfl ⟨Nat.le_of_ble_eq_true rfl, Nat.le_of_ble_eq_true rfl⟩ ⟨Nat.zero_le _, Nat.zero_le _⟩ (Nat.le_of_ble_eq_true rfl) dX9_totalWithin_32) (fun H locs hH hL => ?_)
    refine lv_iload_n hx hb dX9_totalWithin_35 rfl (lv_at hl 0 rfl) ?_
    exact q_end1 (m_iret X hr hH hL dX9_totalWithin_36)
  · refine lv_aload_n hx hb dX9_totalWithin_15 rfl (lv_at hl 0 rfl) ?_
    refine lv_iconst (v := 1) hx hb dX9_totalWithin_16 (by decide) ?_
    refine q_b1 (fun v15 M16 e14 => ?_)
    refine my_doneI hL (my_runV X hH hl.1 (co_X9_fails g l hst a0 1 M1 t0 v15 M16 e14) ok_X9_fails W1356 t0 rfl (by decide) rfl rfl rfl ⟨Nat.le_of_ble_eq_true rfl, Nat.le_of_ble_eq_true rfl⟩ ⟨Nat.zero_le _, Nat.zero_le _⟩ (Nat.le_of_ble_eq_true rfl) dX9_totalWithin_17) (fun H locs hH hL => ?_)
    exact q_end1 (m_iret X hr hH hL dX9_totalWithin_20)

set_option maxRecDepth 20000 in
set_option maxHeartbeats 4000000 in
theorem co_X9_breakCount (g : GP) (l : Launch) (hst : l.stackTraces = false) (a0 : Nat) (M : Mem) (t0 : tyT a0 = 9) (v : Int32) (M' : Mem) (hF : F_X9_breakCount a0 M = some (v, M')) : CO g l yX9_breakCount cX9_breakCount 1 (some .int) 1 21 rvI [.ref (adr g a0)] M (.inl v : Int32 ⊕ String) M' := by
  refine CO_of hst (by decide) (Nat.le_of_ble_eq_true rfl) ?_
  intro p e s m below meth c ls X hr htb hH hL hl
  have hx := X.1
  have hb := X.2.1
  have hts := X.2.2.2.2.1
  refine q_out hF ?_
  rw [F_X9_breakCount]
  replace hl : lv_has ls 1 [(0, .ref (adr g a0))] := hl
  refine lv_aload_n hx hb dX9_breakCount_0 rfl (lv_at hl 0 rfl) ?_
  refine lv_iconst (v := 4) hx hb dX9_breakCount_1 (by decide) ?_
  refine q_b1 (fun v2 M3 e1 => ?_)
  refine my_doneI hL (my_runV X hH hl.1 (co_X9_asks g l hst a0 4 M t0 v2 M3 e1) ok_X9_asks W1536 t0 rfl (by decide) rfl rfl rfl ⟨Nat.le_of_ble_eq_true rfl, Nat.le_of_ble_eq_true rfl⟩ ⟨Nat.zero_le _, Nat.zero_le _⟩ (Nat.le_of_ble_eq_true rfl) dX9_breakCount_2) (fun H locs hH hL => ?_)
  exact q_end1 (m_iret X hr hH hL dX9_breakCount_5)

set_option maxRecDepth 20000 in
set_option maxHeartbeats 4000000 in
theorem co_X9_playedVolume (g : GP) (l : Launch) (hst : l.stackTraces = false) (a0 : Nat) (p1_ : Int32) (M : Mem) (t0 : tyT a0 = 9) (v : Int32) (M' : Mem) (hF : F_X9_playedVolume a0 p1_ M = some (v, M')) : CO g l yX9_playedVolume cX9_playedVolume 2 (some .int) 3 65 rvI [.ref (adr g a0), .int p1_] M (.inl v : Int32 ⊕ String) M' := by
  refine CO_of hst (by decide) (Nat.le_of_ble_eq_true rfl) ?_
  intro p e s m below meth c ls X hr htb hH hL hl
  have hx := X.1
  have hb := X.2.1
  have hts := X.2.2.2.2.1
  refine q_out hF ?_
  rw [F_X9_playedVolume]
  replace hl : lv_has ls 2 [(0, .ref (adr g a0)), (1, .int p1_)] := hl
  refine lv_aload_n hx hb dX9_playedVolume_0 rfl (lv_at hl 0 rfl) ?_
  refine lv_iload_n hx hb dX9_playedVolume_1 rfl (lv_at hl 1 rfl) ?_
  refine lv_bipush (v := 6) hx hb dX9_playedVolume_2 (by decide) ?_
  refine q_b1 (fun v2 M3 e1 => ?_)
  refine my_doneI hL (my_runV X hH hl.1 (co_X9_asksSection g l hst a0 p1_ 6 M t0 v2 M3 e1) ok_X9_asksSection W1556 t0 rfl (by decide) rfl rfl rfl ⟨Nat.le_of_ble_eq_true rfl, Nat.le_of_ble_eq_true rfl⟩ ⟨Nat.zero_le _, Nat.zero_le _⟩ (Nat.le_of_ble_eq_true rfl) dX9_playedVolume_4) (fun H locs hH hL => ?_)
  exact q_end1 (m_iret X hr hH hL dX9_playedVolume_7)

set_option maxRecDepth 20000 in
set_option maxHeartbeats 4000000 in
theorem co_X9_totalVolume (g : GP) (l : Launch) (hst : l.stackTraces = false) (a0 : Nat) (M : Mem) (t0 : tyT a0 = 9) (v : Int64) (M' : Mem) (hF : F_X9_totalVolume a0 M = some (v, M')) : CO g l yX9_totalVolume cX9_totalVolume 1 (some .long) 0 0 rvJ [.ref (adr g a0)] M (.inl v : Int64 ⊕ String) M' := by
  refine CO_of hst (by decide) (Nat.le_of_ble_eq_true rfl) ?_
  intro p e s m below meth c ls X hr htb hH hL hl
  have hx := X.1
  have hb := X.2.1
  have hts := X.2.2.2.2.1
  refine q_out hF ?_
  rw [F_X9_totalVolume]
  replace hl : lv_has ls 1 [(0, .ref (adr g a0))] := hl
  refine lv_aload_n hx hb dX9_totalVolume_0 rfl (lv_at hl 0 rfl) ?_
  refine lv_iconst (v := 0) hx hb dX9_totalVolume_1 (by decide) ?_
  refine q_lt (fun M1 e_M1 => ?_)
  refine m_pI (k := 0) X hH hL okC9 t0 rfl rfl rfl rfl W1284 dX9_totalVolume_2 e_M1 (fun H locs hH hL => ?_)
  refine lv_aload_n hx hb dX9_totalVolume_5 rfl (lv_at hl 0 rfl) ?_
  refine m_gR (k := 1) X hH inC9 t0 rfl W1285 dX9_totalVolume_6 24 rfl (fun t2 => ?_)
  refine lv_iconst (v := 5) hx hb dX9_totalVolume_9 (by decide) ?_
  refine q_chk (fun hb3 => ?_)
  refine m_iald X hH t2 rfl (by decide) (fun _ => rfl) rfl rfl hb3 dX9_totalVolume_10 ?_
  refine lv_i2l hx hb dX9_totalVolume_11 rfl ?_
  exact q_end1 (m_lret X hr hH hL dX9_totalVolume_12)

set_option maxRecDepth 20000 in
set_option maxHeartbeats 4000000 in
theorem co_X9_soundsOf (g : GP) (l : Launch) (hst : l.stackTraces = false) (a0 : Nat) (p1_ : Int32) (p2_ : Int32) (M : Mem) (t0 : tyT a0 = 9) (v : Int32) (hF : F_X9_soundsOf a0 p1_ p2_ M = some v) : CO g l yX9_soundsOf cX9_soundsOf 3 (some .int) 0 0 rvI [.ref (adr g a0), .int p1_, .int p2_] M (.inl v : Int32 ⊕ String) M := by
  refine CO_of hst (by decide) (Nat.le_of_ble_eq_true rfl) ?_
  intro p e s m below meth c ls X hr htb hH hL hl
  have hx := X.1
  have hb := X.2.1
  have hts := X.2.2.2.2.1
  refine q_out hF ?_
  rw [F_X9_soundsOf]
  replace hl : lv_has ls 3 [(0, .ref (adr g a0)), (1, .int p1_), (2, .int p2_)] := hl
  refine lv_aload_n hx hb dX9_soundsOf_0 rfl (lv_at hl 0 rfl) ?_
  refine m_gR (k := 1) X hH inC9 t0 rfl W1285 dX9_soundsOf_1 24 rfl (fun t1 => ?_)
  refine lv_bipush (v := 18) hx hb dX9_soundsOf_4 (by decide) ?_
  refine lv_bipush (v := 9) hx hb dX9_soundsOf_6 (by decide) ?_
  refine lv_iload_n hx hb dX9_soundsOf_8 rfl (lv_at hl 1 rfl) ?_
  refine lv_imul hx hb dX9_soundsOf_9 ?_
  refine lv_iadd hx hb dX9_soundsOf_10 ?_
  refine lv_iload_n hx hb dX9_soundsOf_11 rfl (lv_at hl 2 rfl) ?_
  refine lv_iadd hx hb dX9_soundsOf_12 ?_
  refine lv_iconst (v := 1) hx hb dX9_soundsOf_13 (by decide) ?_
  refine lv_isub hx hb dX9_soundsOf_14 ?_
  refine q_chk (fun hb2 => ?_)
  refine m_iald X hH t1 rfl (by decide) (fun _ => rfl) rfl rfl hb2 dX9_soundsOf_15 ?_
  exact q_end0 (m_iret X hr hH hL dX9_soundsOf_16)

set_option maxRecDepth 20000 in
set_option maxHeartbeats 4000000 in
theorem co_X9_volumeBySounds (g : GP) (l : Launch) (hst : l.stackTraces = false) (a0 : Nat) (M : Mem) (t0 : tyT a0 = 9) (v : Int32) (hF : F_X9_volumeBySounds a0 M = some v) : CO g l yX9_volumeBySounds cX9_volumeBySounds 4 (some .int) 1 22 rvI [.ref (adr g a0)] M (.inl v : Int32 ⊕ String) M := by
  refine CO_of hst (by decide) (Nat.le_of_ble_eq_true rfl) ?_
  intro p e s m below meth c ls X hr htb hH hL hl
  have hx := X.1
  have hb := X.2.1
  have hts := X.2.2.2.2.1
  refine q_out hF ?_
  rw [F_X9_volumeBySounds]
  replace hl : lv_has ls 4 [(0, .ref (adr g a0))] := hl
  refine lv_iconst (v := 0) hx hb dX9_volumeBySounds_0 (by decide) ?_
  refine lv_istore_n (lv' := [(1, .int 0), (0, .ref (adr g a0))]) hx hb dX9_volumeBySounds_1 rfl hl (by decide) rfl (fun ls hl => ?_)
  refine lv_iconst (v := 0) hx hb dX9_volumeBySounds_2 (by decide) ?_
  refine lv_istore_n (lv' := [(2, .int 0), (1, .int 0), (0, .ref (adr g a0))]) hx hb dX9_volumeBySounds_3 rfl hl (by decide) rfl (fun ls hl => ?_)
  have L19 : ∀ (K : Int32 → Int32 → Option Int32) (_ : ∀ (i1 : Int32) (i2 : Int32) (H : Heap) (locs : List Loc) (ls : Array Slot), HR g M H → LK g s H locs → lv_has ls 4 [(0, .ref (adr g a0)), (1, .int i1), (2, .int i2)] → W p l e (rmO (.inl v : Int32 ⊕ String) 1 22) s m ([.ref (adr g a0)] : List Value).toArray below meth c H locs 0 0 (GQ (K i1 i2) v (MQO g below rvI (.inl v : Int32 ⊕ String) M ([.ref (adr g a0)] : List Value).toArray s)) (F0 m 44 ls [])) (n : Nat) (i1 : Int32) (i2 : Int32) (H : Heap) (locs : List Loc) (ls : Array Slot), HR g M H → LK g s H locs → lv_has ls 4 [(0, .ref (adr g a0)), (1, .int i1), (2, .int i2)] → W p l e (rmO (.inl v : Int32 ⊕ String) 1 22) s m ([.ref (adr g a0)] : List Value).toArray below meth c H locs 0 0 (GQ (F_X9_volumeBySounds_L1 a0 M K n i1 i2) v (MQO g below rvI (.inl v : Int32 ⊕ String) M ([.ref (adr g a0)] : List Value).toArray s)) (F0 m 4 ls []) := by
    intro K hK n
    induction n with
    | zero => intros; exact q_none
    | succ n ih =>
      intro i1 i2 H locs ls hH hL hl 
      rw [F_X9_volumeBySounds_L1]
      refine lv_iload_n hx hb dX9_volumeBySounds_4 rfl (lv_at hl 2 rfl) ?_
      refine lv_iconst (v := 3) hx hb dX9_volumeBySounds_5 (by decide) ?_
      refine lv_icmp_ge (tgt := 44) hx hb dX9_volumeBySounds_6 (by decide) (fun c4 => q_pos c4 ?_) (fun c4 => q_neg c4 ?_)
      · exact hK i1 i2 _ _ ls hH hL hl 
      · refine lv_iconst (v := 1) hx hb dX9_volumeBySounds_9 (by decide) ?_
        refine lv_istore_n (lv' := [(3, .int 1), (0, .ref (adr g a0)), (1, .int i1), (2, .int i2)]) hx hb dX9_volumeBySounds_10 rfl hl (by decide) rfl (fun ls hl => ?_)
        have L15 : ∀ (K : Int32 → Int32 → Option Int32) (_ : ∀ (i5 : Int32) (i6 : Int32) (H : Heap) (locs : List Loc) (ls : Array Slot), HR g M H → LK g s H locs → lv_has ls 4 [(0, .ref (adr g a0)), (1, .int i5), (2, .int i2), (3, .int i6)] → W p l e (rmO (.inl v : Int32 ⊕ String) 1 22) s m ([.ref (adr g a0)] : List Value).toArray below meth c H locs 0 0 (GQ (K i5 i6) v (MQO g below rvI (.inl v : Int32 ⊕ String) M ([.ref (adr g a0)] : List Value).toArray s)) (F0 m 38 ls [])) (n : Nat) (i5 : Int32) (i6 : Int32) (H : Heap) (locs : List Loc) (ls : Array Slot), HR g M H → LK g s H locs → lv_has ls 4 [(0, .ref (adr g a0)), (1, .int i5), (2, .int i2), (3, .int i6)] → W p l e (rmO (.inl v : Int32 ⊕ String) 1 22) s m ([.ref (adr g a0)] : List Value).toArray below meth c H locs 0 0 (GQ (F_X9_volumeBySounds_L2 a0 M i2 K n i5 i6) v (MQO g below rvI (.inl v : Int32 ⊕ String) M ([.ref (adr g a0)] : List Value).toArray s)) (F0 m 11 ls []) := by
          intro K hK n
          induction n with
          | zero => intros; exact q_none
          | succ n ih =>
            intro i5 i6 H locs ls hH hL hl 
            rw [F_X9_volumeBySounds_L2]
            refine lv_iload_n hx hb dX9_volumeBySounds_11 rfl (lv_at hl 3 rfl) ?_
            refine lv_bipush (v := 9) hx hb dX9_volumeBySounds_12 (by decide) ?_
            refine lv_icmp_gt (tgt := 38) hx hb dX9_volumeBySounds_14 (by decide) (fun c8 => q_pos c8 ?_) (fun c8 => q_neg c8 ?_)
            · exact hK i5 i6 _ _ ls hH hL hl 
            · refine lv_iload_n hx hb dX9_volumeBySounds_17 rfl (lv_at hl 1 rfl) ?_
              refine lv_aload_n hx hb dX9_volumeBySounds_18 rfl (lv_at hl 0 rfl) ?_
              refine lv_iload_n hx hb dX9_volumeBySounds_19 rfl (lv_at hl 2 rfl) ?_
              refine lv_iload_n hx hb dX9_volumeBySounds_20 rfl (lv_at hl 3 rfl) ?_
              refine q_bind (fun v10 e9 => ?_)
              refine my_doneI hL (my_runV X hH hl.1 (co_X9_soundsOf g l hst a0 i2 i6 M t0 v10 e9) ok_X9_soundsOf W1665 t0 rfl (by decide) rfl rfl rfl ⟨Nat.le_of_ble_eq_true rfl, Nat.le_of_ble_eq_true rfl⟩ ⟨Nat.zero_le _, Nat.zero_le _⟩ (Nat.le_of_ble_eq_true rfl) dX9_volumeBySounds_21) (fun H locs hH hL => ?_)
              refine lv_iload_n hx hb dX9_volumeBySounds_24 rfl (lv_at hl 2 rfl) ?_
              refine lv_iload_n hx hb dX9_volumeBySounds_25 rfl (lv_at hl 3 rfl) ?_
              refine q_bind (fun v12 e11 => ?_)
              refine my_doneI hL (my_runS X hH hl.1 (co_X9_volumeOf g l hst i2 i6 M v12 e11) ok_X9_volumeOf W1510 rfl rfl ⟨Nat.le_of_ble_eq_true rfl, Nat.le_of_ble_eq_true rfl⟩ ⟨Nat.zero_le _, Nat.zero_le _⟩ (Nat.le_of_ble_eq_true rfl) dX9_volumeBySounds_26) (fun H locs hH hL => ?_)
              refine lv_imul hx hb dX9_volumeBySounds_29 ?_
              refine lv_iadd hx hb dX9_volumeBySounds_30 ?_
              refine q_lt (fun v13 e_v13 => ?_)
              refine q_topI e_v13 ?_
              refine lv_istore_n (lv' := [(1, .int v13), (0, .ref (adr g a0)), (2, .int i2), (3, .int i6)]) hx hb dX9_volumeBySounds_31 rfl hl (by decide) rfl (fun ls hl => ?_)
              refine q_lt (fun v14 e_v14 => ?_)
              refine lv_iinc (v := v14) (lv' := [(3, .int v14), (1, .int v13), (0, .ref (adr g a0)), (2, .int i2)]) hx hb dX9_volumeBySounds_32 hl (k := 3) rfl (by rw [e_v14]; rfl) (by decide) rfl (fun ls hl => ?_)
              refine lv_goto (tgt := 11) hx hb dX9_volumeBySounds_35 (by decide) ?_
              exact ih v13 v14 _ _ ls hH hL (lv_sub hl [2, 1, 3, 0] rfl) 
        refine L15 _ (fun x16 x17 H locs ls hH hL hl  => ?_) 3000 i1 1 _ _ ls hH hL (lv_sub hl [1, 2, 3, 0] rfl) 
        refine q_lt (fun v18 e_v18 => ?_)
        refine lv_iinc (v := v18) (lv' := [(2, .int v18), (0, .ref (adr g a0)), (1, .int x16), (3, .int x17)]) hx hb dX9_volumeBySounds_38 hl (k := 2) rfl (by rw [e_v18]; rfl) (by decide) rfl (fun ls hl => ?_)
        refine lv_goto (tgt := 4) hx hb dX9_volumeBySounds_41 (by decide) ?_
        exact ih x16 v18 _ _ ls hH hL (lv_sub hl [1, 2, 0] rfl) 
  refine L19 _ (fun x20 x21 H locs ls hH hL hl  => ?_) 3000 0 0 _ _ ls hH hL (lv_sub hl [2, 1, 0] rfl) 
  refine lv_iload_n hx hb dX9_volumeBySounds_44 rfl (lv_at hl 1 rfl) ?_
  exact q_end0 (m_iret X hr hH hL dX9_volumeBySounds_45)

set_option maxRecDepth 20000 in
set_option maxHeartbeats 4000000 in
theorem co_X9_totalVolumeBySounds (g : GP) (l : Launch) (hst : l.stackTraces = false) (a0 : Nat) (M : Mem) (t0 : tyT a0 = 9) (v : Int64) (M' : Mem) (hF : F_X9_totalVolumeBySounds a0 M = some (v, M')) : CO g l yX9_totalVolumeBySounds cX9_totalVolumeBySounds 1 (some .long) 2 45 rvJ [.ref (adr g a0)] M (.inl v : Int64 ⊕ String) M' := by
  refine CO_of hst (by decide) (Nat.le_of_ble_eq_true rfl) ?_
  intro p e s m below meth c ls X hr htb hH hL hl
  have hx := X.1
  have hb := X.2.1
  have hts := X.2.2.2.2.1
  refine q_out hF ?_
  rw [F_X9_totalVolumeBySounds]
  replace hl : lv_has ls 1 [(0, .ref (adr g a0))] := hl
  refine lv_aload_n hx hb dX9_totalVolumeBySounds_0 rfl (lv_at hl 0 rfl) ?_
  refine lv_iconst (v := 0) hx hb dX9_totalVolumeBySounds_1 (by decide) ?_
  refine q_lt (fun M1 e_M1 => ?_)
  refine m_pI (k := 0) X hH hL okC9 t0 rfl rfl rfl rfl W1284 dX9_totalVolumeBySounds_2 e_M1 (fun H locs hH hL => ?_)
  refine lv_aload_n hx hb dX9_totalVolumeBySounds_5 rfl (lv_at hl 0 rfl) ?_
  refine q_bind (fun v3 e2 => ?_)
  refine my_doneI hL (my_runV X hH hl.1 (co_X9_volumeBySounds g l hst a0 M1 t0 v3 e2) ok_X9_volumeBySounds W1661 t0 rfl (by decide) rfl rfl rfl ⟨Nat.le_of_ble_eq_true rfl, Nat.le_of_ble_eq_true rfl⟩ ⟨Nat.zero_le _, Nat.zero_le _⟩ (Nat.le_of_ble_eq_true rfl) dX9_totalVolumeBySounds_6) (fun H locs hH hL => ?_)
  refine lv_i2l hx hb dX9_totalVolumeBySounds_9 rfl ?_
  exact q_end1 (m_lret X hr hH hL dX9_totalVolumeBySounds_10)

set_option maxRecDepth 20000 in
set_option maxHeartbeats 4000000 in
theorem co_X9_soundCount (g : GP) (l : Launch) (hst : l.stackTraces = false) (a0 : Nat) (p1_ : Int32) (p2_ : Int32) (M : Mem) (t0 : tyT a0 = 9) (v : Int32) (M' : Mem) (hF : F_X9_soundCount a0 p1_ p2_ M = some (v, M')) : CO g l yX9_soundCount cX9_soundCount 3 (some .int) 1 22 rvI [.ref (adr g a0), .int p1_, .int p2_] M (.inl v : Int32 ⊕ String) M' := by
  refine CO_of hst (by decide) (Nat.le_of_ble_eq_true rfl) ?_
  intro p e s m below meth c ls X hr htb hH hL hl
  have hx := X.1
  have hb := X.2.1
  have hts := X.2.2.2.2.1
  refine q_out hF ?_
  rw [F_X9_soundCount]
  replace hl : lv_has ls 3 [(0, .ref (adr g a0)), (1, .int p1_), (2, .int p2_)] := hl
  refine lv_aload_n hx hb dX9_soundCount_0 rfl (lv_at hl 0 rfl) ?_
  refine lv_iconst (v := 0) hx hb dX9_soundCount_1 (by decide) ?_
  refine q_lt (fun M1 e_M1 => ?_)
  refine m_pI (k := 0) X hH hL okC9 t0 rfl rfl rfl rfl W1284 dX9_soundCount_2 e_M1 (fun H locs hH hL => ?_)
  refine lv_iload_n hx hb dX9_soundCount_5 rfl (lv_at hl 1 rfl) ?_
  refine q_bind (fun v3 e2 => ?_)
  refine my_doneI hL (my_runS X hH hl.1 (co_X9_kindOf g l hst p1_ M1 v3 e2) ok_X9_kindOf W1350 rfl rfl ⟨Nat.le_of_ble_eq_true rfl, Nat.le_of_ble_eq_true rfl⟩ ⟨Nat.zero_le _, Nat.zero_le _⟩ (Nat.le_of_ble_eq_true rfl) dX9_soundCount_6) (fun H locs hH hL => ?_)
  refine lv_if_lt (tgt := 22) hx hb dX9_soundCount_9 (by decide) (fun c4 => q_pos c4 ?_) (fun c4 => q_neg c4 ?_)
  · refine lv_aload_n hx hb dX9_soundCount_22 rfl (lv_at hl 0 rfl) ?_
    refine lv_iconst (v := 1) hx hb dX9_soundCount_23 (by decide) ?_
    refine q_b1 (fun v6 M7 e5 => ?_)
    refine my_doneI hL (my_runV X hH hl.1 (co_X9_fails g l hst a0 1 M1 t0 v6 M7 e5) ok_X9_fails W1356 t0 rfl (by decide) rfl rfl rfl ⟨Nat.le_of_ble_eq_true rfl, Nat.le_of_ble_eq_true rfl⟩ ⟨Nat.zero_le _, Nat.zero_le _⟩ (Nat.le_of_ble_eq_true rfl) dX9_soundCount_24) (fun H locs hH hL => ?_)
    refine lv_goto (tgt := 39) hx hb dX9_soundCount_27 (by decide) ?_
    exact q_end1 (m_iret X hr hH hL dX9_soundCount_39)
  · refine lv_iload_n hx hb dX9_soundCount_12 rfl (lv_at hl 2 rfl) ?_
    refine lv_iconst (v := 1) hx hb dX9_soundCount_13 (by decide) ?_
    refine lv_bipush (v := 9) hx hb dX9_soundCount_14 (by decide) ?_
    refine q_bind (fun v9 e8 => ?_)
    refine my_doneI hL (my_runS X hH hl.1 (co_X9_isBetween g l hst p2_ 1 9 M1 v9 e8) ok_X9_isBetween W1353 rfl rfl ⟨Nat.le_of_ble_eq_true rfl, Nat.le_of_ble_eq_true rfl⟩ ⟨Nat.zero_le _, Nat.zero_le _⟩ (Nat.le_of_ble_eq_true rfl) dX9_soundCount_16) (fun H locs hH hL => ?_)
    refine lv_if_ne (tgt := 30) hx hb dX9_soundCount_19 (by decide) (fun c10 => q_neg c10 ?_) (fun c10 => q_pos c10 ?_)
    · refine lv_aload_n hx hb dX9_soundCount_30 rfl (lv_at hl 0 rfl) ?_
      refine lv_iload_n hx hb dX9_soundCount_31 rfl (lv_at hl 1 rfl) ?_
      refine q_bind (fun v12 e11 => ?_)
      refine my_doneI hL (my_runS X hH hl.1 (co_X9_kindOf g l hst p1_ M1 v12 e11) ok_X9_kindOf W1350 rfl rfl ⟨Nat.le_of_ble_eq_true rfl, Nat.le_of_ble_eq_true rfl⟩ ⟨Nat.zero_le _, Nat.zero_le _⟩ (Nat.le_of_ble_eq_true rfl) dX9_soundCount_32) (fun H locs hH hL => ?_)
      refine lv_iload_n hx hb dX9_soundCount_35 rfl (lv_at hl 2 rfl) ?_
      refine q_bind (fun v14 e13 => ?_)
      refine my_doneI hL (my_runV X hH hl.1 (co_X9_soundsOf g l hst a0 v12 p2_ M1 t0 v14 e13) ok_X9_soundsOf W1665 t0 rfl (by decide) rfl rfl rfl ⟨Nat.le_of_ble_eq_true rfl, Nat.le_of_ble_eq_true rfl⟩ ⟨Nat.zero_le _, Nat.zero_le _⟩ (Nat.le_of_ble_eq_true rfl) dX9_soundCount_36) (fun H locs hH hL => ?_)
      exact q_end1 (m_iret X hr hH hL dX9_soundCount_39)
    · refine lv_aload_n hx hb dX9_soundCount_22 rfl (lv_at hl 0 rfl) ?_
      refine lv_iconst (v := 1) hx hb dX9_soundCount_23 (by decide) ?_
      refine q_b1 (fun v16 M17 e15 => ?_)
      refine my_doneI hL (my_runV X hH hl.1 (co_X9_fails g l hst a0 1 M1 t0 v16 M17 e15) ok_X9_fails W1356 t0 rfl (by decide) rfl rfl rfl ⟨Nat.le_of_ble_eq_true rfl, Nat.le_of_ble_eq_true rfl⟩ ⟨Nat.zero_le _, Nat.zero_le _⟩ (Nat.le_of_ble_eq_true rfl) dX9_soundCount_24) (fun H locs hH hL => ?_)
      refine lv_goto (tgt := 39) hx hb dX9_soundCount_27 (by decide) ?_
      exact q_end1 (m_iret X hr hH hL dX9_soundCount_39)

set_option maxRecDepth 20000 in
set_option maxHeartbeats 4000000 in
theorem co_X9_greatestTotal (g : GP) (l : Launch) (hst : l.stackTraces = false) (a0 : Nat) (M : Mem) (t0 : tyT a0 = 9) (v : Int32) (M' : Mem) (hF : F_X9_greatestTotal a0 M = some (v, M')) : CO g l yX9_greatestTotal cX9_greatestTotal 1 (some .int) 1 21 rvI [.ref (adr g a0)] M (.inl v : Int32 ⊕ String) M' := by
  refine CO_of hst (by decide) (Nat.le_of_ble_eq_true rfl) ?_
  intro p e s m below meth c ls X hr htb hH hL hl
  have hx := X.1
  have hb := X.2.1
  have hts := X.2.2.2.2.1
  refine q_out hF ?_
  rw [F_X9_greatestTotal]
  replace hl : lv_has ls 1 [(0, .ref (adr g a0))] := hl
  refine lv_aload_n hx hb dX9_greatestTotal_0 rfl (lv_at hl 0 rfl) ?_
  refine lv_iconst (v := 0) hx hb dX9_greatestTotal_1 (by decide) ?_
  refine q_lt (fun M1 e_M1 => ?_)
  refine m_pI (k := 0) X hH hL okC9 t0 rfl rfl rfl rfl W1284 dX9_greatestTotal_2 e_M1 (fun H locs hH hL => ?_)
  refine lv_aload_n hx hb dX9_greatestTotal_5 rfl (lv_at hl 0 rfl) ?_
  refine m_gR (k := 1) X hH inC9 t0 rfl W1285 dX9_greatestTotal_6 24 rfl (fun t2 => ?_)
  refine lv_iconst (v := 1) hx hb dX9_greatestTotal_9 (by decide) ?_
  refine q_chk (fun hb3 => ?_)
  refine m_iald X hH t2 rfl (by decide) (fun _ => rfl) rfl rfl hb3 dX9_greatestTotal_10 ?_
  refine lv_if_ne (tgt := 22) hx hb dX9_greatestTotal_11 (by decide) (fun c4 => q_neg c4 ?_) (fun c4 => q_pos c4 ?_)
  · refine lv_aload_n hx hb dX9_greatestTotal_22 rfl (lv_at hl 0 rfl) ?_
    refine m_gR (k := 1) X hH inC9 t0 rfl W1285 dX9_greatestTotal_23 24 rfl (fun t5 => ?_)
    refine lv_bipush (v := 6) hx hb dX9_greatestTotal_26 (by decide) ?_
    refine q_chk (fun hb6 => ?_)
    refine m_iald X hH t5 rfl (by decide) (fun _ => rfl) rfl rfl hb6 dX9_greatestTotal_28 ?_
    exact q_end1 (m_iret X hr hH hL dX9_greatestTotal_29)
  · refine lv_aload_n hx hb dX9_greatestTotal_14 rfl (lv_at hl 0 rfl) ?_
    refine lv_iconst (v := 1) hx hb dX9_greatestTotal_15 (by decide) ?_
    refine q_b1 (fun v8 M9 e7 => ?_)
    refine my_doneI hL (my_runV X hH hl.1 (co_X9_fails g l hst a0 1 M1 t0 v8 M9 e7) ok_X9_fails W1356 t0 rfl (by decide) rfl rfl rfl ⟨Nat.le_of_ble_eq_true rfl, Nat.le_of_ble_eq_true rfl⟩ ⟨Nat.zero_le _, Nat.zero_le _⟩ (Nat.le_of_ble_eq_true rfl) dX9_greatestTotal_16) (fun H locs hH hL => ?_)
    refine lv_goto (tgt := 29) hx hb dX9_greatestTotal_19 (by decide) ?_
    exact q_end1 (m_iret X hr hH hL dX9_greatestTotal_29)

set_option maxRecDepth 20000 in
set_option maxHeartbeats 4000000 in
theorem co_X9_loggedTotal (g : GP) (l : Launch) (hst : l.stackTraces = false) (a0 : Nat) (p1_ : Int32) (M : Mem) (t0 : tyT a0 = 9) (v : Int32) (M' : Mem) (hF : F_X9_loggedTotal a0 p1_ M = some (v, M')) : CO g l yX9_loggedTotal cX9_loggedTotal 2 (some .int) 1 22 rvI [.ref (adr g a0), .int p1_] M (.inl v : Int32 ⊕ String) M' := by
  refine CO_of hst (by decide) (Nat.le_of_ble_eq_true rfl) ?_
  intro p e s m below meth c ls X hr htb hH hL hl
  have hx := X.1
  have hb := X.2.1
  have hts := X.2.2.2.2.1
  refine q_out hF ?_
  rw [F_X9_loggedTotal]
  replace hl : lv_has ls 2 [(0, .ref (adr g a0)), (1, .int p1_)] := hl
  refine lv_aload_n hx hb dX9_loggedTotal_0 rfl (lv_at hl 0 rfl) ?_
  refine lv_iconst (v := 0) hx hb dX9_loggedTotal_1 (by decide) ?_
  refine q_lt (fun M1 e_M1 => ?_)
  refine m_pI (k := 0) X hH hL okC9 t0 rfl rfl rfl rfl W1284 dX9_loggedTotal_2 e_M1 (fun H locs hH hL => ?_)
  refine lv_iload_n hx hb dX9_loggedTotal_5 rfl (lv_at hl 1 rfl) ?_
  refine lv_iconst (v := 0) hx hb dX9_loggedTotal_6 (by decide) ?_
  refine lv_aload_n hx hb dX9_loggedTotal_7 rfl (lv_at hl 0 rfl) ?_
  refine m_gR (k := 1) X hH inC9 t0 rfl W1285 dX9_loggedTotal_8 24 rfl (fun t2 => ?_)
  refine lv_bipush (v := 7) hx hb dX9_loggedTotal_11 (by decide) ?_
  refine q_chk (fun hb3 => ?_)
  refine m_iald X hH t2 rfl (by decide) (fun _ => rfl) rfl rfl hb3 dX9_loggedTotal_13 ?_
  refine lv_iconst (v := 1) hx hb dX9_loggedTotal_14 (by decide) ?_
  refine lv_isub hx hb dX9_loggedTotal_15 ?_
  refine q_bind (fun v5 e4 => ?_)
  refine my_doneI hL (my_runS X hH hl.1 (co_X9_isBetween g l hst p1_ 0 ((mI M1 (mR M1 a0 1) 7) - 1) M1 v5 e4) ok_X9_isBetween W1353 rfl rfl ⟨Nat.le_of_ble_eq_true rfl, Nat.le_of_ble_eq_true rfl⟩ ⟨Nat.zero_le _, Nat.zero_le _⟩ (Nat.le_of_ble_eq_true rfl) dX9_loggedTotal_16) (fun H locs hH hL => ?_)
  refine lv_if_eq (tgt := 34) hx hb dX9_loggedTotal_19 (by decide) (fun c6 => q_pos c6 ?_) (fun c6 => q_neg c6 ?_)
  · refine lv_aload_n hx hb dX9_loggedTotal_34 rfl (lv_at hl 0 rfl) ?_
    refine lv_iconst (v := 1) hx hb dX9_loggedTotal_35 (by decide) ?_
    refine q_b1 (fun v8 M9 e7 => ?_)
    refine my_doneI hL (my_runV X hH hl.1 (co_X9_fails g l hst a0 1 M1 t0 v8 M9 e7) ok_X9_fails W1356 t0 rfl (by decide) rfl rfl rfl ⟨Nat.le_of_ble_eq_true rfl, Nat.le_of_ble_eq_true rfl⟩ ⟨Nat.zero_le _, Nat.zero_le _⟩ (Nat.le_of_ble_eq_true rfl) dX9_loggedTotal_36) (fun H locs hH hL => ?_)
    exact q_end1 (m_iret X hr hH hL dX9_loggedTotal_39)
  · refine lv_aload_n hx hb dX9_loggedTotal_22 rfl (lv_at hl 0 rfl) ?_
    refine m_gR (k := 1) X hH inC9 t0 rfl W1285 dX9_loggedTotal_23 24 rfl (fun t10 => ?_)
    refine lv_bipush (v := 8) hx hb dX9_loggedTotal_26 (by decide) ?_
    refine lv_iload_n hx hb dX9_loggedTotal_28 rfl (lv_at hl 1 rfl) ?_
    refine lv_iadd hx hb dX9_loggedTotal_29 ?_
    refine q_chk (fun hb11 => ?_)
    refine m_iald X hH t10 rfl (by decide) (fun _ => rfl) rfl rfl hb11 dX9_loggedTotal_30 ?_
    refine lv_goto (tgt := 39) hx hb dX9_loggedTotal_31 (by decide) ?_
    exact q_end1 (m_iret X hr hH hL dX9_loggedTotal_39)

set_option maxRecDepth 20000 in
set_option maxHeartbeats 4000000 in
theorem co_X9_isAhead (g : GP) (l : Launch) (hst : l.stackTraces = false) (a0 : Nat) (p1_ : Int32) (p2_ : Int32) (M : Mem) (t0 : tyT a0 = 9) (v : Int32) (hF : F_X9_isAhead a0 p1_ p2_ M = some v) : CO g l yX9_isAhead cX9_isAhead 5 (some .boolean) 1 22 rvI [.ref (adr g a0), .int p1_, .int p2_] M (.inl v : Int32 ⊕ String) M := by
  refine CO_of hst (by decide) (Nat.le_of_ble_eq_true rfl) ?_
  intro p e s m below meth c ls X hr htb hH hL hl
  have hx := X.1
  have hb := X.2.1
  have hts := X.2.2.2.2.1
  refine q_out hF ?_
  rw [F_X9_isAhead]
  replace hl : lv_has ls 5 [(0, .ref (adr g a0)), (1, .int p1_), (2, .int p2_)] := hl
  refine lv_aload_n hx hb dX9_isAhead_0 rfl (lv_at hl 0 rfl) ?_
  refine lv_iload_n hx hb dX9_isAhead_1 rfl (lv_at hl 1 rfl) ?_
  refine lv_bipush (v := 6) hx hb dX9_isAhead_2 (by decide) ?_
  refine q_bind (fun v2 e1 => ?_)
  refine my_doneI hL (my_runV X hH hl.1 (co_X9_of g l hst a0 p1_ 6 M t0 v2 e1) ok_X9_of W1404 t0 rfl (by decide) rfl rfl rfl ⟨Nat.le_of_ble_eq_true rfl, Nat.le_of_ble_eq_true rfl⟩ ⟨Nat.zero_le _, Nat.zero_le _⟩ (Nat.le_of_ble_eq_true rfl) dX9_isAhead_4) (fun H locs hH hL => ?_)
  refine lv_aload_n hx hb dX9_isAhead_7 rfl (lv_at hl 0 rfl) ?_
  refine lv_iload_n hx hb dX9_isAhead_8 rfl (lv_at hl 2 rfl) ?_
  refine lv_bipush (v := 6) hx hb dX9_isAhead_9 (by decide) ?_
  refine q_bind (fun v4 e3 => ?_)
  refine my_doneI hL (my_runV X hH hl.1 (co_X9_of g l hst a0 p2_ 6 M t0 v4 e3) ok_X9_of W1404 t0 rfl (by decide) rfl rfl rfl ⟨Nat.le_of_ble_eq_true rfl, Nat.le_of_ble_eq_true rfl⟩ ⟨Nat.zero_le _, Nat.zero_le _⟩ (Nat.le_of_ble_eq_true rfl) dX9_isAhead_11) (fun H locs hH hL => ?_)
  refine lv_isub hx hb dX9_isAhead_14 ?_
  refine q_lt (fun v5 e_v5 => ?_)
  refine q_topI e_v5 ?_
  refine lv_istore_n (lv' := [(3, .int v5), (0, .ref (adr g a0)), (1, .int p1_), (2, .int p2_)]) hx hb dX9_isAhead_15 rfl hl (by decide) rfl (fun ls hl => ?_)
  refine lv_aload_n hx hb dX9_isAhead_16 rfl (lv_at hl 1 rfl) ?_
  refine lv_iload_n hx hb dX9_isAhead_17 rfl (lv_at hl 3 rfl) ?_
  refine lv_iconst (v := 4) hx hb dX9_isAhead_18 (by decide) ?_
  refine q_bind (fun v7 e6 => ?_)
  refine my_doneI hL (my_runV X hH hl.1 (co_X9_of g l hst a0 p2_ 4 M t0 v7 e6) ok_X9_of W1404 t0 rfl (by decide) rfl rfl rfl ⟨Nat.le_of_ble_eq_true rfl, Nat.le_of_ble_eq_true rfl⟩ ⟨Nat.zero_le _, Nat.zero_le _⟩ (Nat.le_of_ble_eq_true rfl) dX9_isAhead_19) (fun H locs hH hL => ?_)
  refine lv_aload_n hx hb dX9_isAhead_22 rfl (lv_at hl 1 rfl) ?_
  refine lv_iload_n hx hb dX9_isAhead_23 rfl (lv_at hl 2 rfl) ?_
  refine lv_iconst (v := 4) hx hb dX9_isAhead_24 (by decide) ?_
  refine q_bind (fun v9 e8 => ?_)
  refine my_doneI hL (my_runV X hH hl.1 (co_X9_of g l hst a0 p1_ 4 M t0 v9 e8) ok_X9_of W1404 t0 rfl (by decide) rfl rfl rfl ⟨Nat.le_of_ble_eq_true rfl, Nat.le_of_ble_eq_true rfl⟩ ⟨Nat.zero_le _, Nat.zero_le _⟩ (Nat.le_of_ble_eq_true rfl) dX9_isAhead_25) (fun H locs hH hL => ?_)
  refine lv_isub hx hb dX9_isAhead_28 ?_
  refine q_lt (fun v10 e_v10 => ?_)
  refine q_topI e_v10 ?_
  refine lv_istore (lv' := [(4, .int v10), (3, .int v5), (0, .ref (adr g a0)), (1, .int p1_), (2, .int p2_)]) hx hb dX9_isAhead_29 hl (by decide) rfl (fun ls hl => ?_)
  refine lv_iload_n hx hb dX9_isAhead_31 rfl (lv_at hl 1 rfl) ?_
  refine lv_if_eq (tgt := 45) hx hb dX9_isAhead_32 (by decide) (fun c11 => q_pos c11 ?_) (fun c11 => q_neg c11 ?_)
  · refine lv_iload hx hb dX9_isAhead_45 (lv_at hl 0 rfl) ?_
    refine lv_if_eq (tgt := 63) hx hb dX9_isAhead_47 (by decide) (fun c12 => q_pos c12 ?_) (fun c12 => q_neg c12 ?_)
    · refine lv_iload_n hx hb dX9_isAhead_63 rfl (lv_at hl 3 rfl) ?_
      refine lv_iload_n hx hb dX9_isAhead_64 rfl (lv_at hl 4 rfl) ?_
      refine lv_icmp_ge (tgt := 72) hx hb dX9_isAhead_65 (by decide) (fun c13 => q_pos c13 ?_) (fun c13 => q_neg c13 ?_)
      · refine lv_iconst (v := 0) hx hb dX9_isAhead_72 (by decide) ?_
        exact q_end0 (m_zret X hr hH hL (by decide) dX9_isAhead_73)
      · refine lv_iconst (v := 1) hx hb dX9_isAhead_68 (by decide) ?_
        refine lv_goto (tgt := 73) hx hb dX9_isAhead_69 (by decide) ?_
        exact q_end0 (m_zret X hr hH hL (by decide) dX9_isAhead_73)
    · refine lv_iload hx hb dX9_isAhead_50 (lv_at hl 0 rfl) ?_
      refine lv_if_le (tgt := 59) hx hb dX9_isAhead_52 (by decide) (fun c14 => q_pos c14 ?_) (fun c14 => q_neg c14 ?_)
      · refine lv_iconst (v := 0) hx hb dX9_isAhead_59 (by decide) ?_
        refine lv_goto (tgt := 73) hx hb dX9_isAhead_60 (by decide) ?_
        exact q_end0 (m_zret X hr hH hL (by decide) dX9_isAhead_73)
      · refine lv_iconst (v := 1) hx hb dX9_isAhead_55 (by decide) ?_
        refine lv_goto (tgt := 73) hx hb dX9_isAhead_56 (by decide) ?_
        exact q_end0 (m_zret X hr hH hL (by decide) dX9_isAhead_73)
  · refine lv_iload_n hx hb dX9_isAhead_35 rfl (lv_at hl 1 rfl) ?_
    refine lv_if_le (tgt := 43) hx hb dX9_isAhead_36 (by decide) (fun c15 => q_pos c15 ?_) (fun c15 => q_neg c15 ?_)
    · refine lv_iconst (v := 0) hx hb dX9_isAhead_43 (by decide) ?_
      exact q_end0 (m_zret X hr hH hL (by decide) dX9_isAhead_44)
    · refine lv_iconst (v := 1) hx hb dX9_isAhead_39 (by decide) ?_
      refine lv_goto (tgt := 44) hx hb dX9_isAhead_40 (by decide) ?_
      exact q_end0 (m_zret X hr hH hL (by decide) dX9_isAhead_44)

set_option maxRecDepth 20000 in
set_option maxHeartbeats 4000000 in
theorem co_X9_sectionByVolume (g : GP) (l : Launch) (hst : l.stackTraces = false) (a0 : Nat) (p1_ : Int32) (M : Mem) (t0 : tyT a0 = 9) (v : Int32) (M' : Mem) (hF : F_X9_sectionByVolume a0 p1_ M = some (v, M')) : CO g l yX9_sectionByVolume cX9_sectionByVolume 5 (some .int) 2 46 rvI [.ref (adr g a0), .int p1_] M (.inl v : Int32 ⊕ String) M' := by
  refine CO_of hst (by decide) (Nat.le_of_ble_eq_true rfl) ?_
  intro p e s m below meth c ls X hr htb hH hL hl
  have hx := X.1
  have hb := X.2.1
  have hts := X.2.2.2.2.1
  refine q_out hF ?_
  rw [F_X9_sectionByVolume]
  replace hl : lv_has ls 5 [(0, .ref (adr g a0)), (1, .int p1_)] := hl
  refine lv_aload_n hx hb dX9_sectionByVolume_0 rfl (lv_at hl 0 rfl) ?_
  refine lv_iconst (v := 0) hx hb dX9_sectionByVolume_1 (by decide) ?_
  refine q_lt (fun M1 e_M1 => ?_)
  refine m_pI (k := 0) X hH hL okC9 t0 rfl rfl rfl rfl W1284 dX9_sectionByVolume_2 e_M1 (fun H locs hH hL => ?_)
  refine lv_iconst (v := 0) hx hb dX9_sectionByVolume_5 (by decide) ?_
  refine lv_istore_n (lv' := [(2, .int 0), (0, .ref (adr g a0)), (1, .int p1_)]) hx hb dX9_sectionByVolume_6 rfl hl (by decide) rfl (fun ls hl => ?_)
  have L25 : ∀ (K : Int32 → Option (Int32 × Mem)) (_ : ∀ (i2 : Int32) (H : Heap) (locs : List Loc) (ls : Array Slot), HR g M1 H → LK g s H locs → lv_has ls 5 [(0, .ref (adr g a0)), (1, .int p1_), (2, .int i2)] → W p l e (rmO (.inl v : Int32 ⊕ String) 2 46) s m ([.ref (adr g a0), .int p1_] : List Value).toArray below meth c H locs 0 0 (GQ (K i2) (v, M') (MQO g below rvI (.inl v : Int32 ⊕ String) M' ([.ref (adr g a0), .int p1_] : List Value).toArray s)) (F0 m 70 ls [])) (n : Nat) (i2 : Int32) (H : Heap) (locs : List Loc) (ls : Array Slot), HR g M1 H → LK g s H locs → lv_has ls 5 [(0, .ref (adr g a0)), (1, .int p1_), (2, .int i2)] → W p l e (rmO (.inl v : Int32 ⊕ String) 2 46) s m ([.ref (adr g a0), .int p1_] : List Value).toArray below meth c H locs 0 0 (GQ (F_X9_sectionByVolume_L1 a0 p1_ M1 K n i2) (v, M') (MQO g below rvI (.inl v : Int32 ⊕ String) M' ([.ref (adr g a0), .int p1_] : List Value).toArray s)) (F0 m 7 ls []) := by
    intro K hK n
    induction n with
    | zero => intros; exact q_none
    | succ n ih =>
      intro i2 H locs ls hH hL hl 
      rw [F_X9_sectionByVolume_L1]
      refine lv_iload_n hx hb dX9_sectionByVolume_7 rfl (lv_at hl 2 rfl) ?_
      refine lv_aload_n hx hb dX9_sectionByVolume_8 rfl (lv_at hl 0 rfl) ?_
      refine m_gR (k := 1) X hH inC9 t0 rfl W1285 dX9_sectionByVolume_9 24 rfl (fun t4 => ?_)
      refine lv_iconst (v := 0) hx hb dX9_sectionByVolume_12 (by decide) ?_
      refine q_chk (fun hb5 => ?_)
      refine m_iald X hH t4 rfl (by decide) (fun _ => rfl) rfl rfl hb5 dX9_sectionByVolume_13 ?_
      refine lv_icmp_ge (tgt := 70) hx hb dX9_sectionByVolume_14 (by decide) (fun c6 => q_pos c6 ?_) (fun c6 => q_neg c6 ?_)
      · exact hK i2 _ _ ls hH hL hl 
      · refine lv_iconst (v := 0) hx hb dX9_sectionByVolume_17 (by decide) ?_
        refine lv_istore_n (lv' := [(3, .int 0), (0, .ref (adr g a0)), (1, .int p1_), (2, .int i2)]) hx hb dX9_sectionByVolume_18 rfl hl (by decide) rfl (fun ls hl => ?_)
        refine lv_iconst (v := 0) hx hb dX9_sectionByVolume_19 (by decide) ?_
        refine lv_istore (lv' := [(4, .int 0), (3, .int 0), (0, .ref (adr g a0)), (1, .int p1_), (2, .int i2)]) hx hb dX9_sectionByVolume_20 hl (by decide) rfl (fun ls hl => ?_)
        have L20 : ∀ (K : Int32 → Int32 → Option (Int32 × Mem)) (_ : ∀ (i7 : Int32) (i8 : Int32) (H : Heap) (locs : List Loc) (ls : Array Slot), HR g M1 H → LK g s H locs → lv_has ls 5 [(0, .ref (adr g a0)), (1, .int p1_), (2, .int i2), (3, .int i7), (4, .int i8)] → W p l e (rmO (.inl v : Int32 ⊕ String) 2 46) s m ([.ref (adr g a0), .int p1_] : List Value).toArray below meth c H locs 0 0 (GQ (K i7 i8) (v, M') (MQO g below rvI (.inl v : Int32 ⊕ String) M' ([.ref (adr g a0), .int p1_] : List Value).toArray s)) (F0 m 57 ls [])) (n : Nat) (i7 : Int32) (i8 : Int32) (H : Heap) (locs : List Loc) (ls : Array Slot), HR g M1 H → LK g s H locs → lv_has ls 5 [(0, .ref (adr g a0)), (1, .int p1_), (2, .int i2), (3, .int i7), (4, .int i8)] → W p l e (rmO (.inl v : Int32 ⊕ String) 2 46) s m ([.ref (adr g a0), .int p1_] : List Value).toArray below meth c H locs 0 0 (GQ (F_X9_sectionByVolume_L2 a0 M1 i2 K n i7 i8) (v, M') (MQO g below rvI (.inl v : Int32 ⊕ String) M' ([.ref (adr g a0), .int p1_] : List Value).toArray s)) (F0 m 22 ls []) := by
          intro K hK n
          induction n with
          | zero => intros; exact q_none
          | succ n ih =>
            intro i7 i8 H locs ls hH hL hl 
            rw [F_X9_sectionByVolume_L2]
            refine lv_iload hx hb dX9_sectionByVolume_22 (lv_at hl 4 rfl) ?_
            refine lv_aload_n hx hb dX9_sectionByVolume_24 rfl (lv_at hl 0 rfl) ?_
            refine m_gR (k := 1) X hH inC9 t0 rfl W1285 dX9_sectionByVolume_25 24 rfl (fun t10 => ?_)
            refine lv_iconst (v := 0) hx hb dX9_sectionByVolume_28 (by decide) ?_
            refine q_chk (fun hb11 => ?_)
            refine m_iald X hH t10 rfl (by decide) (fun _ => rfl) rfl rfl hb11 dX9_sectionByVolume_29 ?_
            refine lv_icmp_ge (tgt := 57) hx hb dX9_sectionByVolume_30 (by decide) (fun c12 => q_pos c12 ?_) (fun c12 => q_neg c12 ?_)
            · exact hK i7 i8 _ _ ls hH hL hl 
            · refine lv_iload_n hx hb dX9_sectionByVolume_33 rfl (lv_at hl 3 rfl) ?_
              refine lv_aload_n hx hb dX9_sectionByVolume_34 rfl (lv_at hl 0 rfl) ?_
              refine lv_iload hx hb dX9_sectionByVolume_35 (lv_at hl 4 rfl) ?_
              refine lv_iload_n hx hb dX9_sectionByVolume_37 rfl (lv_at hl 2 rfl) ?_
              refine q_bind (fun v14 e13 => ?_)
              refine my_doneI hL (my_runV X hH hl.1 (co_X9_isAhead g l hst a0 i8 i2 M1 t0 v14 e13) ok_X9_isAhead W1685 t0 rfl (by decide) rfl rfl rfl ⟨Nat.le_of_ble_eq_true rfl, Nat.le_of_ble_eq_true rfl⟩ ⟨Nat.zero_le _, Nat.zero_le _⟩ (Nat.le_of_ble_eq_true rfl) dX9_sectionByVolume_38) (fun H locs hH hL => ?_)
              refine lv_if_eq (tgt := 48) hx hb dX9_sectionByVolume_41 (by decide) (fun c15 => q_pos c15 ?_) (fun c15 => q_neg c15 ?_)
              · refine lv_iconst (v := 0) hx hb dX9_sectionByVolume_48 (by decide) ?_
                refine lv_iadd hx hb dX9_sectionByVolume_49 ?_
                refine q_lt (fun v16 e_v16 => ?_)
                refine q_topI e_v16 ?_
                refine lv_istore_n (lv' := [(3, .int v16), (0, .ref (adr g a0)), (1, .int p1_), (2, .int i2), (4, .int i8)]) hx hb dX9_sectionByVolume_50 rfl hl (by decide) rfl (fun ls hl => ?_)
                refine q_lt (fun v17 e_v17 => ?_)
                refine lv_iinc (v := v17) (lv' := [(4, .int v17), (3, .int v16), (0, .ref (adr g a0)), (1, .int p1_), (2, .int i2)]) hx hb dX9_sectionByVolume_51 hl (k := 4) rfl (by rw [e_v17]; rfl) (by decide) rfl (fun ls hl => ?_)
                refine lv_goto (tgt := 22) hx hb dX9_sectionByVolume_54 (by decide) ?_
                exact ih v16 v17 _ _ ls hH hL (lv_sub hl [2, 3, 4, 1, 0] rfl) 
              · refine lv_iconst (v := 1) hx hb dX9_sectionByVolume_44 (by decide) ?_
                refine lv_goto (tgt := 49) hx hb dX9_sectionByVolume_45 (by decide) ?_
                refine lv_iadd hx hb dX9_sectionByVolume_49 ?_
                refine q_lt (fun v18 e_v18 => ?_)
                refine q_topI e_v18 ?_
                refine lv_istore_n (lv' := [(3, .int v18), (0, .ref (adr g a0)), (1, .int p1_), (2, .int i2), (4, .int i8)]) hx hb dX9_sectionByVolume_50 rfl hl (by decide) rfl (fun ls hl => ?_)
                refine q_lt (fun v19 e_v19 => ?_)
                refine lv_iinc (v := v19) (lv' := [(4, .int v19), (3, .int v18), (0, .ref (adr g a0)), (1, .int p1_), (2, .int i2)]) hx hb dX9_sectionByVolume_51 hl (k := 4) rfl (by rw [e_v19]; rfl) (by decide) rfl (fun ls hl => ?_)
                refine lv_goto (tgt := 22) hx hb dX9_sectionByVolume_54 (by decide) ?_
                exact ih v18 v19 _ _ ls hH hL (lv_sub hl [2, 3, 4, 1, 0] rfl) 
        refine L20 _ (fun x21 x22 H locs ls hH hL hl  => ?_) 3000 0 0 _ _ ls hH hL (lv_sub hl [2, 3, 4, 1, 0] rfl) 
        refine lv_iload_n hx hb dX9_sectionByVolume_57 rfl (lv_at hl 3 rfl) ?_
        refine lv_iload_n hx hb dX9_sectionByVolume_58 rfl (lv_at hl 1 rfl) ?_
        refine lv_icmp_ne (tgt := 64) hx hb dX9_sectionByVolume_59 (by decide) (fun c23 => q_neg c23 ?_) (fun c23 => q_pos c23 ?_)
        · refine q_lt (fun v24 e_v24 => ?_)
          refine lv_iinc (v := v24) (lv' := [(2, .int v24), (0, .ref (adr g a0)), (1, .int p1_), (3, .int x21), (4, .int x22)]) hx hb dX9_sectionByVolume_64 hl (k := 2) rfl (by rw [e_v24]; rfl) (by decide) rfl (fun ls hl => ?_)
          refine lv_goto (tgt := 7) hx hb dX9_sectionByVolume_67 (by decide) ?_
          exact ih v24 _ _ ls hH hL (lv_sub hl [1, 2, 0] rfl) 
        · refine lv_iload_n hx hb dX9_sectionByVolume_62 rfl (lv_at hl 2 rfl) ?_
          exact q_end1 (m_iret X hr hH hL dX9_sectionByVolume_63)
  refine L25 _ (fun x26 H locs ls hH hL hl  => ?_) 3000 0 _ _ ls hH hL (lv_sub hl [1, 2, 0] rfl) 
  refine lv_aload_n hx hb dX9_sectionByVolume_70 rfl (lv_at hl 0 rfl) ?_
  refine lv_iconst (v := 1) hx hb dX9_sectionByVolume_71 (by decide) ?_
  refine q_b1 (fun v28 M29 e27 => ?_)
  refine my_doneI hL (my_runV X hH hl.1 (co_X9_fails g l hst a0 1 M1 t0 v28 M29 e27) ok_X9_fails W1356 t0 rfl (by decide) rfl rfl rfl ⟨Nat.le_of_ble_eq_true rfl, Nat.le_of_ble_eq_true rfl⟩ ⟨Nat.zero_le _, Nat.zero_le _⟩ (Nat.le_of_ble_eq_true rfl) dX9_sectionByVolume_72) (fun H locs hH hL => ?_)
  exact q_end1 (m_iret X hr hH hL dX9_sectionByVolume_75)

set_option maxRecDepth 20000 in
set_option maxHeartbeats 4000000 in
theorem co_X9_soundsAll (g : GP) (l : Launch) (hst : l.stackTraces = false) (a0 : Nat) (p1_ : Int32) (M : Mem) (t0 : tyT a0 = 9) (v : Int32) (hF : F_X9_soundsAll a0 p1_ M = some v) : CO g l yX9_soundsAll cX9_soundsAll 2 (some .int) 1 22 rvI [.ref (adr g a0), .int p1_] M (.inl v : Int32 ⊕ String) M := by
  refine CO_of hst (by decide) (Nat.le_of_ble_eq_true rfl) ?_
  intro p e s m below meth c ls X hr htb hH hL hl
  have hx := X.1
  have hb := X.2.1
  have hts := X.2.2.2.2.1
  refine q_out hF ?_
  rw [F_X9_soundsAll]
  replace hl : lv_has ls 2 [(0, .ref (adr g a0)), (1, .int p1_)] := hl
  refine lv_aload_n hx hb dX9_soundsAll_0 rfl (lv_at hl 0 rfl) ?_
  refine lv_iconst (v := 0) hx hb dX9_soundsAll_1 (by decide) ?_
  refine lv_iload_n hx hb dX9_soundsAll_2 rfl (lv_at hl 1 rfl) ?_
  refine q_bind (fun v2 e1 => ?_)
  refine my_doneI hL (my_runV X hH hl.1 (co_X9_soundsOf g l hst a0 0 p1_ M t0 v2 e1) ok_X9_soundsOf W1665 t0 rfl (by decide) rfl rfl rfl ⟨Nat.le_of_ble_eq_true rfl, Nat.le_of_ble_eq_true rfl⟩ ⟨Nat.zero_le _, Nat.zero_le _⟩ (Nat.le_of_ble_eq_true rfl) dX9_soundsAll_3) (fun H locs hH hL => ?_)
  refine lv_aload_n hx hb dX9_soundsAll_6 rfl (lv_at hl 0 rfl) ?_
  refine lv_iconst (v := 1) hx hb dX9_soundsAll_7 (by decide) ?_
  refine lv_iload_n hx hb dX9_soundsAll_8 rfl (lv_at hl 1 rfl) ?_
  refine q_bind (fun v4 e3 => ?_)
  refine my_doneI hL (my_runV X hH hl.1 (co_X9_soundsOf g l hst a0 1 p1_ M t0 v4 e3) ok_X9_soundsOf W1665 t0 rfl (by decide) rfl rfl rfl ⟨Nat.le_of_ble_eq_true rfl, Nat.le_of_ble_eq_true rfl⟩ ⟨Nat.zero_le _, Nat.zero_le _⟩ (Nat.le_of_ble_eq_true rfl) dX9_soundsAll_9) (fun H locs hH hL => ?_)
  refine lv_iadd hx hb dX9_soundsAll_12 ?_
  refine lv_aload_n hx hb dX9_soundsAll_13 rfl (lv_at hl 0 rfl) ?_
  refine lv_iconst (v := 2) hx hb dX9_soundsAll_14 (by decide) ?_
  refine lv_iload_n hx hb dX9_soundsAll_15 rfl (lv_at hl 1 rfl) ?_
  refine q_bind (fun v6 e5 => ?_)
  refine my_doneI hL (my_runV X hH hl.1 (co_X9_soundsOf g l hst a0 2 p1_ M t0 v6 e5) ok_X9_soundsOf W1665 t0 rfl (by decide) rfl rfl rfl ⟨Nat.le_of_ble_eq_true rfl, Nat.le_of_ble_eq_true rfl⟩ ⟨Nat.zero_le _, Nat.zero_le _⟩ (Nat.le_of_ble_eq_true rfl) dX9_soundsAll_16) (fun H locs hH hL => ?_)
  refine lv_iadd hx hb dX9_soundsAll_19 ?_
  exact q_end0 (m_iret X hr hH hL dX9_soundsAll_20)

set_option maxRecDepth 20000 in
set_option maxHeartbeats 4000000 in
theorem co_X9_noteBySounds (g : GP) (l : Launch) (hst : l.stackTraces = false) (a0 : Nat) (p1_ : Int32) (M : Mem) (t0 : tyT a0 = 9) (v : Int32) (M' : Mem) (hF : F_X9_noteBySounds a0 p1_ M = some (v, M')) : CO g l yX9_noteBySounds cX9_noteBySounds 6 (some .int) 2 43 rvI [.ref (adr g a0), .int p1_] M (.inl v : Int32 ⊕ String) M' := by
  refine CO_of hst (by decide) (Nat.le_of_ble_eq_true rfl) ?_
  intro p e s m below meth c ls X hr htb hH hL hl
  have hx := X.1
  have hb := X.2.1
  have hts := X.2.2.2.2.1
  refine q_out hF ?_
  rw [F_X9_noteBySounds]
  replace hl : lv_has ls 6 [(0, .ref (adr g a0)), (1, .int p1_)] := hl
  refine lv_aload_n hx hb dX9_noteBySounds_0 rfl (lv_at hl 0 rfl) ?_
  refine lv_iconst (v := 0) hx hb dX9_noteBySounds_1 (by decide) ?_
  refine q_lt (fun M1 e_M1 => ?_)
  refine m_pI (k := 0) X hH hL okC9 t0 rfl rfl rfl rfl W1284 dX9_noteBySounds_2 e_M1 (fun H locs hH hL => ?_)
  refine lv_iconst (v := 1) hx hb dX9_noteBySounds_5 (by decide) ?_
  refine lv_istore_n (lv' := [(2, .int 1), (0, .ref (adr g a0)), (1, .int p1_)]) hx hb dX9_noteBySounds_6 rfl hl (by decide) rfl (fun ls hl => ?_)
  have L30 : ∀ (K : Int32 → Option (Int32 × Mem)) (_ : ∀ (i2 : Int32) (H : Heap) (locs : List Loc) (ls : Array Slot), HR g M1 H → LK g s H locs → lv_has ls 6 [(0, .ref (adr g a0)), (1, .int p1_), (2, .int i2)] → W p l e (rmO (.inl v : Int32 ⊕ String) 2 43) s m ([.ref (adr g a0), .int p1_] : List Value).toArray below meth c H locs 0 0 (GQ (K i2) (v, M') (MQO g below rvI (.inl v : Int32 ⊕ String) M' ([.ref (adr g a0), .int p1_] : List Value).toArray s)) (F0 m 82 ls [])) (n : Nat) (i2 : Int32) (H : Heap) (locs : List Loc) (ls : Array Slot), HR g M1 H → LK g s H locs → lv_has ls 6 [(0, .ref (adr g a0)), (1, .int p1_), (2, .int i2)] → W p l e (rmO (.inl v : Int32 ⊕ String) 2 43) s m ([.ref (adr g a0), .int p1_] : List Value).toArray below meth c H locs 0 0 (GQ (F_X9_noteBySounds_L1 a0 p1_ M1 K n i2) (v, M') (MQO g below rvI (.inl v : Int32 ⊕ String) M' ([.ref (adr g a0), .int p1_] : List Value).toArray s)) (F0 m 7 ls []) := by
    intro K hK n
    induction n with
    | zero => intros; exact q_none
    | succ n ih =>
      intro i2 H locs ls hH hL hl 
      rw [F_X9_noteBySounds_L1]
      refine lv_iload_n hx hb dX9_noteBySounds_7 rfl (lv_at hl 2 rfl) ?_
      refine lv_bipush (v := 9) hx hb dX9_noteBySounds_8 (by decide) ?_
      refine lv_icmp_gt (tgt := 82) hx hb dX9_noteBySounds_10 (by decide) (fun c4 => q_pos c4 ?_) (fun c4 => q_neg c4 ?_)
      · exact hK i2 _ _ ls hH hL hl 
      · refine lv_iconst (v := 0) hx hb dX9_noteBySounds_13 (by decide) ?_
        refine lv_istore_n (lv' := [(3, .int 0), (0, .ref (adr g a0)), (1, .int p1_), (2, .int i2)]) hx hb dX9_noteBySounds_14 rfl hl (by decide) rfl (fun ls hl => ?_)
        refine lv_iconst (v := 1) hx hb dX9_noteBySounds_15 (by decide) ?_
        refine lv_istore (lv' := [(4, .int 1), (3, .int 0), (0, .ref (adr g a0)), (1, .int p1_), (2, .int i2)]) hx hb dX9_noteBySounds_16 hl (by decide) rfl (fun ls hl => ?_)
        have L25 : ∀ (K : Int32 → Int32 → Option (Int32 × Mem)) (_ : ∀ (i5 : Int32) (i6 : Int32) (H : Heap) (locs : List Loc) (ls : Array Slot), HR g M1 H → LK g s H locs → lv_has ls 6 [(0, .ref (adr g a0)), (1, .int p1_), (2, .int i2), (3, .int i5), (4, .int i6)] → W p l e (rmO (.inl v : Int32 ⊕ String) 2 43) s m ([.ref (adr g a0), .int p1_] : List Value).toArray below meth c H locs 0 0 (GQ (K i5 i6) (v, M') (MQO g below rvI (.inl v : Int32 ⊕ String) M' ([.ref (adr g a0), .int p1_] : List Value).toArray s)) (F0 m 69 ls [])) (n : Nat) (i5 : Int32) (i6 : Int32) (H : Heap) (locs : List Loc) (ls : Array Slot), HR g M1 H → LK g s H locs → lv_has ls 6 [(0, .ref (adr g a0)), (1, .int p1_), (2, .int i2), (3, .int i5), (4, .int i6)] → W p l e (rmO (.inl v : Int32 ⊕ String) 2 43) s m ([.ref (adr g a0), .int p1_] : List Value).toArray below meth c H locs 0 0 (GQ (F_X9_noteBySounds_L2 a0 M1 i2 K n i5 i6) (v, M') (MQO g below rvI (.inl v : Int32 ⊕ String) M' ([.ref (adr g a0), .int p1_] : List Value).toArray s)) (F0 m 18 ls []) := by
          intro K hK n
          induction n with
          | zero => intros; exact q_none
          | succ n ih =>
            intro i5 i6 H locs ls hH hL hl 
            rw [F_X9_noteBySounds_L2]
            refine lv_iload hx hb dX9_noteBySounds_18 (lv_at hl 4 rfl) ?_
            refine lv_bipush (v := 9) hx hb dX9_noteBySounds_20 (by decide) ?_
            refine lv_icmp_gt (tgt := 69) hx hb dX9_noteBySounds_22 (by decide) (fun c8 => q_pos c8 ?_) (fun c8 => q_neg c8 ?_)
            · exact hK i5 i6 _ _ ls hH hL hl 
            · refine lv_aload_n hx hb dX9_noteBySounds_25 rfl (lv_at hl 0 rfl) ?_
              refine lv_iload hx hb dX9_noteBySounds_26 (lv_at hl 4 rfl) ?_
              refine q_bind (fun v10 e9 => ?_)
              refine my_doneI hL (my_runV X hH hl.1 (co_X9_soundsAll g l hst a0 i6 M1 t0 v10 e9) ok_X9_soundsAll W1693 t0 rfl (by decide) rfl rfl rfl ⟨Nat.le_of_ble_eq_true rfl, Nat.le_of_ble_eq_true rfl⟩ ⟨Nat.zero_le _, Nat.zero_le _⟩ (Nat.le_of_ble_eq_true rfl) dX9_noteBySounds_28) (fun H locs hH hL => ?_)
              refine lv_aload_n hx hb dX9_noteBySounds_31 rfl (lv_at hl 0 rfl) ?_
              refine lv_iload_n hx hb dX9_noteBySounds_32 rfl (lv_at hl 2 rfl) ?_
              refine q_bind (fun v12 e11 => ?_)
              refine my_doneI hL (my_runV X hH hl.1 (co_X9_soundsAll g l hst a0 i2 M1 t0 v12 e11) ok_X9_soundsAll W1693 t0 rfl (by decide) rfl rfl rfl ⟨Nat.le_of_ble_eq_true rfl, Nat.le_of_ble_eq_true rfl⟩ ⟨Nat.zero_le _, Nat.zero_le _⟩ (Nat.le_of_ble_eq_true rfl) dX9_noteBySounds_33) (fun H locs hH hL => ?_)
              refine lv_isub hx hb dX9_noteBySounds_36 ?_
              refine q_lt (fun v13 e_v13 => ?_)
              refine q_topI e_v13 ?_
              refine lv_istore (lv' := [(5, .int v13), (0, .ref (adr g a0)), (1, .int p1_), (2, .int i2), (3, .int i5), (4, .int i6)]) hx hb dX9_noteBySounds_37 hl (by decide) rfl (fun ls hl => ?_)
              refine lv_iload_n hx hb dX9_noteBySounds_39 rfl (lv_at hl 4 rfl) ?_
              refine lv_iload hx hb dX9_noteBySounds_40 (lv_at hl 0 rfl) ?_
              refine lv_if_gt (tgt := 56) hx hb dX9_noteBySounds_42 (by decide) (fun c14 => q_pos c14 ?_) (fun c14 => q_neg c14 ?_)
              · refine lv_iconst (v := 1) hx hb dX9_noteBySounds_56 (by decide) ?_
                refine lv_goto (tgt := 61) hx hb dX9_noteBySounds_57 (by decide) ?_
                refine lv_iadd hx hb dX9_noteBySounds_61 ?_
                refine q_lt (fun v15 e_v15 => ?_)
                refine q_topI e_v15 ?_
                refine lv_istore_n (lv' := [(3, .int v15), (5, .int v13), (0, .ref (adr g a0)), (1, .int p1_), (2, .int i2), (4, .int i6)]) hx hb dX9_noteBySounds_62 rfl hl (by decide) rfl (fun ls hl => ?_)
                refine q_lt (fun v16 e_v16 => ?_)
                refine lv_iinc (v := v16) (lv' := [(4, .int v16), (3, .int v15), (5, .int v13), (0, .ref (adr g a0)), (1, .int p1_), (2, .int i2)]) hx hb dX9_noteBySounds_63 hl (k := 5) rfl (by rw [e_v16]; rfl) (by decide) rfl (fun ls hl => ?_)
                refine lv_goto (tgt := 18) hx hb dX9_noteBySounds_66 (by decide) ?_
                exact ih v15 v16 _ _ ls hH hL (lv_sub hl [3, 4, 5, 1, 0] rfl) 
              · refine lv_iload hx hb dX9_noteBySounds_45 (lv_at hl 0 rfl) ?_
                refine lv_if_ne (tgt := 60) hx hb dX9_noteBySounds_47 (by decide) (fun c17 => q_neg c17 ?_) (fun c17 => q_pos c17 ?_)
                · refine lv_iconst (v := 0) hx hb dX9_noteBySounds_60 (by decide) ?_
                  refine lv_iadd hx hb dX9_noteBySounds_61 ?_
                  refine q_lt (fun v18 e_v18 => ?_)
                  refine q_topI e_v18 ?_
                  refine lv_istore_n (lv' := [(3, .int v18), (5, .int v13), (0, .ref (adr g a0)), (1, .int p1_), (2, .int i2), (4, .int i6)]) hx hb dX9_noteBySounds_62 rfl hl (by decide) rfl (fun ls hl => ?_)
                  refine q_lt (fun v19 e_v19 => ?_)
                  refine lv_iinc (v := v19) (lv' := [(4, .int v19), (3, .int v18), (5, .int v13), (0, .ref (adr g a0)), (1, .int p1_), (2, .int i2)]) hx hb dX9_noteBySounds_63 hl (k := 5) rfl (by rw [e_v19]; rfl) (by decide) rfl (fun ls hl => ?_)
                  refine lv_goto (tgt := 18) hx hb dX9_noteBySounds_66 (by decide) ?_
                  exact ih v18 v19 _ _ ls hH hL (lv_sub hl [3, 4, 5, 1, 0] rfl) 
                · refine lv_iload hx hb dX9_noteBySounds_50 (lv_at hl 5 rfl) ?_
                  refine lv_iload_n hx hb dX9_noteBySounds_52 rfl (lv_at hl 3 rfl) ?_
                  refine lv_icmp_le (tgt := 60) hx hb dX9_noteBySounds_53 (by decide) (fun c20 => q_pos c20 ?_) (fun c20 => q_neg c20 ?_)
                  · refine lv_iconst (v := 0) hx hb dX9_noteBySounds_60 (by decide) ?_
                    refine lv_iadd hx hb dX9_noteBySounds_61 ?_
                    refine q_lt (fun v21 e_v21 => ?_)
                    refine q_topI e_v21 ?_
                    refine lv_istore_n (lv' := [(3, .int v21), (5, .int v13), (0, .ref (adr g a0)), (1, .int p1_), (2, .int i2), (4, .int i6)]) hx hb dX9_noteBySounds_62 rfl hl (by decide) rfl (fun ls hl => ?_)
                    refine q_lt (fun v22 e_v22 => ?_)
                    refine lv_iinc (v := v22) (lv' := [(4, .int v22), (3, .int v21), (5, .int v13), (0, .ref (adr g a0)), (1, .int p1_), (2, .int i2)]) hx hb dX9_noteBySounds_63 hl (k := 5) rfl (by rw [e_v22]; rfl) (by decide) rfl (fun ls hl => ?_)
                    refine lv_goto (tgt := 18) hx hb dX9_noteBySounds_66 (by decide) ?_
                    exact ih v21 v22 _ _ ls hH hL (lv_sub hl [3, 4, 5, 1, 0] rfl) 
                  · refine lv_iconst (v := 1) hx hb dX9_noteBySounds_56 (by decide) ?_
                    refine lv_goto (tgt := 61) hx hb dX9_noteBySounds_57 (by decide) ?_
                    refine lv_iadd hx hb dX9_noteBySounds_61 ?_
                    refine q_lt (fun v23 e_v23 => ?_)
                    refine q_topI e_v23 ?_
                    refine lv_istore_n (lv' := [(3, .int v23), (5, .int v13), (0, .ref (adr g a0)), (1, .int p1_), (2, .int i2), (4, .int i6)]) hx hb dX9_noteBySounds_62 rfl hl (by decide) rfl (fun ls hl => ?_)
                    refine q_lt (fun v24 e_v24 => ?_)
                    refine lv_iinc (v := v24) (lv' := [(4, .int v24), (3, .int v23), (5, .int v13), (0, .ref (adr g a0)), (1, .int p1_), (2, .int i2)]) hx hb dX9_noteBySounds_63 hl (k := 5) rfl (by rw [e_v24]; rfl) (by decide) rfl (fun ls hl => ?_)
                    refine lv_goto (tgt := 18) hx hb dX9_noteBySounds_66 (by decide) ?_
                    exact ih v23 v24 _ _ ls hH hL (lv_sub hl [3, 4, 5, 1, 0] rfl) 
        refine L25 _ (fun x26 x27 H locs ls hH hL hl  => ?_) 3000 0 1 _ _ ls hH hL (lv_sub hl [2, 3, 4, 1, 0] rfl) 
        refine lv_iload_n hx hb dX9_noteBySounds_69 rfl (lv_at hl 3 rfl) ?_
        refine lv_iload_n hx hb dX9_noteBySounds_70 rfl (lv_at hl 1 rfl) ?_
        refine lv_icmp_ne (tgt := 76) hx hb dX9_noteBySounds_71 (by decide) (fun c28 => q_neg c28 ?_) (fun c28 => q_pos c28 ?_)
        · refine q_lt (fun v29 e_v29 => ?_)
          refine lv_iinc (v := v29) (lv' := [(2, .int v29), (0, .ref (adr g a0)), (1, .int p1_), (3, .int x26), (4, .int x27)]) hx hb dX9_noteBySounds_76 hl (k := 2) rfl (by rw [e_v29]; rfl) (by decide) rfl (fun ls hl => ?_)
          refine lv_goto (tgt := 7) hx hb dX9_noteBySounds_79 (by decide) ?_
          exact ih v29 _ _ ls hH hL (lv_sub hl [1, 2, 0] rfl) 
        · refine lv_iload_n hx hb dX9_noteBySounds_74 rfl (lv_at hl 2 rfl) ?_
          exact q_end1 (m_iret X hr hH hL dX9_noteBySounds_75)
  refine L30 _ (fun x31 H locs ls hH hL hl  => ?_) 3000 1 _ _ ls hH hL (lv_sub hl [1, 2, 0] rfl) 
  refine lv_aload_n hx hb dX9_noteBySounds_82 rfl (lv_at hl 0 rfl) ?_
  refine lv_iconst (v := 1) hx hb dX9_noteBySounds_83 (by decide) ?_
  refine q_b1 (fun v33 M34 e32 => ?_)
  refine my_doneI hL (my_runV X hH hl.1 (co_X9_fails g l hst a0 1 M1 t0 v33 M34 e32) ok_X9_fails W1356 t0 rfl (by decide) rfl rfl rfl ⟨Nat.le_of_ble_eq_true rfl, Nat.le_of_ble_eq_true rfl⟩ ⟨Nat.zero_le _, Nat.zero_le _⟩ (Nat.le_of_ble_eq_true rfl) dX9_noteBySounds_84) (fun H locs hH hL => ?_)
  exact q_end1 (m_iret X hr hH hL dX9_noteBySounds_87)

set_option maxRecDepth 20000 in
set_option maxHeartbeats 4000000 in
theorem co_X9_meanTotal (g : GP) (l : Launch) (hst : l.stackTraces = false) (a0 : Nat) (M : Mem) (t0 : tyT a0 = 9) (v : UInt64) (M' : Mem) (hF : F_X9_meanTotal a0 M = some (v, M')) : CO g l yX9_meanTotal cX9_meanTotal 1 (some .double) 1 21 rvD [.ref (adr g a0)] M (.inl v : UInt64 ⊕ String) M' := by
  refine CO_of hst (by decide) (Nat.le_of_ble_eq_true rfl) ?_
  intro p e s m below meth c ls X hr htb hH hL hl
  have hx := X.1
  have hb := X.2.1
  have hts := X.2.2.2.2.1
  refine q_out hF ?_
  rw [F_X9_meanTotal]
  replace hl : lv_has ls 1 [(0, .ref (adr g a0))] := hl
  refine lv_aload_n hx hb dX9_meanTotal_0 rfl (lv_at hl 0 rfl) ?_
  refine lv_iconst (v := 0) hx hb dX9_meanTotal_1 (by decide) ?_
  refine q_lt (fun M1 e_M1 => ?_)
  refine m_pI (k := 0) X hH hL okC9 t0 rfl rfl rfl rfl W1284 dX9_meanTotal_2 e_M1 (fun H locs hH hL => ?_)
  refine lv_aload_n hx hb dX9_meanTotal_5 rfl (lv_at hl 0 rfl) ?_
  refine m_gR (k := 1) X hH inC9 t0 rfl W1285 dX9_meanTotal_6 24 rfl (fun t2 => ?_)
  refine lv_iconst (v := 1) hx hb dX9_meanTotal_9 (by decide) ?_
  refine q_chk (fun hb3 => ?_)
  refine m_iald X hH t2 rfl (by decide) (fun _ => rfl) rfl rfl hb3 dX9_meanTotal_10 ?_
  refine lv_if_ne (tgt := 23) hx hb dX9_meanTotal_11 (by decide) (fun c4 => q_neg c4 ?_) (fun c4 => q_pos c4 ?_)
  · refine lv_aload_n hx hb dX9_meanTotal_23 rfl (lv_at hl 0 rfl) ?_
    refine m_gR (k := 1) X hH inC9 t0 rfl W1285 dX9_meanTotal_24 24 rfl (fun t5 => ?_)
    refine lv_iconst (v := 5) hx hb dX9_meanTotal_27 (by decide) ?_
    refine q_chk (fun hb6 => ?_)
    refine m_iald X hH t5 rfl (by decide) (fun _ => rfl) rfl rfl hb6 dX9_meanTotal_28 ?_
    refine lv_i2d hx hb dX9_meanTotal_29 ?_
    refine lv_aload_n hx hb dX9_meanTotal_30 rfl (lv_at hl 0 rfl) ?_
    refine m_gR (k := 1) X hH inC9 t0 rfl W1285 dX9_meanTotal_31 24 rfl (fun t7 => ?_)
    refine lv_iconst (v := 1) hx hb dX9_meanTotal_34 (by decide) ?_
    refine q_chk (fun hb8 => ?_)
    refine m_iald X hH t7 rfl (by decide) (fun _ => rfl) rfl rfl hb8 dX9_meanTotal_35 ?_
    refine lv_i2d hx hb dX9_meanTotal_36 ?_
    refine q_chk (fun hz9 => ?_)
    refine lv_ddiv hx hb dX9_meanTotal_37 (nn64_n hz9) ?_
    exact q_end1 (m_dret X hr hH hL dX9_meanTotal_38)
  · refine lv_aload_n hx hb dX9_meanTotal_14 rfl (lv_at hl 0 rfl) ?_
    refine lv_iconst (v := 1) hx hb dX9_meanTotal_15 (by decide) ?_
    refine q_b1 (fun v11 M12 e10 => ?_)
    refine my_doneI hL (my_runV X hH hl.1 (co_X9_fails g l hst a0 1 M1 t0 v11 M12 e10) ok_X9_fails W1356 t0 rfl (by decide) rfl rfl rfl ⟨Nat.le_of_ble_eq_true rfl, Nat.le_of_ble_eq_true rfl⟩ ⟨Nat.zero_le _, Nat.zero_le _⟩ (Nat.le_of_ble_eq_true rfl) dX9_meanTotal_16) (fun H locs hH hL => ?_)
    refine lv_i2d hx hb dX9_meanTotal_19 ?_
    refine lv_goto (tgt := 38) hx hb dX9_meanTotal_20 (by decide) ?_
    exact q_end1 (m_dret X hr hH hL dX9_meanTotal_38)

