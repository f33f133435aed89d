set_option maxRecDepth 20000 in
set_option maxHeartbeats 4000000 in
theorem co_X8_digitSign (g : GP) (l : Launch) (hst : l.stackTraces = false) (p1_ : Int32) (M : Mem)  (v : Int32) (hF : F_X8_digitSign p1_ = some v) : CO g l yX8_digitSign cX8_digitSign 1 (some .char) 0 0 rvI [.int p1_] M (.inl v : Int32 ⊕ String) M := by
  refine CO_of hst (by decide) (Nat.le_of_ble_eq_true rfl) ?_
  intro p e s m below meth c ls X hr htb hH hL hl
  have hx := X.1
  have hb := X.2.1
  have hts := X.2.2.2.2.1
  refine q_out hF ?_
  rw [F_X8_digitSign]
  replace hl : lv_has ls 1 [(0, .int p1_)] := hl
  refine lv_bipush (v := 48) hx hb dX8_digitSign_0 (by decide) ?_
  refine lv_iload_n hx hb dX8_digitSign_2 rfl (lv_at hl 0 rfl) ?_
  refine lv_iadd hx hb dX8_digitSign_3 ?_
  refine lv_i2c hx hb dX8_digitSign_4 rfl ?_
  refine q_chk (fun hn1 => ?_)
  exact q_end0 (m_zret X hr hH hL (nokC_n hn1) dX8_digitSign_5)

set_option maxRecDepth 20000 in
set_option maxHeartbeats 4000000 in
theorem co_X8_renderScore (g : GP) (l : Launch) (hst : l.stackTraces = false) (a0 : Nat) (p1_ : Int32) (M : Mem) (t0 : tyT a0 = 8) (o : Int32 ⊕ String) (M' : Mem) (hF : F_X8_renderScore a0 p1_ M = some (o, M')) : CO g l yX8_renderScore cX8_renderScore 5 (some .int) 7 221 rvI [.ref (adr g a0), .int p1_] M o M' := by
  refine CO_of hst (by decide) (Nat.le_of_ble_eq_true rfl) ?_
  intro p e s m below meth c ls X hr htb hH hL hl
  have hx := X.1
  have hb := X.2.1
  have hts := X.2.2.2.2.1
  refine q_out hF ?_
  rw [F_X8_renderScore]
  replace hl : lv_has ls 5 [(0, .ref (adr g a0)), (1, .int p1_)] := hl
  refine lv_aload_n hx hb dX8_renderScore_0 rfl (lv_at hl 0 rfl) ?_
  refine lv_iload_n hx hb dX8_renderScore_1 rfl (lv_at hl 1 rfl) ?_
  refine q_bx2 (fun q2 M3 e1 => ?_) (fun E4 M3 e1 => my_thrown X.2.2.2.2.2.2.1 htb hL (my_runV X hH hl.1 (co_X8_presentSection g l hst a0 p1_ M t0 (.inr E4) M3 e1) ok_X8_presentSection W534 t0 rfl (by decide) rfl rfl rfl ⟨Nat.le_of_ble_eq_true rfl, Nat.le_of_ble_eq_true rfl⟩ ⟨Nat.le_refl _, Nat.le_refl _⟩ (Nat.le_of_ble_eq_true rfl) dX8_renderScore_2))
  refine my_doneR hL (my_runV X hH hl.1 (co_X8_presentSection g l hst a0 p1_ M t0 (.inl q2) M3 e1) ok_X8_presentSection W534 t0 rfl (by decide) rfl rfl rfl ⟨Nat.le_of_ble_eq_true rfl, Nat.le_of_ble_eq_true rfl⟩ ⟨Nat.zero_le _, Nat.zero_le _⟩ (Nat.le_of_ble_eq_true rfl) dX8_renderScore_2) (fun H locs hH hL => ?_)
  refine q_chk (fun hk5 => ?_)
  refine lv_astore_n (lv' := [(2, .ref (adr g q2)), (0, .ref (adr g a0)), (1, .int p1_)]) hx hb dX8_renderScore_5 rfl hl (by decide) rfl (fun ls hl => ?_)
  refine lv_aload_n hx hb dX8_renderScore_6 rfl (lv_at hl 1 rfl) ?_
  refine m_gR (k := 7) X hH inC8 t0 rfl W286 dX8_renderScore_7 6 rfl (fun t6 => ?_)
  refine q_b1 (fun u8 M9 e7 => ?_)
  refine my_doneU hL (my_runV X hH hl.1 (co_X6_clear g l hst (mR M3 a0 7) M3 t6 u8 M9 e7) ok_X6_clear W1052 t6 rfl (by decide) rfl rfl rfl ⟨Nat.le_of_ble_eq_true rfl, Nat.le_of_ble_eq_true rfl⟩ ⟨Nat.zero_le _, Nat.zero_le _⟩ (Nat.le_of_ble_eq_true rfl) dX8_renderScore_10) (fun H locs hH hL => ?_)
  refine lv_aload_n hx hb dX8_renderScore_13 rfl (lv_at hl 1 rfl) ?_
  refine m_gR (k := 7) X hH inC8 t0 rfl W286 dX8_renderScore_14 6 rfl (fun t10 => ?_)
  refine lv_aload_n hx hb dX8_renderScore_17 rfl (lv_at hl 0 rfl) ?_
  refine m_gI (k := 0) X hH inC4 (Nat.eq_of_beq_eq_true hk5) rfl W122 dX8_renderScore_18 ?_
  refine q_b1 (fun u12 M13 e11 => ?_)
  refine my_doneU hL (my_runV X hH hl.1 (co_X6_append g l hst (mR M9 a0 7) (mI M9 q2 0) M9 t10 u12 M13 e11) ok_X6_append W1056 t10 rfl (by decide) rfl rfl rfl ⟨Nat.le_of_ble_eq_true rfl, Nat.le_of_ble_eq_true rfl⟩ ⟨Nat.zero_le _, Nat.zero_le _⟩ (Nat.le_of_ble_eq_true rfl) dX8_renderScore_21) (fun H locs hH hL => ?_)
  refine lv_aload_n hx hb dX8_renderScore_24 rfl (lv_at hl 1 rfl) ?_
  refine m_gR (k := 7) X hH inC8 t0 rfl W286 dX8_renderScore_25 6 rfl (fun t14 => ?_)
  refine lv_bipush (v := 58) hx hb dX8_renderScore_28 (by decide) ?_
  refine q_b1 (fun u16 M17 e15 => ?_)
  refine my_doneU hL (my_runV X hH hl.1 (co_X6_append g l hst (mR M13 a0 7) 58 M13 t14 u16 M17 e15) ok_X6_append W1056 t14 rfl (by decide) rfl rfl rfl ⟨Nat.le_of_ble_eq_true rfl, Nat.le_of_ble_eq_true rfl⟩ ⟨Nat.zero_le _, Nat.zero_le _⟩ (Nat.le_of_ble_eq_true rfl) dX8_renderScore_30) (fun H locs hH hL => ?_)
  refine lv_iconst (v := 0) hx hb dX8_renderScore_33 (by decide) ?_
  refine lv_istore_n (lv' := [(3, .int 0), (2, .ref (adr g q2)), (0, .ref (adr g a0)), (1, .int p1_)]) hx hb dX8_renderScore_34 rfl hl (by decide) rfl (fun ls hl => ?_)
  have L61 : ∀ (K : Int32 → Mem → Option ((Int32 ⊕ String) × Mem)) (_ : ∀ (i18 : Int32) (M19 : Mem) (H : Heap) (locs : List Loc) (ls : Array Slot), HR g M19 H → LK g s H locs → lv_has ls 5 [(0, .ref (adr g a0)), (1, .int p1_), (2, .ref (adr g q2)), (3, .int i18)] → W p l e (rmO o 7 221) s m ([.ref (adr g a0), .int p1_] : List Value).toArray below meth c H locs 0 0 (GQ (K i18 M19) (o, M') (MQO g below rvI o M' ([.ref (adr g a0), .int p1_] : List Value).toArray s)) (F0 m 97 ls [])) (n : Nat) (i18 : Int32) (M19 : Mem) (H : Heap) (locs : List Loc) (ls : Array Slot), HR g M19 H → LK g s H locs → lv_has ls 5 [(0, .ref (adr g a0)), (1, .int p1_), (2, .ref (adr g q2)), (3, .int i18)] → W p l e (rmO o 7 221) s m ([.ref (adr g a0), .int p1_] : List Value).toArray below meth c H locs 0 0 (GQ (F_X8_renderScore_L1 a0 q2 K n i18 M19) (o, M') (MQO g below rvI o M' ([.ref (adr g a0), .int p1_] : List Value).toArray s)) (F0 m 35 ls []) := by
    intro K hK n
    induction n with
    | zero => intros; exact q_none
    | succ n ih =>
      intro i18 M19 H locs ls hH hL hl 
      rw [F_X8_renderScore_L1]
      refine lv_iload_n hx hb dX8_renderScore_35 rfl (lv_at hl 3 rfl) ?_
      refine lv_aload_n hx hb dX8_renderScore_36 rfl (lv_at hl 2 rfl) ?_
      refine m_gI (k := 1) X hH inC4 (Nat.eq_of_beq_eq_true hk5) rfl W124 dX8_renderScore_37 ?_
      refine lv_icmp_ge (tgt := 97) hx hb dX8_renderScore_40 (by decide) (fun c21 => q_pos c21 ?_) (fun c21 => q_neg c21 ?_)
      · exact hK i18 M19 _ _ ls hH hL hl 
      · refine lv_iload_n hx hb dX8_renderScore_43 rfl (lv_at hl 3 rfl) ?_
        refine lv_if_le (tgt := 56) hx hb dX8_renderScore_44 (by decide) (fun c22 => q_pos c22 ?_) (fun c22 => q_neg c22 ?_)
        · refine lv_iconst (v := 0) hx hb dX8_renderScore_56 (by decide) ?_
          refine lv_istore (lv' := [(4, .int 0), (0, .ref (adr g a0)), (1, .int p1_), (2, .ref (adr g q2)), (3, .int i18)]) hx hb dX8_renderScore_57 hl (by decide) rfl (fun ls hl => ?_)
          have L36 : ∀ (K : Int32 → Mem → Option ((Int32 ⊕ String) × Mem)) (_ : ∀ (i23 : Int32) (M24 : Mem) (H : Heap) (locs : List Loc) (ls : Array Slot), HR g M24 H → LK g s H locs → lv_has ls 5 [(0, .ref (adr g a0)), (1, .int p1_), (2, .ref (adr g q2)), (3, .int i18), (4, .int i23)] → W p l e (rmO o 7 221) s m ([.ref (adr g a0), .int p1_] : List Value).toArray below meth c H locs 0 0 (GQ (K i23 M24) (o, M') (MQO g below rvI o M' ([.ref (adr g a0), .int p1_] : List Value).toArray s)) (F0 m 91 ls [])) (n : Nat) (i23 : Int32) (M24 : Mem) (H : Heap) (locs : List Loc) (ls : Array Slot), HR g M24 H → LK g s H locs → lv_has ls 5 [(0, .ref (adr g a0)), (1, .int p1_), (2, .ref (adr g q2)), (3, .int i18), (4, .int i23)] → W p l e (rmO o 7 221) s m ([.ref (adr g a0), .int p1_] : List Value).toArray below meth c H locs 0 0 (GQ (F_X8_renderScore_L2 a0 q2 i18 K n i23 M24) (o, M') (MQO g below rvI o M' ([.ref (adr g a0), .int p1_] : List Value).toArray s)) (F0 m 59 ls []) := by
            intro K hK n
            induction n with
            | zero => intros; exact q_none
            | succ n ih =>
              intro i23 M24 H locs ls hH hL hl 
              rw [F_X8_renderScore_L2]
              refine lv_iload hx hb dX8_renderScore_59 (lv_at hl 4 rfl) ?_
              refine lv_aload_n hx hb dX8_renderScore_61 rfl (lv_at hl 2 rfl) ?_
              refine m_gI (k := 2) X hH inC4 (Nat.eq_of_beq_eq_true hk5) rfl W127 dX8_renderScore_62 ?_
              refine lv_icmp_ge (tgt := 91) hx hb dX8_renderScore_65 (by decide) (fun c26 => q_pos c26 ?_) (fun c26 => q_neg c26 ?_)
              · exact hK i23 M24 _ _ ls hH hL hl 
              · refine lv_aload_n hx hb dX8_renderScore_68 rfl (lv_at hl 0 rfl) ?_
                refine m_gR (k := 7) X hH inC8 t0 rfl W286 dX8_renderScore_69 6 rfl (fun t27 => ?_)
                refine lv_aload_n hx hb dX8_renderScore_72 rfl (lv_at hl 2 rfl) ?_
                refine lv_iload_n hx hb dX8_renderScore_73 rfl (lv_at hl 3 rfl) ?_
                refine lv_iload hx hb dX8_renderScore_74 (lv_at hl 4 rfl) ?_
                refine q_bind (fun v29 e28 => ?_)
                refine my_doneI hL (my_runV X hH hl.1 (co_X4_noteAt g l hst q2 i18 i23 M24 (Nat.eq_of_beq_eq_true hk5) v29 e28) ok_X4_noteAt W845 (Nat.eq_of_beq_eq_true hk5) rfl (by decide) rfl rfl rfl ⟨Nat.le_of_ble_eq_true rfl, Nat.le_of_ble_eq_true rfl⟩ ⟨Nat.zero_le _, Nat.zero_le _⟩ (Nat.le_of_ble_eq_true rfl) dX8_renderScore_76) (fun H locs hH hL => ?_)
                refine q_bind (fun v31 e30 => ?_)
                refine my_doneI hL (my_runS X hH hl.1 (co_X8_digitSign g l hst v29 M24 v31 e30) ok_X8_digitSign W1060 rfl rfl ⟨Nat.le_of_ble_eq_true rfl, Nat.le_of_ble_eq_true rfl⟩ ⟨Nat.zero_le _, Nat.zero_le _⟩ (Nat.le_of_ble_eq_true rfl) dX8_renderScore_79) (fun H locs hH hL => ?_)
                refine q_b1 (fun u33 M34 e32 => ?_)
                refine my_doneU hL (my_runV X hH hl.1 (co_X6_append g l hst (mR M24 a0 7) v31 M24 t27 u33 M34 e32) ok_X6_append W1056 t27 rfl (by decide) rfl rfl rfl ⟨Nat.le_of_ble_eq_true rfl, Nat.le_of_ble_eq_true rfl⟩ ⟨Nat.zero_le _, Nat.zero_le _⟩ (Nat.le_of_ble_eq_true rfl) dX8_renderScore_82) (fun H locs hH hL => ?_)
                refine q_lt (fun v35 e_v35 => ?_)
                refine lv_iinc (v := v35) (lv' := [(4, .int v35), (0, .ref (adr g a0)), (1, .int p1_), (2, .ref (adr g q2)), (3, .int i18)]) hx hb dX8_renderScore_85 hl (k := 4) rfl (by rw [e_v35]; rfl) (by decide) rfl (fun ls hl => ?_)
                refine lv_goto (tgt := 59) hx hb dX8_renderScore_88 (by decide) ?_
                exact ih v35 M34 _ _ ls hH hL (lv_sub hl [1, 2, 3, 4, 0] rfl) 
          refine L36 _ (fun x37 M38 H locs ls hH hL hl  => ?_) 3000 0 M19 _ _ ls hH hL (lv_sub hl [1, 2, 3, 4, 0] rfl) 
          refine q_lt (fun v39 e_v39 => ?_)
          refine lv_iinc (v := v39) (lv' := [(3, .int v39), (0, .ref (adr g a0)), (1, .int p1_), (2, .ref (adr g q2)), (4, .int x37)]) hx hb dX8_renderScore_91 hl (k := 3) rfl (by rw [e_v39]; rfl) (by decide) rfl (fun ls hl => ?_)
          refine lv_goto (tgt := 35) hx hb dX8_renderScore_94 (by decide) ?_
          exact ih v39 M38 _ _ ls hH hL (lv_sub hl [1, 2, 3, 0] rfl) 
        · refine lv_aload_n hx hb dX8_renderScore_47 rfl (lv_at hl 0 rfl) ?_
          refine m_gR (k := 7) X hH inC8 t0 rfl W286 dX8_renderScore_48 6 rfl (fun t40 => ?_)
          refine lv_bipush (v := 47) hx hb dX8_renderScore_51 (by decide) ?_
          refine q_b1 (fun u42 M43 e41 => ?_)
          refine my_doneU hL (my_runV X hH hl.1 (co_X6_append g l hst (mR M19 a0 7) 47 M19 t40 u42 M43 e41) ok_X6_append W1056 t40 rfl (by decide) rfl rfl rfl ⟨Nat.le_of_ble_eq_true rfl, Nat.le_of_ble_eq_true rfl⟩ ⟨Nat.zero_le _, Nat.zero_le _⟩ (Nat.le_of_ble_eq_true rfl) dX8_renderScore_53) (fun H locs hH hL => ?_)
          refine lv_iconst (v := 0) hx hb dX8_renderScore_56 (by decide) ?_
          refine lv_istore (lv' := [(4, .int 0), (0, .ref (adr g a0)), (1, .int p1_), (2, .ref (adr g q2)), (3, .int i18)]) hx hb dX8_renderScore_57 hl (by decide) rfl (fun ls hl => ?_)
          have L57 : ∀ (K : Int32 → Mem → Option ((Int32 ⊕ String) × Mem)) (_ : ∀ (i44 : Int32) (M45 : Mem) (H : Heap) (locs : List Loc) (ls : Array Slot), HR g M45 H → LK g s H locs → lv_has ls 5 [(0, .ref (adr g a0)), (1, .int p1_), (2, .ref (adr g q2)), (3, .int i18), (4, .int i44)] → W p l e (rmO o 7 221) s m ([.ref (adr g a0), .int p1_] : List Value).toArray below meth c H locs 0 0 (GQ (K i44 M45) (o, M') (MQO g below rvI o M' ([.ref (adr g a0), .int p1_] : List Value).toArray s)) (F0 m 91 ls [])) (n : Nat) (i44 : Int32) (M45 : Mem) (H : Heap) (locs : List Loc) (ls : Array Slot), HR g M45 H → LK g s H locs → lv_has ls 5 [(0, .ref (adr g a0)), (1, .int p1_), (2, .ref (adr g q2)), (3, .int i18), (4, .int i44)] → W p l e (rmO o 7 221) s m ([.ref (adr g a0), .int p1_] : List Value).toArray below meth c H locs 0 0 (GQ (F_X8_renderScore_L3 a0 q2 i18 K n i44 M45) (o, M') (MQO g below rvI o M' ([.ref (adr g a0), .int p1_] : List Value).toArray s)) (F0 m 59 ls []) := by
            intro K hK n
            induction n with
            | zero => intros; exact q_none
            | succ n ih =>
              intro i44 M45 H locs ls hH hL hl 
              rw [F_X8_renderScore_L3]
              refine lv_iload hx hb dX8_renderScore_59 (lv_at hl 4 rfl) ?_
              refine lv_aload_n hx hb dX8_renderScore_61 rfl (lv_at hl 2 rfl) ?_
              refine m_gI (k := 2) X hH inC4 (Nat.eq_of_beq_eq_true hk5) rfl W127 dX8_renderScore_62 ?_
              refine lv_icmp_ge (tgt := 91) hx hb dX8_renderScore_65 (by decide) (fun c47 => q_pos c47 ?_) (fun c47 => q_neg c47 ?_)
              · exact hK i44 M45 _ _ ls hH hL hl 
              · refine lv_aload_n hx hb dX8_renderScore_68 rfl (lv_at hl 0 rfl) ?_
                refine m_gR (k := 7) X hH inC8 t0 rfl W286 dX8_renderScore_69 6 rfl (fun t48 => ?_)
                refine lv_aload_n hx hb dX8_renderScore_72 rfl (lv_at hl 2 rfl) ?_
                refine lv_iload_n hx hb dX8_renderScore_73 rfl (lv_at hl 3 rfl) ?_
                refine lv_iload hx hb dX8_renderScore_74 (lv_at hl 4 rfl) ?_
                refine q_bind (fun v50 e49 => ?_)
                refine my_doneI hL (my_runV X hH hl.1 (co_X4_noteAt g l hst q2 i18 i44 M45 (Nat.eq_of_beq_eq_true hk5) v50 e49) ok_X4_noteAt W845 (Nat.eq_of_beq_eq_true hk5) rfl (by decide) rfl rfl rfl ⟨Nat.le_of_ble_eq_true rfl, Nat.le_of_ble_eq_true rfl⟩ ⟨Nat.zero_le _, Nat.zero_le _⟩ (Nat.le_of_ble_eq_true rfl) dX8_renderScore_76) (fun H locs hH hL => ?_)
                refine q_bind (fun v52 e51 => ?_)
                refine my_doneI hL (my_runS X hH hl.1 (co_X8_digitSign g l hst v50 M45 v52 e51) ok_X8_digitSign W1060 rfl rfl ⟨Nat.le_of_ble_eq_true rfl, Nat.le_of_ble_eq_true rfl⟩ ⟨Nat.zero_le _, Nat.zero_le _⟩ (Nat.le_of_ble_eq_true rfl) dX8_renderScore_79) (fun H locs hH hL => ?_)
                refine q_b1 (fun u54 M55 e53 => ?_)
                refine my_doneU hL (my_runV X hH hl.1 (co_X6_append g l hst (mR M45 a0 7) v52 M45 t48 u54 M55 e53) ok_X6_append W1056 t48 rfl (by decide) rfl rfl rfl ⟨Nat.le_of_ble_eq_true rfl, Nat.le_of_ble_eq_true rfl⟩ ⟨Nat.zero_le _, Nat.zero_le _⟩ (Nat.le_of_ble_eq_true rfl) dX8_renderScore_82) (fun H locs hH hL => ?_)
                refine q_lt (fun v56 e_v56 => ?_)
                refine lv_iinc (v := v56) (lv' := [(4, .int v56), (0, .ref (adr g a0)), (1, .int p1_), (2, .ref (adr g q2)), (3, .int i18)]) hx hb dX8_renderScore_85 hl (k := 4) rfl (by rw [e_v56]; rfl) (by decide) rfl (fun ls hl => ?_)
                refine lv_goto (tgt := 59) hx hb dX8_renderScore_88 (by decide) ?_
                exact ih v56 M55 _ _ ls hH hL (lv_sub hl [1, 2, 3, 4, 0] rfl) 
          refine L57 _ (fun x58 M59 H locs ls hH hL hl  => ?_) 3000 0 M43 _ _ ls hH hL (lv_sub hl [1, 2, 3, 4, 0] rfl) 
          refine q_lt (fun v60 e_v60 => ?_)
          refine lv_iinc (v := v60) (lv' := [(3, .int v60), (0, .ref (adr g a0)), (1, .int p1_), (2, .ref (adr g q2)), (4, .int x58)]) hx hb dX8_renderScore_91 hl (k := 3) rfl (by rw [e_v60]; rfl) (by decide) rfl (fun ls hl => ?_)
          refine lv_goto (tgt := 35) hx hb dX8_renderScore_94 (by decide) ?_
          exact ih v60 M59 _ _ ls hH hL (lv_sub hl [1, 2, 3, 0] rfl) 
  refine L61 _ (fun x62 M63 H locs ls hH hL hl  => ?_) 3000 0 M17 _ _ ls hH hL (lv_sub hl [2, 3, 1, 0] rfl) 
  refine lv_aload_n hx hb dX8_renderScore_97 rfl (lv_at hl 0 rfl) ?_
  refine m_gR (k := 7) X hH inC8 t0 rfl W286 dX8_renderScore_98 6 rfl (fun t64 => ?_)
  refine m_gI (k := 1) X hH inC6 t64 rfl W233 dX8_renderScore_101 ?_
  exact q_end2 (m_iret X hr hH hL dX8_renderScore_104)

set_option maxRecDepth 20000 in
set_option maxHeartbeats 4000000 in
theorem co_X8_renderMask (g : GP) (l : Launch) (hst : l.stackTraces = false) (a0 : Nat) (p1_ : Int32) (M : Mem) (t0 : tyT a0 = 8) (o : Int32 ⊕ String) (M' : Mem) (hF : F_X8_renderMask a0 p1_ M = some (o, M')) : CO g l yX8_renderMask cX8_renderMask 4 (some .int) 7 221 rvI [.ref (adr g a0), .int p1_] M o M' := by
  refine CO_of hst (by decide) (Nat.le_of_ble_eq_true rfl) ?_
  intro p e s m below meth c ls X hr htb hH hL hl
  have hx := X.1
  have hb := X.2.1
  have hts := X.2.2.2.2.1
  refine q_out hF ?_
  rw [F_X8_renderMask]
  replace hl : lv_has ls 4 [(0, .ref (adr g a0)), (1, .int p1_)] := hl
  refine lv_aload_n hx hb dX8_renderMask_0 rfl (lv_at hl 0 rfl) ?_
  refine lv_iload_n hx hb dX8_renderMask_1 rfl (lv_at hl 1 rfl) ?_
  refine q_bx2 (fun q2 M3 e1 => ?_) (fun E4 M3 e1 => my_thrown X.2.2.2.2.2.2.1 htb hL (my_runV X hH hl.1 (co_X8_presentSection g l hst a0 p1_ M t0 (.inr E4) M3 e1) ok_X8_presentSection W534 t0 rfl (by decide) rfl rfl rfl ⟨Nat.le_of_ble_eq_true rfl, Nat.le_of_ble_eq_true rfl⟩ ⟨Nat.le_refl _, Nat.le_refl _⟩ (Nat.le_of_ble_eq_true rfl) dX8_renderMask_2))
  refine my_doneR hL (my_runV X hH hl.1 (co_X8_presentSection g l hst a0 p1_ M t0 (.inl q2) M3 e1) ok_X8_presentSection W534 t0 rfl (by decide) rfl rfl rfl ⟨Nat.le_of_ble_eq_true rfl, Nat.le_of_ble_eq_true rfl⟩ ⟨Nat.zero_le _, Nat.zero_le _⟩ (Nat.le_of_ble_eq_true rfl) dX8_renderMask_2) (fun H locs hH hL => ?_)
  refine q_chk (fun hk5 => ?_)
  refine lv_astore_n (lv' := [(2, .ref (adr g q2)), (0, .ref (adr g a0)), (1, .int p1_)]) hx hb dX8_renderMask_5 rfl hl (by decide) rfl (fun ls hl => ?_)
  refine lv_aload_n hx hb dX8_renderMask_6 rfl (lv_at hl 1 rfl) ?_
  refine m_gR (k := 7) X hH inC8 t0 rfl W286 dX8_renderMask_7 6 rfl (fun t6 => ?_)
  refine q_b1 (fun u8 M9 e7 => ?_)
  refine my_doneU hL (my_runV X hH hl.1 (co_X6_clear g l hst (mR M3 a0 7) M3 t6 u8 M9 e7) ok_X6_clear W1052 t6 rfl (by decide) rfl rfl rfl ⟨Nat.le_of_ble_eq_true rfl, Nat.le_of_ble_eq_true rfl⟩ ⟨Nat.zero_le _, Nat.zero_le _⟩ (Nat.le_of_ble_eq_true rfl) dX8_renderMask_10) (fun H locs hH hL => ?_)
  refine lv_iconst (v := 0) hx hb dX8_renderMask_13 (by decide) ?_
  refine lv_istore_n (lv' := [(3, .int 0), (2, .ref (adr g q2)), (0, .ref (adr g a0)), (1, .int p1_)]) hx hb dX8_renderMask_14 rfl hl (by decide) rfl (fun ls hl => ?_)
  have L26 : ∀ (K : Int32 → Mem → Option ((Int32 ⊕ String) × Mem)) (_ : ∀ (i10 : Int32) (M11 : Mem) (H : Heap) (locs : List Loc) (ls : Array Slot), HR g M11 H → LK g s H locs → lv_has ls 4 [(0, .ref (adr g a0)), (1, .int p1_), (2, .ref (adr g q2)), (3, .int i10)] → W p l e (rmO o 7 221) s m ([.ref (adr g a0), .int p1_] : List Value).toArray below meth c H locs 0 0 (GQ (K i10 M11) (o, M') (MQO g below rvI o M' ([.ref (adr g a0), .int p1_] : List Value).toArray s)) (F0 m 51 ls [])) (n : Nat) (i10 : Int32) (M11 : Mem) (H : Heap) (locs : List Loc) (ls : Array Slot), HR g M11 H → LK g s H locs → lv_has ls 4 [(0, .ref (adr g a0)), (1, .int p1_), (2, .ref (adr g q2)), (3, .int i10)] → W p l e (rmO o 7 221) s m ([.ref (adr g a0), .int p1_] : List Value).toArray below meth c H locs 0 0 (GQ (F_X8_renderMask_L1 a0 q2 K n i10 M11) (o, M') (MQO g below rvI o M' ([.ref (adr g a0), .int p1_] : List Value).toArray s)) (F0 m 15 ls []) := by
    intro K hK n
    induction n with
    | zero => intros; exact q_none
    | succ n ih =>
      intro i10 M11 H locs ls hH hL hl 
      rw [F_X8_renderMask_L1]
      refine lv_iload_n hx hb dX8_renderMask_15 rfl (lv_at hl 3 rfl) ?_
      refine lv_aload_n hx hb dX8_renderMask_16 rfl (lv_at hl 2 rfl) ?_
      refine m_gI (k := 2) X hH inC4 (Nat.eq_of_beq_eq_true hk5) rfl W127 dX8_renderMask_17 ?_
      refine lv_icmp_ge (tgt := 51) hx hb dX8_renderMask_20 (by decide) (fun c13 => q_pos c13 ?_) (fun c13 => q_neg c13 ?_)
      · exact hK i10 M11 _ _ ls hH hL hl 
      · refine lv_aload_n hx hb dX8_renderMask_23 rfl (lv_at hl 0 rfl) ?_
        refine m_gR (k := 7) X hH inC8 t0 rfl W286 dX8_renderMask_24 6 rfl (fun t14 => ?_)
        refine lv_aload_n hx hb dX8_renderMask_27 rfl (lv_at hl 2 rfl) ?_
        refine lv_iload_n hx hb dX8_renderMask_28 rfl (lv_at hl 3 rfl) ?_
        refine q_bind (fun v16 e15 => ?_)
        refine my_doneI hL (my_runV X hH hl.1 (co_X4_masks g l hst q2 i10 M11 (Nat.eq_of_beq_eq_true hk5) v16 e15) ok_X4_masks W855 (Nat.eq_of_beq_eq_true hk5) rfl (by decide) rfl rfl rfl ⟨Nat.le_of_ble_eq_true rfl, Nat.le_of_ble_eq_true rfl⟩ ⟨Nat.zero_le _, Nat.zero_le _⟩ (Nat.le_of_ble_eq_true rfl) dX8_renderMask_29) (fun H locs hH hL => ?_)
        refine lv_if_eq (tgt := 40) hx hb dX8_renderMask_32 (by decide) (fun c17 => q_pos c17 ?_) (fun c17 => q_neg c17 ?_)
        · refine lv_bipush (v := 46) hx hb dX8_renderMask_40 (by decide) ?_
          refine q_b1 (fun u19 M20 e18 => ?_)
          refine my_doneU hL (my_runV X hH hl.1 (co_X6_append g l hst (mR M11 a0 7) 46 M11 t14 u19 M20 e18) ok_X6_append W1056 t14 rfl (by decide) rfl rfl rfl ⟨Nat.le_of_ble_eq_true rfl, Nat.le_of_ble_eq_true rfl⟩ ⟨Nat.zero_le _, Nat.zero_le _⟩ (Nat.le_of_ble_eq_true rfl) dX8_renderMask_42) (fun H locs hH hL => ?_)
          refine q_lt (fun v21 e_v21 => ?_)
          refine lv_iinc (v := v21) (lv' := [(3, .int v21), (0, .ref (adr g a0)), (1, .int p1_), (2, .ref (adr g q2))]) hx hb dX8_renderMask_45 hl (k := 3) rfl (by rw [e_v21]; rfl) (by decide) rfl (fun ls hl => ?_)
          refine lv_goto (tgt := 15) hx hb dX8_renderMask_48 (by decide) ?_
          exact ih v21 M20 _ _ ls hH hL (lv_sub hl [1, 2, 3, 0] rfl) 
        · refine lv_bipush (v := 120) hx hb dX8_renderMask_35 (by decide) ?_
          refine lv_goto (tgt := 42) hx hb dX8_renderMask_37 (by decide) ?_
          refine q_b1 (fun u23 M24 e22 => ?_)
          refine my_doneU hL (my_runV X hH hl.1 (co_X6_append g l hst (mR M11 a0 7) 120 M11 t14 u23 M24 e22) ok_X6_append W1056 t14 rfl (by decide) rfl rfl rfl ⟨Nat.le_of_ble_eq_true rfl, Nat.le_of_ble_eq_true rfl⟩ ⟨Nat.zero_le _, Nat.zero_le _⟩ (Nat.le_of_ble_eq_true rfl) dX8_renderMask_42) (fun H locs hH hL => ?_)
          refine q_lt (fun v25 e_v25 => ?_)
          refine lv_iinc (v := v25) (lv' := [(3, .int v25), (0, .ref (adr g a0)), (1, .int p1_), (2, .ref (adr g q2))]) hx hb dX8_renderMask_45 hl (k := 3) rfl (by rw [e_v25]; rfl) (by decide) rfl (fun ls hl => ?_)
          refine lv_goto (tgt := 15) hx hb dX8_renderMask_48 (by decide) ?_
          exact ih v25 M24 _ _ ls hH hL (lv_sub hl [1, 2, 3, 0] rfl) 
  refine L26 _ (fun x27 M28 H locs ls hH hL hl  => ?_) 3000 0 M9 _ _ ls hH hL (lv_sub hl [2, 3, 1, 0] rfl) 
  refine lv_aload_n hx hb dX8_renderMask_51 rfl (lv_at hl 0 rfl) ?_
  refine m_gR (k := 7) X hH inC8 t0 rfl W286 dX8_renderMask_52 6 rfl (fun t29 => ?_)
  refine lv_bipush (v := 102) hx hb dX8_renderMask_55 (by decide) ?_
  refine q_b1 (fun u31 M32 e30 => ?_)
  refine my_doneU hL (my_runV X hH hl.1 (co_X6_append g l hst (mR M28 a0 7) 102 M28 t29 u31 M32 e30) ok_X6_append W1056 t29 rfl (by decide) rfl rfl rfl ⟨Nat.le_of_ble_eq_true rfl, Nat.le_of_ble_eq_true rfl⟩ ⟨Nat.zero_le _, Nat.zero_le _⟩ (Nat.le_of_ble_eq_true rfl) dX8_renderMask_57) (fun H locs hH hL => ?_)
  refine lv_aload_n hx hb dX8_renderMask_60 rfl (lv_at hl 0 rfl) ?_
  refine m_gR (k := 7) X hH inC8 t0 rfl W286 dX8_renderMask_61 6 rfl (fun t33 => ?_)
  refine lv_aload_n hx hb dX8_renderMask_64 rfl (lv_at hl 2 rfl) ?_
  refine m_gI (k := 5) X hH inC4 (Nat.eq_of_beq_eq_true hk5) rfl W132 dX8_renderMask_65 ?_
  refine q_bind (fun v35 e34 => ?_)
  refine my_doneI hL (my_runS X hH hl.1 (co_X8_digitSign g l hst (mI M32 q2 5) M32 v35 e34) ok_X8_digitSign W1060 rfl rfl ⟨Nat.le_of_ble_eq_true rfl, Nat.le_of_ble_eq_true rfl⟩ ⟨Nat.zero_le _, Nat.zero_le _⟩ (Nat.le_of_ble_eq_true rfl) dX8_renderMask_68) (fun H locs hH hL => ?_)
  refine q_b1 (fun u37 M38 e36 => ?_)
  refine my_doneU hL (my_runV X hH hl.1 (co_X6_append g l hst (mR M32 a0 7) v35 M32 t33 u37 M38 e36) ok_X6_append W1056 t33 rfl (by decide) rfl rfl rfl ⟨Nat.le_of_ble_eq_true rfl, Nat.le_of_ble_eq_true rfl⟩ ⟨Nat.zero_le _, Nat.zero_le _⟩ (Nat.le_of_ble_eq_true rfl) dX8_renderMask_71) (fun H locs hH hL => ?_)
  refine lv_aload_n hx hb dX8_renderMask_74 rfl (lv_at hl 2 rfl) ?_
  refine m_gI (k := 6) X hH inC4 (Nat.eq_of_beq_eq_true hk5) rfl W135 dX8_renderMask_75 ?_
  refine lv_if_le (tgt := 104) hx hb dX8_renderMask_78 (by decide) (fun c39 => q_pos c39 ?_) (fun c39 => q_neg c39 ?_)
  · refine lv_aload_n hx hb dX8_renderMask_104 rfl (lv_at hl 0 rfl) ?_
    refine m_gR (k := 7) X hH inC8 t0 rfl W286 dX8_renderMask_105 6 rfl (fun t40 => ?_)
    refine m_gI (k := 1) X hH inC6 t40 rfl W233 dX8_renderMask_108 ?_
    exact q_end2 (m_iret X hr hH hL dX8_renderMask_111)
  · refine lv_aload_n hx hb dX8_renderMask_81 rfl (lv_at hl 0 rfl) ?_
    refine m_gR (k := 7) X hH inC8 t0 rfl W286 dX8_renderMask_82 6 rfl (fun t41 => ?_)
    refine lv_bipush (v := 114) hx hb dX8_renderMask_85 (by decide) ?_
    refine q_b1 (fun u43 M44 e42 => ?_)
    refine my_doneU hL (my_runV X hH hl.1 (co_X6_append g l hst (mR M38 a0 7) 114 M38 t41 u43 M44 e42) ok_X6_append W1056 t41 rfl (by decide) rfl rfl rfl ⟨Nat.le_of_ble_eq_true rfl, Nat.le_of_ble_eq_true rfl⟩ ⟨Nat.zero_le _, Nat.zero_le _⟩ (Nat.le_of_ble_eq_true rfl) dX8_renderMask_87) (fun H locs hH hL => ?_)
    refine lv_aload_n hx hb dX8_renderMask_90 rfl (lv_at hl 0 rfl) ?_
    refine m_gR (k := 7) X hH inC8 t0 rfl W286 dX8_renderMask_91 6 rfl (fun t45 => ?_)
    refine lv_aload_n hx hb dX8_renderMask_94 rfl (lv_at hl 2 rfl) ?_
    refine m_gI (k := 6) X hH inC4 (Nat.eq_of_beq_eq_true hk5) rfl W135 dX8_renderMask_95 ?_
    refine q_bind (fun v47 e46 => ?_)
    refine my_doneI hL (my_runS X hH hl.1 (co_X8_digitSign g l hst (mI M44 q2 6) M44 v47 e46) ok_X8_digitSign W1060 rfl rfl ⟨Nat.le_of_ble_eq_true rfl, Nat.le_of_ble_eq_true rfl⟩ ⟨Nat.zero_le _, Nat.zero_le _⟩ (Nat.le_of_ble_eq_true rfl) dX8_renderMask_98) (fun H locs hH hL => ?_)
    refine q_b1 (fun u49 M50 e48 => ?_)
    refine my_doneU hL (my_runV X hH hl.1 (co_X6_append g l hst (mR M44 a0 7) v47 M44 t45 u49 M50 e48) ok_X6_append W1056 t45 rfl (by decide) rfl rfl rfl ⟨Nat.le_of_ble_eq_true rfl, Nat.le_of_ble_eq_true rfl⟩ ⟨Nat.zero_le _, Nat.zero_le _⟩ (Nat.le_of_ble_eq_true rfl) dX8_renderMask_101) (fun H locs hH hL => ?_)
    refine lv_aload_n hx hb dX8_renderMask_104 rfl (lv_at hl 0 rfl) ?_
    refine m_gR (k := 7) X hH inC8 t0 rfl W286 dX8_renderMask_105 6 rfl (fun t51 => ?_)
    refine m_gI (k := 1) X hH inC6 t51 rfl W233 dX8_renderMask_108 ?_
    exact q_end2 (m_iret X hr hH hL dX8_renderMask_111)

set_option maxRecDepth 20000 in
set_option maxHeartbeats 4000000 in
theorem co_X6_has (g : GP) (l : Launch) (hst : l.stackTraces = false) (a0 : Nat) (p1_ : Int32) (M : Mem) (t0 : tyT a0 = 6) (v : Int32) (hF : F_X6_has a0 p1_ M = some v) : CO g l yX6_has cX6_has 2 (some .boolean) 0 0 rvI [.ref (adr g a0), .int p1_] M (.inl v : Int32 ⊕ String) M := by
  refine CO_of hst (by decide) (Nat.le_of_ble_eq_true rfl) ?_
  intro p e s m below meth c ls X hr htb hH hL hl
  have hx := X.1
  have hb := X.2.1
  have hts := X.2.2.2.2.1
  refine q_out hF ?_
  rw [F_X6_has]
  replace hl : lv_has ls 2 [(0, .ref (adr g a0)), (1, .int p1_)] := hl
  refine lv_iload_n hx hb dX6_has_0 rfl (lv_at hl 1 rfl) ?_
  refine lv_if_lt (tgt := 25) hx hb dX6_has_1 (by decide) (fun c1 => q_pos c1 ?_) (fun c1 => q_neg c1 ?_)
  · refine lv_iconst (v := 0) hx hb dX6_has_25 (by decide) ?_
    exact q_end0 (m_zret X hr hH hL (by decide) dX6_has_26)
  · refine lv_iload_n hx hb dX6_has_4 rfl (lv_at hl 1 rfl) ?_
    refine lv_aload_n hx hb dX6_has_5 rfl (lv_at hl 0 rfl) ?_
    refine m_gI (k := 1) X hH inC6 t0 rfl W231 dX6_has_6 ?_
    refine lv_icmp_ge (tgt := 25) hx hb dX6_has_9 (by decide) (fun c2 => q_pos c2 ?_) (fun c2 => q_neg c2 ?_)
    · refine lv_iconst (v := 0) hx hb dX6_has_25 (by decide) ?_
      exact q_end0 (m_zret X hr hH hL (by decide) dX6_has_26)
    · refine lv_iload_n hx hb dX6_has_12 rfl (lv_at hl 1 rfl) ?_
      refine lv_aload_n hx hb dX6_has_13 rfl (lv_at hl 0 rfl) ?_
      refine m_gR (k := 0) X hH inC6 t0 rfl W230 dX6_has_14 26 rfl (fun t3 => ?_)
      refine m_alen X hH t3 rfl (by decide) (v := 60) (by decide) dX6_has_17 ?_
      refine lv_icmp_ge (tgt := 25) hx hb dX6_has_18 (by decide) (fun c4 => q_pos c4 ?_) (fun c4 => q_neg c4 ?_)
      · refine lv_iconst (v := 0) hx hb dX6_has_25 (by decide) ?_
        exact q_end0 (m_zret X hr hH hL (by decide) dX6_has_26)
      · refine lv_iconst (v := 1) hx hb dX6_has_21 (by decide) ?_
        refine lv_goto (tgt := 26) hx hb dX6_has_22 (by decide) ?_
        exact q_end0 (m_zret X hr hH hL (by decide) dX6_has_26)

set_option maxRecDepth 20000 in
set_option maxHeartbeats 4000000 in
theorem co_X6_signAt (g : GP) (l : Launch) (hst : l.stackTraces = false) (a0 : Nat) (p1_ : Int32) (M : Mem) (t0 : tyT a0 = 6) (v : Int32) (hF : F_X6_signAt a0 p1_ M = some v) : CO g l yX6_signAt cX6_signAt 2 (some .char) 0 0 rvI [.ref (adr g a0), .int p1_] M (.inl v : Int32 ⊕ String) M := by
  refine CO_of hst (by decide) (Nat.le_of_ble_eq_true rfl) ?_
  intro p e s m below meth c ls X hr htb hH hL hl
  have hx := X.1
  have hb := X.2.1
  have hts := X.2.2.2.2.1
  refine q_out hF ?_
  rw [F_X6_signAt]
  replace hl : lv_has ls 2 [(0, .ref (adr g a0)), (1, .int p1_)] := hl
  refine lv_iload_n hx hb dX6_signAt_0 rfl (lv_at hl 1 rfl) ?_
  refine lv_if_lt (tgt := 30) hx hb dX6_signAt_1 (by decide) (fun c1 => q_pos c1 ?_) (fun c1 => q_neg c1 ?_)
  · refine lv_iconst (v := 0) hx hb dX6_signAt_30 (by decide) ?_
    exact q_end0 (m_zret X hr hH hL (by decide) dX6_signAt_31)
  · refine lv_iload_n hx hb dX6_signAt_4 rfl (lv_at hl 1 rfl) ?_
    refine lv_aload_n hx hb dX6_signAt_5 rfl (lv_at hl 0 rfl) ?_
    refine m_gI (k := 1) X hH inC6 t0 rfl W231 dX6_signAt_6 ?_
    refine lv_icmp_ge (tgt := 30) hx hb dX6_signAt_9 (by decide) (fun c2 => q_pos c2 ?_) (fun c2 => q_neg c2 ?_)
    · refine lv_iconst (v := 0) hx hb dX6_signAt_30 (by decide) ?_
      exact q_end0 (m_zret X hr hH hL (by decide) dX6_signAt_31)
    · refine lv_iload_n hx hb dX6_signAt_12 rfl (lv_at hl 1 rfl) ?_
      refine lv_aload_n hx hb dX6_signAt_13 rfl (lv_at hl 0 rfl) ?_
      refine m_gR (k := 0) X hH inC6 t0 rfl W230 dX6_signAt_14 26 rfl (fun t3 => ?_)
      refine m_alen X hH t3 rfl (by decide) (v := 60) (by decide) dX6_signAt_17 ?_
      refine lv_icmp_ge (tgt := 30) hx hb dX6_signAt_18 (by decide) (fun c4 => q_pos c4 ?_) (fun c4 => q_neg c4 ?_)
      · refine lv_iconst (v := 0) hx hb dX6_signAt_30 (by decide) ?_
        exact q_end0 (m_zret X hr hH hL (by decide) dX6_signAt_31)
      · refine lv_aload_n hx hb dX6_signAt_21 rfl (lv_at hl 0 rfl) ?_
        refine m_gR (k := 0) X hH inC6 t0 rfl W230 dX6_signAt_22 26 rfl (fun t5 => ?_)
        refine lv_iload_n hx hb dX6_signAt_25 rfl (lv_at hl 1 rfl) ?_
        refine q_chk (fun hb6 => ?_)
        refine m_cald X hH t5 rfl (by decide) (fun _ => rfl) rfl rfl hb6 dX6_signAt_26 ?_
        refine lv_goto (tgt := 31) hx hb dX6_signAt_27 (by decide) ?_
        refine q_chk (fun hn7 => ?_)
        exact q_end0 (m_zret X hr hH hL (nokC_n hn7) dX6_signAt_31)

set_option maxRecDepth 20000 in
set_option maxHeartbeats 4000000 in
theorem co_X8_outputAt (g : GP) (l : Launch) (hst : l.stackTraces = false) (a0 : Nat) (p1_ : Int32) (M : Mem) (t0 : tyT a0 = 8) (o : Int32 ⊕ String) (M' : Mem) (hF : F_X8_outputAt a0 p1_ M = some (o, M')) : CO g l yX8_outputAt cX8_outputAt 2 (some .char) 6 200 rvI [.ref (adr g a0), .int p1_] M o M' := by
  refine CO_of hst (by decide) (Nat.le_of_ble_eq_true rfl) ?_
  intro p e s m below meth c ls X hr htb hH hL hl
  have hx := X.1
  have hb := X.2.1
  have hts := X.2.2.2.2.1
  refine q_out hF ?_
  rw [F_X8_outputAt]
  replace hl : lv_has ls 2 [(0, .ref (adr g a0)), (1, .int p1_)] := hl
  refine lv_aload_n hx hb dX8_outputAt_0 rfl (lv_at hl 0 rfl) ?_
  refine m_gR (k := 7) X hH inC8 t0 rfl W286 dX8_outputAt_1 6 rfl (fun t1 => ?_)
  refine lv_iload_n hx hb dX8_outputAt_4 rfl (lv_at hl 1 rfl) ?_
  refine q_bind (fun v3 e2 => ?_)
  refine my_doneI hL (my_runV X hH hl.1 (co_X6_has g l hst (mR M a0 7) p1_ M t1 v3 e2) ok_X6_has W1077 t1 rfl (by decide) rfl rfl rfl ⟨Nat.le_of_ble_eq_true rfl, Nat.le_of_ble_eq_true rfl⟩ ⟨Nat.zero_le _, Nat.zero_le _⟩ (Nat.le_of_ble_eq_true rfl) dX8_outputAt_5) (fun H locs hH hL => ?_)
  refine lv_if_ne (tgt := 22) hx hb dX8_outputAt_8 (by decide) (fun c4 => q_neg c4 ?_) (fun c4 => q_pos c4 ?_)
  · refine lv_aload_n hx hb dX8_outputAt_22 rfl (lv_at hl 0 rfl) ?_
    refine m_gR (k := 7) X hH inC8 t0 rfl W286 dX8_outputAt_23 6 rfl (fun t5 => ?_)
    refine lv_iload_n hx hb dX8_outputAt_26 rfl (lv_at hl 1 rfl) ?_
    refine q_bind (fun v7 e6 => ?_)
    refine my_doneI hL (my_runV X hH hl.1 (co_X6_signAt g l hst (mR M a0 7) p1_ M t5 v7 e6) ok_X6_signAt W1082 t5 rfl (by decide) rfl rfl rfl ⟨Nat.le_of_ble_eq_true rfl, Nat.le_of_ble_eq_true rfl⟩ ⟨Nat.zero_le _, Nat.zero_le _⟩ (Nat.le_of_ble_eq_true rfl) dX8_outputAt_27) (fun H locs hH hL => ?_)
    refine q_chk (fun hn8 => ?_)
    exact q_end2 (m_zret X hr hH hL (nokC_n hn8) dX8_outputAt_30)
  · exact q_thr (m_throwW X htb hH hL hl.1 okT16 dX8_outputAt_11 dX8_outputAt_14 dX8_outputAt_15 dX8_outputAt_18 dX8_outputAt_21 (Nat.le_of_ble_eq_true rfl) (Nat.le_of_ble_eq_true rfl))

set_option maxRecDepth 20000 in
set_option maxHeartbeats 4000000 in
theorem co_X6_isFull (g : GP) (l : Launch) (hst : l.stackTraces = false) (a0 : Nat) (M : Mem) (t0 : tyT a0 = 6) (v : Int32) (hF : F_X6_isFull a0 M = some v) : CO g l yX6_isFull cX6_isFull 1 (some .boolean) 0 0 rvI [.ref (adr g a0)] M (.inl v : Int32 ⊕ String) M := by
  refine CO_of hst (by decide) (Nat.le_of_ble_eq_true rfl) ?_
  intro p e s m below meth c ls X hr htb hH hL hl
  have hx := X.1
  have hb := X.2.1
  have hts := X.2.2.2.2.1
  refine q_out hF ?_
  rw [F_X6_isFull]
  replace hl : lv_has ls 1 [(0, .ref (adr g a0))] := hl
  refine lv_aload_n hx hb dX6_isFull_0 rfl (lv_at hl 0 rfl) ?_
  refine m_gI (k := 1) X hH inC6 t0 rfl W231 dX6_isFull_1 ?_
  refine lv_aload_n hx hb dX6_isFull_4 rfl (lv_at hl 0 rfl) ?_
  refine m_gR (k := 0) X hH inC6 t0 rfl W230 dX6_isFull_5 26 rfl (fun t1 => ?_)
  refine m_alen X hH t1 rfl (by decide) (v := 60) (by decide) dX6_isFull_8 ?_
  refine lv_icmp_lt (tgt := 16) hx hb dX6_isFull_9 (by decide) (fun c2 => q_pos c2 ?_) (fun c2 => q_neg c2 ?_)
  · refine lv_iconst (v := 0) hx hb dX6_isFull_16 (by decide) ?_
    exact q_end0 (m_zret X hr hH hL (by decide) dX6_isFull_17)
  · refine lv_iconst (v := 1) hx hb dX6_isFull_12 (by decide) ?_
    refine lv_goto (tgt := 17) hx hb dX6_isFull_13 (by decide) ?_
    exact q_end0 (m_zret X hr hH hL (by decide) dX6_isFull_17)

set_option maxRecDepth 20000 in
set_option maxHeartbeats 4000000 in
theorem co_X8_type (g : GP) (l : Launch) (hst : l.stackTraces = false) (a0 : Nat) (p1_ : Int32) (M : Mem) (t0 : tyT a0 = 8) (o : Int32 ⊕ String) (M' : Mem) (hF : F_X8_type a0 p1_ M = some (o, M')) : CO g l yX8_type cX8_type 2 (some .int) 6 200 rvI [.ref (adr g a0), .int p1_] M o M' := by
  refine CO_of hst (by decide) (Nat.le_of_ble_eq_true rfl) ?_
  intro p e s m below meth c ls X hr htb hH hL hl
  have hx := X.1
  have hb := X.2.1
  have hts := X.2.2.2.2.1
  refine q_out hF ?_
  rw [F_X8_type]
  replace hl : lv_has ls 2 [(0, .ref (adr g a0)), (1, .int p1_)] := hl
  refine lv_iload_n hx hb dX8_type_0 rfl (lv_at hl 1 rfl) ?_
  refine lv_bipush (v := 32) hx hb dX8_type_1 (by decide) ?_
  refine lv_icmp_lt (tgt := 12) hx hb dX8_type_3 (by decide) (fun c1 => q_pos c1 ?_) (fun c1 => q_neg c1 ?_)
  · exact q_thr (m_throwW X htb hH hL hl.1 okT17 dX8_type_12 dX8_type_15 dX8_type_16 dX8_type_19 dX8_type_22 (Nat.le_of_ble_eq_true rfl) (Nat.le_of_ble_eq_true rfl))
  · refine lv_iload_n hx hb dX8_type_6 rfl (lv_at hl 1 rfl) ?_
    refine lv_bipush (v := 126) hx hb dX8_type_7 (by decide) ?_
    refine lv_icmp_le (tgt := 23) hx hb dX8_type_9 (by decide) (fun c2 => q_pos c2 ?_) (fun c2 => q_neg c2 ?_)
    · refine lv_aload_n hx hb dX8_type_23 rfl (lv_at hl 0 rfl) ?_
      refine m_gR (k := 6) X hH inC8 t0 rfl W285 dX8_type_24 3 rfl (fun t3 => ?_)
      refine m_gR (k := 0) X hH inC3 t3 rfl W261 dX8_type_27 6 rfl (fun t4 => ?_)
      refine q_bind (fun v6 e5 => ?_)
      refine my_doneI hL (my_runV X hH hl.1 (co_X6_isFull g l hst (mR M (mR M a0 6) 0) M t4 v6 e5) ok_X6_isFull W1094 t4 rfl (by decide) rfl rfl rfl ⟨Nat.le_of_ble_eq_true rfl, Nat.le_of_ble_eq_true rfl⟩ ⟨Nat.zero_le _, Nat.zero_le _⟩ (Nat.le_of_ble_eq_true rfl) dX8_type_30) (fun H locs hH hL => ?_)
      refine lv_if_eq (tgt := 47) hx hb dX8_type_33 (by decide) (fun c7 => q_pos c7 ?_) (fun c7 => q_neg c7 ?_)
      · refine lv_aload_n hx hb dX8_type_47 rfl (lv_at hl 0 rfl) ?_
        refine m_gR (k := 6) X hH inC8 t0 rfl W285 dX8_type_48 3 rfl (fun t8 => ?_)
        refine m_gR (k := 0) X hH inC3 t8 rfl W261 dX8_type_51 6 rfl (fun t9 => ?_)
        refine lv_iload_n hx hb dX8_type_54 rfl (lv_at hl 1 rfl) ?_
        refine q_b1 (fun u11 M12 e10 => ?_)
        refine my_doneU hL (my_runV X hH hl.1 (co_X6_append g l hst (mR M (mR M a0 6) 0) p1_ M t9 u11 M12 e10) ok_X6_append W1056 t9 rfl (by decide) rfl rfl rfl ⟨Nat.le_of_ble_eq_true rfl, Nat.le_of_ble_eq_true rfl⟩ ⟨Nat.zero_le _, Nat.zero_le _⟩ (Nat.le_of_ble_eq_true rfl) dX8_type_55) (fun H locs hH hL => ?_)
        refine lv_aload_n hx hb dX8_type_58 rfl (lv_at hl 0 rfl) ?_
        refine m_gR (k := 6) X hH inC8 t0 rfl W285 dX8_type_59 3 rfl (fun t13 => ?_)
        refine m_gR (k := 0) X hH inC3 t13 rfl W261 dX8_type_62 6 rfl (fun t14 => ?_)
        refine m_gI (k := 1) X hH inC6 t14 rfl W233 dX8_type_65 ?_
        exact q_end2 (m_iret X hr hH hL dX8_type_68)
      · exact q_thr (m_throwW X htb hH hL hl.1 okT18 dX8_type_36 dX8_type_39 dX8_type_40 dX8_type_43 dX8_type_46 (Nat.le_of_ble_eq_true rfl) (Nat.le_of_ble_eq_true rfl))
    · exact q_thr (m_throwW X htb hH hL hl.1 okT17 dX8_type_12 dX8_type_15 dX8_type_16 dX8_type_19 dX8_type_22 (Nat.le_of_ble_eq_true rfl) (Nat.le_of_ble_eq_true rfl))

set_option maxRecDepth 20000 in
set_option maxHeartbeats 4000000 in
theorem co_X3_commonLength (g : GP) (l : Launch) (hst : l.stackTraces = false) (a0 : Nat) (q1_ : Nat) (M : Mem) (t0 : tyT a0 = 3) (t_q1_ : q1_ < 22) (v : Int32) (hF : F_X3_commonLength a0 q1_ M = some v) : CO g l yX3_commonLength cX3_commonLength 3 (some .int) 4 85 rvI [.ref (adr g a0), .ref (gV g (100 + q1_))] M (.inl v : Int32 ⊕ String) M := by
  refine CO_of hst (by decide) (Nat.le_of_ble_eq_true rfl) ?_
  intro p e s m below meth c ls X hr htb hH hL hl
  have hx := X.1
  have hb := X.2.1
  have hts := X.2.2.2.2.1
  refine q_out hF ?_
  rw [F_X3_commonLength]
  replace hl : lv_has ls 3 [(0, .ref (adr g a0)), (1, .ref (gV g (100 + q1_)))] := hl
  refine lv_iconst (v := 0) hx hb dX3_commonLength_0 (by decide) ?_
  refine lv_istore_n (lv' := [(2, .int 0), (0, .ref (adr g a0)), (1, .ref (gV g (100 + q1_)))]) hx hb dX3_commonLength_1 rfl hl (by decide) rfl (fun ls hl => ?_)
  have L13 : ∀ (K : Int32 → Option Int32) (_ : ∀ (i1 : Int32) (H : Heap) (locs : List Loc) (ls : Array Slot), HR g M H → LK g s H locs → lv_has ls 3 [(0, .ref (adr g a0)), (1, .ref (gV g (100 + q1_))), (2, .int i1)] → W p l e (rmO (.inl v : Int32 ⊕ String) 4 85) s m ([.ref (adr g a0), .ref (gV g (100 + q1_))] : List Value).toArray below meth c H locs 0 0 (GQ (K i1) v (MQO g below rvI (.inl v : Int32 ⊕ String) M ([.ref (adr g a0), .ref (gV g (100 + q1_))] : List Value).toArray s)) (F0 m 39 ls [])) (n : Nat) (i1 : Int32) (H : Heap) (locs : List Loc) (ls : Array Slot), HR g M H → LK g s H locs → lv_has ls 3 [(0, .ref (adr g a0)), (1, .ref (gV g (100 + q1_))), (2, .int i1)] → W p l e (rmO (.inl v : Int32 ⊕ String) 4 85) s m ([.ref (adr g a0), .ref (gV g (100 + q1_))] : List Value).toArray below meth c H locs 0 0 (GQ (F_X3_commonLength_L1 a0 q1_ M K n i1) v (MQO g below rvI (.inl v : Int32 ⊕ String) M ([.ref (adr g a0), .ref (gV g (100 + q1_))] : List Value).toArray s)) (F0 m 2 ls []) := by
    intro K hK n
    induction n with
    | zero => intros; exact q_none
    | succ n ih =>
      intro i1 H locs ls hH hL hl 
      rw [F_X3_commonLength_L1]
      refine lv_iload_n hx hb dX3_commonLength_2 rfl (lv_at hl 2 rfl) ?_
      refine lv_aload_n hx hb dX3_commonLength_3 rfl (lv_at hl 1 rfl) ?_
      refine q_bind (fun v4 e3 => ?_)
      refine my_doneI hL (my_runK X hH hL hl.1 (kv_str (my_kv X) t_q1_) (co_J0_length_8abf5 g l hst q1_ M t_q1_ v4 e3) ok_J0_length_8abf5 W1124 rfl rfl rfl ⟨Nat.le_of_ble_eq_true rfl, Nat.le_of_ble_eq_true rfl⟩ ⟨Nat.zero_le _, Nat.zero_le _⟩ (Nat.le_of_ble_eq_true rfl) dX3_commonLength_4) (fun H locs hH hL => ?_)
      refine lv_icmp_ge (tgt := 39) hx hb dX3_commonLength_7 (by decide) (fun c5 => q_pos c5 ?_) (fun c5 => q_neg c5 ?_)
      · exact hK i1 _ _ ls hH hL hl 
      · refine lv_aload_n hx hb dX3_commonLength_10 rfl (lv_at hl 0 rfl) ?_
        refine m_gR (k := 0) X hH inC3 t0 rfl W260 dX3_commonLength_11 6 rfl (fun t6 => ?_)
        refine lv_aload_n hx hb dX3_commonLength_14 rfl (lv_at hl 0 rfl) ?_
        refine m_gI (k := 3) X hH inC3 t0 rfl W266 dX3_commonLength_15 ?_
        refine lv_iload_n hx hb dX3_commonLength_18 rfl (lv_at hl 2 rfl) ?_
        refine lv_iadd hx hb dX3_commonLength_19 ?_
        refine q_bind (fun v8 e7 => ?_)
        refine my_doneI hL (my_runV X hH hl.1 (co_X6_signAt g l hst (mR M a0 0) ((mI M a0 3) + i1) M t6 v8 e7) ok_X6_signAt W1134 t6 rfl (by decide) rfl rfl rfl ⟨Nat.le_of_ble_eq_true rfl, Nat.le_of_ble_eq_true rfl⟩ ⟨Nat.zero_le _, Nat.zero_le _⟩ (Nat.le_of_ble_eq_true rfl) dX3_commonLength_20) (fun H locs hH hL => ?_)
        refine lv_aload_n hx hb dX3_commonLength_23 rfl (lv_at hl 1 rfl) ?_
        refine lv_iload_n hx hb dX3_commonLength_24 rfl (lv_at hl 2 rfl) ?_
        refine q_bind (fun v10 e9 => ?_)
        refine my_doneI hL (my_runK X hH hL hl.1 (kv_str (my_kv X) t_q1_) (co_J0_charAt_5068e g l hst q1_ i1 M t_q1_ v10 e9) ok_J0_charAt_5068e W1135 rfl rfl rfl ⟨Nat.le_of_ble_eq_true rfl, Nat.le_of_ble_eq_true rfl⟩ ⟨Nat.zero_le _, Nat.zero_le _⟩ (Nat.le_of_ble_eq_true rfl) dX3_commonLength_25) (fun H locs hH hL => ?_)
        refine lv_icmp_eq (tgt := 33) hx hb dX3_commonLength_28 (by decide) (fun c11 => q_pos c11 ?_) (fun c11 => q_neg c11 ?_)
        · refine q_lt (fun v12 e_v12 => ?_)
          refine lv_iinc (v := v12) (lv' := [(2, .int v12), (0, .ref (adr g a0)), (1, .ref (gV g (100 + q1_)))]) hx hb dX3_commonLength_33 hl (k := 2) rfl (by rw [e_v12]; rfl) (by decide) rfl (fun ls hl => ?_)
          refine lv_goto (tgt := 2) hx hb dX3_commonLength_36 (by decide) ?_
          exact ih v12 _ _ ls hH hL (lv_sub hl [1, 2, 0] rfl) 
        · refine lv_iload_n hx hb dX3_commonLength_31 rfl (lv_at hl 2 rfl) ?_
          exact q_end0 (m_iret X hr hH hL dX3_commonLength_32)
  refine L13 _ (fun x14 H locs ls hH hL hl  => ?_) 3000 0 _ _ ls hH hL (lv_sub hl [1, 2, 0] rfl) 
  refine lv_aload_n hx hb dX3_commonLength_39 rfl (lv_at hl 1 rfl) ?_
  refine q_bind (fun v16 e15 => ?_)
  refine my_doneI hL (my_runK X hH hL hl.1 (kv_str (my_kv X) t_q1_) (co_J0_length_8abf5 g l hst q1_ M t_q1_ v16 e15) ok_J0_length_8abf5 W1124 rfl rfl rfl ⟨Nat.le_of_ble_eq_true rfl, Nat.le_of_ble_eq_true rfl⟩ ⟨Nat.zero_le _, Nat.zero_le _⟩ (Nat.le_of_ble_eq_true rfl) dX3_commonLength_40) (fun H locs hH hL => ?_)
  exact q_end0 (m_iret X hr hH hL dX3_commonLength_43)

set_option maxRecDepth 20000 in
set_option maxHeartbeats 4000000 in
theorem co_X3_readWord (g : GP) (l : Launch) (hst : l.stackTraces = false) (a0 : Nat) (M : Mem) (t0 : tyT a0 = 3) (v : Int32) (M' : Mem) (hF : F_X3_readWord a0 M = some (v, M')) : CO g l yX3_readWord cX3_readWord 4 (some .int) 5 107 rvI [.ref (adr g a0)] M (.inl v : Int32 ⊕ String) M' := by
  refine CO_of hst (by decide) (Nat.le_of_ble_eq_true rfl) ?_
  intro p e s m below meth c ls X hr htb hH hL hl
  have hx := X.1
  have hb := X.2.1
  have hts := X.2.2.2.2.1
  refine q_out hF ?_
  rw [F_X3_readWord]
  replace hl : lv_has ls 4 [(0, .ref (adr g a0))] := hl
  refine lv_iconst (v := 0) hx hb dX3_readWord_0 (by decide) ?_
  refine lv_istore_n (lv' := [(1, .int 0), (0, .ref (adr g a0))]) hx hb dX3_readWord_1 rfl hl (by decide) rfl (fun ls hl => ?_)
  refine lv_iconst (v := 0) hx hb dX3_readWord_2 (by decide) ?_
  refine lv_istore_n (lv' := [(2, .int 0), (1, .int 0), (0, .ref (adr g a0))]) hx hb dX3_readWord_3 rfl hl (by decide) rfl (fun ls hl => ?_)
  have L15 : ∀ (K : Int32 → Int32 → Option (Int32 × Mem)) (_ : ∀ (i1 : Int32) (i2 : Int32) (H : Heap) (locs : List Loc) (ls : Array Slot), HR g M H → LK g s H locs → lv_has ls 4 [(0, .ref (adr g a0)), (1, .int i1), (2, .int i2)] → W p l e (rmO (.inl v : Int32 ⊕ String) 5 107) s m ([.ref (adr g a0)] : List Value).toArray below meth c H locs 0 0 (GQ (K i1 i2) (v, M') (MQO g below rvI (.inl v : Int32 ⊕ String) M' ([.ref (adr g a0)] : List Value).toArray s)) (F0 m 64 ls [])) (n : Nat) (i1 : Int32) (i2 : Int32) (H : Heap) (locs : List Loc) (ls : Array Slot), HR g M H → LK g s H locs → lv_has ls 4 [(0, .ref (adr g a0)), (1, .int i1), (2, .int i2)] → W p l e (rmO (.inl v : Int32 ⊕ String) 5 107) s m ([.ref (adr g a0)] : List Value).toArray below meth c H locs 0 0 (GQ (F_X3_readWord_L1 a0 M K n i1 i2) (v, M') (MQO g below rvI (.inl v : Int32 ⊕ String) M' ([.ref (adr g a0)] : List Value).toArray s)) (F0 m 4 ls []) := by
    intro K hK n
    induction n with
    | zero => intros; exact q_none
    | succ n ih =>
      intro i1 i2 H locs ls hH hL hl 
      rw [F_X3_readWord_L1]
      refine lv_iload_n hx hb dX3_readWord_4 rfl (lv_at hl 2 rfl) ?_
      refine m_kVerbs X hH hL rfl dX3_readWord_5 ?_
      refine m_kLen X hH hL (my_kv X).2.1 (v := 11) (by decide) dX3_readWord_8 ?_
      refine lv_icmp_ge (tgt := 64) hx hb dX3_readWord_9 (by decide) (fun c4 => q_pos c4 ?_) (fun c4 => q_neg c4 ?_)
      · exact hK i1 i2 _ _ ls hH hL hl 
      · refine lv_aload_n hx hb dX3_readWord_12 rfl (lv_at hl 0 rfl) ?_
        refine m_kVerbs X hH hL rfl dX3_readWord_13 ?_
        refine lv_iload_n hx hb dX3_readWord_16 rfl (lv_at hl 2 rfl) ?_
        refine q_chk (fun hb5 => ?_)
        refine m_kVerb X hH hL hb5 dX3_readWord_17 ?_
        refine m_kF X hH hL (kv_word (my_kv X) (inb_lt hb5)) W1847 dX3_readWord_18 ?_
        refine q_bind (fun v7 e6 => ?_)
        refine my_doneI hL (my_runV X hH hl.1 (co_X3_commonLength g l hst a0 (2 * (i2.toNatClampNeg)) M t0 (kv_w (inb_lt hb5)) v7 e6) ok_X3_commonLength W1120 t0 rfl (by decide) rfl rfl rfl ⟨Nat.le_of_ble_eq_true rfl, Nat.le_of_ble_eq_true rfl⟩ ⟨Nat.zero_le _, Nat.zero_le _⟩ (Nat.le_of_ble_eq_true rfl) dX3_readWord_21) (fun H locs hH hL => ?_)
        refine lv_istore_n (lv' := [(3, .int v7), (0, .ref (adr g a0)), (1, .int i1), (2, .int i2)]) hx hb dX3_readWord_24 rfl hl (by decide) rfl (fun ls hl => ?_)
        refine lv_iload_n hx hb dX3_readWord_25 rfl (lv_at hl 0 rfl) ?_
        refine m_kVerbs X hH hL rfl dX3_readWord_26 ?_
        refine lv_iload_n hx hb dX3_readWord_29 rfl (lv_at hl 3 rfl) ?_
        refine q_chk (fun hb8 => ?_)
        refine m_kVerb X hH hL hb8 dX3_readWord_30 ?_
        refine m_kF X hH hL (kv_word (my_kv X) (inb_lt hb8)) W1847 dX3_readWord_31 ?_
        refine q_bind (fun v10 e9 => ?_)
        refine my_doneI hL (my_runK X hH hL hl.1 (kv_str (my_kv X) (kv_w (inb_lt hb8))) (co_J0_length_8abf5 g l hst (2 * (i2.toNatClampNeg)) M (kv_w (inb_lt hb8)) v10 e9) ok_J0_length_8abf5 W1124 rfl rfl rfl ⟨Nat.le_of_ble_eq_true rfl, Nat.le_of_ble_eq_true rfl⟩ ⟨Nat.zero_le _, Nat.zero_le _⟩ (Nat.le_of_ble_eq_true rfl) dX3_readWord_34) (fun H locs hH hL => ?_)
        refine lv_icmp_ne (tgt := 52) hx hb dX3_readWord_37 (by decide) (fun c11 => q_neg c11 ?_) (fun c11 => q_pos c11 ?_)
        · refine lv_iload_n hx hb dX3_readWord_52 rfl (lv_at hl 2 rfl) ?_
          refine lv_iload_n hx hb dX3_readWord_53 rfl (lv_at hl 0 rfl) ?_
          refine va_mmax hx hb (X.2.2.1.trans hl.1.symm) X.2.2.2.1 (hts _ W1173) (hts _ W379) (hts _ W82) (hts _ W380) (Nat.le_of_ble_eq_true rfl) (Nat.le_of_ble_eq_true rfl) (Nat.zero_le _) (Nat.zero_le _) dX3_readWord_54 ?_
          refine q_lt (fun v12 e_v12 => ?_)
          refine q_topI e_v12 ?_
          refine lv_istore_n (lv' := [(1, .int v12), (3, .int v7), (0, .ref (adr g a0)), (2, .int i2)]) hx hb dX3_readWord_57 rfl hl (by decide) rfl (fun ls hl => ?_)
          refine q_lt (fun v13 e_v13 => ?_)
          refine lv_iinc (v := v13) (lv' := [(2, .int v13), (1, .int v12), (3, .int v7), (0, .ref (adr g a0))]) hx hb dX3_readWord_58 hl (k := 3) rfl (by rw [e_v13]; rfl) (by decide) rfl (fun ls hl => ?_)
          refine lv_goto (tgt := 4) hx hb dX3_readWord_61 (by decide) ?_
          exact ih v12 v13 _ _ ls hH hL (lv_sub hl [3, 1, 0] rfl) 
        · refine lv_aload_n hx hb dX3_readWord_40 rfl (lv_at hl 1 rfl) ?_
          refine lv_dup hx hb dX3_readWord_41 rfl ?_
          refine m_gI (k := 3) X hH inC3 t0 rfl W266 dX3_readWord_42 ?_
          refine lv_iload_n hx hb dX3_readWord_45 rfl (lv_at hl 0 rfl) ?_
          refine lv_iadd hx hb dX3_readWord_46 ?_
          refine q_lt (fun M14 e_M14 => ?_)
          refine m_pI (k := 3) X hH hL okC3 t0 rfl rfl rfl rfl W266 dX3_readWord_47 e_M14 (fun H locs hH hL => ?_)
          refine lv_iload_n hx hb dX3_readWord_50 rfl (lv_at hl 3 rfl) ?_
          exact q_end1 (m_iret X hr hH hL dX3_readWord_51)
  refine L15 _ (fun x16 x17 H locs ls hH hL hl  => ?_) 3000 0 0 _ _ ls hH hL (lv_sub hl [2, 1, 0] rfl) 
  refine lv_aload_n hx hb dX3_readWord_64 rfl (lv_at hl 0 rfl) ?_
  refine lv_dup hx hb dX3_readWord_65 rfl ?_
  refine m_gI (k := 3) X hH inC3 t0 rfl W266 dX3_readWord_66 ?_
  refine lv_iload_n hx hb dX3_readWord_69 rfl (lv_at hl 1 rfl) ?_
  refine lv_iadd hx hb dX3_readWord_70 ?_
  refine q_lt (fun M18 e_M18 => ?_)
  refine m_pI (k := 3) X hH hL okC3 t0 rfl rfl rfl rfl W266 dX3_readWord_71 e_M18 (fun H locs hH hL => ?_)
  refine lv_iconst (v := (-1)) hx hb dX3_readWord_74 (by decide) ?_
  exact q_end1 (m_iret X hr hH hL dX3_readWord_75)

set_option maxRecDepth 20000 in
set_option maxHeartbeats 4000000 in
theorem co_X1_begin (g : GP) (l : Launch) (hst : l.stackTraces = false) (a0 : Nat) (q1_ : Nat) (M : Mem) (t0 : tyT a0 = 1) (t_q1_ : q1_ < 11) (v : Unit) (M' : Mem) (hF : F_X1_begin a0 q1_ M = some (v, M')) : CO g l yX1_begin cX1_begin 2 none 0 0 rvU [.ref (adr g a0), .ref (gV g q1_)] M (.inl v : Unit ⊕ String) M' := by
  refine CO_of hst (by decide) (Nat.le_of_ble_eq_true rfl) ?_
  intro p e s m below meth c ls X hr htb hH hL hl
  have hx := X.1
  have hb := X.2.1
  have hts := X.2.2.2.2.1
  refine q_out hF ?_
  rw [F_X1_begin]
  replace hl : lv_has ls 2 [(0, .ref (adr g a0)), (1, .ref (gV g q1_))] := hl
  refine lv_aload_n hx hb dX1_begin_0 rfl (lv_at hl 0 rfl) ?_
  refine lv_aload_n hx hb dX1_begin_1 rfl (lv_at hl 1 rfl) ?_
  refine q_lt (fun M1 e_M1 => ?_)
  refine m_pQ (k := 0) X hH hL okC1 t0 rfl t_q1_ rfl W249 dX1_begin_2 e_M1 (fun H locs hH hL => ?_)
  refine lv_aload_n hx hb dX1_begin_5 rfl (lv_at hl 0 rfl) ?_
  refine lv_iconst (v := 0) hx hb dX1_begin_6 (by decide) ?_
  refine q_lt (fun M2 e_M2 => ?_)
  refine m_pI (k := 2) X hH hL okC1 t0 rfl rfl rfl rfl W252 dX1_begin_7 e_M2 (fun H locs hH hL => ?_)
  exact q_end1 (m_vret X hr hH hL dX1_begin_10)

set_option maxRecDepth 20000 in
set_option maxHeartbeats 4000000 in
theorem co_X1_put (g : GP) (l : Launch) (hst : l.stackTraces = false) (a0 : Nat) (p1_ : Int32) (M : Mem) (t0 : tyT a0 = 1) (v : Unit) (M' : Mem) (hF : F_X1_put a0 p1_ M = some (v, M')) : CO g l yX1_put cX1_put 2 none 0 0 rvU [.ref (adr g a0), .int p1_] M (.inl v : Unit ⊕ String) M' := by
  refine CO_of hst (by decide) (Nat.le_of_ble_eq_true rfl) ?_
  intro p e s m below meth c ls X hr htb hH hL hl
  have hx := X.1
  have hb := X.2.1
  have hts := X.2.2.2.2.1
  refine q_out hF ?_
  rw [F_X1_put]
  replace hl : lv_has ls 2 [(0, .ref (adr g a0)), (1, .int p1_)] := hl
  refine lv_aload_n hx hb dX1_put_0 rfl (lv_at hl 0 rfl) ?_
  refine m_gI (k := 2) X hH inC1 t0 rfl W252 dX1_put_1 ?_
  refine lv_if_lt (tgt := 39) hx hb dX1_put_4 (by decide) (fun c1 => q_pos c1 ?_) (fun c1 => q_neg c1 ?_)
  · exact q_end1 (m_vret X hr hH hL dX1_put_39)
  · refine lv_aload_n hx hb dX1_put_7 rfl (lv_at hl 0 rfl) ?_
    refine m_gI (k := 2) X hH inC1 t0 rfl W252 dX1_put_8 ?_
    refine lv_aload_n hx hb dX1_put_11 rfl (lv_at hl 0 rfl) ?_
    refine m_gR (k := 1) X hH inC1 t0 rfl W251 dX1_put_12 23 rfl (fun t2 => ?_)
    refine m_alen X hH t2 rfl (by decide) (v := 4) (by decide) dX1_put_15 ?_
    refine lv_icmp_ge (tgt := 39) hx hb dX1_put_16 (by decide) (fun c3 => q_pos c3 ?_) (fun c3 => q_neg c3 ?_)
    · exact q_end1 (m_vret X hr hH hL dX1_put_39)
    · refine lv_aload_n hx hb dX1_put_19 rfl (lv_at hl 0 rfl) ?_
      refine m_gR (k := 1) X hH inC1 t0 rfl W251 dX1_put_20 23 rfl (fun t4 => ?_)
      refine lv_aload_n hx hb dX1_put_23 rfl (lv_at hl 0 rfl) ?_
      refine m_gI (k := 2) X hH inC1 t0 rfl W252 dX1_put_24 ?_
      refine lv_iload_n hx hb dX1_put_27 rfl (lv_at hl 1 rfl) ?_
      refine q_chk (fun hb5 => ?_)
      refine q_lt (fun M6 e_M6 => ?_)
      refine m_is X hH hL t4 rfl (by decide) (fun _ => rfl) rfl rfl hb5 dX1_put_28 e_M6 (fun H locs hH hL => ?_)
      refine lv_aload_n hx hb dX1_put_29 rfl (lv_at hl 0 rfl) ?_
      refine lv_dup hx hb dX1_put_30 rfl ?_
      refine m_gI (k := 2) X hH inC1 t0 rfl W252 dX1_put_31 ?_
      refine lv_iconst (v := 1) hx hb dX1_put_34 (by decide) ?_
      refine lv_iadd hx hb dX1_put_35 ?_
      refine q_lt (fun M7 e_M7 => ?_)
      refine m_pI (k := 2) X hH hL okC1 t0 rfl rfl rfl rfl W252 dX1_put_36 e_M7 (fun H locs hH hL => ?_)
      exact q_end1 (m_vret X hr hH hL dX1_put_39)

set_option maxRecDepth 20000 in
set_option maxHeartbeats 4000000 in
theorem co_X3_readKind (g : GP) (l : Launch) (hst : l.stackTraces = false) (a0 : Nat) (q1_ : Nat) (M : Mem) (t0 : tyT a0 = 3) (t_q1_ : tyT q1_ = 1) (v : Int32) (M' : Mem) (hF : F_X3_readKind a0 q1_ M = some (v, M')) : CO g l yX3_readKind cX3_readKind 3 (some .boolean) 1 21 rvI [.ref (adr g a0), .ref (adr g q1_)] M (.inl v : Int32 ⊕ String) M' := by
  refine CO_of hst (by decide) (Nat.le_of_ble_eq_true rfl) ?_
  intro p e s m below meth c ls X hr htb hH hL hl
  have hx := X.1
  have hb := X.2.1
  have hts := X.2.2.2.2.1
  refine q_out hF ?_
  rw [F_X3_readKind]
  replace hl : lv_has ls 3 [(0, .ref (adr g a0)), (1, .ref (adr g q1_))] := hl
  refine lv_aload_n hx hb dX3_readKind_0 rfl (lv_at hl 0 rfl) ?_
  refine m_gR (k := 0) X hH inC3 t0 rfl W260 dX3_readKind_1 6 rfl (fun t1 => ?_)
  refine lv_aload_n hx hb dX3_readKind_4 rfl (lv_at hl 0 rfl) ?_
  refine m_gI (k := 3) X hH inC3 t0 rfl W266 dX3_readKind_5 ?_
  refine q_bind (fun v3 e2 => ?_)
  refine my_doneI hL (my_runV X hH hl.1 (co_X6_signAt g l hst (mR M a0 0) (mI M a0 3) M t1 v3 e2) ok_X6_signAt W1134 t1 rfl (by decide) rfl rfl rfl ⟨Nat.le_of_ble_eq_true rfl, Nat.le_of_ble_eq_true rfl⟩ ⟨Nat.zero_le _, Nat.zero_le _⟩ (Nat.le_of_ble_eq_true rfl) dX3_readKind_8) (fun H locs hH hL => ?_)
  refine lv_istore_n (lv' := [(2, .int v3), (0, .ref (adr g a0)), (1, .ref (adr g q1_))]) hx hb dX3_readKind_11 rfl hl (by decide) rfl (fun ls hl => ?_)
  refine lv_iload_n hx hb dX3_readKind_12 rfl (lv_at hl 0 rfl) ?_
  refine q_bind (fun v5 e4 => ?_)
  refine my_doneI hL (my_runSN X hH hl.1 (co_X8_kindIndex g l hst v3 M v5 e4) ok_X8_kindIndex N1186 rfl rfl ⟨Nat.le_of_ble_eq_true rfl, Nat.le_of_ble_eq_true rfl⟩ ⟨Nat.zero_le _, Nat.zero_le _⟩ (Nat.le_of_ble_eq_true rfl) dX3_readKind_13) (fun H locs hH hL => ?_)
  refine lv_if_ge (tgt := 21) hx hb dX3_readKind_16 (by decide) (fun c6 => q_pos c6 ?_) (fun c6 => q_neg c6 ?_)
  · refine lv_aload_n hx hb dX3_readKind_21 rfl (lv_at hl 2 rfl) ?_
    refine lv_iload_n hx hb dX3_readKind_22 rfl (lv_at hl 0 rfl) ?_
    refine q_b1 (fun u8 M9 e7 => ?_)
    refine my_doneU hL (my_runV X hH hl.1 (co_X1_put g l hst q1_ v3 M t_q1_ u8 M9 e7) ok_X1_put W1187 t_q1_ rfl (by decide) rfl rfl rfl ⟨Nat.le_of_ble_eq_true rfl, Nat.le_of_ble_eq_true rfl⟩ ⟨Nat.zero_le _, Nat.zero_le _⟩ (Nat.le_of_ble_eq_true rfl) dX3_readKind_23) (fun H locs hH hL => ?_)
    refine lv_aload_n hx hb dX3_readKind_26 rfl (lv_at hl 1 rfl) ?_
    refine lv_dup hx hb dX3_readKind_27 rfl ?_
    refine m_gI (k := 3) X hH inC3 t0 rfl W266 dX3_readKind_28 ?_
    refine lv_iconst (v := 1) hx hb dX3_readKind_31 (by decide) ?_
    refine lv_iadd hx hb dX3_readKind_32 ?_
    refine q_lt (fun M10 e_M10 => ?_)
    refine m_pI (k := 3) X hH hL okC3 t0 rfl rfl rfl rfl W266 dX3_readKind_33 e_M10 (fun H locs hH hL => ?_)
    refine lv_iconst (v := 1) hx hb dX3_readKind_36 (by decide) ?_
    exact q_end1 (m_zret X hr hH hL (by decide) dX3_readKind_37)
  · refine lv_iconst (v := 0) hx hb dX3_readKind_19 (by decide) ?_
    exact q_end1 (m_zret X hr hH hL (by decide) dX3_readKind_20)

set_option maxRecDepth 20000 in
set_option maxHeartbeats 4000000 in
theorem co_X3_takeDigit (g : GP) (l : Launch) (hst : l.stackTraces = false) (a0 : Nat) (M : Mem) (t0 : tyT a0 = 3) (v : Int32) (M' : Mem) (hF : F_X3_takeDigit a0 M = some (v, M')) : CO g l yX3_takeDigit cX3_takeDigit 2 (some .int) 1 21 rvI [.ref (adr g a0)] M (.inl v : Int32 ⊕ String) M' := by
  refine CO_of hst (by decide) (Nat.le_of_ble_eq_true rfl) ?_
  intro p e s m below meth c ls X hr htb hH hL hl
  have hx := X.1
  have hb := X.2.1
  have hts := X.2.2.2.2.1
  refine q_out hF ?_
  rw [F_X3_takeDigit]
  replace hl : lv_has ls 2 [(0, .ref (adr g a0))] := hl
  refine lv_aload_n hx hb dX3_takeDigit_0 rfl (lv_at hl 0 rfl) ?_
  refine m_gR (k := 0) X hH inC3 t0 rfl W260 dX3_takeDigit_1 6 rfl (fun t1 => ?_)
  refine lv_aload_n hx hb dX3_takeDigit_4 rfl (lv_at hl 0 rfl) ?_
  refine m_gI (k := 3) X hH inC3 t0 rfl W266 dX3_takeDigit_5 ?_
  refine q_bind (fun v3 e2 => ?_)
  refine my_doneI hL (my_runV X hH hl.1 (co_X6_signAt g l hst (mR M a0 0) (mI M a0 3) M t1 v3 e2) ok_X6_signAt W1134 t1 rfl (by decide) rfl rfl rfl ⟨Nat.le_of_ble_eq_true rfl, Nat.le_of_ble_eq_true rfl⟩ ⟨Nat.zero_le _, Nat.zero_le _⟩ (Nat.le_of_ble_eq_true rfl) dX3_takeDigit_8) (fun H locs hH hL => ?_)
  refine lv_istore_n (lv' := [(1, .int v3), (0, .ref (adr g a0))]) hx hb dX3_takeDigit_11 rfl hl (by decide) rfl (fun ls hl => ?_)
  refine lv_iload_n hx hb dX3_takeDigit_12 rfl (lv_at hl 0 rfl) ?_
  refine lv_bipush (v := 48) hx hb dX3_takeDigit_13 (by decide) ?_
  refine lv_icmp_lt (tgt := 24) hx hb dX3_takeDigit_15 (by decide) (fun c4 => q_pos c4 ?_) (fun c4 => q_neg c4 ?_)
  · refine lv_iconst (v := (-1)) hx hb dX3_takeDigit_24 (by decide) ?_
    exact q_end1 (m_iret X hr hH hL dX3_takeDigit_25)
  · refine lv_iload_n hx hb dX3_takeDigit_18 rfl (lv_at hl 0 rfl) ?_
    refine lv_bipush (v := 57) hx hb dX3_takeDigit_19 (by decide) ?_
    refine lv_icmp_le (tgt := 26) hx hb dX3_takeDigit_21 (by decide) (fun c5 => q_pos c5 ?_) (fun c5 => q_neg c5 ?_)
    · refine lv_aload_n hx hb dX3_takeDigit_26 rfl (lv_at hl 1 rfl) ?_
      refine lv_dup hx hb dX3_takeDigit_27 rfl ?_
      refine m_gI (k := 3) X hH inC3 t0 rfl W266 dX3_takeDigit_28 ?_
      refine lv_iconst (v := 1) hx hb dX3_takeDigit_31 (by decide) ?_
      refine lv_iadd hx hb dX3_takeDigit_32 ?_
      refine q_lt (fun M6 e_M6 => ?_)
      refine m_pI (k := 3) X hH hL okC3 t0 rfl rfl rfl rfl W266 dX3_takeDigit_33 e_M6 (fun H locs hH hL => ?_)
      refine lv_iload_n hx hb dX3_takeDigit_36 rfl (lv_at hl 0 rfl) ?_
      refine lv_bipush (v := 48) hx hb dX3_takeDigit_37 (by decide) ?_
      refine lv_isub hx hb dX3_takeDigit_39 ?_
      exact q_end1 (m_iret X hr hH hL dX3_takeDigit_40)
    · refine lv_iconst (v := (-1)) hx hb dX3_takeDigit_24 (by decide) ?_
      exact q_end1 (m_iret X hr hH hL dX3_takeDigit_25)

set_option maxRecDepth 20000 in
set_option maxHeartbeats 4000000 in
theorem co_X3_readDigit (g : GP) (l : Launch) (hst : l.stackTraces = false) (a0 : Nat) (q1_ : Nat) (M : Mem) (t0 : tyT a0 = 3) (t_q1_ : tyT q1_ = 1) (v : Int32) (M' : Mem) (hF : F_X3_readDigit a0 q1_ M = some (v, M')) : CO g l yX3_readDigit cX3_readDigit 3 (some .boolean) 2 42 rvI [.ref (adr g a0), .ref (adr g q1_)] M (.inl v : Int32 ⊕ String) M' := by
  refine CO_of hst (by decide) (Nat.le_of_ble_eq_true rfl) ?_
  intro p e s m below meth c ls X hr htb hH hL hl
  have hx := X.1
  have hb := X.2.1
  have hts := X.2.2.2.2.1
  refine q_out hF ?_
  rw [F_X3_readDigit]
  replace hl : lv_has ls 3 [(0, .ref (adr g a0)), (1, .ref (adr g q1_))] := hl
  refine lv_aload_n hx hb dX3_readDigit_0 rfl (lv_at hl 0 rfl) ?_
  refine q_b1 (fun v2 M3 e1 => ?_)
  refine my_doneI hL (my_runV X hH hl.1 (co_X3_takeDigit g l hst a0 M t0 v2 M3 e1) ok_X3_takeDigit W1195 t0 rfl (by decide) rfl rfl rfl ⟨Nat.le_of_ble_eq_true rfl, Nat.le_of_ble_eq_true rfl⟩ ⟨Nat.zero_le _, Nat.zero_le _⟩ (Nat.le_of_ble_eq_true rfl) dX3_readDigit_1) (fun H locs hH hL => ?_)
  refine lv_istore_n (lv' := [(2, .int v2), (0, .ref (adr g a0)), (1, .ref (adr g q1_))]) hx hb dX3_readDigit_4 rfl hl (by decide) rfl (fun ls hl => ?_)
  refine lv_iload_n hx hb dX3_readDigit_5 rfl (lv_at hl 0 rfl) ?_
  refine lv_iconst (v := (-1)) hx hb dX3_readDigit_6 (by decide) ?_
  refine lv_icmp_ne (tgt := 12) hx hb dX3_readDigit_7 (by decide) (fun c4 => q_neg c4 ?_) (fun c4 => q_pos c4 ?_)
  · refine lv_aload_n hx hb dX3_readDigit_12 rfl (lv_at hl 2 rfl) ?_
    refine lv_iload_n hx hb dX3_readDigit_13 rfl (lv_at hl 0 rfl) ?_
    refine q_b1 (fun u6 M7 e5 => ?_)
    refine my_doneU hL (my_runV X hH hl.1 (co_X1_put g l hst q1_ v2 M3 t_q1_ u6 M7 e5) ok_X1_put W1187 t_q1_ rfl (by decide) rfl rfl rfl ⟨Nat.le_of_ble_eq_true rfl, Nat.le_of_ble_eq_true rfl⟩ ⟨Nat.zero_le _, Nat.zero_le _⟩ (Nat.le_of_ble_eq_true rfl) dX3_readDigit_14) (fun H locs hH hL => ?_)
    refine lv_iconst (v := 1) hx hb dX3_readDigit_17 (by decide) ?_
    exact q_end1 (m_zret X hr hH hL (by decide) dX3_readDigit_18)
  · refine lv_iconst (v := 0) hx hb dX3_readDigit_10 (by decide) ?_
    exact q_end1 (m_zret X hr hH hL (by decide) dX3_readDigit_11)

set_option maxRecDepth 20000 in
set_option maxHeartbeats 4000000 in
theorem co_X3_readNumber (g : GP) (l : Launch) (hst : l.stackTraces = false) (a0 : Nat) (q1_ : Nat) (M : Mem) (t0 : tyT a0 = 3) (t_q1_ : tyT q1_ = 1) (v : Int32) (M' : Mem) (hF : F_X3_readNumber a0 q1_ M = some (v, M')) : CO g l yX3_readNumber cX3_readNumber 4 (some .boolean) 2 42 rvI [.ref (adr g a0), .ref (adr g q1_)] M (.inl v : Int32 ⊕ String) M' := by
  refine CO_of hst (by decide) (Nat.le_of_ble_eq_true rfl) ?_
  intro p e s m below meth c ls X hr htb hH hL hl
  have hx := X.1
  have hb := X.2.1
  have hts := X.2.2.2.2.1
  refine q_out hF ?_
  rw [F_X3_readNumber]
  replace hl : lv_has ls 4 [(0, .ref (adr g a0)), (1, .ref (adr g q1_))] := hl
  refine lv_aload_n hx hb dX3_readNumber_0 rfl (lv_at hl 0 rfl) ?_
  refine q_b1 (fun v2 M3 e1 => ?_)
  refine my_doneI hL (my_runV X hH hl.1 (co_X3_takeDigit g l hst a0 M t0 v2 M3 e1) ok_X3_takeDigit W1195 t0 rfl (by decide) rfl rfl rfl ⟨Nat.le_of_ble_eq_true rfl, Nat.le_of_ble_eq_true rfl⟩ ⟨Nat.zero_le _, Nat.zero_le _⟩ (Nat.le_of_ble_eq_true rfl) dX3_readNumber_1) (fun H locs hH hL => ?_)
  refine lv_istore_n (lv' := [(2, .int v2), (0, .ref (adr g a0)), (1, .ref (adr g q1_))]) hx hb dX3_readNumber_4 rfl hl (by decide) rfl (fun ls hl => ?_)
  refine lv_iload_n hx hb dX3_readNumber_5 rfl (lv_at hl 0 rfl) ?_
  refine lv_iconst (v := (-1)) hx hb dX3_readNumber_6 (by decide) ?_
  refine lv_icmp_ne (tgt := 12) hx hb dX3_readNumber_7 (by decide) (fun c4 => q_neg c4 ?_) (fun c4 => q_pos c4 ?_)
  · refine lv_aload_n hx hb dX3_readNumber_12 rfl (lv_at hl 1 rfl) ?_
    refine q_b1 (fun v6 M7 e5 => ?_)
    refine my_doneI hL (my_runV X hH hl.1 (co_X3_takeDigit g l hst a0 M3 t0 v6 M7 e5) ok_X3_takeDigit W1195 t0 rfl (by decide) rfl rfl rfl ⟨Nat.le_of_ble_eq_true rfl, Nat.le_of_ble_eq_true rfl⟩ ⟨Nat.zero_le _, Nat.zero_le _⟩ (Nat.le_of_ble_eq_true rfl) dX3_readNumber_13) (fun H locs hH hL => ?_)
    refine lv_istore_n (lv' := [(3, .int v6), (2, .int v2), (0, .ref (adr g a0)), (1, .ref (adr g q1_))]) hx hb dX3_readNumber_16 rfl hl (by decide) rfl (fun ls hl => ?_)
    refine lv_aload_n hx hb dX3_readNumber_17 rfl (lv_at hl 3 rfl) ?_
    refine lv_iload_n hx hb dX3_readNumber_18 rfl (lv_at hl 0 rfl) ?_
    refine lv_iconst (v := (-1)) hx hb dX3_readNumber_19 (by decide) ?_
    refine lv_icmp_ne (tgt := 27) hx hb dX3_readNumber_20 (by decide) (fun c8 => q_neg c8 ?_) (fun c8 => q_pos c8 ?_)
    · refine lv_bipush (v := 10) hx hb dX3_readNumber_27 (by decide) ?_
      refine lv_iload_n hx hb dX3_readNumber_29 rfl (lv_at hl 1 rfl) ?_
      refine lv_imul hx hb dX3_readNumber_30 ?_
      refine lv_iload_n hx hb dX3_readNumber_31 rfl (lv_at hl 0 rfl) ?_
      refine lv_iadd hx hb dX3_readNumber_32 ?_
      refine q_b1 (fun u10 M11 e9 => ?_)
      refine my_doneU hL (my_runV X hH hl.1 (co_X1_put g l hst q1_ ((10 * v2) + v6) M7 t_q1_ u10 M11 e9) ok_X1_put W1187 t_q1_ rfl (by decide) rfl rfl rfl ⟨Nat.le_of_ble_eq_true rfl, Nat.le_of_ble_eq_true rfl⟩ ⟨Nat.zero_le _, Nat.zero_le _⟩ (Nat.le_of_ble_eq_true rfl) dX3_readNumber_33) (fun H locs hH hL => ?_)
      refine lv_iconst (v := 1) hx hb dX3_readNumber_36 (by decide) ?_
      exact q_end1 (m_zret X hr hH hL (by decide) dX3_readNumber_37)
    · refine lv_iload_n hx hb dX3_readNumber_23 rfl (lv_at hl 1 rfl) ?_
      refine lv_goto (tgt := 33) hx hb dX3_readNumber_24 (by decide) ?_
      refine q_b1 (fun u13 M14 e12 => ?_)
      refine my_doneU hL (my_runV X hH hl.1 (co_X1_put g l hst q1_ v2 M7 t_q1_ u13 M14 e12) ok_X1_put W1187 t_q1_ rfl (by decide) rfl rfl rfl ⟨Nat.le_of_ble_eq_true rfl, Nat.le_of_ble_eq_true rfl⟩ ⟨Nat.zero_le _, Nat.zero_le _⟩ (Nat.le_of_ble_eq_true rfl) dX3_readNumber_33) (fun H locs hH hL => ?_)
      refine lv_iconst (v := 1) hx hb dX3_readNumber_36 (by decide) ?_
      exact q_end1 (m_zret X hr hH hL (by decide) dX3_readNumber_37)
  · refine lv_iconst (v := 0) hx hb dX3_readNumber_10 (by decide) ?_
    exact q_end1 (m_zret X hr hH hL (by decide) dX3_readNumber_11)

set_option maxRecDepth 20000 in
set_option maxHeartbeats 4000000 in
theorem co_X3_readSign (g : GP) (l : Launch) (hst : l.stackTraces = false) (a0 : Nat) (q1_ : Nat) (M : Mem) (t0 : tyT a0 = 3) (t_q1_ : tyT q1_ = 1) (v : Int32) (M' : Mem) (hF : F_X3_readSign a0 q1_ M = some (v, M')) : CO g l yX3_readSign cX3_readSign 3 (some .boolean) 1 21 rvI [.ref (adr g a0), .ref (adr g q1_)] M (.inl v : Int32 ⊕ String) M' := by
  refine CO_of hst (by decide) (Nat.le_of_ble_eq_true rfl) ?_
  intro p e s m below meth c ls X hr htb hH hL hl
  have hx := X.1
  have hb := X.2.1
  have hts := X.2.2.2.2.1
  refine q_out hF ?_
  rw [F_X3_readSign]
  replace hl : lv_has ls 3 [(0, .ref (adr g a0)), (1, .ref (adr g q1_))] := hl
  refine lv_aload_n hx hb dX3_readSign_0 rfl (lv_at hl 0 rfl) ?_
  refine m_gR (k := 0) X hH inC3 t0 rfl W260 dX3_readSign_1 6 rfl (fun t1 => ?_)
  refine lv_aload_n hx hb dX3_readSign_4 rfl (lv_at hl 0 rfl) ?_
  refine m_gI (k := 3) X hH inC3 t0 rfl W266 dX3_readSign_5 ?_
  refine q_bind (fun v3 e2 => ?_)
  refine my_doneI hL (my_runV X hH hl.1 (co_X6_signAt g l hst (mR M a0 0) (mI M a0 3) M t1 v3 e2) ok_X6_signAt W1134 t1 rfl (by decide) rfl rfl rfl ⟨Nat.le_of_ble_eq_true rfl, Nat.le_of_ble_eq_true rfl⟩ ⟨Nat.zero_le _, Nat.zero_le _⟩ (Nat.le_of_ble_eq_true rfl) dX3_readSign_8) (fun H locs hH hL => ?_)
  refine lv_istore_n (lv' := [(2, .int v3), (0, .ref (adr g a0)), (1, .ref (adr g q1_))]) hx hb dX3_readSign_11 rfl hl (by decide) rfl (fun ls hl => ?_)
  refine lv_iload_n hx hb dX3_readSign_12 rfl (lv_at hl 0 rfl) ?_
  refine lv_bipush (v := 43) hx hb dX3_readSign_13 (by decide) ?_
  refine lv_icmp_eq (tgt := 26) hx hb dX3_readSign_15 (by decide) (fun c4 => q_pos c4 ?_) (fun c4 => q_neg c4 ?_)
  · refine lv_aload_n hx hb dX3_readSign_26 rfl (lv_at hl 2 rfl) ?_
    refine lv_iload_n hx hb dX3_readSign_27 rfl (lv_at hl 0 rfl) ?_
    refine lv_bipush (v := 43) hx hb dX3_readSign_28 (by decide) ?_
    refine lv_icmp_ne (tgt := 37) hx hb dX3_readSign_30 (by decide) (fun c5 => q_neg c5 ?_) (fun c5 => q_pos c5 ?_)
    · refine lv_iconst (v := (-1)) hx hb dX3_readSign_37 (by decide) ?_
      refine q_b1 (fun u7 M8 e6 => ?_)
      refine my_doneU hL (my_runV X hH hl.1 (co_X1_put g l hst q1_ (-1) M t_q1_ u7 M8 e6) ok_X1_put W1187 t_q1_ rfl (by decide) rfl rfl rfl ⟨Nat.le_of_ble_eq_true rfl, Nat.le_of_ble_eq_true rfl⟩ ⟨Nat.zero_le _, Nat.zero_le _⟩ (Nat.le_of_ble_eq_true rfl) dX3_readSign_38) (fun H locs hH hL => ?_)
      refine lv_aload_n hx hb dX3_readSign_41 rfl (lv_at hl 1 rfl) ?_
      refine lv_dup hx hb dX3_readSign_42 rfl ?_
      refine m_gI (k := 3) X hH inC3 t0 rfl W266 dX3_readSign_43 ?_
      refine lv_iconst (v := 1) hx hb dX3_readSign_46 (by decide) ?_
      refine lv_iadd hx hb dX3_readSign_47 ?_
      refine q_lt (fun M9 e_M9 => ?_)
      refine m_pI (k := 3) X hH hL okC3 t0 rfl rfl rfl rfl W266 dX3_readSign_48 e_M9 (fun H locs hH hL => ?_)
      refine lv_iconst (v := 1) hx hb dX3_readSign_51 (by decide) ?_
      exact q_end1 (m_zret X hr hH hL (by decide) dX3_readSign_52)
    · refine lv_iconst (v := 1) hx hb dX3_readSign_33 (by decide) ?_
      refine lv_goto (tgt := 38) hx hb dX3_readSign_34 (by decide) ?_
      refine q_b1 (fun u11 M12 e10 => ?_)
      refine my_doneU hL (my_runV X hH hl.1 (co_X1_put g l hst q1_ 1 M t_q1_ u11 M12 e10) ok_X1_put W1187 t_q1_ rfl (by decide) rfl rfl rfl ⟨Nat.le_of_ble_eq_true rfl, Nat.le_of_ble_eq_true rfl⟩ ⟨Nat.zero_le _, Nat.zero_le _⟩ (Nat.le_of_ble_eq_true rfl) dX3_readSign_38) (fun H locs hH hL => ?_)
      refine lv_aload_n hx hb dX3_readSign_41 rfl (lv_at hl 1 rfl) ?_
      refine lv_dup hx hb dX3_readSign_42 rfl ?_
      refine m_gI (k := 3) X hH inC3 t0 rfl W266 dX3_readSign_43 ?_
      refine lv_iconst (v := 1) hx hb dX3_readSign_46 (by decide) ?_
      refine lv_iadd hx hb dX3_readSign_47 ?_
      refine q_lt (fun M13 e_M13 => ?_)
      refine m_pI (k := 3) X hH hL okC3 t0 rfl rfl rfl rfl W266 dX3_readSign_48 e_M13 (fun H locs hH hL => ?_)
      refine lv_iconst (v := 1) hx hb dX3_readSign_51 (by decide) ?_
      exact q_end1 (m_zret X hr hH hL (by decide) dX3_readSign_52)
  · refine lv_iload_n hx hb dX3_readSign_18 rfl (lv_at hl 0 rfl) ?_
    refine lv_bipush (v := 45) hx hb dX3_readSign_19 (by decide) ?_
    refine lv_icmp_eq (tgt := 26) hx hb dX3_readSign_21 (by decide) (fun c14 => q_pos c14 ?_) (fun c14 => q_neg c14 ?_)
    · refine lv_aload_n hx hb dX3_readSign_26 rfl (lv_at hl 2 rfl) ?_
      refine lv_iload_n hx hb dX3_readSign_27 rfl (lv_at hl 0 rfl) ?_
      refine lv_bipush (v := 43) hx hb dX3_readSign_28 (by decide) ?_
      refine lv_icmp_ne (tgt := 37) hx hb dX3_readSign_30 (by decide) (fun c15 => q_neg c15 ?_) (fun c15 => q_pos c15 ?_)
      · refine lv_iconst (v := (-1)) hx hb dX3_readSign_37 (by decide) ?_
        refine q_b1 (fun u17 M18 e16 => ?_)
        refine my_doneU hL (my_runV X hH hl.1 (co_X1_put g l hst q1_ (-1) M t_q1_ u17 M18 e16) ok_X1_put W1187 t_q1_ rfl (by decide) rfl rfl rfl ⟨Nat.le_of_ble_eq_true rfl, Nat.le_of_ble_eq_true rfl⟩ ⟨Nat.zero_le _, Nat.zero_le _⟩ (Nat.le_of_ble_eq_true rfl) dX3_readSign_38) (fun H locs hH hL => ?_)
        refine lv_aload_n hx hb dX3_readSign_41 rfl (lv_at hl 1 rfl) ?_
        refine lv_dup hx hb dX3_readSign_42 rfl ?_
        refine m_gI (k := 3) X hH inC3 t0 rfl W266 dX3_readSign_43 ?_
        refine lv_iconst (v := 1) hx hb dX3_readSign_46 (by decide) ?_
        refine lv_iadd hx hb dX3_readSign_47 ?_
        refine q_lt (fun M19 e_M19 => ?_)
        refine m_pI (k := 3) X hH hL okC3 t0 rfl rfl rfl rfl W266 dX3_readSign_48 e_M19 (fun H locs hH hL => ?_)
        refine lv_iconst (v := 1) hx hb dX3_readSign_51 (by decide) ?_
        exact q_end1 (m_zret X hr hH hL (by decide) dX3_readSign_52)
      · refine lv_iconst (v := 1) hx hb dX3_readSign_33 (by decide) ?_
        refine lv_goto (tgt := 38) hx hb dX3_readSign_34 (by decide) ?_
        refine q_b1 (fun u21 M22 e20 => ?_)
        refine my_doneU hL (my_runV X hH hl.1 (co_X1_put g l hst q1_ 1 M t_q1_ u21 M22 e20) ok_X1_put W1187 t_q1_ rfl (by decide) rfl rfl rfl ⟨Nat.le_of_ble_eq_true rfl, Nat.le_of_ble_eq_true rfl⟩ ⟨Nat.zero_le _, Nat.zero_le _⟩ (Nat.le_of_ble_eq_true rfl) dX3_readSign_38) (fun H locs hH hL => ?_)
        refine lv_aload_n hx hb dX3_readSign_41 rfl (lv_at hl 1 rfl) ?_
        refine lv_dup hx hb dX3_readSign_42 rfl ?_
        refine m_gI (k := 3) X hH inC3 t0 rfl W266 dX3_readSign_43 ?_
        refine lv_iconst (v := 1) hx hb dX3_readSign_46 (by decide) ?_
        refine lv_iadd hx hb dX3_readSign_47 ?_
        refine q_lt (fun M23 e_M23 => ?_)
        refine m_pI (k := 3) X hH hL okC3 t0 rfl rfl rfl rfl W266 dX3_readSign_48 e_M23 (fun H locs hH hL => ?_)
        refine lv_iconst (v := 1) hx hb dX3_readSign_51 (by decide) ?_
        exact q_end1 (m_zret X hr hH hL (by decide) dX3_readSign_52)
    · refine lv_iconst (v := 0) hx hb dX3_readSign_24 (by decide) ?_
      exact q_end1 (m_zret X hr hH hL (by decide) dX3_readSign_25)

set_option maxRecDepth 20000 in
set_option maxHeartbeats 4000000 in
theorem co_X3_take (g : GP) (l : Launch) (hst : l.stackTraces = false) (a0 : Nat) (p1_ : Int32) (M : Mem) (t0 : tyT a0 = 3) (v : Int32) (M' : Mem) (hF : F_X3_take a0 p1_ M = some (v, M')) : CO g l yX3_take cX3_take 2 (some .boolean) 1 21 rvI [.ref (adr g a0), .int p1_] M (.inl v : Int32 ⊕ String) M' := by
  refine CO_of hst (by decide) (Nat.le_of_ble_eq_true rfl) ?_
  intro p e s m below meth c ls X hr htb hH hL hl
  have hx := X.1
  have hb := X.2.1
  have hts := X.2.2.2.2.1
  refine q_out hF ?_
  rw [F_X3_take]
  replace hl : lv_has ls 2 [(0, .ref (adr g a0)), (1, .int p1_)] := hl
  refine lv_aload_n hx hb dX3_take_0 rfl (lv_at hl 0 rfl) ?_
  refine m_gR (k := 0) X hH inC3 t0 rfl W260 dX3_take_1 6 rfl (fun t1 => ?_)
  refine lv_aload_n hx hb dX3_take_4 rfl (lv_at hl 0 rfl) ?_
  refine m_gI (k := 3) X hH inC3 t0 rfl W266 dX3_take_5 ?_
  refine q_bind (fun v3 e2 => ?_)
  refine my_doneI hL (my_runV X hH hl.1 (co_X6_signAt g l hst (mR M a0 0) (mI M a0 3) M t1 v3 e2) ok_X6_signAt W1134 t1 rfl (by decide) rfl rfl rfl ⟨Nat.le_of_ble_eq_true rfl, Nat.le_of_ble_eq_true rfl⟩ ⟨Nat.zero_le _, Nat.zero_le _⟩ (Nat.le_of_ble_eq_true rfl) dX3_take_8) (fun H locs hH hL => ?_)
  refine lv_iload_n hx hb dX3_take_11 rfl (lv_at hl 1 rfl) ?_
  refine lv_icmp_eq (tgt := 17) hx hb dX3_take_12 (by decide) (fun c4 => q_pos c4 ?_) (fun c4 => q_neg c4 ?_)
  · refine lv_aload_n hx hb dX3_take_17 rfl (lv_at hl 0 rfl) ?_
    refine lv_dup hx hb dX3_take_18 rfl ?_
    refine m_gI (k := 3) X hH inC3 t0 rfl W266 dX3_take_19 ?_
    refine lv_iconst (v := 1) hx hb dX3_take_22 (by decide) ?_
    refine lv_iadd hx hb dX3_take_23 ?_
    refine q_lt (fun M5 e_M5 => ?_)
    refine m_pI (k := 3) X hH hL okC3 t0 rfl rfl rfl rfl W266 dX3_take_24 e_M5 (fun H locs hH hL => ?_)
    refine lv_iconst (v := 1) hx hb dX3_take_27 (by decide) ?_
    exact q_end1 (m_zret X hr hH hL (by decide) dX3_take_28)
  · refine lv_iconst (v := 0) hx hb dX3_take_15 (by decide) ?_
    exact q_end1 (m_zret X hr hH hL (by decide) dX3_take_16)

set_option maxRecDepth 20000 in
set_option maxHeartbeats 4000000 in
theorem co_X3_readPart (g : GP) (l : Launch) (hst : l.stackTraces = false) (a0 : Nat) (q1_ : Nat) (p2_ : Int32) (M : Mem) (t0 : tyT a0 = 3) (t_q1_ : tyT q1_ = 1) (v : Int32) (M' : Mem) (hF : F_X3_readPart a0 q1_ p2_ M = some (v, M')) : CO g l yX3_readPart cX3_readPart 3 (some .boolean) 3 65 rvI [.ref (adr g a0), .ref (adr g q1_), .int p2_] M (.inl v : Int32 ⊕ String) M' := by
  refine CO_of hst (by decide) (Nat.le_of_ble_eq_true rfl) ?_
  intro p e s m below meth c ls X hr htb hH hL hl
  have hx := X.1
  have hb := X.2.1
  have hts := X.2.2.2.2.1
  refine q_out hF ?_
  rw [F_X3_readPart]
  replace hl : lv_has ls 3 [(0, .ref (adr g a0)), (1, .ref (adr g q1_)), (2, .int p2_)] := hl
  refine lv_iload_n hx hb dX3_readPart_0 rfl (lv_at hl 2 rfl) ?_
  by_cases c1 : p2_ = 43
  · refine q_pos c1 ?_
    refine lv_lookup (tgt := 70) hx hb dX3_readPart_1 (by decide) (by rw [c1] <;> rfl) (by decide) ?_
    refine lv_aload_n hx hb dX3_readPart_70 rfl (lv_at hl 0 rfl) ?_
    refine lv_aload_n hx hb dX3_readPart_71 rfl (lv_at hl 1 rfl) ?_
    refine q_b1 (fun v3 M4 e2 => ?_)
    refine my_doneI hL (my_runV X hH hl.1 (co_X3_readSign g l hst a0 q1_ M t0 t_q1_ v3 M4 e2) ok_X3_readSign W1203 t0 rfl (by decide) rfl rfl rfl ⟨Nat.le_of_ble_eq_true rfl, Nat.le_of_ble_eq_true rfl⟩ ⟨Nat.zero_le _, Nat.zero_le _⟩ (Nat.le_of_ble_eq_true rfl) dX3_readPart_72) (fun H locs hH hL => ?_)
    refine q_chk (fun hn5 => ?_)
    exact q_end1 (m_zret X hr hH hL (nokZ_n hn5) dX3_readPart_75)
  refine q_neg c1 ?_
  by_cases c6 : p2_ = 98
  · refine q_pos c6 ?_
    refine lv_lookup (tgt := 76) hx hb dX3_readPart_1 (by decide) (by rw [c6] <;> rfl) (by decide) ?_
    refine lv_aload_n hx hb dX3_readPart_76 rfl (lv_at hl 0 rfl) ?_
    refine lv_bipush (v := 32) hx hb dX3_readPart_77 (by decide) ?_
    refine q_b1 (fun v8 M9 e7 => ?_)
    refine my_doneI hL (my_runV X hH hl.1 (co_X3_take g l hst a0 32 M t0 v8 M9 e7) ok_X3_take W1207 t0 rfl (by decide) rfl rfl rfl ⟨Nat.le_of_ble_eq_true rfl, Nat.le_of_ble_eq_true rfl⟩ ⟨Nat.zero_le _, Nat.zero_le _⟩ (Nat.le_of_ble_eq_true rfl) dX3_readPart_79) (fun H locs hH hL => ?_)
    refine lv_if_eq (tgt := 91) hx hb dX3_readPart_82 (by decide) (fun c10 => q_pos c10 ?_) (fun c10 => q_neg c10 ?_)
    · refine lv_aload_n hx hb dX3_readPart_91 rfl (lv_at hl 1 rfl) ?_
      refine lv_iconst (v := 1) hx hb dX3_readPart_92 (by decide) ?_
      refine q_b1 (fun u12 M13 e11 => ?_)
      refine my_doneU hL (my_runV X hH hl.1 (co_X1_put g l hst q1_ 1 M9 t_q1_ u12 M13 e11) ok_X1_put W1187 t_q1_ rfl (by decide) rfl rfl rfl ⟨Nat.le_of_ble_eq_true rfl, Nat.le_of_ble_eq_true rfl⟩ ⟨Nat.zero_le _, Nat.zero_le _⟩ (Nat.le_of_ble_eq_true rfl) dX3_readPart_93) (fun H locs hH hL => ?_)
      refine lv_iconst (v := 1) hx hb dX3_readPart_96 (by decide) ?_
      exact q_end1 (m_zret X hr hH hL (by decide) dX3_readPart_97)
    · refine lv_aload_n hx hb dX3_readPart_85 rfl (lv_at hl 0 rfl) ?_
      refine lv_aload_n hx hb dX3_readPart_86 rfl (lv_at hl 1 rfl) ?_
      refine q_b1 (fun v15 M16 e14 => ?_)
      refine my_doneI hL (my_runV X hH hl.1 (co_X3_readNumber g l hst a0 q1_ M9 t0 t_q1_ v15 M16 e14) ok_X3_readNumber W1199 t0 rfl (by decide) rfl rfl rfl ⟨Nat.le_of_ble_eq_true rfl, Nat.le_of_ble_eq_true rfl⟩ ⟨Nat.zero_le _, Nat.zero_le _⟩ (Nat.le_of_ble_eq_true rfl) dX3_readPart_87) (fun H locs hH hL => ?_)
      refine q_chk (fun hn17 => ?_)
      exact q_end1 (m_zret X hr hH hL (nokZ_n hn17) dX3_readPart_90)
  refine q_neg c6 ?_
  by_cases c18 : p2_ = 100
  · refine q_pos c18 ?_
    refine lv_lookup (tgt := 58) hx hb dX3_readPart_1 (by decide) (by rw [c18] <;> rfl) (by decide) ?_
    refine lv_aload_n hx hb dX3_readPart_58 rfl (lv_at hl 0 rfl) ?_
    refine lv_aload_n hx hb dX3_readPart_59 rfl (lv_at hl 1 rfl) ?_
    refine q_b1 (fun v20 M21 e19 => ?_)
    refine my_doneI hL (my_runV X hH hl.1 (co_X3_readDigit g l hst a0 q1_ M t0 t_q1_ v20 M21 e19) ok_X3_readDigit W1191 t0 rfl (by decide) rfl rfl rfl ⟨Nat.le_of_ble_eq_true rfl, Nat.le_of_ble_eq_true rfl⟩ ⟨Nat.zero_le _, Nat.zero_le _⟩ (Nat.le_of_ble_eq_true rfl) dX3_readPart_60) (fun H locs hH hL => ?_)
    refine q_chk (fun hn22 => ?_)
    exact q_end1 (m_zret X hr hH hL (nokZ_n hn22) dX3_readPart_63)
  refine q_neg c18 ?_
  by_cases c23 : p2_ = 107
  · refine q_pos c23 ?_
    refine lv_lookup (tgt := 52) hx hb dX3_readPart_1 (by decide) (by rw [c23] <;> rfl) (by decide) ?_
    refine lv_aload_n hx hb dX3_readPart_52 rfl (lv_at hl 0 rfl) ?_
    refine lv_aload_n hx hb dX3_readPart_53 rfl (lv_at hl 1 rfl) ?_
    refine q_b1 (fun v25 M26 e24 => ?_)
    refine my_doneI hL (my_runV X hH hl.1 (co_X3_readKind g l hst a0 q1_ M t0 t_q1_ v25 M26 e24) ok_X3_readKind W1182 t0 rfl (by decide) rfl rfl rfl ⟨Nat.le_of_ble_eq_true rfl, Nat.le_of_ble_eq_true rfl⟩ ⟨Nat.zero_le _, Nat.zero_le _⟩ (Nat.le_of_ble_eq_true rfl) dX3_readPart_54) (fun H locs hH hL => ?_)
    refine q_chk (fun hn27 => ?_)
    exact q_end1 (m_zret X hr hH hL (nokZ_n hn27) dX3_readPart_57)
  refine q_neg c23 ?_
  by_cases c28 : p2_ = 110
  · refine q_pos c28 ?_
    refine lv_lookup (tgt := 64) hx hb dX3_readPart_1 (by decide) (by rw [c28] <;> rfl) (by decide) ?_
    refine lv_aload_n hx hb dX3_readPart_64 rfl (lv_at hl 0 rfl) ?_
    refine lv_aload_n hx hb dX3_readPart_65 rfl (lv_at hl 1 rfl) ?_
    refine q_b1 (fun v30 M31 e29 => ?_)
    refine my_doneI hL (my_runV X hH hl.1 (co_X3_readNumber g l hst a0 q1_ M t0 t_q1_ v30 M31 e29) ok_X3_readNumber W1199 t0 rfl (by decide) rfl rfl rfl ⟨Nat.le_of_ble_eq_true rfl, Nat.le_of_ble_eq_true rfl⟩ ⟨Nat.zero_le _, Nat.zero_le _⟩ (Nat.le_of_ble_eq_true rfl) dX3_readPart_66) (fun H locs hH hL => ?_)
    refine q_chk (fun hn32 => ?_)
    exact q_end1 (m_zret X hr hH hL (nokZ_n hn32) dX3_readPart_69)
  refine q_neg c28 ?_
  refine lv_lookup (tgt := 98) hx hb dX3_readPart_1 (by decide) (sw_def (List.forall_mem_cons.mpr ⟨sw_ne (z := 43) c1 (by decide), List.forall_mem_cons.mpr ⟨sw_ne (z := 98) c6 (by decide), List.forall_mem_cons.mpr ⟨sw_ne (z := 100) c18 (by decide), List.forall_mem_cons.mpr ⟨sw_ne (z := 107) c23 (by decide), List.forall_mem_cons.mpr ⟨sw_ne (z := 110) c28 (by decide), List.forall_mem_nil _⟩⟩⟩⟩⟩)) (by decide) ?_
  refine lv_aload_n hx hb dX3_readPart_98 rfl (lv_at hl 0 rfl) ?_
  refine lv_iload_n hx hb dX3_readPart_99 rfl (lv_at hl 2 rfl) ?_
  refine q_b1 (fun v34 M35 e33 => ?_)
  refine my_doneI hL (my_runV X hH hl.1 (co_X3_take g l hst a0 p2_ M t0 v34 M35 e33) ok_X3_take W1207 t0 rfl (by decide) rfl rfl rfl ⟨Nat.le_of_ble_eq_true rfl, Nat.le_of_ble_eq_true rfl⟩ ⟨Nat.zero_le _, Nat.zero_le _⟩ (Nat.le_of_ble_eq_true rfl) dX3_readPart_100) (fun H locs hH hL => ?_)
  refine q_chk (fun hn36 => ?_)
  exact q_end1 (m_zret X hr hH hL (nokZ_n hn36) dX3_readPart_103)

set_option maxRecDepth 20000 in
set_option maxHeartbeats 4000000 in
theorem co_X3_readCommand (g : GP) (l : Launch) (hst : l.stackTraces = false) (a0 : Nat) (M : Mem) (t0 : tyT a0 = 3) (v : Int32) (M' : Mem) (hF : F_X3_readCommand a0 M = some (v, M')) : CO g l yX3_readCommand cX3_readCommand 4 (some .boolean) 6 130 rvI [.ref (adr g a0)] M (.inl v : Int32 ⊕ String) M' := by
  refine CO_of hst (by decide) (Nat.le_of_ble_eq_true rfl) ?_
  intro p e s m below meth c ls X hr htb hH hL hl
  have hx := X.1
  have hb := X.2.1
  have hts := X.2.2.2.2.1
  refine q_out hF ?_
  rw [F_X3_readCommand]
  replace hl : lv_has ls 4 [(0, .ref (adr g a0))] := hl
  refine lv_aload_n hx hb dX3_readCommand_0 rfl (lv_at hl 0 rfl) ?_
  refine q_b1 (fun v2 M3 e1 => ?_)
  refine my_doneI hL (my_runV X hH hl.1 (co_X3_readWord g l hst a0 M t0 v2 M3 e1) ok_X3_readWord W1114 t0 rfl (by decide) rfl rfl rfl ⟨Nat.le_of_ble_eq_true rfl, Nat.le_of_ble_eq_true rfl⟩ ⟨Nat.zero_le _, Nat.zero_le _⟩ (Nat.le_of_ble_eq_true rfl) dX3_readCommand_1) (fun H locs hH hL => ?_)
  refine lv_istore_n (lv' := [(1, .int v2), (0, .ref (adr g a0))]) hx hb dX3_readCommand_4 rfl hl (by decide) rfl (fun ls hl => ?_)
  refine lv_iload_n hx hb dX3_readCommand_5 rfl (lv_at hl 0 rfl) ?_
  refine lv_if_lt (tgt := 36) hx hb dX3_readCommand_6 (by decide) (fun c4 => q_pos c4 ?_) (fun c4 => q_neg c4 ?_)
  · refine lv_iconst (v := 0) hx hb dX3_readCommand_36 (by decide) ?_
    exact q_end1 (m_zret X hr hH hL (by decide) dX3_readCommand_37)
  · refine lv_iload_n hx hb dX3_readCommand_9 rfl (lv_at hl 0 rfl) ?_
    refine m_kVerbs X hH hL rfl dX3_readCommand_10 ?_
    refine m_kLen X hH hL (my_kv X).2.1 (v := 11) (by decide) dX3_readCommand_13 ?_
    refine lv_icmp_ge (tgt := 36) hx hb dX3_readCommand_14 (by decide) (fun c5 => q_pos c5 ?_) (fun c5 => q_neg c5 ?_)
    · refine lv_iconst (v := 0) hx hb dX3_readCommand_36 (by decide) ?_
      exact q_end1 (m_zret X hr hH hL (by decide) dX3_readCommand_37)
    · refine lv_aload_n hx hb dX3_readCommand_17 rfl (lv_at hl 1 rfl) ?_
      refine m_gI (k := 2) X hH inC3 t0 rfl W264 dX3_readCommand_18 ?_
      refine lv_if_lt (tgt := 36) hx hb dX3_readCommand_21 (by decide) (fun c6 => q_pos c6 ?_) (fun c6 => q_neg c6 ?_)
      · refine lv_iconst (v := 0) hx hb dX3_readCommand_36 (by decide) ?_
        exact q_end1 (m_zret X hr hH hL (by decide) dX3_readCommand_37)
      · refine lv_aload_n hx hb dX3_readCommand_24 rfl (lv_at hl 1 rfl) ?_
        refine m_gI (k := 2) X hH inC3 t0 rfl W264 dX3_readCommand_25 ?_
        refine lv_aload_n hx hb dX3_readCommand_28 rfl (lv_at hl 1 rfl) ?_
        refine m_gR (k := 1) X hH inC3 t0 rfl W262 dX3_readCommand_29 31 rfl (fun t7 => ?_)
        refine m_alen X hH t7 rfl (by decide) (v := 12) (by decide) dX3_readCommand_32 ?_
        refine lv_icmp_lt (tgt := 38) hx hb dX3_readCommand_33 (by decide) (fun c8 => q_pos c8 ?_) (fun c8 => q_neg c8 ?_)
        · refine m_kVerbs X hH hL rfl dX3_readCommand_38 ?_
          refine lv_iload_n hx hb dX3_readCommand_41 rfl (lv_at hl 0 rfl) ?_
          refine q_chk (fun hb9 => ?_)
          refine m_kVerb X hH hL hb9 dX3_readCommand_42 ?_
          refine m_kF X hH hL (kv_form (my_kv X) (inb_lt hb9)) W1850 dX3_readCommand_43 ?_
          refine lv_astore_n (lv' := [(2, .ref (gV g (100 + (2 * (v2.toNatClampNeg) + 1)))), (1, .int v2), (0, .ref (adr g a0))]) hx hb dX3_readCommand_46 rfl hl (by decide) rfl (fun ls hl => ?_)
          refine lv_aload_n hx hb dX3_readCommand_47 rfl (lv_at hl 2 rfl) ?_
          refine m_gR (k := 1) X hH inC3 t0 rfl W262 dX3_readCommand_48 31 rfl (fun t10 => ?_)
          refine lv_aload_n hx hb dX3_readCommand_51 rfl (lv_at hl 2 rfl) ?_
          refine m_gI (k := 2) X hH inC3 t0 rfl W264 dX3_readCommand_52 ?_
          refine q_chk (fun hb11 => ?_)
          refine m_aald X hH t10 rfl (by decide) (fun _ => rfl) rfl rfl (t2 := 1) (fun _ => rfl) hb11 dX3_readCommand_55 (fun t12 => ?_)
          refine m_kVerbs X hH hL rfl dX3_readCommand_56 ?_
          refine lv_iload_n hx hb dX3_readCommand_59 rfl (lv_at hl 1 rfl) ?_
          refine q_chk (fun hb13 => ?_)
          refine m_kVerb X hH hL hb13 dX3_readCommand_60 ?_
          refine q_b1 (fun u15 M16 e14 => ?_)
          refine my_doneU hL (my_runV X hH hl.1 (co_X1_begin g l hst (mR M3 (mR M3 a0 1) (mI M3 a0 2).toNatClampNeg) (v2.toNatClampNeg) M3 t12 (inb_lt hb13) u15 M16 e14) ok_X1_begin W1174 t12 rfl (by decide) rfl rfl rfl ⟨Nat.le_of_ble_eq_true rfl, Nat.le_of_ble_eq_true rfl⟩ ⟨Nat.zero_le _, Nat.zero_le _⟩ (Nat.le_of_ble_eq_true rfl) dX3_readCommand_61) (fun H locs hH hL => ?_)
          refine lv_iconst (v := 0) hx hb dX3_readCommand_64 (by decide) ?_
          refine lv_istore_n (lv' := [(3, .int 0), (2, .ref (gV g (100 + (2 * (v2.toNatClampNeg) + 1)))), (1, .int v2), (0, .ref (adr g a0))]) hx hb dX3_readCommand_65 rfl hl (by decide) rfl (fun ls hl => ?_)
          have L33 : ∀ (K : Int32 → Mem → Option (Int32 × Mem)) (_ : ∀ (i17 : Int32) (M18 : Mem) (H : Heap) (locs : List Loc) (ls : Array Slot), HR g M18 H → LK g s H locs → lv_has ls 4 [(0, .ref (adr g a0)), (1, .int v2), (2, .ref (gV g (100 + (2 * (v2.toNatClampNeg) + 1)))), (3, .int i17)] → W p l e (rmO (.inl v : Int32 ⊕ String) 6 130) s m ([.ref (adr g a0)] : List Value).toArray below meth c H locs 0 0 (GQ (K i17 M18) (v, M') (MQO g below rvI (.inl v : Int32 ⊕ String) M' ([.ref (adr g a0)] : List Value).toArray s)) (F0 m 103 ls [])) (n : Nat) (i17 : Int32) (M18 : Mem) (H : Heap) (locs : List Loc) (ls : Array Slot), HR g M18 H → LK g s H locs → lv_has ls 4 [(0, .ref (adr g a0)), (1, .int v2), (2, .ref (gV g (100 + (2 * (v2.toNatClampNeg) + 1)))), (3, .int i17)] → W p l e (rmO (.inl v : Int32 ⊕ String) 6 130) s m ([.ref (adr g a0)] : List Value).toArray below meth c H locs 0 0 (GQ (F_X3_readCommand_L1 a0 v2 K n i17 M18) (v, M') (MQO g below rvI (.inl v : Int32 ⊕ String) M' ([.ref (adr g a0)] : List Value).toArray s)) (F0 m 66 ls []) := by
            intro K hK n
            induction n with
            | zero => intros; exact q_none
            | succ n ih =>
              intro i17 M18 H locs ls hH hL hl 
              rw [F_X3_readCommand_L1]
              refine lv_iload_n hx hb dX3_readCommand_66 rfl (lv_at hl 3 rfl) ?_
              refine lv_aload_n hx hb dX3_readCommand_67 rfl (lv_at hl 2 rfl) ?_
              refine q_bind (fun v21 e20 => ?_)
              refine my_doneI hL (my_runK X hH hL hl.1 (kv_str (my_kv X) (kv_f (inb_lt hb9))) (co_J0_length_8abf5 g l hst (2 * (v2.toNatClampNeg) + 1) M18 (kv_f (inb_lt hb9)) v21 e20) ok_J0_length_8abf5 W1124 rfl rfl rfl ⟨Nat.le_of_ble_eq_true rfl, Nat.le_of_ble_eq_true rfl⟩ ⟨Nat.zero_le _, Nat.zero_le _⟩ (Nat.le_of_ble_eq_true rfl) dX3_readCommand_68) (fun H locs hH hL => ?_)
              refine lv_icmp_ge (tgt := 103) hx hb dX3_readCommand_71 (by decide) (fun c22 => q_pos c22 ?_) (fun c22 => q_neg c22 ?_)
              · exact hK i17 M18 _ _ ls hH hL hl 
              · refine lv_aload_n hx hb dX3_readCommand_74 rfl (lv_at hl 0 rfl) ?_
                refine lv_aload_n hx hb dX3_readCommand_75 rfl (lv_at hl 0 rfl) ?_
                refine m_gR (k := 1) X hH inC3 t0 rfl W262 dX3_readCommand_76 31 rfl (fun t23 => ?_)
                refine lv_aload_n hx hb dX3_readCommand_79 rfl (lv_at hl 0 rfl) ?_
                refine m_gI (k := 2) X hH inC3 t0 rfl W264 dX3_readCommand_80 ?_
                refine q_chk (fun hb24 => ?_)
                refine m_aald X hH t23 rfl (by decide) (fun _ => rfl) rfl rfl (t2 := 1) (fun _ => rfl) hb24 dX3_readCommand_83 (fun t25 => ?_)
                refine lv_aload_n hx hb dX3_readCommand_84 rfl (lv_at hl 2 rfl) ?_
                refine lv_iload_n hx hb dX3_readCommand_85 rfl (lv_at hl 3 rfl) ?_
                refine q_bind (fun v27 e26 => ?_)
                refine my_doneI hL (my_runK X hH hL hl.1 (kv_str (my_kv X) (kv_f (inb_lt hb9))) (co_J0_charAt_5068e g l hst (2 * (v2.toNatClampNeg) + 1) i17 M18 (kv_f (inb_lt hb9)) v27 e26) ok_J0_charAt_5068e W1135 rfl rfl rfl ⟨Nat.le_of_ble_eq_true rfl, Nat.le_of_ble_eq_true rfl⟩ ⟨Nat.zero_le _, Nat.zero_le _⟩ (Nat.le_of_ble_eq_true rfl) dX3_readCommand_86) (fun H locs hH hL => ?_)
                refine q_b1 (fun v29 M30 e28 => ?_)
                refine my_doneI hL (my_runV X hH hl.1 (co_X3_readPart g l hst a0 (mR M18 (mR M18 a0 1) (mI M18 a0 2).toNatClampNeg) v27 M18 t0 t25 v29 M30 e28) ok_X3_readPart W1178 t0 rfl (by decide) rfl rfl rfl ⟨Nat.le_of_ble_eq_true rfl, Nat.le_of_ble_eq_true rfl⟩ ⟨Nat.zero_le _, Nat.zero_le _⟩ (Nat.le_of_ble_eq_true rfl) dX3_readCommand_89) (fun H locs hH hL => ?_)
                refine lv_if_ne (tgt := 97) hx hb dX3_readCommand_92 (by decide) (fun c31 => q_neg c31 ?_) (fun c31 => q_pos c31 ?_)
                · refine q_lt (fun v32 e_v32 => ?_)
                  refine lv_iinc (v := v32) (lv' := [(3, .int v32), (0, .ref (adr g a0)), (1, .int v2), (2, .ref (gV g (100 + (2 * (v2.toNatClampNeg) + 1))))]) hx hb dX3_readCommand_97 hl (k := 3) rfl (by rw [e_v32]; rfl) (by decide) rfl (fun ls hl => ?_)
                  refine lv_goto (tgt := 66) hx hb dX3_readCommand_100 (by decide) ?_
                  exact ih v32 M30 _ _ ls hH hL (lv_sub hl [1, 2, 3, 0] rfl) 
                · refine lv_iconst (v := 0) hx hb dX3_readCommand_95 (by decide) ?_
                  exact q_end1 (m_zret X hr hH hL (by decide) dX3_readCommand_96)
          refine L33 _ (fun x34 M35 H locs ls hH hL hl  => ?_) 3000 0 M16 _ _ ls hH hL (lv_sub hl [3, 2, 1, 0] rfl) 
          refine lv_aload_n hx hb dX3_readCommand_103 rfl (lv_at hl 0 rfl) ?_
          refine lv_dup hx hb dX3_readCommand_104 rfl ?_
          refine m_gI (k := 2) X hH inC3 t0 rfl W264 dX3_readCommand_105 ?_
          refine lv_iconst (v := 1) hx hb dX3_readCommand_108 (by decide) ?_
          refine lv_iadd hx hb dX3_readCommand_109 ?_
          refine q_lt (fun M36 e_M36 => ?_)
          refine m_pI (k := 2) X hH hL okC3 t0 rfl rfl rfl rfl W264 dX3_readCommand_110 e_M36 (fun H locs hH hL => ?_)
          refine lv_iconst (v := 1) hx hb dX3_readCommand_113 (by decide) ?_
          exact q_end1 (m_zret X hr hH hL (by decide) dX3_readCommand_114)
        · refine lv_iconst (v := 0) hx hb dX3_readCommand_36 (by decide) ?_
          exact q_end1 (m_zret X hr hH hL (by decide) dX3_readCommand_37)

set_option maxRecDepth 20000 in
set_option maxHeartbeats 4000000 in
theorem co_X3_read (g : GP) (l : Launch) (hst : l.stackTraces = false) (a0 : Nat) (M : Mem) (t0 : tyT a0 = 3) (v : Int32) (M' : Mem) (hF : F_X3_read a0 M = some (v, M')) : CO g l yX3_read cX3_read 2 (some .boolean) 7 153 rvI [.ref (adr g a0)] M (.inl v : Int32 ⊕ String) M' := by
  refine CO_of hst (by decide) (Nat.le_of_ble_eq_true rfl) ?_
  intro p e s m below meth c ls X hr htb hH hL hl
  have hx := X.1
  have hb := X.2.1
  have hts := X.2.2.2.2.1
  refine q_out hF ?_
  rw [F_X3_read]
  replace hl : lv_has ls 2 [(0, .ref (adr g a0))] := hl
  refine lv_aload_n hx hb dX3_read_0 rfl (lv_at hl 0 rfl) ?_
  refine lv_iconst (v := 0) hx hb dX3_read_1 (by decide) ?_
  refine q_lt (fun M1 e_M1 => ?_)
  refine m_pI (k := 3) X hH hL okC3 t0 rfl rfl rfl rfl W266 dX3_read_2 e_M1 (fun H locs hH hL => ?_)
  refine lv_aload_n hx hb dX3_read_5 rfl (lv_at hl 0 rfl) ?_
  refine lv_iconst (v := 0) hx hb dX3_read_6 (by decide) ?_
  refine q_lt (fun M2 e_M2 => ?_)
  refine m_pI (k := 2) X hH hL okC3 t0 rfl rfl rfl rfl W264 dX3_read_7 e_M2 (fun H locs hH hL => ?_)
  refine lv_iconst (v := 0) hx hb dX3_read_10 (by decide) ?_
  refine lv_istore_n (lv' := [(1, .int 0), (0, .ref (adr g a0))]) hx hb dX3_read_11 rfl hl (by decide) rfl (fun ls hl => ?_)
  have L18 : ∀ (K : Int32 → Mem → Option (Int32 × Mem)) (_ : ∀ (i3 : Int32) (M4 : Mem) (H : Heap) (locs : List Loc) (ls : Array Slot), HR g M4 H → LK g s H locs → lv_has ls 2 [(0, .ref (adr g a0)), (1, .int i3)] → W p l e (rmO (.inl v : Int32 ⊕ String) 7 153) s m ([.ref (adr g a0)] : List Value).toArray below meth c H locs 0 0 (GQ (K i3 M4) (v, M') (MQO g below rvI (.inl v : Int32 ⊕ String) M' ([.ref (adr g a0)] : List Value).toArray s)) (F0 m 60 ls [])) (n : Nat) (i3 : Int32) (M4 : Mem) (H : Heap) (locs : List Loc) (ls : Array Slot), HR g M4 H → LK g s H locs → lv_has ls 2 [(0, .ref (adr g a0)), (1, .int i3)] → W p l e (rmO (.inl v : Int32 ⊕ String) 7 153) s m ([.ref (adr g a0)] : List Value).toArray below meth c H locs 0 0 (GQ (F_X3_read_L1 a0 K n i3 M4) (v, M') (MQO g below rvI (.inl v : Int32 ⊕ String) M' ([.ref (adr g a0)] : List Value).toArray s)) (F0 m 12 ls []) := by
    intro K hK n
    induction n with
    | zero => intros; exact q_none
    | succ n ih =>
      intro i3 M4 H locs ls hH hL hl 
      rw [F_X3_read_L1]
      refine lv_iload_n hx hb dX3_read_12 rfl (lv_at hl 1 rfl) ?_
      refine lv_bipush (v := 60) hx hb dX3_read_13 (by decide) ?_
      refine lv_icmp_gt (tgt := 60) hx hb dX3_read_15 (by decide) (fun c6 => q_pos c6 ?_) (fun c6 => q_neg c6 ?_)
      · exact hK i3 M4 _ _ ls hH hL hl 
      · refine lv_aload_n hx hb dX3_read_18 rfl (lv_at hl 0 rfl) ?_
        refine q_b1 (fun v8 M9 e7 => ?_)
        refine my_doneI hL (my_runV X hH hl.1 (co_X3_readCommand g l hst a0 M4 t0 v8 M9 e7) ok_X3_readCommand W1110 t0 rfl (by decide) rfl rfl rfl ⟨Nat.le_of_ble_eq_true rfl, Nat.le_of_ble_eq_true rfl⟩ ⟨Nat.zero_le _, Nat.zero_le _⟩ (Nat.le_of_ble_eq_true rfl) dX3_read_19) (fun H locs hH hL => ?_)
        refine lv_if_ne (tgt := 27) hx hb dX3_read_22 (by decide) (fun c10 => q_neg c10 ?_) (fun c10 => q_pos c10 ?_)
        · refine lv_aload_n hx hb dX3_read_27 rfl (lv_at hl 0 rfl) ?_
          refine m_gI (k := 3) X hH inC3 t0 rfl W266 dX3_read_28 ?_
          refine lv_aload_n hx hb dX3_read_31 rfl (lv_at hl 0 rfl) ?_
          refine m_gR (k := 0) X hH inC3 t0 rfl W260 dX3_read_32 6 rfl (fun t11 => ?_)
          refine m_gI (k := 1) X hH inC6 t11 rfl W232 dX3_read_35 ?_
          refine lv_icmp_ne (tgt := 43) hx hb dX3_read_38 (by decide) (fun c12 => q_neg c12 ?_) (fun c12 => q_pos c12 ?_)
          · refine lv_aload_n hx hb dX3_read_43 rfl (lv_at hl 0 rfl) ?_
            refine lv_bipush (v := 59) hx hb dX3_read_44 (by decide) ?_
            refine q_b1 (fun v14 M15 e13 => ?_)
            refine my_doneI hL (my_runV X hH hl.1 (co_X3_take g l hst a0 59 M9 t0 v14 M15 e13) ok_X3_take W1207 t0 rfl (by decide) rfl rfl rfl ⟨Nat.le_of_ble_eq_true rfl, Nat.le_of_ble_eq_true rfl⟩ ⟨Nat.zero_le _, Nat.zero_le _⟩ (Nat.le_of_ble_eq_true rfl) dX3_read_46) (fun H locs hH hL => ?_)
            refine lv_if_ne (tgt := 54) hx hb dX3_read_49 (by decide) (fun c16 => q_neg c16 ?_) (fun c16 => q_pos c16 ?_)
            · refine q_lt (fun v17 e_v17 => ?_)
              refine lv_iinc (v := v17) (lv' := [(1, .int v17), (0, .ref (adr g a0))]) hx hb dX3_read_54 hl (k := 1) rfl (by rw [e_v17]; rfl) (by decide) rfl (fun ls hl => ?_)
              refine lv_goto (tgt := 12) hx hb dX3_read_57 (by decide) ?_
              exact ih v17 M15 _ _ ls hH hL (lv_sub hl [1, 0] rfl) 
            · refine lv_iconst (v := 0) hx hb dX3_read_52 (by decide) ?_
              exact q_end1 (m_zret X hr hH hL (by decide) dX3_read_53)
          · refine lv_iconst (v := 1) hx hb dX3_read_41 (by decide) ?_
            exact q_end1 (m_zret X hr hH hL (by decide) dX3_read_42)
        · refine lv_iconst (v := 0) hx hb dX3_read_25 (by decide) ?_
          exact q_end1 (m_zret X hr hH hL (by decide) dX3_read_26)
  refine L18 _ (fun x19 M20 H locs ls hH hL hl  => ?_) 3000 0 M2 _ _ ls hH hL (lv_sub hl [1, 0] rfl) 
  refine lv_iconst (v := 0) hx hb dX3_read_60 (by decide) ?_
  exact q_end1 (m_zret X hr hH hL (by decide) dX3_read_61)

set_option maxRecDepth 20000 in
set_option maxHeartbeats 4000000 in
theorem co_X1_valueAt (g : GP) (l : Launch) (hst : l.stackTraces = false) (a0 : Nat) (p1_ : Int32) (M : Mem) (t0 : tyT a0 = 1) (v : Int32) (hF : F_X1_valueAt a0 p1_ M = some v) : CO g l yX1_valueAt cX1_valueAt 2 (some .int) 0 0 rvI [.ref (adr g a0), .int p1_] M (.inl v : Int32 ⊕ String) M := by
  refine CO_of hst (by decide) (Nat.le_of_ble_eq_true rfl) ?_
  intro p e s m below meth c ls X hr htb hH hL hl
  have hx := X.1
  have hb := X.2.1
  have hts := X.2.2.2.2.1
  refine q_out hF ?_
  rw [F_X1_valueAt]
  replace hl : lv_has ls 2 [(0, .ref (adr g a0)), (1, .int p1_)] := hl
  refine lv_iload_n hx hb dX1_valueAt_0 rfl (lv_at hl 1 rfl) ?_
  refine lv_if_lt (tgt := 30) hx hb dX1_valueAt_1 (by decide) (fun c1 => q_pos c1 ?_) (fun c1 => q_neg c1 ?_)
  · refine lv_iconst (v := 0) hx hb dX1_valueAt_30 (by decide) ?_
    exact q_end0 (m_iret X hr hH hL dX1_valueAt_31)
  · refine lv_iload_n hx hb dX1_valueAt_4 rfl (lv_at hl 1 rfl) ?_
    refine lv_aload_n hx hb dX1_valueAt_5 rfl (lv_at hl 0 rfl) ?_
    refine m_gI (k := 2) X hH inC1 t0 rfl W252 dX1_valueAt_6 ?_
    refine lv_icmp_ge (tgt := 30) hx hb dX1_valueAt_9 (by decide) (fun c2 => q_pos c2 ?_) (fun c2 => q_neg c2 ?_)
    · refine lv_iconst (v := 0) hx hb dX1_valueAt_30 (by decide) ?_
      exact q_end0 (m_iret X hr hH hL dX1_valueAt_31)
    · refine lv_iload_n hx hb dX1_valueAt_12 rfl (lv_at hl 1 rfl) ?_
      refine lv_aload_n hx hb dX1_valueAt_13 rfl (lv_at hl 0 rfl) ?_
      refine m_gR (k := 1) X hH inC1 t0 rfl W251 dX1_valueAt_14 23 rfl (fun t3 => ?_)
      refine m_alen X hH t3 rfl (by decide) (v := 4) (by decide) dX1_valueAt_17 ?_
      refine lv_icmp_ge (tgt := 30) hx hb dX1_valueAt_18 (by decide) (fun c4 => q_pos c4 ?_) (fun c4 => q_neg c4 ?_)
      · refine lv_iconst (v := 0) hx hb dX1_valueAt_30 (by decide) ?_
        exact q_end0 (m_iret X hr hH hL dX1_valueAt_31)
      · refine lv_aload_n hx hb dX1_valueAt_21 rfl (lv_at hl 0 rfl) ?_
        refine m_gR (k := 1) X hH inC1 t0 rfl W251 dX1_valueAt_22 23 rfl (fun t5 => ?_)
        refine lv_iload_n hx hb dX1_valueAt_25 rfl (lv_at hl 1 rfl) ?_
        refine q_chk (fun hb6 => ?_)
        refine m_iald X hH t5 rfl (by decide) (fun _ => rfl) rfl rfl hb6 dX1_valueAt_26 ?_
        refine lv_goto (tgt := 31) hx hb dX1_valueAt_27 (by decide) ?_
        exact q_end0 (m_iret X hr hH hL dX1_valueAt_31)

set_option maxRecDepth 20000 in
set_option maxHeartbeats 4000000 in
theorem co_X8_perform (g : GP) (l : Launch) (hst : l.stackTraces = false) (a0 : Nat) (q1_ : Nat) (M : Mem) (t0 : tyT a0 = 8) (t_q1_ : tyT q1_ = 1) (v : Int32) (M' : Mem) (hF : F_X8_perform a0 q1_ M = some (v, M')) : CO g l yX8_perform cX8_perform 5 (some .int) 5 116 rvI [.ref (adr g a0), .ref (adr g q1_)] M (.inl v : Int32 ⊕ String) M' := by
  refine CO_of hst (by decide) (Nat.le_of_ble_eq_true rfl) ?_
  intro p e s m below meth c ls X hr htb hH hL hl
  have hx := X.1
  have hb := X.2.1
  have hts := X.2.2.2.2.1
  refine q_out hF ?_
  rw [F_X8_perform]
  replace hl : lv_has ls 5 [(0, .ref (adr g a0)), (1, .ref (adr g q1_))] := hl
  refine lv_aload_n hx hb dX8_perform_0 rfl (lv_at hl 1 rfl) ?_
  refine lv_iconst (v := 0) hx hb dX8_perform_1 (by decide) ?_
  refine q_bind (fun v2 e1 => ?_)
  refine my_doneI hL (my_runV X hH hl.1 (co_X1_valueAt g l hst q1_ 0 M t_q1_ v2 e1) ok_X1_valueAt W1216 t_q1_ rfl (by decide) rfl rfl rfl ⟨Nat.le_of_ble_eq_true rfl, Nat.le_of_ble_eq_true rfl⟩ ⟨Nat.zero_le _, Nat.zero_le _⟩ (Nat.le_of_ble_eq_true rfl) dX8_perform_2) (fun H locs hH hL => ?_)
  refine lv_istore_n (lv' := [(2, .int v2), (0, .ref (adr g a0)), (1, .ref (adr g q1_))]) hx hb dX8_perform_5 rfl hl (by decide) rfl (fun ls hl => ?_)
  refine lv_aload_n hx hb dX8_perform_6 rfl (lv_at hl 2 rfl) ?_
  refine lv_iconst (v := 1) hx hb dX8_perform_7 (by decide) ?_
  refine q_bind (fun v4 e3 => ?_)
  refine my_doneI hL (my_runV X hH hl.1 (co_X1_valueAt g l hst q1_ 1 M t_q1_ v4 e3) ok_X1_valueAt W1216 t_q1_ rfl (by decide) rfl rfl rfl ⟨Nat.le_of_ble_eq_true rfl, Nat.le_of_ble_eq_true rfl⟩ ⟨Nat.zero_le _, Nat.zero_le _⟩ (Nat.le_of_ble_eq_true rfl) dX8_perform_8) (fun H locs hH hL => ?_)
  refine lv_istore_n (lv' := [(3, .int v4), (2, .int v2), (0, .ref (adr g a0)), (1, .ref (adr g q1_))]) hx hb dX8_perform_11 rfl hl (by decide) rfl (fun ls hl => ?_)
  refine lv_aload_n hx hb dX8_perform_12 rfl (lv_at hl 3 rfl) ?_
  refine lv_iconst (v := 2) hx hb dX8_perform_13 (by decide) ?_
  refine q_bind (fun v6 e5 => ?_)
  refine my_doneI hL (my_runV X hH hl.1 (co_X1_valueAt g l hst q1_ 2 M t_q1_ v6 e5) ok_X1_valueAt W1216 t_q1_ rfl (by decide) rfl rfl rfl ⟨Nat.le_of_ble_eq_true rfl, Nat.le_of_ble_eq_true rfl⟩ ⟨Nat.zero_le _, Nat.zero_le _⟩ (Nat.le_of_ble_eq_true rfl) dX8_perform_14) (fun H locs hH hL => ?_)
  refine lv_istore (lv' := [(4, .int v6), (3, .int v4), (2, .int v2), (0, .ref (adr g a0)), (1, .ref (adr g q1_))]) hx hb dX8_perform_17 hl (by decide) rfl (fun ls hl => ?_)
  refine m_kS X hH hL (my_kv X).2.2.1 W1220 dX8_perform_19 ?_
  refine lv_aload_n hx hb dX8_perform_22 rfl (lv_at hl 4 rfl) ?_
  refine m_gQ (k := 0) X hH inC1 t_q1_ rfl W250 dX8_perform_23 (fun t7 => ?_)
  refine q_bind (fun v9 e8 => ?_)
  refine my_doneI hL (my_runOrdO ok_ord X hH hl.1 (kv_verb (my_kv X) (q_vb t7)) (co_Jx29ce0_ordinal_8abf5 g l hst (mR M q1_ 0 - 1) M (q_vb t7) v9 e8) W1222 ⟨Nat.le_of_ble_eq_true rfl, Nat.le_of_ble_eq_true rfl⟩ ⟨Nat.zero_le _, Nat.zero_le _⟩ (Nat.le_of_ble_eq_true rfl) dX8_perform_26) (fun H locs hH hL => ?_)
  refine q_chk (fun hb10 => ?_)
  refine m_kSw X hH hL hb10 dX8_perform_29 ?_
  by_cases c11 : (swv (v9.toNatClampNeg)) = 1
  · refine q_pos c11 ?_
    refine m_table (tgt := 84) hx hb dX8_perform_30 (by decide) (by rw [c11] <;> rfl) (by decide) ?_
    refine lv_aload_n hx hb dX8_perform_84 rfl (lv_at hl 3 rfl) ?_
    refine m_gR (k := 0) X hH inC8 t0 rfl W279 dX8_perform_85 5 rfl (fun t12 => ?_)
    refine lv_iload_n hx hb dX8_perform_88 rfl (lv_at hl 2 rfl) ?_
    refine lv_i2c hx hb dX8_perform_89 rfl ?_
    refine lv_iload_n hx hb dX8_perform_90 rfl (lv_at hl 1 rfl) ?_
    refine lv_iload hx hb dX8_perform_91 (lv_at hl 0 rfl) ?_
    refine q_b1 (fun v14 M15 e13 => ?_)
    refine my_doneI hL (my_runV X hH hl.1 (co_X5_add g l hst (mR M a0 0) ((v2.toUInt32 % 65536).toInt32) v4 v6 M t12 v14 M15 e13) ok_X5_add W659 t12 rfl (by decide) rfl rfl rfl ⟨Nat.le_of_ble_eq_true rfl, Nat.le_of_ble_eq_true rfl⟩ ⟨Nat.zero_le _, Nat.zero_le _⟩ (Nat.le_of_ble_eq_true rfl) dX8_perform_93) (fun H locs hH hL => ?_)
    exact q_end1 (m_iret X hr hH hL dX8_perform_96)
  refine q_neg c11 ?_
  by_cases c16 : (swv (v9.toNatClampNeg)) = 2
  · refine q_pos c16 ?_
    refine m_table (tgt := 97) hx hb dX8_perform_30 (by decide) (by rw [c16] <;> rfl) (by decide) ?_
    refine lv_aload_n hx hb dX8_perform_97 rfl (lv_at hl 3 rfl) ?_
    refine m_gR (k := 0) X hH inC8 t0 rfl W279 dX8_perform_98 5 rfl (fun t17 => ?_)
    refine lv_iload_n hx hb dX8_perform_101 rfl (lv_at hl 2 rfl) ?_
    refine q_b1 (fun v19 M20 e18 => ?_)
    refine my_doneI hL (my_runV X hH hl.1 (co_X5_drop g l hst (mR M a0 0) v2 M t17 v19 M20 e18) ok_X5_drop W698 t17 rfl (by decide) rfl rfl rfl ⟨Nat.le_of_ble_eq_true rfl, Nat.le_of_ble_eq_true rfl⟩ ⟨Nat.zero_le _, Nat.zero_le _⟩ (Nat.le_of_ble_eq_true rfl) dX8_perform_102) (fun H locs hH hL => ?_)
    exact q_end1 (m_iret X hr hH hL dX8_perform_105)
  refine q_neg c16 ?_
  by_cases c21 : (swv (v9.toNatClampNeg)) = 3
  · refine q_pos c21 ?_
    refine m_table (tgt := 106) hx hb dX8_perform_30 (by decide) (by rw [c21] <;> rfl) (by decide) ?_
    refine lv_aload_n hx hb dX8_perform_106 rfl (lv_at hl 3 rfl) ?_
    refine m_gR (k := 0) X hH inC8 t0 rfl W279 dX8_perform_107 5 rfl (fun t22 => ?_)
    refine lv_iload_n hx hb dX8_perform_110 rfl (lv_at hl 2 rfl) ?_
    refine lv_iload_n hx hb dX8_perform_111 rfl (lv_at hl 1 rfl) ?_
    refine lv_iload hx hb dX8_perform_112 (lv_at hl 0 rfl) ?_
    refine lv_aload_n hx hb dX8_perform_114 rfl (lv_at hl 4 rfl) ?_
    refine lv_iconst (v := 3) hx hb dX8_perform_115 (by decide) ?_
    refine q_bind (fun v24 e23 => ?_)
    refine my_doneI hL (my_runV X hH hl.1 (co_X1_valueAt g l hst q1_ 3 M t_q1_ v24 e23) ok_X1_valueAt W1216 t_q1_ rfl (by decide) rfl rfl rfl ⟨Nat.le_of_ble_eq_true rfl, Nat.le_of_ble_eq_true rfl⟩ ⟨Nat.zero_le _, Nat.zero_le _⟩ (Nat.le_of_ble_eq_true rfl) dX8_perform_116) (fun H locs hH hL => ?_)
    refine q_b1 (fun v26 M27 e25 => ?_)
    refine my_doneI hL (my_runV X hH hl.1 (co_X5_write g l hst (mR M a0 0) v2 v4 v6 v24 M t22 v26 M27 e25) ok_X5_write W710 t22 rfl (by decide) rfl rfl rfl ⟨Nat.le_of_ble_eq_true rfl, Nat.le_of_ble_eq_true rfl⟩ ⟨Nat.zero_le _, Nat.zero_le _⟩ (Nat.le_of_ble_eq_true rfl) dX8_perform_119) (fun H locs hH hL => ?_)
    exact q_end1 (m_iret X hr hH hL dX8_perform_122)
  refine q_neg c21 ?_
  by_cases c28 : (swv (v9.toNatClampNeg)) = 4
  · refine q_pos c28 ?_
    refine m_table (tgt := 123) hx hb dX8_perform_30 (by decide) (by rw [c28] <;> rfl) (by decide) ?_
    refine lv_aload_n hx hb dX8_perform_123 rfl (lv_at hl 3 rfl) ?_
    refine m_gR (k := 0) X hH inC8 t0 rfl W279 dX8_perform_124 5 rfl (fun t29 => ?_)
    refine lv_iload_n hx hb dX8_perform_127 rfl (lv_at hl 2 rfl) ?_
    refine lv_iload_n hx hb dX8_perform_128 rfl (lv_at hl 1 rfl) ?_
    refine lv_iload hx hb dX8_perform_129 (lv_at hl 0 rfl) ?_
    refine lv_if_le (tgt := 138) hx hb dX8_perform_131 (by decide) (fun c30 => q_pos c30 ?_) (fun c30 => q_neg c30 ?_)
    · refine lv_iconst (v := 0) hx hb dX8_perform_138 (by decide) ?_
      refine q_b1 (fun v32 M33 e31 => ?_)
      refine my_doneI hL (my_runV X hH hl.1 (co_X5_mask g l hst (mR M a0 0) v2 v4 0 M t29 v32 M33 e31) ok_X5_mask W727 t29 rfl (by decide) rfl rfl rfl ⟨Nat.le_of_ble_eq_true rfl, Nat.le_of_ble_eq_true rfl⟩ ⟨Nat.zero_le _, Nat.zero_le _⟩ (Nat.le_of_ble_eq_true rfl) dX8_perform_139) (fun H locs hH hL => ?_)
      exact q_end1 (m_iret X hr hH hL dX8_perform_142)
    · refine lv_iconst (v := 1) hx hb dX8_perform_134 (by decide) ?_
      refine lv_goto (tgt := 139) hx hb dX8_perform_135 (by decide) ?_
      refine q_b1 (fun v35 M36 e34 => ?_)
      refine my_doneI hL (my_runV X hH hl.1 (co_X5_mask g l hst (mR M a0 0) v2 v4 1 M t29 v35 M36 e34) ok_X5_mask W727 t29 rfl (by decide) rfl rfl rfl ⟨Nat.le_of_ble_eq_true rfl, Nat.le_of_ble_eq_true rfl⟩ ⟨Nat.zero_le _, Nat.zero_le _⟩ (Nat.le_of_ble_eq_true rfl) dX8_perform_139) (fun H locs hH hL => ?_)
      exact q_end1 (m_iret X hr hH hL dX8_perform_142)
  refine q_neg c28 ?_
  by_cases c37 : (swv (v9.toNatClampNeg)) = 5
  · refine q_pos c37 ?_
    refine m_table (tgt := 143) hx hb dX8_perform_30 (by decide) (by rw [c37] <;> rfl) (by decide) ?_
    refine lv_aload_n hx hb dX8_perform_143 rfl (lv_at hl 3 rfl) ?_
    refine m_gR (k := 0) X hH inC8 t0 rfl W279 dX8_perform_144 5 rfl (fun t38 => ?_)
    refine lv_iload_n hx hb dX8_perform_147 rfl (lv_at hl 2 rfl) ?_
    refine q_b1 (fun v40 M41 e39 => ?_)
    refine my_doneI hL (my_runV X hH hl.1 (co_X5_flip g l hst (mR M a0 0) v2 M t38 v40 M41 e39) ok_X5_flip W745 t38 rfl (by decide) rfl rfl rfl ⟨Nat.le_of_ble_eq_true rfl, Nat.le_of_ble_eq_true rfl⟩ ⟨Nat.zero_le _, Nat.zero_le _⟩ (Nat.le_of_ble_eq_true rfl) dX8_perform_148) (fun H locs hH hL => ?_)
    exact q_end1 (m_iret X hr hH hL dX8_perform_151)
  refine q_neg c37 ?_
  by_cases c42 : (swv (v9.toNatClampNeg)) = 6
  · refine q_pos c42 ?_
    refine m_table (tgt := 152) hx hb dX8_perform_30 (by decide) (by rw [c42] <;> rfl) (by decide) ?_
    refine lv_aload_n hx hb dX8_perform_152 rfl (lv_at hl 3 rfl) ?_
    refine m_gR (k := 0) X hH inC8 t0 rfl W279 dX8_perform_153 5 rfl (fun t43 => ?_)
    refine lv_iload_n hx hb dX8_perform_156 rfl (lv_at hl 2 rfl) ?_
    refine q_b1 (fun v45 M46 e44 => ?_)
    refine my_doneI hL (my_runV X hH hl.1 (co_X5_turn g l hst (mR M a0 0) v2 M t43 v45 M46 e44) ok_X5_turn W757 t43 rfl (by decide) rfl rfl rfl ⟨Nat.le_of_ble_eq_true rfl, Nat.le_of_ble_eq_true rfl⟩ ⟨Nat.zero_le _, Nat.zero_le _⟩ (Nat.le_of_ble_eq_true rfl) dX8_perform_157) (fun H locs hH hL => ?_)
    exact q_end1 (m_iret X hr hH hL dX8_perform_160)
  refine q_neg c42 ?_
  by_cases c47 : (swv (v9.toNatClampNeg)) = 7
  · refine q_pos c47 ?_
    refine m_table (tgt := 161) hx hb dX8_perform_30 (by decide) (by rw [c47] <;> rfl) (by decide) ?_
    refine lv_aload_n hx hb dX8_perform_161 rfl (lv_at hl 3 rfl) ?_
    refine m_gR (k := 0) X hH inC8 t0 rfl W279 dX8_perform_162 5 rfl (fun t48 => ?_)
    refine lv_iload_n hx hb dX8_perform_165 rfl (lv_at hl 2 rfl) ?_
    refine lv_iload_n hx hb dX8_perform_166 rfl (lv_at hl 1 rfl) ?_
    refine lv_iload hx hb dX8_perform_167 (lv_at hl 0 rfl) ?_
    refine lv_imul hx hb dX8_perform_169 ?_
    refine q_b1 (fun v50 M51 e49 => ?_)
    refine my_doneI hL (my_runV X hH hl.1 (co_X5_lift g l hst (mR M a0 0) v2 (v4 * v6) M t48 v50 M51 e49) ok_X5_lift W774 t48 rfl (by decide) rfl rfl rfl ⟨Nat.le_of_ble_eq_true rfl, Nat.le_of_ble_eq_true rfl⟩ ⟨Nat.zero_le _, Nat.zero_le _⟩ (Nat.le_of_ble_eq_true rfl) dX8_perform_170) (fun H locs hH hL => ?_)
    exact q_end1 (m_iret X hr hH hL dX8_perform_173)
  refine q_neg c47 ?_
  by_cases c52 : (swv (v9.toNatClampNeg)) = 8
  · refine q_pos c52 ?_
    refine m_table (tgt := 174) hx hb dX8_perform_30 (by decide) (by rw [c52] <;> rfl) (by decide) ?_
    refine lv_aload_n hx hb dX8_perform_174 rfl (lv_at hl 3 rfl) ?_
    refine m_gR (k := 0) X hH inC8 t0 rfl W279 dX8_perform_175 5 rfl (fun t53 => ?_)
    refine lv_iload_n hx hb dX8_perform_178 rfl (lv_at hl 2 rfl) ?_
    refine q_b1 (fun v55 M56 e54 => ?_)
    refine my_doneI hL (my_runV X hH hl.1 (co_X5_changeTempo g l hst (mR M a0 0) v2 M t53 v55 M56 e54) ok_X5_changeTempo W793 t53 rfl (by decide) rfl rfl rfl ⟨Nat.le_of_ble_eq_true rfl, Nat.le_of_ble_eq_true rfl⟩ ⟨Nat.zero_le _, Nat.zero_le _⟩ (Nat.le_of_ble_eq_true rfl) dX8_perform_179) (fun H locs hH hL => ?_)
    exact q_end1 (m_iret X hr hH hL dX8_perform_182)
  refine q_neg c52 ?_
  by_cases c57 : (swv (v9.toNatClampNeg)) = 9
  · refine q_pos c57 ?_
    refine m_table (tgt := 183) hx hb dX8_perform_30 (by decide) (by rw [c57] <;> rfl) (by decide) ?_
    refine lv_aload_n hx hb dX8_perform_183 rfl (lv_at hl 3 rfl) ?_
    refine m_gR (k := 0) X hH inC8 t0 rfl W279 dX8_perform_184 5 rfl (fun t58 => ?_)
    refine lv_iload_n hx hb dX8_perform_187 rfl (lv_at hl 2 rfl) ?_
    refine q_b1 (fun v60 M61 e59 => ?_)
    refine my_doneI hL (my_runV X hH hl.1 (co_X5_changeLimit g l hst (mR M a0 0) v2 M t58 v60 M61 e59) ok_X5_changeLimit W804 t58 rfl (by decide) rfl rfl rfl ⟨Nat.le_of_ble_eq_true rfl, Nat.le_of_ble_eq_true rfl⟩ ⟨Nat.zero_le _, Nat.zero_le _⟩ (Nat.le_of_ble_eq_true rfl) dX8_perform_188) (fun H locs hH hL => ?_)
    exact q_end1 (m_iret X hr hH hL dX8_perform_191)
  refine q_neg c57 ?_
  by_cases c62 : (swv (v9.toNatClampNeg)) = 10
  · refine q_pos c62 ?_
    refine m_table (tgt := 192) hx hb dX8_perform_30 (by decide) (by rw [c62] <;> rfl) (by decide) ?_
    refine lv_aload_n hx hb dX8_perform_192 rfl (lv_at hl 3 rfl) ?_
    refine m_gR (k := 0) X hH inC8 t0 rfl W279 dX8_perform_193 5 rfl (fun t63 => ?_)
    refine lv_aload_n hx hb dX8_perform_196 rfl (lv_at hl 3 rfl) ?_
    refine m_gR (k := 0) X hH inC8 t0 rfl W279 dX8_perform_197 5 rfl (fun t64 => ?_)
    refine m_gI (k := 2) X hH inC5 t64 rfl W162 dX8_perform_200 ?_
    refine q_b1 (fun v66 M67 e65 => ?_)
    refine my_doneI hL (my_runV X hH hl.1 (co_X5_play g l hst (mR M a0 0) (mI M (mR M a0 0) 2) M t63 v66 M67 e65) ok_X5_play W336 t63 rfl (by decide) rfl rfl rfl ⟨Nat.le_of_ble_eq_true rfl, Nat.le_of_ble_eq_true rfl⟩ ⟨Nat.zero_le _, Nat.zero_le _⟩ (Nat.le_of_ble_eq_true rfl) dX8_perform_203) (fun H locs hH hL => ?_)
    exact q_end1 (m_iret X hr hH hL dX8_perform_206)
  refine q_neg c62 ?_
  refine m_table (tgt := 207) hx hb dX8_perform_30 (by decide) (tb_def [1, 2, 3, 4, 5, 6, 7, 8, 9, 10] (by decide) (List.forall_mem_cons.mpr ⟨sw_ne (z := 1) c11 (by decide), List.forall_mem_cons.mpr ⟨sw_ne (z := 2) c16 (by decide), List.forall_mem_cons.mpr ⟨sw_ne (z := 3) c21 (by decide), List.forall_mem_cons.mpr ⟨sw_ne (z := 4) c28 (by decide), List.forall_mem_cons.mpr ⟨sw_ne (z := 5) c37 (by decide), List.forall_mem_cons.mpr ⟨sw_ne (z := 6) c42 (by decide), List.forall_mem_cons.mpr ⟨sw_ne (z := 7) c47 (by decide), List.forall_mem_cons.mpr ⟨sw_ne (z := 8) c52 (by decide), List.forall_mem_cons.mpr ⟨sw_ne (z := 9) c57 (by decide), List.forall_mem_cons.mpr ⟨sw_ne (z := 10) c62 (by decide), List.forall_mem_nil _⟩⟩⟩⟩⟩⟩⟩⟩⟩⟩)) (by decide) ?_
  refine lv_iload_n hx hb dX8_perform_207 rfl (lv_at hl 2 rfl) ?_
  refine q_bind (fun v69 e68 => ?_)
  refine my_doneI hL (my_runS X hH hl.1 (co_X8_isBeats g l hst v2 M v69 e68) ok_X8_isBeats W815 rfl rfl ⟨Nat.le_of_ble_eq_true rfl, Nat.le_of_ble_eq_true rfl⟩ ⟨Nat.zero_le _, Nat.zero_le _⟩ (Nat.le_of_ble_eq_true rfl) dX8_perform_208) (fun H locs hH hL => ?_)
  refine lv_if_eq (tgt := 225) hx hb dX8_perform_211 (by decide) (fun c70 => q_pos c70 ?_) (fun c70 => q_neg c70 ?_)
  · refine lv_bipush (v := (-2)) hx hb dX8_perform_225 (by decide) ?_
    exact q_end1 (m_iret X hr hH hL dX8_perform_227)
  · refine lv_aload_n hx hb dX8_perform_214 rfl (lv_at hl 3 rfl) ?_
    refine m_gR (k := 0) X hH inC8 t0 rfl W279 dX8_perform_215 5 rfl (fun t71 => ?_)
    refine lv_iload_n hx hb dX8_perform_218 rfl (lv_at hl 2 rfl) ?_
    refine q_b1 (fun v73 M74 e72 => ?_)
    refine my_doneI hL (my_runV X hH hl.1 (co_X5_play g l hst (mR M a0 0) v2 M t71 v73 M74 e72) ok_X5_play W336 t71 rfl (by decide) rfl rfl rfl ⟨Nat.le_of_ble_eq_true rfl, Nat.le_of_ble_eq_true rfl⟩ ⟨Nat.zero_le _, Nat.zero_le _⟩ (Nat.le_of_ble_eq_true rfl) dX8_perform_219) (fun H locs hH hL => ?_)
    refine lv_goto (tgt := 227) hx hb dX8_perform_222 (by decide) ?_
    exact q_end1 (m_iret X hr hH hL dX8_perform_227)

set_option maxRecDepth 20000 in
set_option maxHeartbeats 4000000 in
theorem co_X2_putBack (g : GP) (l : Launch) (hst : l.stackTraces = false) (a0 : Nat) (q1_ : Nat) (M : Mem) (t0 : tyT a0 = 2) (t_q1_ : tyT q1_ = 5) (v : Unit) (M' : Mem) (hF : F_X2_putBack a0 q1_ M = some (v, M')) : CO g l yX2_putBack cX2_putBack 2 none 4 104 rvU [.ref (adr g a0), .ref (adr g q1_)] M (.inl v : Unit ⊕ String) M' := by
  refine CO_of hst (by decide) (Nat.le_of_ble_eq_true rfl) ?_
  intro p e s m below meth c ls X hr htb hH hL hl
  have hx := X.1
  have hb := X.2.1
  have hts := X.2.2.2.2.1
  refine q_out hF ?_
  rw [F_X2_putBack]
  replace hl : lv_has ls 2 [(0, .ref (adr g a0)), (1, .ref (adr g q1_))] := hl
  refine lv_aload_n hx hb dX2_putBack_0 rfl (lv_at hl 0 rfl) ?_
  refine m_gI (k := 1) X hH inC2 t0 rfl W206 dX2_putBack_1 ?_
  refine lv_if_lt (tgt := 32) hx hb dX2_putBack_4 (by decide) (fun c1 => q_pos c1 ?_) (fun c1 => q_neg c1 ?_)
  · exact q_end1 (m_vret X hr hH hL dX2_putBack_32)
  · refine lv_aload_n hx hb dX2_putBack_7 rfl (lv_at hl 0 rfl) ?_
    refine m_gI (k := 1) X hH inC2 t0 rfl W206 dX2_putBack_8 ?_
    refine lv_aload_n hx hb dX2_putBack_11 rfl (lv_at hl 0 rfl) ?_
    refine m_gR (k := 0) X hH inC2 t0 rfl W205 dX2_putBack_12 30 rfl (fun t2 => ?_)
    refine m_alen X hH t2 rfl (by decide) (v := 9) (by decide) dX2_putBack_15 ?_
    refine lv_icmp_ge (tgt := 32) hx hb dX2_putBack_16 (by decide) (fun c3 => q_pos c3 ?_) (fun c3 => q_neg c3 ?_)
    · exact q_end1 (m_vret X hr hH hL dX2_putBack_32)
    · refine lv_aload_n hx hb dX2_putBack_19 rfl (lv_at hl 1 rfl) ?_
      refine lv_aload_n hx hb dX2_putBack_20 rfl (lv_at hl 0 rfl) ?_
      refine m_gR (k := 0) X hH inC2 t0 rfl W205 dX2_putBack_21 30 rfl (fun t4 => ?_)
      refine lv_aload_n hx hb dX2_putBack_24 rfl (lv_at hl 0 rfl) ?_
      refine m_gI (k := 1) X hH inC2 t0 rfl W206 dX2_putBack_25 ?_
      refine q_chk (fun hb5 => ?_)
      refine m_aald X hH t4 rfl (by decide) (fun _ => rfl) rfl rfl (t2 := 5) (fun _ => rfl) hb5 dX2_putBack_28 (fun t6 => ?_)
      refine q_b1 (fun u8 M9 e7 => ?_)
      refine my_doneU hL (my_runV X hH hl.1 (co_X5_copyFrom g l hst q1_ (mR M (mR M a0 0) (mI M a0 1).toNatClampNeg) M t_q1_ t6 u8 M9 e7) ok_X5_copyFrom W318 t_q1_ rfl (by decide) rfl rfl rfl ⟨Nat.le_of_ble_eq_true rfl, Nat.le_of_ble_eq_true rfl⟩ ⟨Nat.zero_le _, Nat.zero_le _⟩ (Nat.le_of_ble_eq_true rfl) dX2_putBack_29) (fun H locs hH hL => ?_)
      exact q_end1 (m_vret X hr hH hL dX2_putBack_32)

set_option maxRecDepth 20000 in
set_option maxHeartbeats 4000000 in
theorem co_X8_runScript (g : GP) (l : Launch) (hst : l.stackTraces = false) (a0 : Nat) (M : Mem) (t0 : tyT a0 = 8) (o : Int32 ⊕ String) (M' : Mem) (hF : F_X8_runScript a0 M = some (o, M')) : CO g l yX8_runScript cX8_runScript 3 (some .int) 8 200 rvI [.ref (adr g a0)] M o M' := by
  refine CO_of hst (by decide) (Nat.le_of_ble_eq_true rfl) ?_
  intro p e s m below meth c ls X hr htb hH hL hl
  have hx := X.1
  have hb := X.2.1
  have hts := X.2.2.2.2.1
  refine q_out hF ?_
  rw [F_X8_runScript]
  replace hl : lv_has ls 3 [(0, .ref (adr g a0))] := hl
  refine lv_aload_n hx hb dX8_runScript_0 rfl (lv_at hl 0 rfl) ?_
  refine m_gR (k := 6) X hH inC8 t0 rfl W285 dX8_runScript_1 3 rfl (fun t1 => ?_)
  refine q_b1 (fun v3 M4 e2 => ?_)
  refine my_doneI hL (my_runV X hH hl.1 (co_X3_read g l hst (mR M a0 6) M t1 v3 M4 e2) ok_X3_read W1106 t1 rfl (by decide) rfl rfl rfl ⟨Nat.le_of_ble_eq_true rfl, Nat.le_of_ble_eq_true rfl⟩ ⟨Nat.zero_le _, Nat.zero_le _⟩ (Nat.le_of_ble_eq_true rfl) dX8_runScript_4) (fun H locs hH hL => ?_)
  refine lv_istore_n (lv' := [(1, .int v3), (0, .ref (adr g a0))]) hx hb dX8_runScript_7 rfl hl (by decide) rfl (fun ls hl => ?_)
  refine lv_aload_n hx hb dX8_runScript_8 rfl (lv_at hl 1 rfl) ?_
  refine m_gR (k := 6) X hH inC8 t0 rfl W285 dX8_runScript_9 3 rfl (fun t5 => ?_)
  refine m_gR (k := 0) X hH inC3 t5 rfl W261 dX8_runScript_12 6 rfl (fun t6 => ?_)
  refine q_b1 (fun u8 M9 e7 => ?_)
  refine my_doneU hL (my_runV X hH hl.1 (co_X6_clear g l hst (mR M4 (mR M4 a0 6) 0) M4 t6 u8 M9 e7) ok_X6_clear W1052 t6 rfl (by decide) rfl rfl rfl ⟨Nat.le_of_ble_eq_true rfl, Nat.le_of_ble_eq_true rfl⟩ ⟨Nat.zero_le _, Nat.zero_le _⟩ (Nat.le_of_ble_eq_true rfl) dX8_runScript_15) (fun H locs hH hL => ?_)
  refine lv_iload_n hx hb dX8_runScript_18 rfl (lv_at hl 0 rfl) ?_
  refine lv_if_ne (tgt := 44) hx hb dX8_runScript_19 (by decide) (fun c10 => q_neg c10 ?_) (fun c10 => q_pos c10 ?_)
  · refine lv_aload_n hx hb dX8_runScript_44 rfl (lv_at hl 1 rfl) ?_
    refine m_gR (k := 4) X hH inC8 t0 rfl W283 dX8_runScript_45 2 rfl (fun t11 => ?_)
    refine lv_aload_n hx hb dX8_runScript_48 rfl (lv_at hl 1 rfl) ?_
    refine m_gR (k := 0) X hH inC8 t0 rfl W279 dX8_runScript_49 5 rfl (fun t12 => ?_)
    refine q_b1 (fun u14 M15 e13 => ?_)
    refine my_doneU hL (my_runV X hH hl.1 (co_X2_prepare g l hst (mR M9 a0 4) (mR M9 a0 0) M9 t11 t12 u14 M15 e13) ok_X2_prepare W314 t11 rfl (by decide) rfl rfl rfl ⟨Nat.le_of_ble_eq_true rfl, Nat.le_of_ble_eq_true rfl⟩ ⟨Nat.zero_le _, Nat.zero_le _⟩ (Nat.le_of_ble_eq_true rfl) dX8_runScript_52) (fun H locs hH hL => ?_)
    refine lv_iconst (v := 0) hx hb dX8_runScript_55 (by decide) ?_
    refine lv_istore_n (lv' := [(2, .int 0), (1, .int v3), (0, .ref (adr g a0))]) hx hb dX8_runScript_56 rfl hl (by decide) rfl (fun ls hl => ?_)
    have L39 : ∀ (K : Int32 → Mem → Option ((Int32 ⊕ String) × Mem)) (_ : ∀ (i16 : Int32) (M17 : Mem) (H : Heap) (locs : List Loc) (ls : Array Slot), HR g M17 H → LK g s H locs → lv_has ls 3 [(0, .ref (adr g a0)), (1, .int v3), (2, .int i16)] → W p l e (rmO o 8 200) s m ([.ref (adr g a0)] : List Value).toArray below meth c H locs 0 0 (GQ (K i16 M17) (o, M') (MQO g below rvI o M' ([.ref (adr g a0)] : List Value).toArray s)) (F0 m 129 ls [])) (n : Nat) (i16 : Int32) (M17 : Mem) (H : Heap) (locs : List Loc) (ls : Array Slot), HR g M17 H → LK g s H locs → lv_has ls 3 [(0, .ref (adr g a0)), (1, .int v3), (2, .int i16)] → W p l e (rmO o 8 200) s m ([.ref (adr g a0)] : List Value).toArray below meth c H locs 0 0 (GQ (F_X8_runScript_L1 a0 K n i16 M17) (o, M') (MQO g below rvI o M' ([.ref (adr g a0)] : List Value).toArray s)) (F0 m 57 ls []) := by
      intro K hK n
      induction n with
      | zero => intros; exact q_none
      | succ n ih =>
        intro i16 M17 H locs ls hH hL hl 
        rw [F_X8_runScript_L1]
        refine lv_iload_n hx hb dX8_runScript_57 rfl (lv_at hl 2 rfl) ?_
        refine lv_aload_n hx hb dX8_runScript_58 rfl (lv_at hl 0 rfl) ?_
        refine m_gR (k := 6) X hH inC8 t0 rfl W285 dX8_runScript_59 3 rfl (fun t19 => ?_)
        refine m_gI (k := 2) X hH inC3 t19 rfl W265 dX8_runScript_62 ?_
        refine lv_icmp_ge (tgt := 129) hx hb dX8_runScript_65 (by decide) (fun c20 => q_pos c20 ?_) (fun c20 => q_neg c20 ?_)
        · exact hK i16 M17 _ _ ls hH hL hl 
        · refine lv_iload_n hx hb dX8_runScript_68 rfl (lv_at hl 2 rfl) ?_
          refine lv_aload_n hx hb dX8_runScript_69 rfl (lv_at hl 0 rfl) ?_
          refine m_gR (k := 6) X hH inC8 t0 rfl W285 dX8_runScript_70 3 rfl (fun t21 => ?_)
          refine m_gR (k := 1) X hH inC3 t21 rfl W263 dX8_runScript_73 31 rfl (fun t22 => ?_)
          refine m_alen X hH t22 rfl (by decide) (v := 12) (by decide) dX8_runScript_76 ?_
          refine lv_icmp_ge (tgt := 129) hx hb dX8_runScript_77 (by decide) (fun c23 => q_pos c23 ?_) (fun c23 => q_neg c23 ?_)
          · exact hK i16 M17 _ _ ls hH hL hl 
          · refine lv_aload_n hx hb dX8_runScript_80 rfl (lv_at hl 0 rfl) ?_
            refine lv_aload_n hx hb dX8_runScript_81 rfl (lv_at hl 0 rfl) ?_
            refine m_gR (k := 6) X hH inC8 t0 rfl W285 dX8_runScript_82 3 rfl (fun t24 => ?_)
            refine m_gR (k := 1) X hH inC3 t24 rfl W263 dX8_runScript_85 31 rfl (fun t25 => ?_)
            refine lv_iload_n hx hb dX8_runScript_88 rfl (lv_at hl 2 rfl) ?_
            refine q_chk (fun hb26 => ?_)
            refine m_aald X hH t25 rfl (by decide) (fun _ => rfl) rfl rfl (t2 := 1) (fun _ => rfl) hb26 dX8_runScript_89 (fun t27 => ?_)
            refine q_b1 (fun v29 M30 e28 => ?_)
            refine my_doneI hL (my_runV X hH hl.1 (co_X8_perform g l hst a0 (mR M17 (mR M17 (mR M17 a0 6) 1) i16.toNatClampNeg) M17 t0 t27 v29 M30 e28) ok_X8_perform W1212 t0 rfl (by decide) rfl rfl rfl ⟨Nat.le_of_ble_eq_true rfl, Nat.le_of_ble_eq_true rfl⟩ ⟨Nat.zero_le _, Nat.zero_le _⟩ (Nat.le_of_ble_eq_true rfl) dX8_runScript_90) (fun H locs hH hL => ?_)
            refine lv_if_ge (tgt := 123) hx hb dX8_runScript_93 (by decide) (fun c31 => q_pos c31 ?_) (fun c31 => q_neg c31 ?_)
            · refine q_lt (fun v32 e_v32 => ?_)
              refine lv_iinc (v := v32) (lv' := [(2, .int v32), (0, .ref (adr g a0)), (1, .int v3)]) hx hb dX8_runScript_123 hl (k := 2) rfl (by rw [e_v32]; rfl) (by decide) rfl (fun ls hl => ?_)
              refine lv_goto (tgt := 57) hx hb dX8_runScript_126 (by decide) ?_
              exact ih v32 M30 _ _ ls hH hL (lv_sub hl [1, 2, 0] rfl) 
            · refine lv_aload_n hx hb dX8_runScript_96 rfl (lv_at hl 0 rfl) ?_
              refine m_gR (k := 4) X hH inC8 t0 rfl W283 dX8_runScript_97 2 rfl (fun t33 => ?_)
              refine lv_aload_n hx hb dX8_runScript_100 rfl (lv_at hl 0 rfl) ?_
              refine m_gR (k := 0) X hH inC8 t0 rfl W279 dX8_runScript_101 5 rfl (fun t34 => ?_)
              refine q_b1 (fun u36 M37 e35 => ?_)
              refine my_doneU hL (my_runV X hH hl.1 (co_X2_putBack g l hst (mR M30 a0 4) (mR M30 a0 0) M30 t33 t34 u36 M37 e35) ok_X2_putBack W1228 t33 rfl (by decide) rfl rfl rfl ⟨Nat.le_of_ble_eq_true rfl, Nat.le_of_ble_eq_true rfl⟩ ⟨Nat.zero_le _, Nat.zero_le _⟩ (Nat.le_of_ble_eq_true rfl) dX8_runScript_104) (fun H locs hH hL => ?_)
              refine lv_aload_n hx hb dX8_runScript_107 rfl (lv_at hl 0 rfl) ?_
              refine lv_iload_n hx hb dX8_runScript_108 rfl (lv_at hl 2 rfl) ?_
              refine q_lt (fun M38 e_M38 => ?_)
              refine m_pI (k := 9) X hH hL okC8 t0 rfl rfl rfl rfl W288 dX8_runScript_109 e_M38 (fun H locs hH hL => ?_)
              exact q_thr (m_throwW X htb hH hL hl.1 okT19 dX8_runScript_112 dX8_runScript_115 dX8_runScript_116 dX8_runScript_119 dX8_runScript_122 (Nat.le_of_ble_eq_true rfl) (Nat.le_of_ble_eq_true rfl))
    refine L39 _ (fun x40 M41 H locs ls hH hL hl  => ?_) 3000 0 M15 _ _ ls hH hL (lv_sub hl [2, 1, 0] rfl) 
    refine lv_aload_n hx hb dX8_runScript_129 rfl (lv_at hl 0 rfl) ?_
    refine m_gR (k := 4) X hH inC8 t0 rfl W283 dX8_runScript_130 2 rfl (fun t42 => ?_)
    refine q_b1 (fun u44 M45 e43 => ?_)
    refine my_doneU hL (my_runV X hH hl.1 (co_X2_keep g l hst (mR M41 a0 4) M41 t42 u44 M45 e43) ok_X2_keep W505 t42 rfl (by decide) rfl rfl rfl ⟨Nat.le_of_ble_eq_true rfl, Nat.le_of_ble_eq_true rfl⟩ ⟨Nat.zero_le _, Nat.zero_le _⟩ (Nat.le_of_ble_eq_true rfl) dX8_runScript_133) (fun H locs hH hL => ?_)
    refine lv_aload_n hx hb dX8_runScript_136 rfl (lv_at hl 0 rfl) ?_
    refine m_gR (k := 6) X hH inC8 t0 rfl W285 dX8_runScript_137 3 rfl (fun t46 => ?_)
    refine m_gI (k := 2) X hH inC3 t46 rfl W265 dX8_runScript_140 ?_
    exact q_end2 (m_iret X hr hH hL dX8_runScript_143)
  · refine lv_aload_n hx hb dX8_runScript_22 rfl (lv_at hl 1 rfl) ?_
    refine lv_aload_n hx hb dX8_runScript_23 rfl (lv_at hl 1 rfl) ?_
    refine m_gR (k := 6) X hH inC8 t0 rfl W285 dX8_runScript_24 3 rfl (fun t47 => ?_)
    refine m_gI (k := 3) X hH inC3 t47 rfl W267 dX8_runScript_27 ?_
    refine q_lt (fun M48 e_M48 => ?_)
    refine m_pI (k := 8) X hH hL okC8 t0 rfl rfl rfl rfl W287 dX8_runScript_30 e_M48 (fun H locs hH hL => ?_)
    exact q_thr (m_throwW X htb hH hL hl.1 okT20 dX8_runScript_33 dX8_runScript_36 dX8_runScript_37 dX8_runScript_40 dX8_runScript_43 (Nat.le_of_ble_eq_true rfl) (Nat.le_of_ble_eq_true rfl))

