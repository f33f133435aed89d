set_option maxRecDepth 20000 in
set_option maxHeartbeats 4000000 in
theorem co_J0_coder_7d493 (g : GP) (l : Launch) (hst : l.stackTraces = false) (a0 : Nat) (M : Mem) (t0 : a0 < 22) (v : Int32) (hF : F_J0_coder_7d493 a0 = some v) : CO g l yJ0_coder_7d493 cJ0_coder_7d493 1 (some .byte) 0 0 rvI [.ref (gV g (100 + a0))] M (.inl v : Int32 ⊕ String) M := by
  refine CO_of hst (by decide) (Nat.le_of_ble_eq_true rfl) ?_
  intro p e s m below meth c ls X hr htb hH hL hl
  have hx := X.1
  have hb := X.2.1
  have hts := X.2.2.2.2.1
  refine q_out hF ?_
  rw [F_J0_coder_7d493]
  replace hl : lv_has ls 1 [(0, .ref (gV g (100 + a0)))] := hl
  refine m_kS X hH hL (my_kv X).2.2.2.2.2.2.2.1 W1132 dJ0_coder_7d493_0 ?_
  refine lv_if_eq (tgt := 13) hx hb dJ0_coder_7d493_3 (by decide) (fun c => absurd c (by decide)) (fun _ => ?_)
  refine lv_aload_n hx hb dJ0_coder_7d493_6 rfl (lv_at hl 0 rfl) ?_
  refine m_kF X hH hL (kv_coder (my_kv X) t0) W1849 dJ0_coder_7d493_7 ?_
  refine lv_goto (tgt := 14) hx hb dJ0_coder_7d493_10 (by decide) ?_
  exact q_end0 (m_zret X hr hH hL (by decide) dJ0_coder_7d493_14)

set_option maxRecDepth 20000 in
set_option maxHeartbeats 4000000 in
theorem co_J0_length_8abf5 (g : GP) (l : Launch) (hst : l.stackTraces = false) (a0 : Nat) (M : Mem) (t0 : a0 < 22) (v : Int32) (hF : F_J0_length_8abf5 a0 = some v) : CO g l yJ0_length_8abf5 cJ0_length_8abf5 1 (some .int) 1 20 rvI [.ref (gV g (100 + a0))] M (.inl v : Int32 ⊕ String) M := by
  refine CO_of hst (by decide) (Nat.le_of_ble_eq_true rfl) ?_
  intro p e s m below meth c ls X hr htb hH hL hl
  have hx := X.1
  have hb := X.2.1
  have hts := X.2.2.2.2.1
  refine q_out hF ?_
  rw [F_J0_length_8abf5]
  replace hl : lv_has ls 1 [(0, .ref (gV g (100 + a0)))] := hl
  refine lv_aload_n hx hb dJ0_length_8abf5_0 rfl (lv_at hl 0 rfl) ?_
  refine m_kF X hH hL (kv_value (my_kv X) t0) W1848 dJ0_length_8abf5_1 ?_
  refine m_kLen X hH hL (kv_bytes (my_kv X) t0) (v := nI (sLen a0)) rfl dJ0_length_8abf5_4 ?_
  refine lv_aload_n hx hb dJ0_length_8abf5_5 rfl (lv_at hl 0 rfl) ?_
  refine q_bind (fun v2 e1 => ?_)
  refine my_doneI hL (my_runK X hH hL hl.1 (kv_str (my_kv X) t0) (co_J0_coder_7d493 g l hst a0 M t0 v2 e1) ok_J0_coder_7d493 W1128 rfl rfl rfl ⟨Nat.le_of_ble_eq_true rfl, Nat.le_of_ble_eq_true rfl⟩ ⟨Nat.zero_le _, Nat.zero_le _⟩ (Nat.le_of_ble_eq_true rfl) dJ0_length_8abf5_6) (fun H locs hH hL => ?_)
  refine lv_ishr hx hb dJ0_length_8abf5_9 ?_
  exact q_end0 (m_iret X hr hH hL dJ0_length_8abf5_10)

set_option maxRecDepth 20000 in
set_option maxHeartbeats 4000000 in
theorem co_J0_isLatin1_aae02 (g : GP) (l : Launch) (hst : l.stackTraces = false) (a0 : Nat) (M : Mem) (t0 : a0 < 22) (v : Int32) (hF : F_J0_isLatin1_aae02 a0 = some v) : CO g l yJ0_isLatin1_aae02 cJ0_isLatin1_aae02 1 (some .boolean) 0 0 rvI [.ref (gV g (100 + a0))] M (.inl v : Int32 ⊕ String) M := by
  refine CO_of hst (by decide) (Nat.le_of_ble_eq_true rfl) ?_
  intro p e s m below meth c ls X hr htb hH hL hl
  have hx := X.1
  have hb := X.2.1
  have hts := X.2.2.2.2.1
  refine q_out hF ?_
  rw [F_J0_isLatin1_aae02]
  replace hl : lv_has ls 1 [(0, .ref (gV g (100 + a0)))] := hl
  refine m_kS X hH hL (my_kv X).2.2.2.2.2.2.2.1 W1132 dJ0_isLatin1_aae02_0 ?_
  refine lv_if_eq (tgt := 17) hx hb dJ0_isLatin1_aae02_3 (by decide) (fun c => absurd c (by decide)) (fun _ => ?_)
  refine lv_aload_n hx hb dJ0_isLatin1_aae02_6 rfl (lv_at hl 0 rfl) ?_
  refine m_kF X hH hL (kv_coder (my_kv X) t0) W1849 dJ0_isLatin1_aae02_7 ?_
  refine lv_if_ne (tgt := 17) hx hb dJ0_isLatin1_aae02_10 (by decide) (fun c => absurd c (by decide)) (fun _ => ?_)
  refine lv_iconst (v := 1) hx hb dJ0_isLatin1_aae02_13 (by decide) ?_
  refine lv_goto (tgt := 18) hx hb dJ0_isLatin1_aae02_14 (by decide) ?_
  exact q_end0 (m_zret X hr hH hL (by decide) dJ0_isLatin1_aae02_18)

set_option maxRecDepth 20000 in
set_option maxHeartbeats 4000000 in
theorem co_J3_checkIndex_8e157_n (g : GP) (l : Launch) (hst : l.stackTraces = false) (p1_ : Int32) (p2_ : Int32) (M : Mem)  (v : Int32) (hF : F_J3_checkIndex_8e157 p1_ p2_ = some v) : CO g l yJ3_checkIndex_8e157 cJ3_checkIndex_8e157 3 (some .int) 0 0 rvI [.int p1_, .int p2_, .null] M (.inl v : Int32 ⊕ String) M := by
  refine CO_of hst (by decide) (Nat.le_of_ble_eq_true rfl) ?_
  intro p e s m below meth c ls X hr htb hH hL hl
  have hx := X.1
  have hb := X.2.1
  have hts := X.2.2.2.2.1
  refine q_out hF ?_
  rw [F_J3_checkIndex_8e157]
  replace hl : lv_has ls 3 [(0, .int p1_), (1, .int p2_), (2, .null)] := hl
  refine lv_iload_n hx hb dJ3_checkIndex_8e157_0 rfl (lv_at hl 0 rfl) ?_
  refine lv_if_lt (tgt := 9) hx hb dJ3_checkIndex_8e157_1 (by decide) (fun c1 => q_pos c1 ?_) (fun c1 => q_neg c1 ?_)
  · exact q_none
  · refine lv_iload_n hx hb dJ3_checkIndex_8e157_4 rfl (lv_at hl 0 rfl) ?_
    refine lv_iload_n hx hb dJ3_checkIndex_8e157_5 rfl (lv_at hl 1 rfl) ?_
    refine lv_icmp_lt (tgt := 16) hx hb dJ3_checkIndex_8e157_6 (by decide) (fun c2 => q_pos c2 ?_) (fun c2 => q_neg c2 ?_)
    · refine lv_iload_n hx hb dJ3_checkIndex_8e157_16 rfl (lv_at hl 0 rfl) ?_
      exact q_end0 (m_iret X hr hH hL dJ3_checkIndex_8e157_17)
    · exact q_none
set_option maxRecDepth 20000 in
set_option maxHeartbeats 4000000 in
theorem co_J3_checkIndex_8e157_r (g : GP) (l : Launch) (hst : l.stackTraces = false) (zq : Nat) (p1_ : Int32) (p2_ : Int32) (M : Mem)  (v : Int32) (hF : F_J3_checkIndex_8e157 p1_ p2_ = some v) : CO g l yJ3_checkIndex_8e157 cJ3_checkIndex_8e157 3 (some .int) 0 0 rvI [.int p1_, .int p2_, .ref zq] M (.inl v : Int32 ⊕ String) M := by
  refine CO_of hst (by decide) (Nat.le_of_ble_eq_true rfl) ?_
  intro p e s m below meth c ls X hr htb hH hL hl
  have hx := X.1
  have hb := X.2.1
  have hts := X.2.2.2.2.1
  refine q_out hF ?_
  rw [F_J3_checkIndex_8e157]
  replace hl : lv_has ls 3 [(0, .int p1_), (1, .int p2_), (2, .ref zq)] := hl
  refine lv_iload_n hx hb dJ3_checkIndex_8e157_0 rfl (lv_at hl 0 rfl) ?_
  refine lv_if_lt (tgt := 9) hx hb dJ3_checkIndex_8e157_1 (by decide) (fun c1 => q_pos c1 ?_) (fun c1 => q_neg c1 ?_)
  · exact q_none
  · refine lv_iload_n hx hb dJ3_checkIndex_8e157_4 rfl (lv_at hl 0 rfl) ?_
    refine lv_iload_n hx hb dJ3_checkIndex_8e157_5 rfl (lv_at hl 1 rfl) ?_
    refine lv_icmp_lt (tgt := 16) hx hb dJ3_checkIndex_8e157_6 (by decide) (fun c2 => q_pos c2 ?_) (fun c2 => q_neg c2 ?_)
    · refine lv_iload_n hx hb dJ3_checkIndex_8e157_16 rfl (lv_at hl 0 rfl) ?_
      exact q_end0 (m_iret X hr hH hL dJ3_checkIndex_8e157_17)
    · exact q_none

set_option maxRecDepth 20000 in
set_option maxHeartbeats 4000000 in
theorem co_J0_checkIndex_df160 (g : GP) (l : Launch) (hst : l.stackTraces = false) (p1_ : Int32) (p2_ : Int32) (M : Mem)  (v : Unit) (hF : F_J0_checkIndex_df160 p1_ p2_ = some v) : CO g l yJ0_checkIndex_df160 cJ0_checkIndex_df160 2 none 1 22 rvU [.int p1_, .int p2_] M (.inl v : Unit ⊕ String) M := by
  refine CO_of hst (by decide) (Nat.le_of_ble_eq_true rfl) ?_
  intro p e s m below meth c ls X hr htb hH hL hl
  have hx := X.1
  have hb := X.2.1
  have hts := X.2.2.2.2.1
  refine q_out hF ?_
  rw [F_J0_checkIndex_df160]
  replace hl : lv_has ls 2 [(0, .int p1_), (1, .int p2_)] := hl
  refine lv_iload_n hx hb dJ0_checkIndex_df160_0 rfl (lv_at hl 0 rfl) ?_
  refine lv_iload_n hx hb dJ0_checkIndex_df160_1 rfl (lv_at hl 1 rfl) ?_
  rcases (my_kv X).2.2.2.2.2.2.2.2 with hz | ⟨zq, hz⟩
  · refine m_kS X hH hL hz W1149 dJ0_checkIndex_df160_2 ?_
    refine q_bind (fun v2 e1 => ?_)
    refine my_doneI hL (my_runS X hH hl.1 (co_J3_checkIndex_8e157_n g l hst p1_ p2_ M v2 e1) ok_J3_checkIndex_8e157 W1151 rfl rfl ⟨Nat.le_of_ble_eq_true rfl, Nat.le_of_ble_eq_true rfl⟩ ⟨Nat.zero_le _, Nat.zero_le _⟩ (Nat.le_of_ble_eq_true rfl) dJ0_checkIndex_df160_5) (fun H locs hH hL => ?_)
    refine lv_pop hx hb dJ0_checkIndex_df160_8 rfl ?_
    exact q_end0 (m_vret X hr hH hL dJ0_checkIndex_df160_9)
  · refine m_kS X hH hL hz W1149 dJ0_checkIndex_df160_2 ?_
    refine q_bind (fun v2 e1 => ?_)
    refine my_doneI hL (my_runS X hH hl.1 (co_J3_checkIndex_8e157_r g l hst zq p1_ p2_ M v2 e1) ok_J3_checkIndex_8e157 W1151 rfl rfl ⟨Nat.le_of_ble_eq_true rfl, Nat.le_of_ble_eq_true rfl⟩ ⟨Nat.zero_le _, Nat.zero_le _⟩ (Nat.le_of_ble_eq_true rfl) dJ0_checkIndex_df160_5) (fun H locs hH hL => ?_)
    refine lv_pop hx hb dJ0_checkIndex_df160_8 rfl ?_
    exact q_end0 (m_vret X hr hH hL dJ0_checkIndex_df160_9)

set_option maxRecDepth 20000 in
set_option maxHeartbeats 4000000 in
theorem co_J1_charAt_3b067 (g : GP) (l : Launch) (hst : l.stackTraces = false) (q1_ : Nat) (p2_ : Int32) (M : Mem) (t_q1_ : q1_ < 22) (v : Int32) (hF : F_J1_charAt_3b067 q1_ p2_ = some v) : CO g l yJ1_charAt_3b067 cJ1_charAt_3b067 2 (some .char) 2 43 rvI [.ref (gV g (200 + q1_)), .int p2_] M (.inl v : Int32 ⊕ String) M := by
  refine CO_of hst (by decide) (Nat.le_of_ble_eq_true rfl) ?_
  intro p e s m below meth c ls X hr htb hH hL hl
  have hx := X.1
  have hb := X.2.1
  have hts := X.2.2.2.2.1
  refine q_out hF ?_
  rw [F_J1_charAt_3b067]
  replace hl : lv_has ls 2 [(0, .ref (gV g (200 + q1_))), (1, .int p2_)] := hl
  refine lv_iload_n hx hb dJ1_charAt_3b067_0 rfl (lv_at hl 1 rfl) ?_
  refine lv_aload_n hx hb dJ1_charAt_3b067_1 rfl (lv_at hl 0 rfl) ?_
  refine m_kLen X hH hL (kv_bytes (my_kv X) t_q1_) (v := nI (sLen q1_)) rfl dJ1_charAt_3b067_2 ?_
  refine q_bind (fun u2 e1 => ?_)
  refine my_doneU hL (my_runS X hH hl.1 (co_J0_checkIndex_df160 g l hst p2_ (nI (sLen q1_)) M u2 e1) ok_J0_checkIndex_df160 W1146 rfl rfl ⟨Nat.le_of_ble_eq_true rfl, Nat.le_of_ble_eq_true rfl⟩ ⟨Nat.zero_le _, Nat.zero_le _⟩ (Nat.le_of_ble_eq_true rfl) dJ1_charAt_3b067_3) (fun H locs hH hL => ?_)
  refine lv_aload_n hx hb dJ1_charAt_3b067_6 rfl (lv_at hl 0 rfl) ?_
  refine lv_iload_n hx hb dJ1_charAt_3b067_7 rfl (lv_at hl 1 rfl) ?_
  refine q_chk (fun hb3 => ?_)
  refine m_kByte X hH hL t_q1_ hb3 dJ1_charAt_3b067_8 ?_
  refine lv_sipush (v := 255) hx hb dJ1_charAt_3b067_9 (by decide) ?_
  refine lv_iand hx hb dJ1_charAt_3b067_12 ?_
  refine lv_i2c hx hb dJ1_charAt_3b067_13 rfl ?_
  refine q_chk (fun hn4 => ?_)
  exact q_end0 (m_zret X hr hH hL (nokC_n hn4) dJ1_charAt_3b067_14)

set_option maxRecDepth 20000 in
set_option maxHeartbeats 4000000 in
theorem co_J0_charAt_5068e (g : GP) (l : Launch) (hst : l.stackTraces = false) (a0 : Nat) (p1_ : Int32) (M : Mem) (t0 : a0 < 22) (v : Int32) (hF : F_J0_charAt_5068e a0 p1_ = some v) : CO g l yJ0_charAt_5068e cJ0_charAt_5068e 2 (some .char) 3 64 rvI [.ref (gV g (100 + a0)), .int p1_] M (.inl v : Int32 ⊕ String) M := by
  refine CO_of hst (by decide) (Nat.le_of_ble_eq_true rfl) ?_
  intro p e s m below meth c ls X hr htb hH hL hl
  have hx := X.1
  have hb := X.2.1
  have hts := X.2.2.2.2.1
  refine q_out hF ?_
  rw [F_J0_charAt_5068e]
  replace hl : lv_has ls 2 [(0, .ref (gV g (100 + a0))), (1, .int p1_)] := hl
  refine lv_aload_n hx hb dJ0_charAt_5068e_0 rfl (lv_at hl 0 rfl) ?_
  refine q_bind (fun v2 e1 => ?_)
  refine my_doneI hL (my_runK X hH hL hl.1 (kv_str (my_kv X) t0) (co_J0_isLatin1_aae02 g l hst a0 M t0 v2 e1) ok_J0_isLatin1_aae02 W1139 rfl rfl rfl ⟨Nat.le_of_ble_eq_true rfl, Nat.le_of_ble_eq_true rfl⟩ ⟨Nat.zero_le _, Nat.zero_le _⟩ (Nat.le_of_ble_eq_true rfl) dJ0_charAt_5068e_1) (fun H locs hH hL => ?_)
  refine lv_if_eq (tgt := 16) hx hb dJ0_charAt_5068e_4 (by decide) (fun c3 => q_pos c3 ?_) (fun c3 => q_neg c3 ?_)
  · refine lv_aload_n hx hb dJ0_charAt_5068e_16 rfl (lv_at hl 0 rfl) ?_
    refine m_kF X hH hL (kv_value (my_kv X) t0) W1848 dJ0_charAt_5068e_17 ?_
    refine lv_iload_n hx hb dJ0_charAt_5068e_20 rfl (lv_at hl 1 rfl) ?_
    exact q_none
  · refine lv_aload_n hx hb dJ0_charAt_5068e_7 rfl (lv_at hl 0 rfl) ?_
    refine m_kF X hH hL (kv_value (my_kv X) t0) W1848 dJ0_charAt_5068e_8 ?_
    refine lv_iload_n hx hb dJ0_charAt_5068e_11 rfl (lv_at hl 1 rfl) ?_
    refine q_bind (fun v5 e4 => ?_)
    refine my_doneI hL (my_runS X hH hl.1 (co_J1_charAt_3b067 g l hst a0 p1_ M t0 v5 e4) ok_J1_charAt_3b067 W1143 rfl rfl ⟨Nat.le_of_ble_eq_true rfl, Nat.le_of_ble_eq_true rfl⟩ ⟨Nat.zero_le _, Nat.zero_le _⟩ (Nat.le_of_ble_eq_true rfl) dJ0_charAt_5068e_12) (fun H locs hH hL => ?_)
    refine q_chk (fun hn6 => ?_)
    exact q_end0 (m_zret X hr hH hL (nokC_n hn6) dJ0_charAt_5068e_15)

set_option maxRecDepth 20000 in
set_option maxHeartbeats 4000000 in
theorem co_Jx29ce0_ordinal_8abf5 (g : GP) (l : Launch) (hst : l.stackTraces = false) (a0 : Nat) (M : Mem) (t0 : a0 < 11) (v : Int32) (hF : F_Jx29ce0_ordinal_8abf5 a0 = some v) : CO g l yJx29ce0_ordinal_8abf5 cJx29ce0_ordinal_8abf5 1 (some .int) 0 0 rvI [.ref (gV g a0)] M (.inl v : Int32 ⊕ String) M := by
  refine CO_of hst (by decide) (Nat.le_of_ble_eq_true rfl) ?_
  intro p e s m below meth c ls X hr htb hH hL hl
  have hx := X.1
  have hb := X.2.1
  have hts := X.2.2.2.2.1
  refine q_out hF ?_
  rw [F_Jx29ce0_ordinal_8abf5]
  replace hl : lv_has ls 1 [(0, .ref (gV g a0))] := hl
  refine lv_aload_n hx hb dJx29ce0_ordinal_8abf5_0 rfl (lv_at hl 0 rfl) ?_
  refine m_kF X hH hL (kv_ord (my_kv X) t0) W1851 dJx29ce0_ordinal_8abf5_1 ?_
  exact q_end0 (m_iret X hr hH hL dJx29ce0_ordinal_8abf5_4)

