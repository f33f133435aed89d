/-! CONSTRUCTORS: the walks, loops unrolled -/
theorem if_ne1 {α : Type} {b a j k : Nat} {x y : α} (h : ¬ b = a) : (if b = a ∧ j = k then x else y) = y := if_neg fun q => h q.1
theorem if_ne2 {α : Type} {b a j k : Nat} {x y : α} (h : ¬ j = k) : (if b = a ∧ j = k then x else y) = y := if_neg fun q => h q.2
theorem if_eq1 {α : Type} {a k : Nat} {x y : α} : (if a = a ∧ k = k then x else y) = x := if_pos ⟨rfl, rfl⟩
theorem okI_X4 : okI yX4_init cX4_init 1 := ⟨⟨V118, V74, by decide +kernel, by decide +kernel, by decide +kernel⟩, rfl, V117⟩
def KX4 (n : Nat) (M : Mem) : Mem := sI (sI (sI (sI (sR (sI (sI (sI (M) (n) 0 115) (n) 1 1) (n) 2 1) (n) 3 (n + 1)) (n) 4 0) (n) 5 0) (n) 6 0) (n) 7 0
set_option maxRecDepth 20000 in
set_option maxHeartbeats 4000000 in
theorem init_X4 (g : GP) (l : Launch) (hst : l.stackTraces = false) (n : Nat) (M : Mem) (h0 : tyT (n) = 4) (h1 : tyT (n + 1) = 20) : CIN g l yX4_init cX4_init 1 1 20 1 36 (n) (n) M (n + 1) (KX4 n M) := by
  refine CIN_of hst (by decide) (Nat.le_of_ble_eq_true rfl) rfl ?_
  intro p e s m below meth c ls X hA hr hin hH hL hl
  have hx := X.1
  have hb := X.2.1
  refine lv_aload_n hx hb dX4_init_0 rfl (lv_at hl 0 rfl) ?_
  refine b_obj X hl.1 V119 V105 V106 ⟨(Nat.le_of_ble_eq_true rfl), (Nat.le_of_ble_eq_true rfl)⟩ dX4_init_1 ?_
  refine lv_aload_n hx hb dX4_init_4 rfl (lv_at hl 0 rfl) ?_
  refine lv_bipush (v := 115) hx hb dX4_init_5 (by decide) ?_
  refine b_putI (n := n) X hH (by omega) hL okC4 h0 rfl (Or.inl rfl) (fy := .char) rfl rfl rfl V120 dX4_init_7 (fun H locs hH hL => ?_)
  refine lv_aload_n hx hb dX4_init_10 rfl (lv_at hl 0 rfl) ?_
  refine lv_iconst (v := 1) hx hb dX4_init_11 (by decide) ?_
  refine b_putI (n := n) X hH (by omega) hL okC4 h0 rfl (Or.inl rfl) (fy := .int) rfl rfl rfl V123 dX4_init_12 (fun H locs hH hL => ?_)
  refine lv_aload_n hx hb dX4_init_15 rfl (lv_at hl 0 rfl) ?_
  refine lv_iconst (v := 1) hx hb dX4_init_16 (by decide) ?_
  refine b_putI (n := n) X hH (by omega) hL okC4 h0 rfl (Or.inl rfl) (fy := .int) rfl rfl rfl V125 dX4_init_17 (fun H locs hH hL => ?_)
  refine lv_aload_n hx hb dX4_init_20 rfl (lv_at hl 0 rfl) ?_
  refine lv_bipush (v := 36) hx hb dX4_init_21 (by decide) ?_
  refine b_newa (n := n) (t := 20) (atype := .int) (N := 36) X hH hL h1 rfl (by decide) rfl V156 rfl (by decide) (by decide) (Nat.le_of_ble_eq_true rfl) (Nat.le_of_ble_eq_true rfl) (Nat.le_of_ble_eq_true rfl) (fun _ => rfl) dX4_init_23 (fun H hH hL => ?_)
  refine b_putR (n := n + 1) (r := n + 1) X hH (by omega) hL okC4 h0 rfl (Or.inr ⟨rfl, hin, rfl⟩) (by omega) rfl (fun _ => rfl) (fun _ => rfl) V128 dX4_init_25 (fun H locs hH hL => ?_)
  refine lv_aload_n hx hb dX4_init_28 rfl (lv_at hl 0 rfl) ?_
  refine lv_iconst (v := 0) hx hb dX4_init_29 (by decide) ?_
  refine b_putI (n := n + 1) X hH (by omega) hL okC4 h0 rfl (Or.inl rfl) (fy := .int) rfl rfl rfl V130 dX4_init_30 (fun H locs hH hL => ?_)
  refine lv_aload_n hx hb dX4_init_33 rfl (lv_at hl 0 rfl) ?_
  refine lv_iconst (v := 0) hx hb dX4_init_34 (by decide) ?_
  refine b_putI (n := n + 1) X hH (by omega) hL okC4 h0 rfl (Or.inl rfl) (fy := .int) rfl rfl rfl V131 dX4_init_35 (fun H locs hH hL => ?_)
  refine lv_aload_n hx hb dX4_init_38 rfl (lv_at hl 0 rfl) ?_
  refine lv_iconst (v := 0) hx hb dX4_init_39 (by decide) ?_
  refine b_putI (n := n + 1) X hH (by omega) hL okC4 h0 rfl (Or.inl rfl) (fy := .int) rfl rfl rfl V133 dX4_init_40 (fun H locs hH hL => ?_)
  refine lv_aload_n hx hb dX4_init_43 rfl (lv_at hl 0 rfl) ?_
  refine lv_iconst (v := 0) hx hb dX4_init_44 (by decide) ?_
  refine b_putI (n := n + 1) X hH (by omega) hL okC4 h0 rfl (Or.inl rfl) (fy := .int) rfl rfl rfl V136 dX4_init_45 (fun H locs hH hL => ?_)
  exact b_vret X hr hH hL rfl rfl (Nat.le_of_ble_eq_true rfl) (Nat.le_of_ble_eq_true rfl) dX4_init_48
theorem KX4_I {n : Nat} {M : Mem} {b : Nat} (h : b < n) (j : Nat) : mI (KX4 n M) b j = mI M b j := by
  unfold KX4
  simp (disch := omega) only [mI_sI, mI_sJ, mI_sR, mJ_sI, mJ_sJ, mJ_sR, mR_sI, mR_sJ, mR_sR, mD_sI, mD_sJ, mD_sR, if_ne1]
theorem KX4_J {n : Nat} {M : Mem} {b : Nat} (h : b < n) (j : Nat) : mJ (KX4 n M) b j = mJ M b j := by
  unfold KX4
  simp (disch := omega) only [mI_sI, mI_sJ, mI_sR, mJ_sI, mJ_sJ, mJ_sR, mR_sI, mR_sJ, mR_sR, mD_sI, mD_sJ, mD_sR, if_ne1]
theorem KX4_R {n : Nat} {M : Mem} {b : Nat} (h : b < n) (j : Nat) : mR (KX4 n M) b j = mR M b j := by
  unfold KX4
  simp (disch := omega) only [mI_sI, mI_sJ, mI_sR, mJ_sI, mJ_sJ, mJ_sR, mR_sI, mR_sJ, mR_sR, mD_sI, mD_sJ, mD_sR, if_ne1]
theorem KX4_D {n : Nat} {M : Mem} {b : Nat} (h : b < n) (j : Nat) : mD (KX4 n M) b j = mD M b j := by
  unfold KX4
  simp (disch := omega) only [mI_sI, mI_sJ, mI_sR, mJ_sI, mJ_sJ, mJ_sR, mR_sI, mR_sJ, mR_sR, mD_sI, mD_sJ, mD_sR, if_ne1]
theorem okI_X6 : okI yX6_init cX6_init 1 := ⟨⟨V228, V77, by decide +kernel, by decide +kernel, by decide +kernel⟩, rfl, V227⟩
def KX6 (n : Nat) (M : Mem) : Mem := sI (sR (M) (n) 0 (n + 1)) (n) 1 0
set_option maxRecDepth 20000 in
set_option maxHeartbeats 4000000 in
theorem init_X6 (g : GP) (l : Launch) (hst : l.stackTraces = false) (n : Nat) (M : Mem) (h0 : tyT (n) = 6) (h1 : tyT (n + 1) = 26) : CIN g l yX6_init cX6_init 1 1 20 1 60 (n) (n) M (n + 1) (KX6 n M) := by
  refine CIN_of hst (by decide) (Nat.le_of_ble_eq_true rfl) rfl ?_
  intro p e s m below meth c ls X hA hr hin hH hL hl
  have hx := X.1
  have hb := X.2.1
  refine lv_aload_n hx hb dX6_init_0 rfl (lv_at hl 0 rfl) ?_
  refine b_obj X hl.1 V229 V105 V106 ⟨(Nat.le_of_ble_eq_true rfl), (Nat.le_of_ble_eq_true rfl)⟩ dX6_init_1 ?_
  refine lv_aload_n hx hb dX6_init_4 rfl (lv_at hl 0 rfl) ?_
  refine lv_bipush (v := 60) hx hb dX6_init_5 (by decide) ?_
  refine b_newa (n := n) (t := 26) (atype := .char) (N := 60) X hH hL h1 rfl (by decide) rfl V239 rfl (by decide) (by decide) (Nat.le_of_ble_eq_true rfl) (Nat.le_of_ble_eq_true rfl) (Nat.le_of_ble_eq_true rfl) (fun _ => rfl) dX6_init_7 (fun H hH hL => ?_)
  refine b_putR (n := n + 1) (r := n + 1) X hH (by omega) hL okC6 h0 rfl (Or.inr ⟨rfl, hin, rfl⟩) (by omega) rfl (fun _ => rfl) (fun _ => rfl) V230 dX6_init_9 (fun H locs hH hL => ?_)
  refine lv_aload_n hx hb dX6_init_12 rfl (lv_at hl 0 rfl) ?_
  refine lv_iconst (v := 0) hx hb dX6_init_13 (by decide) ?_
  refine b_putI (n := n + 1) X hH (by omega) hL okC6 h0 rfl (Or.inl rfl) (fy := .int) rfl rfl rfl V231 dX6_init_14 (fun H locs hH hL => ?_)
  exact b_vret X hr hH hL rfl rfl (Nat.le_of_ble_eq_true rfl) (Nat.le_of_ble_eq_true rfl) dX6_init_17
theorem KX6_I {n : Nat} {M : Mem} {b : Nat} (h : b < n) (j : Nat) : mI (KX6 n M) b j = mI M b j := by
  unfold KX6
  simp (disch := omega) only [mI_sI, mI_sJ, mI_sR, mJ_sI, mJ_sJ, mJ_sR, mR_sI, mR_sJ, mR_sR, mD_sI, mD_sJ, mD_sR, if_ne1, KX4_I, KX4_J, KX4_R, KX4_D]
theorem KX6_J {n : Nat} {M : Mem} {b : Nat} (h : b < n) (j : Nat) : mJ (KX6 n M) b j = mJ M b j := by
  unfold KX6
  simp (disch := omega) only [mI_sI, mI_sJ, mI_sR, mJ_sI, mJ_sJ, mJ_sR, mR_sI, mR_sJ, mR_sR, mD_sI, mD_sJ, mD_sR, if_ne1, KX4_I, KX4_J, KX4_R, KX4_D]
theorem KX6_R {n : Nat} {M : Mem} {b : Nat} (h : b < n) (j : Nat) : mR (KX6 n M) b j = mR M b j := by
  unfold KX6
  simp (disch := omega) only [mI_sI, mI_sJ, mI_sR, mJ_sI, mJ_sJ, mJ_sR, mR_sI, mR_sJ, mR_sR, mD_sI, mD_sJ, mD_sR, if_ne1, KX4_I, KX4_J, KX4_R, KX4_D]
theorem KX6_D {n : Nat} {M : Mem} {b : Nat} (h : b < n) (j : Nat) : mD (KX6 n M) b j = mD M b j := by
  unfold KX6
  simp (disch := omega) only [mI_sI, mI_sJ, mI_sR, mJ_sI, mJ_sJ, mJ_sR, mR_sI, mR_sJ, mR_sR, mD_sI, mD_sJ, mD_sR, if_ne1, KX4_I, KX4_J, KX4_R, KX4_D]
theorem okI_X1 : okI yX1_init cX1_init 1 := ⟨⟨V245, V78, by decide +kernel, by decide +kernel, by decide +kernel⟩, rfl, V244⟩
def KX1 (n : Nat) (M : Mem) : Mem := sI (sR (sR (M) (n) 0 10) (n) 1 (n + 1)) (n) 2 0
set_option maxRecDepth 20000 in
set_option maxHeartbeats 4000000 in
theorem init_X1 (g : GP) (l : Launch) (hst : l.stackTraces = false) (n : Nat) (M : Mem) (h0 : tyT (n) = 1) (h1 : tyT (n + 1) = 23) : CIN g l yX1_init cX1_init 1 1 20 1 4 (n) (n) M (n + 1) (KX1 n M) := by
  refine CIN_of hst (by decide) (Nat.le_of_ble_eq_true rfl) rfl ?_
  intro p e s m below meth c ls X hA hr hin hH hL hl
  have hx := X.1
  have hb := X.2.1
  refine lv_aload_n hx hb dX1_init_0 rfl (lv_at hl 0 rfl) ?_
  refine b_obj X hl.1 V246 V105 V106 ⟨(Nat.le_of_ble_eq_true rfl), (Nat.le_of_ble_eq_true rfl)⟩ dX1_init_1 ?_
  refine lv_aload_n hx hb dX1_init_4 rfl (lv_at hl 0 rfl) ?_
  refine b_wave X hH hL V247 dX1_init_5 ?_
  refine b_putQ (n := n) (i := 9) X hH (by omega) hL okC1 h0 rfl rfl rfl (fun _ => rfl) (fun _ => rfl) V249 dX1_init_8 (fun H locs hH hL => ?_)
  refine lv_aload_n hx hb dX1_init_11 rfl (lv_at hl 0 rfl) ?_
  refine lv_iconst (v := 4) hx hb dX1_init_12 (by decide) ?_
  refine b_newa (n := n) (t := 23) (atype := .int) (N := 4) X hH hL h1 rfl (by decide) rfl V156 rfl (by decide) (by decide) (Nat.le_of_ble_eq_true rfl) (Nat.le_of_ble_eq_true rfl) (Nat.le_of_ble_eq_true rfl) (fun _ => rfl) dX1_init_13 (fun H hH hL => ?_)
  refine b_putR (n := n + 1) (r := n + 1) X hH (by omega) hL okC1 h0 rfl (Or.inr ⟨rfl, hin, rfl⟩) (by omega) rfl (fun _ => rfl) (fun _ => rfl) V251 dX1_init_15 (fun H locs hH hL => ?_)
  refine lv_aload_n hx hb dX1_init_18 rfl (lv_at hl 0 rfl) ?_
  refine lv_iconst (v := 0) hx hb dX1_init_19 (by decide) ?_
  refine b_putI (n := n + 1) X hH (by omega) hL okC1 h0 rfl (Or.inl rfl) (fy := .int) rfl rfl rfl V252 dX1_init_20 (fun H locs hH hL => ?_)
  exact b_vret X hr hH hL rfl rfl (Nat.le_of_ble_eq_true rfl) (Nat.le_of_ble_eq_true rfl) dX1_init_23
theorem KX1_I {n : Nat} {M : Mem} {b : Nat} (h : b < n) (j : Nat) : mI (KX1 n M) b j = mI M b j := by
  unfold KX1
  simp (disch := omega) only [mI_sI, mI_sJ, mI_sR, mJ_sI, mJ_sJ, mJ_sR, mR_sI, mR_sJ, mR_sR, mD_sI, mD_sJ, mD_sR, if_ne1, KX4_I, KX4_J, KX4_R, KX4_D, KX6_I, KX6_J, KX6_R, KX6_D]
theorem KX1_J {n : Nat} {M : Mem} {b : Nat} (h : b < n) (j : Nat) : mJ (KX1 n M) b j = mJ M b j := by
  unfold KX1
  simp (disch := omega) only [mI_sI, mI_sJ, mI_sR, mJ_sI, mJ_sJ, mJ_sR, mR_sI, mR_sJ, mR_sR, mD_sI, mD_sJ, mD_sR, if_ne1, KX4_I, KX4_J, KX4_R, KX4_D, KX6_I, KX6_J, KX6_R, KX6_D]
theorem KX1_R {n : Nat} {M : Mem} {b : Nat} (h : b < n) (j : Nat) : mR (KX1 n M) b j = mR M b j := by
  unfold KX1
  simp (disch := omega) only [mI_sI, mI_sJ, mI_sR, mJ_sI, mJ_sJ, mJ_sR, mR_sI, mR_sJ, mR_sR, mD_sI, mD_sJ, mD_sR, if_ne1, KX4_I, KX4_J, KX4_R, KX4_D, KX6_I, KX6_J, KX6_R, KX6_D]
theorem KX1_D {n : Nat} {M : Mem} {b : Nat} (h : b < n) (j : Nat) : mD (KX1 n M) b j = mD M b j := by
  unfold KX1
  simp (disch := omega) only [mI_sI, mI_sJ, mI_sR, mJ_sI, mJ_sJ, mJ_sR, mR_sI, mR_sJ, mR_sR, mD_sI, mD_sJ, mD_sR, if_ne1, KX4_I, KX4_J, KX4_R, KX4_D, KX6_I, KX6_J, KX6_R, KX6_D]
theorem okI_X5 : okI yX5_init cX5_init 2 := ⟨⟨V111, V73, by decide +kernel, by decide +kernel, by decide +kernel⟩, rfl, V110⟩
def KX5 (n : Nat) (M : Mem) : Mem := sR (KX4 (n + 12) (sR (KX4 (n + 10) (sR (KX4 (n + 8) (sR (KX4 (n + 6) (sR (KX4 (n + 4) (sR (sR (sJ (sI (sI (sI (sI (sI (sI (sR (M) (n) 0 (n + 1)) (n) 1 0) (n) 2 2) (n) 3 30) (n) 4 0) (n) 5 0) (n) 6 0) (n) 7 0) (n) 8 (n + 2)) (n) 9 (n + 3))) (n + 1) (0 : Int32).toNatClampNeg (n + 4))) (n + 1) (1 : Int32).toNatClampNeg (n + 6))) (n + 1) (2 : Int32).toNatClampNeg (n + 8))) (n + 1) (3 : Int32).toNatClampNeg (n + 10))) (n + 1) (4 : Int32).toNatClampNeg (n + 12)
set_option maxRecDepth 20000 in
set_option maxHeartbeats 4000000 in
theorem init_X5 (g : GP) (l : Launch) (hst : l.stackTraces = false) (n : Nat) (M : Mem) (h0 : tyT (n) = 5) (h1 : tyT (n + 1) = 29) (h2 : tyT (n + 2) = 21) (h3 : tyT (n + 3) = 22) (h4 : tyT (n + 4) = 4) (h5 : tyT (n + 5) = 20) (h6 : tyT (n + 6) = 4) (h7 : tyT (n + 7) = 20) (h8 : tyT (n + 8) = 4) (h9 : tyT (n + 9) = 20) (h10 : tyT (n + 10) = 4) (h11 : tyT (n + 11) = 20) (h12 : tyT (n + 12) = 4) (h13 : tyT (n + 13) = 20) : CIN g l yX5_init cX5_init 2 2 40 13 265 (n) (n) M (n + 13) (KX5 n M) := by
  refine CIN_of hst (by decide) (Nat.le_of_ble_eq_true rfl) rfl ?_
  intro p e s m below meth c ls X hA hr hin hH hL hl
  have hx := X.1
  have hb := X.2.1
  refine lv_aload_n hx hb dX5_init_0 rfl (lv_at hl 0 rfl) ?_
  refine b_obj X hl.1 V112 V105 V106 ⟨(Nat.le_of_ble_eq_true rfl), (Nat.le_of_ble_eq_true rfl)⟩ dX5_init_1 ?_
  refine lv_aload_n hx hb dX5_init_4 rfl (lv_at hl 0 rfl) ?_
  refine lv_iconst (v := 5) hx hb dX5_init_5 (by decide) ?_
  refine b_anew (n := n) (t := 29) (C := clR 4) (N := 5) X hH hL h1 rfl (by decide) rfl hA.1 V113 rfl (by decide) (by decide) (Nat.le_of_ble_eq_true rfl) (Nat.le_of_ble_eq_true rfl) (Nat.le_of_ble_eq_true rfl) (fun _ => rfl) dX5_init_6 (fun H hH hL => ?_)
  refine b_putR (n := n + 1) (r := n + 1) X hH (by omega) hL okC5 h0 rfl (Or.inr ⟨rfl, hin, rfl⟩) (by omega) rfl (fun _ => rfl) (fun _ => rfl) V157 dX5_init_9 (fun H locs hH hL => ?_)
  refine lv_aload_n hx hb dX5_init_12 rfl (lv_at hl 0 rfl) ?_
  refine lv_iconst (v := 0) hx hb dX5_init_13 (by decide) ?_
  refine b_putI (n := n + 1) X hH (by omega) hL okC5 h0 rfl (Or.inl rfl) (fy := .int) rfl rfl rfl V159 dX5_init_14 (fun H locs hH hL => ?_)
  refine lv_aload_n hx hb dX5_init_17 rfl (lv_at hl 0 rfl) ?_
  refine lv_iconst (v := 2) hx hb dX5_init_18 (by decide) ?_
  refine b_putI (n := n + 1) X hH (by omega) hL okC5 h0 rfl (Or.inl rfl) (fy := .int) rfl rfl rfl V161 dX5_init_19 (fun H locs hH hL => ?_)
  refine lv_aload_n hx hb dX5_init_22 rfl (lv_at hl 0 rfl) ?_
  refine lv_bipush (v := 30) hx hb dX5_init_23 (by decide) ?_
  refine b_putI (n := n + 1) X hH (by omega) hL okC5 h0 rfl (Or.inl rfl) (fy := .int) rfl rfl rfl V163 dX5_init_25 (fun H locs hH hL => ?_)
  refine lv_aload_n hx hb dX5_init_28 rfl (lv_at hl 0 rfl) ?_
  refine lv_iconst (v := 0) hx hb dX5_init_29 (by decide) ?_
  refine b_putI (n := n + 1) X hH (by omega) hL okC5 h0 rfl (Or.inl rfl) (fy := .int) rfl rfl rfl V165 dX5_init_30 (fun H locs hH hL => ?_)
  refine lv_aload_n hx hb dX5_init_33 rfl (lv_at hl 0 rfl) ?_
  refine lv_iconst (v := 0) hx hb dX5_init_34 (by decide) ?_
  refine b_putI (n := n + 1) X hH (by omega) hL okC5 h0 rfl (Or.inl rfl) (fy := .int) rfl rfl rfl V167 dX5_init_35 (fun H locs hH hL => ?_)
  refine lv_aload_n hx hb dX5_init_38 rfl (lv_at hl 0 rfl) ?_
  refine lv_iconst (v := 0) hx hb dX5_init_39 (by decide) ?_
  refine b_putI (n := n + 1) X hH (by omega) hL okC5 h0 rfl (Or.inl rfl) (fy := .int) rfl rfl rfl V169 dX5_init_40 (fun H locs hH hL => ?_)
  refine lv_aload_n hx hb dX5_init_43 rfl (lv_at hl 0 rfl) ?_
  refine lv_lconst (v := 0) hx hb dX5_init_44 (by decide) ?_
  refine b_putJ (n := n + 1) X hH (by omega) hL okC5 h0 rfl (Or.inl rfl) rfl V171 dX5_init_45 (fun H locs hH hL => ?_)
  refine lv_aload_n hx hb dX5_init_48 rfl (lv_at hl 0 rfl) ?_
  refine lv_bipush (v := 30) hx hb dX5_init_49 (by decide) ?_
  refine b_newa (n := n + 1) (t := 21) (atype := .int) (N := 30) X hH hL h2 rfl (by decide) rfl V156 rfl (by decide) (by decide) (Nat.le_of_ble_eq_true rfl) (Nat.le_of_ble_eq_true rfl) (Nat.le_of_ble_eq_true rfl) (fun _ => rfl) dX5_init_51 (fun H hH hL => ?_)
  refine b_putR (n := n + 2) (r := n + 2) X hH (by omega) hL okC5 h0 rfl (Or.inr ⟨rfl, hin, rfl⟩) (by omega) rfl (fun _ => rfl) (fun _ => rfl) V173 dX5_init_53 (fun H locs hH hL => ?_)
  refine lv_aload_n hx hb dX5_init_56 rfl (lv_at hl 0 rfl) ?_
  refine lv_bipush (v := 10) hx hb dX5_init_57 (by decide) ?_
  refine b_newa (n := n + 2) (t := 22) (atype := .int) (N := 10) X hH hL h3 rfl (by decide) rfl V156 rfl (by decide) (by decide) (Nat.le_of_ble_eq_true rfl) (Nat.le_of_ble_eq_true rfl) (Nat.le_of_ble_eq_true rfl) (fun _ => rfl) dX5_init_59 (fun H hH hL => ?_)
  refine b_putR (n := n + 3) (r := n + 3) X hH (by omega) hL okC5 h0 rfl (Or.inr ⟨rfl, hin, rfl⟩) (by omega) rfl (fun _ => rfl) (fun _ => rfl) V174 dX5_init_61 (fun H locs hH hL => ?_)
  refine lv_iconst (v := 0) hx hb dX5_init_64 (by decide) ?_
  refine lv_istore_n (lv' := [(1, .int 0), (0, .ref (adr g (n)))]) hx hb dX5_init_65 rfl hl (by decide) rfl (fun ls hl => ?_)
  refine lv_iload_n hx hb dX5_init_66 rfl (lv_at hl 0 rfl) ?_
  refine lv_aload_n hx hb dX5_init_67 rfl (lv_at hl 1 rfl) ?_
  refine b_getR (n := n + 3) (r := n + 1) X hH (by omega) inC5 h0 rfl (by simp (disch := omega) [mR_sI, mR_sJ, mR_sR, if_ne1, if_ne2, if_eq1, KX4_R, KX6_R, KX1_R]) (by omega) V157 dX5_init_68 ?_
  refine b_alen (n := n + 3) (t := 29) (v := 5) X hH (by omega) h1 rfl (by decide) (by decide) dX5_init_71 ?_
  refine lv_icmp_ge (tgt := 94) hx hb dX5_init_72 (by decide) (fun c => absurd c (by decide)) (fun _ => ?_)
  refine lv_aload_n hx hb dX5_init_75 rfl (lv_at hl 1 rfl) ?_
  refine b_getR (n := n + 3) (r := n + 1) X hH (by omega) inC5 h0 rfl (by simp (disch := omega) [mR_sI, mR_sJ, mR_sR, if_ne1, if_ne2, if_eq1, KX4_R, KX6_R, KX1_R]) (by omega) V157 dX5_init_76 ?_
  refine lv_iload_n hx hb dX5_init_79 rfl (lv_at hl 0 rfl) ?_
  refine b_new (n := n + 3) (t := 4) X hH hL h4 rfl (by decide) okC4 V113 V115 V74 (Nat.le_of_ble_eq_true rfl) (Nat.le_of_ble_eq_true rfl) (by decide) dX5_init_80 (fun H hH hL => ?_)
  refine lv_dup hx hb dX5_init_83 rfl ?_
  refine b_callN (n := n + 4) (n1 := n + 5) X hA hH hL hl.1 (init_X4 g l hst (n + 4) _ h4 h5) okI_X4 V116 ⟨(Nat.le_of_ble_eq_true rfl), (Nat.le_of_ble_eq_true rfl)⟩ ⟨(Nat.le_of_ble_eq_true rfl), (Nat.le_of_ble_eq_true rfl)⟩ (Nat.le_of_ble_eq_true rfl) dX5_init_84 (fun H locs hH hL => ?_)
  refine b_aast (n := n + 5) (t := 29) (t2 := 4) (N := 5) X hH (by omega) hL h1 rfl (by decide) (fun _ => rfl) h4 (by omega) rfl (by decide) rfl rfl (by decide) dX5_init_87 (fun H locs hH hL => ?_)
  refine lv_iinc (v := 1) (lv' := [(1, .int 1), (0, .ref (adr g (n)))]) hx hb dX5_init_88 hl (k := 0) rfl (by decide) (by decide) rfl (fun ls hl => ?_)
  refine lv_goto (tgt := 66) hx hb dX5_init_91 (by decide) ?_
  refine lv_iload_n hx hb dX5_init_66 rfl (lv_at hl 0 rfl) ?_
  refine lv_aload_n hx hb dX5_init_67 rfl (lv_at hl 1 rfl) ?_
  refine b_getR (n := n + 5) (r := n + 1) X hH (by omega) inC5 h0 rfl (by simp (disch := omega) [mR_sI, mR_sJ, mR_sR, if_ne1, if_ne2, if_eq1, KX4_R, KX6_R, KX1_R]) (by omega) V157 dX5_init_68 ?_
  refine b_alen (n := n + 5) (t := 29) (v := 5) X hH (by omega) h1 rfl (by decide) (by decide) dX5_init_71 ?_
  refine lv_icmp_ge (tgt := 94) hx hb dX5_init_72 (by decide) (fun c => absurd c (by decide)) (fun _ => ?_)
  refine lv_aload_n hx hb dX5_init_75 rfl (lv_at hl 1 rfl) ?_
  refine b_getR (n := n + 5) (r := n + 1) X hH (by omega) inC5 h0 rfl (by simp (disch := omega) [mR_sI, mR_sJ, mR_sR, if_ne1, if_ne2, if_eq1, KX4_R, KX6_R, KX1_R]) (by omega) V157 dX5_init_76 ?_
  refine lv_iload_n hx hb dX5_init_79 rfl (lv_at hl 0 rfl) ?_
  refine b_new (n := n + 5) (t := 4) X hH hL h6 rfl (by decide) okC4 V113 V115 V74 (Nat.le_of_ble_eq_true rfl) (Nat.le_of_ble_eq_true rfl) (by decide) dX5_init_80 (fun H hH hL => ?_)
  refine lv_dup hx hb dX5_init_83 rfl ?_
  refine b_callN (n := n + 6) (n1 := n + 7) X hA hH hL hl.1 (init_X4 g l hst (n + 6) _ h6 h7) okI_X4 V116 ⟨(Nat.le_of_ble_eq_true rfl), (Nat.le_of_ble_eq_true rfl)⟩ ⟨(Nat.le_of_ble_eq_true rfl), (Nat.le_of_ble_eq_true rfl)⟩ (Nat.le_of_ble_eq_true rfl) dX5_init_84 (fun H locs hH hL => ?_)
  refine b_aast (n := n + 7) (t := 29) (t2 := 4) (N := 5) X hH (by omega) hL h1 rfl (by decide) (fun _ => rfl) h6 (by omega) rfl (by decide) rfl rfl (by decide) dX5_init_87 (fun H locs hH hL => ?_)
  refine lv_iinc (v := 2) (lv' := [(1, .int 2), (0, .ref (adr g (n)))]) hx hb dX5_init_88 hl (k := 0) rfl (by decide) (by decide) rfl (fun ls hl => ?_)
  refine lv_goto (tgt := 66) hx hb dX5_init_91 (by decide) ?_
  refine lv_iload_n hx hb dX5_init_66 rfl (lv_at hl 0 rfl) ?_
  refine lv_aload_n hx hb dX5_init_67 rfl (lv_at hl 1 rfl) ?_
  refine b_getR (n := n + 7) (r := n + 1) X hH (by omega) inC5 h0 rfl (by simp (disch := omega) [mR_sI, mR_sJ, mR_sR, if_ne1, if_ne2, if_eq1, KX4_R, KX6_R, KX1_R]) (by omega) V157 dX5_init_68 ?_
  refine b_alen (n := n + 7) (t := 29) (v := 5) X hH (by omega) h1 rfl (by decide) (by decide) dX5_init_71 ?_
  refine lv_icmp_ge (tgt := 94) hx hb dX5_init_72 (by decide) (fun c => absurd c (by decide)) (fun _ => ?_)
  refine lv_aload_n hx hb dX5_init_75 rfl (lv_at hl 1 rfl) ?_
  refine b_getR (n := n + 7) (r := n + 1) X hH (by omega) inC5 h0 rfl (by simp (disch := omega) [mR_sI, mR_sJ, mR_sR, if_ne1, if_ne2, if_eq1, KX4_R, KX6_R, KX1_R]) (by omega) V157 dX5_init_76 ?_
  refine lv_iload_n hx hb dX5_init_79 rfl (lv_at hl 0 rfl) ?_
  refine b_new (n := n + 7) (t := 4) X hH hL h8 rfl (by decide) okC4 V113 V115 V74 (Nat.le_of_ble_eq_true rfl) (Nat.le_of_ble_eq_true rfl) (by decide) dX5_init_80 (fun H hH hL => ?_)
  refine lv_dup hx hb dX5_init_83 rfl ?_
  refine b_callN (n := n + 8) (n1 := n + 9) X hA hH hL hl.1 (init_X4 g l hst (n + 8) _ h8 h9) okI_X4 V116 ⟨(Nat.le_of_ble_eq_true rfl), (Nat.le_of_ble_eq_true rfl)⟩ ⟨(Nat.le_of_ble_eq_true rfl), (Nat.le_of_ble_eq_true rfl)⟩ (Nat.le_of_ble_eq_true rfl) dX5_init_84 (fun H locs hH hL => ?_)
  refine b_aast (n := n + 9) (t := 29) (t2 := 4) (N := 5) X hH (by omega) hL h1 rfl (by decide) (fun _ => rfl) h8 (by omega) rfl (by decide) rfl rfl (by decide) dX5_init_87 (fun H locs hH hL => ?_)
  refine lv_iinc (v := 3) (lv' := [(1, .int 3), (0, .ref (adr g (n)))]) hx hb dX5_init_88 hl (k := 0) rfl (by decide) (by decide) rfl (fun ls hl => ?_)
  refine lv_goto (tgt := 66) hx hb dX5_init_91 (by decide) ?_
  refine lv_iload_n hx hb dX5_init_66 rfl (lv_at hl 0 rfl) ?_
  refine lv_aload_n hx hb dX5_init_67 rfl (lv_at hl 1 rfl) ?_
  refine b_getR (n := n + 9) (r := n + 1) X hH (by omega) inC5 h0 rfl (by simp (disch := omega) [mR_sI, mR_sJ, mR_sR, if_ne1, if_ne2, if_eq1, KX4_R, KX6_R, KX1_R]) (by omega) V157 dX5_init_68 ?_
  refine b_alen (n := n + 9) (t := 29) (v := 5) X hH (by omega) h1 rfl (by decide) (by decide) dX5_init_71 ?_
  refine lv_icmp_ge (tgt := 94) hx hb dX5_init_72 (by decide) (fun c => absurd c (by decide)) (fun _ => ?_)
  refine lv_aload_n hx hb dX5_init_75 rfl (lv_at hl 1 rfl) ?_
  refine b_getR (n := n + 9) (r := n + 1) X hH (by omega) inC5 h0 rfl (by simp (disch := omega) [mR_sI, mR_sJ, mR_sR, if_ne1, if_ne2, if_eq1, KX4_R, KX6_R, KX1_R]) (by omega) V157 dX5_init_76 ?_
  refine lv_iload_n hx hb dX5_init_79 rfl (lv_at hl 0 rfl) ?_
  refine b_new (n := n + 9) (t := 4) X hH hL h10 rfl (by decide) okC4 V113 V115 V74 (Nat.le_of_ble_eq_true rfl) (Nat.le_of_ble_eq_true rfl) (by decide) dX5_init_80 (fun H hH hL => ?_)
  refine lv_dup hx hb dX5_init_83 rfl ?_
  refine b_callN (n := n + 10) (n1 := n + 11) X hA hH hL hl.1 (init_X4 g l hst (n + 10) _ h10 h11) okI_X4 V116 ⟨(Nat.le_of_ble_eq_true rfl), (Nat.le_of_ble_eq_true rfl)⟩ ⟨(Nat.le_of_ble_eq_true rfl), (Nat.le_of_ble_eq_true rfl)⟩ (Nat.le_of_ble_eq_true rfl) dX5_init_84 (fun H locs hH hL => ?_)
  refine b_aast (n := n + 11) (t := 29) (t2 := 4) (N := 5) X hH (by omega) hL h1 rfl (by decide) (fun _ => rfl) h10 (by omega) rfl (by decide) rfl rfl (by decide) dX5_init_87 (fun H locs hH hL => ?_)
  refine lv_iinc (v := 4) (lv' := [(1, .int 4), (0, .ref (adr g (n)))]) hx hb dX5_init_88 hl (k := 0) rfl (by decide) (by decide) rfl (fun ls hl => ?_)
  refine lv_goto (tgt := 66) hx hb dX5_init_91 (by decide) ?_
  refine lv_iload_n hx hb dX5_init_66 rfl (lv_at hl 0 rfl) ?_
  refine lv_aload_n hx hb dX5_init_67 rfl (lv_at hl 1 rfl) ?_
  refine b_getR (n := n + 11) (r := n + 1) X hH (by omega) inC5 h0 rfl (by simp (disch := omega) [mR_sI, mR_sJ, mR_sR, if_ne1, if_ne2, if_eq1, KX4_R, KX6_R, KX1_R]) (by omega) V157 dX5_init_68 ?_
  refine b_alen (n := n + 11) (t := 29) (v := 5) X hH (by omega) h1 rfl (by decide) (by decide) dX5_init_71 ?_
  refine lv_icmp_ge (tgt := 94) hx hb dX5_init_72 (by decide) (fun c => absurd c (by decide)) (fun _ => ?_)
  refine lv_aload_n hx hb dX5_init_75 rfl (lv_at hl 1 rfl) ?_
  refine b_getR (n := n + 11) (r := n + 1) X hH (by omega) inC5 h0 rfl (by simp (disch := omega) [mR_sI, mR_sJ, mR_sR, if_ne1, if_ne2, if_eq1, KX4_R, KX6_R, KX1_R]) (by omega) V157 dX5_init_76 ?_
  refine lv_iload_n hx hb dX5_init_79 rfl (lv_at hl 0 rfl) ?_
  refine b_new (n := n + 11) (t := 4) X hH hL h12 rfl (by decide) okC4 V113 V115 V74 (Nat.le_of_ble_eq_true rfl) (Nat.le_of_ble_eq_true rfl) (by decide) dX5_init_80 (fun H hH hL => ?_)
  refine lv_dup hx hb dX5_init_83 rfl ?_
  refine b_callN (n := n + 12) (n1 := n + 13) X hA hH hL hl.1 (init_X4 g l hst (n + 12) _ h12 h13) okI_X4 V116 ⟨(Nat.le_of_ble_eq_true rfl), (Nat.le_of_ble_eq_true rfl)⟩ ⟨(Nat.le_of_ble_eq_true rfl), (Nat.le_of_ble_eq_true rfl)⟩ (Nat.le_of_ble_eq_true rfl) dX5_init_84 (fun H locs hH hL => ?_)
  refine b_aast (n := n + 13) (t := 29) (t2 := 4) (N := 5) X hH (by omega) hL h1 rfl (by decide) (fun _ => rfl) h12 (by omega) rfl (by decide) rfl rfl (by decide) dX5_init_87 (fun H locs hH hL => ?_)
  refine lv_iinc (v := 5) (lv' := [(1, .int 5), (0, .ref (adr g (n)))]) hx hb dX5_init_88 hl (k := 0) rfl (by decide) (by decide) rfl (fun ls hl => ?_)
  refine lv_goto (tgt := 66) hx hb dX5_init_91 (by decide) ?_
  refine lv_iload_n hx hb dX5_init_66 rfl (lv_at hl 0 rfl) ?_
  refine lv_aload_n hx hb dX5_init_67 rfl (lv_at hl 1 rfl) ?_
  refine b_getR (n := n + 13) (r := n + 1) X hH (by omega) inC5 h0 rfl (by simp (disch := omega) [mR_sI, mR_sJ, mR_sR, if_ne1, if_ne2, if_eq1, KX4_R, KX6_R, KX1_R]) (by omega) V157 dX5_init_68 ?_
  refine b_alen (n := n + 13) (t := 29) (v := 5) X hH (by omega) h1 rfl (by decide) (by decide) dX5_init_71 ?_
  refine lv_icmp_ge (tgt := 94) hx hb dX5_init_72 (by decide) (fun _ => ?_) (fun c => absurd (by decide) c)
  exact b_vret X hr hH hL rfl rfl (Nat.le_of_ble_eq_true rfl) (Nat.le_of_ble_eq_true rfl) dX5_init_94
theorem KX5_I {n : Nat} {M : Mem} {b : Nat} (h : b < n) (j : Nat) : mI (KX5 n M) b j = mI M b j := by
  unfold KX5
  simp (disch := omega) only [mI_sI, mI_sJ, mI_sR, mJ_sI, mJ_sJ, mJ_sR, mR_sI, mR_sJ, mR_sR, mD_sI, mD_sJ, mD_sR, if_ne1, KX4_I, KX4_J, KX4_R, KX4_D, KX6_I, KX6_J, KX6_R, KX6_D, KX1_I, KX1_J, KX1_R, KX1_D]
theorem KX5_J {n : Nat} {M : Mem} {b : Nat} (h : b < n) (j : Nat) : mJ (KX5 n M) b j = mJ M b j := by
  unfold KX5
  simp (disch := omega) only [mI_sI, mI_sJ, mI_sR, mJ_sI, mJ_sJ, mJ_sR, mR_sI, mR_sJ, mR_sR, mD_sI, mD_sJ, mD_sR, if_ne1, KX4_I, KX4_J, KX4_R, KX4_D, KX6_I, KX6_J, KX6_R, KX6_D, KX1_I, KX1_J, KX1_R, KX1_D]
theorem KX5_R {n : Nat} {M : Mem} {b : Nat} (h : b < n) (j : Nat) : mR (KX5 n M) b j = mR M b j := by
  unfold KX5
  simp (disch := omega) only [mI_sI, mI_sJ, mI_sR, mJ_sI, mJ_sJ, mJ_sR, mR_sI, mR_sJ, mR_sR, mD_sI, mD_sJ, mD_sR, if_ne1, KX4_I, KX4_J, KX4_R, KX4_D, KX6_I, KX6_J, KX6_R, KX6_D, KX1_I, KX1_J, KX1_R, KX1_D]
theorem KX5_D {n : Nat} {M : Mem} {b : Nat} (h : b < n) (j : Nat) : mD (KX5 n M) b j = mD M b j := by
  unfold KX5
  simp (disch := omega) only [mI_sI, mI_sJ, mI_sR, mJ_sI, mJ_sJ, mJ_sR, mR_sI, mR_sJ, mR_sR, mD_sI, mD_sJ, mD_sR, if_ne1, KX4_I, KX4_J, KX4_R, KX4_D, KX6_I, KX6_J, KX6_R, KX6_D, KX1_I, KX1_J, KX1_R, KX1_D]
theorem okI_X2 : okI yX2_init cX2_init 2 := ⟨⟨V200, V75, by decide +kernel, by decide +kernel, by decide +kernel⟩, rfl, V199⟩
def KX2 (M : Mem) : Mem := sR (KX5 (158) (sR (KX5 (144) (sR (KX5 (130) (sR (KX5 (116) (sR (KX5 (102) (sR (KX5 (88) (sR (KX5 (74) (sR (KX5 (60) (sR (KX5 (46) (sI (sI (sR (M) (44) 0 (45)) (44) 1 0) (44) 2 0)) (45) (0 : Int32).toNatClampNeg (46))) (45) (1 : Int32).toNatClampNeg (60))) (45) (2 : Int32).toNatClampNeg (74))) (45) (3 : Int32).toNatClampNeg (88))) (45) (4 : Int32).toNatClampNeg (102))) (45) (5 : Int32).toNatClampNeg (116))) (45) (6 : Int32).toNatClampNeg (130))) (45) (7 : Int32).toNatClampNeg (144))) (45) (8 : Int32).toNatClampNeg (158)
set_option maxRecDepth 20000 in
set_option maxHeartbeats 4000000 in
theorem init_X2 (g : GP) (l : Launch) (hst : l.stackTraces = false) (M : Mem) : CIN g l yX2_init cX2_init 2 3 61 127 2484 (44) (44) M (171) (KX2 M) := by
  refine CIN_of hst (by decide) (Nat.le_of_ble_eq_true rfl) rfl ?_
  intro p e s m below meth c ls X hA hr hin hH hL hl
  have hx := X.1
  have hb := X.2.1
  refine lv_aload_n hx hb dX2_init_0 rfl (lv_at hl 0 rfl) ?_
  refine b_obj X hl.1 V201 V105 V106 ⟨(Nat.le_of_ble_eq_true rfl), (Nat.le_of_ble_eq_true rfl)⟩ dX2_init_1 ?_
  refine lv_aload_n hx hb dX2_init_4 rfl (lv_at hl 0 rfl) ?_
  refine lv_bipush (v := 9) hx hb dX2_init_5 (by decide) ?_
  refine b_anew (n := 44) (t := 30) (C := clR 5) (N := 9) X hH hL (by decide) rfl (by decide) rfl hA.2.1 V202 rfl (by decide) (by decide) (Nat.le_of_ble_eq_true rfl) (Nat.le_of_ble_eq_true rfl) (Nat.le_of_ble_eq_true rfl) (fun _ => rfl) dX2_init_7 (fun H hH hL => ?_)
  refine b_putR (n := 45) (r := 45) X hH (by omega) hL okC2 (by decide) rfl (Or.inr ⟨rfl, hin, rfl⟩) (by omega) rfl (fun _ => rfl) (fun _ => rfl) V205 dX2_init_10 (fun H locs hH hL => ?_)
  refine lv_aload_n hx hb dX2_init_13 rfl (lv_at hl 0 rfl) ?_
  refine lv_iconst (v := 0) hx hb dX2_init_14 (by decide) ?_
  refine b_putI (n := 45) X hH (by omega) hL okC2 (by decide) rfl (Or.inl rfl) (fy := .int) rfl rfl rfl V206 dX2_init_15 (fun H locs hH hL => ?_)
  refine lv_aload_n hx hb dX2_init_18 rfl (lv_at hl 0 rfl) ?_
  refine lv_iconst (v := 0) hx hb dX2_init_19 (by decide) ?_
  refine b_putI (n := 45) X hH (by omega) hL okC2 (by decide) rfl (Or.inl rfl) (fy := .int) rfl rfl rfl V207 dX2_init_20 (fun H locs hH hL => ?_)
  refine lv_iconst (v := 0) hx hb dX2_init_23 (by decide) ?_
  refine lv_istore_n (lv' := [(1, .int 0), (0, .ref (adr g (44)))]) hx hb dX2_init_24 rfl hl (by decide) rfl (fun ls hl => ?_)
  refine lv_iload_n hx hb dX2_init_25 rfl (lv_at hl 0 rfl) ?_
  refine lv_aload_n hx hb dX2_init_26 rfl (lv_at hl 1 rfl) ?_
  refine b_getR (n := 45) (r := 45) X hH (by omega) inC2 (by decide) rfl (by simp (disch := omega) [mR_sI, mR_sJ, mR_sR, if_ne1, if_ne2, if_eq1, KX4_R, KX6_R, KX1_R, KX5_R]) (by omega) V205 dX2_init_27 ?_
  refine b_alen (n := 45) (t := 30) (v := 9) X hH (by omega) (by decide) rfl (by decide) (by decide) dX2_init_30 ?_
  refine lv_icmp_ge (tgt := 53) hx hb dX2_init_31 (by decide) (fun c => absurd c (by decide)) (fun _ => ?_)
  refine lv_aload_n hx hb dX2_init_34 rfl (lv_at hl 1 rfl) ?_
  refine b_getR (n := 45) (r := 45) X hH (by omega) inC2 (by decide) rfl (by simp (disch := omega) [mR_sI, mR_sJ, mR_sR, if_ne1, if_ne2, if_eq1, KX4_R, KX6_R, KX1_R, KX5_R]) (by omega) V205 dX2_init_35 ?_
  refine lv_iload_n hx hb dX2_init_38 rfl (lv_at hl 0 rfl) ?_
  refine b_new (n := 45) (t := 5) X hH hL (by decide) rfl (by decide) okC5 V202 V108 V73 (Nat.le_of_ble_eq_true rfl) (Nat.le_of_ble_eq_true rfl) (by decide) dX2_init_39 (fun H hH hL => ?_)
  refine lv_dup hx hb dX2_init_42 rfl ?_
  refine b_call (n := 46) (n1 := 59) X hA hH hL hl.1 (init_X5 g l hst (46) _ (by decide) (by decide) (by decide) (by decide) (by decide) (by decide) (by decide) (by decide) (by decide) (by decide) (by decide) (by decide) (by decide) (by decide)) okI_X5 V204 ⟨(Nat.le_of_ble_eq_true rfl), (Nat.le_of_ble_eq_true rfl)⟩ ⟨(Nat.le_of_ble_eq_true rfl), (Nat.le_of_ble_eq_true rfl)⟩ (Nat.le_of_ble_eq_true rfl) dX2_init_43 (fun H locs hH hL => ?_)
  refine b_aast (n := 59) (t := 30) (t2 := 5) (N := 9) X hH (by omega) hL (by decide) rfl (by decide) (fun _ => rfl) (by decide) (by omega) rfl (by decide) rfl rfl (by decide) dX2_init_46 (fun H locs hH hL => ?_)
  refine lv_iinc (v := 1) (lv' := [(1, .int 1), (0, .ref (adr g (44)))]) hx hb dX2_init_47 hl (k := 0) rfl (by decide) (by decide) rfl (fun ls hl => ?_)
  refine lv_goto (tgt := 25) hx hb dX2_init_50 (by decide) ?_
  refine lv_iload_n hx hb dX2_init_25 rfl (lv_at hl 0 rfl) ?_
  refine lv_aload_n hx hb dX2_init_26 rfl (lv_at hl 1 rfl) ?_
  refine b_getR (n := 59) (r := 45) X hH (by omega) inC2 (by decide) rfl (by simp (disch := omega) [mR_sI, mR_sJ, mR_sR, if_ne1, if_ne2, if_eq1, KX4_R, KX6_R, KX1_R, KX5_R]) (by omega) V205 dX2_init_27 ?_
  refine b_alen (n := 59) (t := 30) (v := 9) X hH (by omega) (by decide) rfl (by decide) (by decide) dX2_init_30 ?_
  refine lv_icmp_ge (tgt := 53) hx hb dX2_init_31 (by decide) (fun c => absurd c (by decide)) (fun _ => ?_)
  refine lv_aload_n hx hb dX2_init_34 rfl (lv_at hl 1 rfl) ?_
  refine b_getR (n := 59) (r := 45) X hH (by omega) inC2 (by decide) rfl (by simp (disch := omega) [mR_sI, mR_sJ, mR_sR, if_ne1, if_ne2, if_eq1, KX4_R, KX6_R, KX1_R, KX5_R]) (by omega) V205 dX2_init_35 ?_
  refine lv_iload_n hx hb dX2_init_38 rfl (lv_at hl 0 rfl) ?_
  refine b_new (n := 59) (t := 5) X hH hL (by decide) rfl (by decide) okC5 V202 V108 V73 (Nat.le_of_ble_eq_true rfl) (Nat.le_of_ble_eq_true rfl) (by decide) dX2_init_39 (fun H hH hL => ?_)
  refine lv_dup hx hb dX2_init_42 rfl ?_
  refine b_call (n := 60) (n1 := 73) X hA hH hL hl.1 (init_X5 g l hst (60) _ (by decide) (by decide) (by decide) (by decide) (by decide) (by decide) (by decide) (by decide) (by decide) (by decide) (by decide) (by decide) (by decide) (by decide)) okI_X5 V204 ⟨(Nat.le_of_ble_eq_true rfl), (Nat.le_of_ble_eq_true rfl)⟩ ⟨(Nat.le_of_ble_eq_true rfl), (Nat.le_of_ble_eq_true rfl)⟩ (Nat.le_of_ble_eq_true rfl) dX2_init_43 (fun H locs hH hL => ?_)
  refine b_aast (n := 73) (t := 30) (t2 := 5) (N := 9) X hH (by omega) hL (by decide) rfl (by decide) (fun _ => rfl) (by decide) (by omega) rfl (by decide) rfl rfl (by decide) dX2_init_46 (fun H locs hH hL => ?_)
  refine lv_iinc (v := 2) (lv' := [(1, .int 2), (0, .ref (adr g (44)))]) hx hb dX2_init_47 hl (k := 0) rfl (by decide) (by decide) rfl (fun ls hl => ?_)
  refine lv_goto (tgt := 25) hx hb dX2_init_50 (by decide) ?_
  refine lv_iload_n hx hb dX2_init_25 rfl (lv_at hl 0 rfl) ?_
  refine lv_aload_n hx hb dX2_init_26 rfl (lv_at hl 1 rfl) ?_
  refine b_getR (n := 73) (r := 45) X hH (by omega) inC2 (by decide) rfl (by simp (disch := omega) [mR_sI, mR_sJ, mR_sR, if_ne1, if_ne2, if_eq1, KX4_R, KX6_R, KX1_R, KX5_R]) (by omega) V205 dX2_init_27 ?_
  refine b_alen (n := 73) (t := 30) (v := 9) X hH (by omega) (by decide) rfl (by decide) (by decide) dX2_init_30 ?_
  refine lv_icmp_ge (tgt := 53) hx hb dX2_init_31 (by decide) (fun c => absurd c (by decide)) (fun _ => ?_)
  refine lv_aload_n hx hb dX2_init_34 rfl (lv_at hl 1 rfl) ?_
  refine b_getR (n := 73) (r := 45) X hH (by omega) inC2 (by decide) rfl (by simp (disch := omega) [mR_sI, mR_sJ, mR_sR, if_ne1, if_ne2, if_eq1, KX4_R, KX6_R, KX1_R, KX5_R]) (by omega) V205 dX2_init_35 ?_
  refine lv_iload_n hx hb dX2_init_38 rfl (lv_at hl 0 rfl) ?_
  refine b_new (n := 73) (t := 5) X hH hL (by decide) rfl (by decide) okC5 V202 V108 V73 (Nat.le_of_ble_eq_true rfl) (Nat.le_of_ble_eq_true rfl) (by decide) dX2_init_39 (fun H hH hL => ?_)
  refine lv_dup hx hb dX2_init_42 rfl ?_
  refine b_call (n := 74) (n1 := 87) X hA hH hL hl.1 (init_X5 g l hst (74) _ (by decide) (by decide) (by decide) (by decide) (by decide) (by decide) (by decide) (by decide) (by decide) (by decide) (by decide) (by decide) (by decide) (by decide)) okI_X5 V204 ⟨(Nat.le_of_ble_eq_true rfl), (Nat.le_of_ble_eq_true rfl)⟩ ⟨(Nat.le_of_ble_eq_true rfl), (Nat.le_of_ble_eq_true rfl)⟩ (Nat.le_of_ble_eq_true rfl) dX2_init_43 (fun H locs hH hL => ?_)
  refine b_aast (n := 87) (t := 30) (t2 := 5) (N := 9) X hH (by omega) hL (by decide) rfl (by decide) (fun _ => rfl) (by decide) (by omega) rfl (by decide) rfl rfl (by decide) dX2_init_46 (fun H locs hH hL => ?_)
  refine lv_iinc (v := 3) (lv' := [(1, .int 3), (0, .ref (adr g (44)))]) hx hb dX2_init_47 hl (k := 0) rfl (by decide) (by decide) rfl (fun ls hl => ?_)
  refine lv_goto (tgt := 25) hx hb dX2_init_50 (by decide) ?_
  refine lv_iload_n hx hb dX2_init_25 rfl (lv_at hl 0 rfl) ?_
  refine lv_aload_n hx hb dX2_init_26 rfl (lv_at hl 1 rfl) ?_
  refine b_getR (n := 87) (r := 45) X hH (by omega) inC2 (by decide) rfl (by simp (disch := omega) [mR_sI, mR_sJ, mR_sR, if_ne1, if_ne2, if_eq1, KX4_R, KX6_R, KX1_R, KX5_R]) (by omega) V205 dX2_init_27 ?_
  refine b_alen (n := 87) (t := 30) (v := 9) X hH (by omega) (by decide) rfl (by decide) (by decide) dX2_init_30 ?_
  refine lv_icmp_ge (tgt := 53) hx hb dX2_init_31 (by decide) (fun c => absurd c (by decide)) (fun _ => ?_)
  refine lv_aload_n hx hb dX2_init_34 rfl (lv_at hl 1 rfl) ?_
  refine b_getR (n := 87) (r := 45) X hH (by omega) inC2 (by decide) rfl (by simp (disch := omega) [mR_sI, mR_sJ, mR_sR, if_ne1, if_ne2, if_eq1, KX4_R, KX6_R, KX1_R, KX5_R]) (by omega) V205 dX2_init_35 ?_
  refine lv_iload_n hx hb dX2_init_38 rfl (lv_at hl 0 rfl) ?_
  refine b_new (n := 87) (t := 5) X hH hL (by decide) rfl (by decide) okC5 V202 V108 V73 (Nat.le_of_ble_eq_true rfl) (Nat.le_of_ble_eq_true rfl) (by decide) dX2_init_39 (fun H hH hL => ?_)
  refine lv_dup hx hb dX2_init_42 rfl ?_
  refine b_call (n := 88) (n1 := 101) X hA hH hL hl.1 (init_X5 g l hst (88) _ (by decide) (by decide) (by decide) (by decide) (by decide) (by decide) (by decide) (by decide) (by decide) (by decide) (by decide) (by decide) (by decide) (by decide)) okI_X5 V204 ⟨(Nat.le_of_ble_eq_true rfl), (Nat.le_of_ble_eq_true rfl)⟩ ⟨(Nat.le_of_ble_eq_true rfl), (Nat.le_of_ble_eq_true rfl)⟩ (Nat.le_of_ble_eq_true rfl) dX2_init_43 (fun H locs hH hL => ?_)
  refine b_aast (n := 101) (t := 30) (t2 := 5) (N := 9) X hH (by omega) hL (by decide) rfl (by decide) (fun _ => rfl) (by decide) (by omega) rfl (by decide) rfl rfl (by decide) dX2_init_46 (fun H locs hH hL => ?_)
  refine lv_iinc (v := 4) (lv' := [(1, .int 4), (0, .ref (adr g (44)))]) hx hb dX2_init_47 hl (k := 0) rfl (by decide) (by decide) rfl (fun ls hl => ?_)
  refine lv_goto (tgt := 25) hx hb dX2_init_50 (by decide) ?_
  refine lv_iload_n hx hb dX2_init_25 rfl (lv_at hl 0 rfl) ?_
  refine lv_aload_n hx hb dX2_init_26 rfl (lv_at hl 1 rfl) ?_
  refine b_getR (n := 101) (r := 45) X hH (by omega) inC2 (by decide) rfl (by simp (disch := omega) [mR_sI, mR_sJ, mR_sR, if_ne1, if_ne2, if_eq1, KX4_R, KX6_R, KX1_R, KX5_R]) (by omega) V205 dX2_init_27 ?_
  refine b_alen (n := 101) (t := 30) (v := 9) X hH (by omega) (by decide) rfl (by decide) (by decide) dX2_init_30 ?_
  refine lv_icmp_ge (tgt := 53) hx hb dX2_init_31 (by decide) (fun c => absurd c (by decide)) (fun _ => ?_)
  refine lv_aload_n hx hb dX2_init_34 rfl (lv_at hl 1 rfl) ?_
  refine b_getR (n := 101) (r := 45) X hH (by omega) inC2 (by decide) rfl (by simp (disch := omega) [mR_sI, mR_sJ, mR_sR, if_ne1, if_ne2, if_eq1, KX4_R, KX6_R, KX1_R, KX5_R]) (by omega) V205 dX2_init_35 ?_
  refine lv_iload_n hx hb dX2_init_38 rfl (lv_at hl 0 rfl) ?_
  refine b_new (n := 101) (t := 5) X hH hL (by decide) rfl (by decide) okC5 V202 V108 V73 (Nat.le_of_ble_eq_true rfl) (Nat.le_of_ble_eq_true rfl) (by decide) dX2_init_39 (fun H hH hL => ?_)
  refine lv_dup hx hb dX2_init_42 rfl ?_
  refine b_call (n := 102) (n1 := 115) X hA hH hL hl.1 (init_X5 g l hst (102) _ (by decide) (by decide) (by decide) (by decide) (by decide) (by decide) (by decide) (by decide) (by decide) (by decide) (by decide) (by decide) (by decide) (by decide)) okI_X5 V204 ⟨(Nat.le_of_ble_eq_true rfl), (Nat.le_of_ble_eq_true rfl)⟩ ⟨(Nat.le_of_ble_eq_true rfl), (Nat.le_of_ble_eq_true rfl)⟩ (Nat.le_of_ble_eq_true rfl) dX2_init_43 (fun H locs hH hL => ?_)
  refine b_aast (n := 115) (t := 30) (t2 := 5) (N := 9) X hH (by omega) hL (by decide) rfl (by decide) (fun _ => rfl) (by decide) (by omega) rfl (by decide) rfl rfl (by decide) dX2_init_46 (fun H locs hH hL => ?_)
  refine lv_iinc (v := 5) (lv' := [(1, .int 5), (0, .ref (adr g (44)))]) hx hb dX2_init_47 hl (k := 0) rfl (by decide) (by decide) rfl (fun ls hl => ?_)
  refine lv_goto (tgt := 25) hx hb dX2_init_50 (by decide) ?_
  refine lv_iload_n hx hb dX2_init_25 rfl (lv_at hl 0 rfl) ?_
  refine lv_aload_n hx hb dX2_init_26 rfl (lv_at hl 1 rfl) ?_
  refine b_getR (n := 115) (r := 45) X hH (by omega) inC2 (by decide) rfl (by simp (disch := omega) [mR_sI, mR_sJ, mR_sR, if_ne1, if_ne2, if_eq1, KX4_R, KX6_R, KX1_R, KX5_R]) (by omega) V205 dX2_init_27 ?_
  refine b_alen (n := 115) (t := 30) (v := 9) X hH (by omega) (by decide) rfl (by decide) (by decide) dX2_init_30 ?_
  refine lv_icmp_ge (tgt := 53) hx hb dX2_init_31 (by decide) (fun c => absurd c (by decide)) (fun _ => ?_)
  refine lv_aload_n hx hb dX2_init_34 rfl (lv_at hl 1 rfl) ?_
  refine b_getR (n := 115) (r := 45) X hH (by omega) inC2 (by decide) rfl (by simp (disch := omega) [mR_sI, mR_sJ, mR_sR, if_ne1, if_ne2, if_eq1, KX4_R, KX6_R, KX1_R, KX5_R]) (by omega) V205 dX2_init_35 ?_
  refine lv_iload_n hx hb dX2_init_38 rfl (lv_at hl 0 rfl) ?_
  refine b_new (n := 115) (t := 5) X hH hL (by decide) rfl (by decide) okC5 V202 V108 V73 (Nat.le_of_ble_eq_true rfl) (Nat.le_of_ble_eq_true rfl) (by decide) dX2_init_39 (fun H hH hL => ?_)
  refine lv_dup hx hb dX2_init_42 rfl ?_
  refine b_call (n := 116) (n1 := 129) X hA hH hL hl.1 (init_X5 g l hst (116) _ (by decide) (by decide) (by decide) (by decide) (by decide) (by decide) (by decide) (by decide) (by decide) (by decide) (by decide) (by decide) (by decide) (by decide)) okI_X5 V204 ⟨(Nat.le_of_ble_eq_true rfl), (Nat.le_of_ble_eq_true rfl)⟩ ⟨(Nat.le_of_ble_eq_true rfl), (Nat.le_of_ble_eq_true rfl)⟩ (Nat.le_of_ble_eq_true rfl) dX2_init_43 (fun H locs hH hL => ?_)
  refine b_aast (n := 129) (t := 30) (t2 := 5) (N := 9) X hH (by omega) hL (by decide) rfl (by decide) (fun _ => rfl) (by decide) (by omega) rfl (by decide) rfl rfl (by decide) dX2_init_46 (fun H locs hH hL => ?_)
  refine lv_iinc (v := 6) (lv' := [(1, .int 6), (0, .ref (adr g (44)))]) hx hb dX2_init_47 hl (k := 0) rfl (by decide) (by decide) rfl (fun ls hl => ?_)
  refine lv_goto (tgt := 25) hx hb dX2_init_50 (by decide) ?_
  refine lv_iload_n hx hb dX2_init_25 rfl (lv_at hl 0 rfl) ?_
  refine lv_aload_n hx hb dX2_init_26 rfl (lv_at hl 1 rfl) ?_
  refine b_getR (n := 129) (r := 45) X hH (by omega) inC2 (by decide) rfl (by simp (disch := omega) [mR_sI, mR_sJ, mR_sR, if_ne1, if_ne2, if_eq1, KX4_R, KX6_R, KX1_R, KX5_R]) (by omega) V205 dX2_init_27 ?_
  refine b_alen (n := 129) (t := 30) (v := 9) X hH (by omega) (by decide) rfl (by decide) (by decide) dX2_init_30 ?_
  refine lv_icmp_ge (tgt := 53) hx hb dX2_init_31 (by decide) (fun c => absurd c (by decide)) (fun _ => ?_)
  refine lv_aload_n hx hb dX2_init_34 rfl (lv_at hl 1 rfl) ?_
  refine b_getR (n := 129) (r := 45) X hH (by omega) inC2 (by decide) rfl (by simp (disch := omega) [mR_sI, mR_sJ, mR_sR, if_ne1, if_ne2, if_eq1, KX4_R, KX6_R, KX1_R, KX5_R]) (by omega) V205 dX2_init_35 ?_
  refine lv_iload_n hx hb dX2_init_38 rfl (lv_at hl 0 rfl) ?_
  refine b_new (n := 129) (t := 5) X hH hL (by decide) rfl (by decide) okC5 V202 V108 V73 (Nat.le_of_ble_eq_true rfl) (Nat.le_of_ble_eq_true rfl) (by decide) dX2_init_39 (fun H hH hL => ?_)
  refine lv_dup hx hb dX2_init_42 rfl ?_
  refine b_call (n := 130) (n1 := 143) X hA hH hL hl.1 (init_X5 g l hst (130) _ (by decide) (by decide) (by decide) (by decide) (by decide) (by decide) (by decide) (by decide) (by decide) (by decide) (by decide) (by decide) (by decide) (by decide)) okI_X5 V204 ⟨(Nat.le_of_ble_eq_true rfl), (Nat.le_of_ble_eq_true rfl)⟩ ⟨(Nat.le_of_ble_eq_true rfl), (Nat.le_of_ble_eq_true rfl)⟩ (Nat.le_of_ble_eq_true rfl) dX2_init_43 (fun H locs hH hL => ?_)
  refine b_aast (n := 143) (t := 30) (t2 := 5) (N := 9) X hH (by omega) hL (by decide) rfl (by decide) (fun _ => rfl) (by decide) (by omega) rfl (by decide) rfl rfl (by decide) dX2_init_46 (fun H locs hH hL => ?_)
  refine lv_iinc (v := 7) (lv' := [(1, .int 7), (0, .ref (adr g (44)))]) hx hb dX2_init_47 hl (k := 0) rfl (by decide) (by decide) rfl (fun ls hl => ?_)
  refine lv_goto (tgt := 25) hx hb dX2_init_50 (by decide) ?_
  refine lv_iload_n hx hb dX2_init_25 rfl (lv_at hl 0 rfl) ?_
  refine lv_aload_n hx hb dX2_init_26 rfl (lv_at hl 1 rfl) ?_
  refine b_getR (n := 143) (r := 45) X hH (by omega) inC2 (by decide) rfl (by simp (disch := omega) [mR_sI, mR_sJ, mR_sR, if_ne1, if_ne2, if_eq1, KX4_R, KX6_R, KX1_R, KX5_R]) (by omega) V205 dX2_init_27 ?_
  refine b_alen (n := 143) (t := 30) (v := 9) X hH (by omega) (by decide) rfl (by decide) (by decide) dX2_init_30 ?_
  refine lv_icmp_ge (tgt := 53) hx hb dX2_init_31 (by decide) (fun c => absurd c (by decide)) (fun _ => ?_)
  refine lv_aload_n hx hb dX2_init_34 rfl (lv_at hl 1 rfl) ?_
  refine b_getR (n := 143) (r := 45) X hH (by omega) inC2 (by decide) rfl (by simp (disch := omega) [mR_sI, mR_sJ, mR_sR, if_ne1, if_ne2, if_eq1, KX4_R, KX6_R, KX1_R, KX5_R]) (by omega) V205 dX2_init_35 ?_
  refine lv_iload_n hx hb dX2_init_38 rfl (lv_at hl 0 rfl) ?_
  refine b_new (n := 143) (t := 5) X hH hL (by decide) rfl (by decide) okC5 V202 V108 V73 (Nat.le_of_ble_eq_true rfl) (Nat.le_of_ble_eq_true rfl) (by decide) dX2_init_39 (fun H hH hL => ?_)
  refine lv_dup hx hb dX2_init_42 rfl ?_
  refine b_call (n := 144) (n1 := 157) X hA hH hL hl.1 (init_X5 g l hst (144) _ (by decide) (by decide) (by decide) (by decide) (by decide) (by decide) (by decide) (by decide) (by decide) (by decide) (by decide) (by decide) (by decide) (by decide)) okI_X5 V204 ⟨(Nat.le_of_ble_eq_true rfl), (Nat.le_of_ble_eq_true rfl)⟩ ⟨(Nat.le_of_ble_eq_true rfl), (Nat.le_of_ble_eq_true rfl)⟩ (Nat.le_of_ble_eq_true rfl) dX2_init_43 (fun H locs hH hL => ?_)
  refine b_aast (n := 157) (t := 30) (t2 := 5) (N := 9) X hH (by omega) hL (by decide) rfl (by decide) (fun _ => rfl) (by decide) (by omega) rfl (by decide) rfl rfl (by decide) dX2_init_46 (fun H locs hH hL => ?_)
  refine lv_iinc (v := 8) (lv' := [(1, .int 8), (0, .ref (adr g (44)))]) hx hb dX2_init_47 hl (k := 0) rfl (by decide) (by decide) rfl (fun ls hl => ?_)
  refine lv_goto (tgt := 25) hx hb dX2_init_50 (by decide) ?_
  refine lv_iload_n hx hb dX2_init_25 rfl (lv_at hl 0 rfl) ?_
  refine lv_aload_n hx hb dX2_init_26 rfl (lv_at hl 1 rfl) ?_
  refine b_getR (n := 157) (r := 45) X hH (by omega) inC2 (by decide) rfl (by simp (disch := omega) [mR_sI, mR_sJ, mR_sR, if_ne1, if_ne2, if_eq1, KX4_R, KX6_R, KX1_R, KX5_R]) (by omega) V205 dX2_init_27 ?_
  refine b_alen (n := 157) (t := 30) (v := 9) X hH (by omega) (by decide) rfl (by decide) (by decide) dX2_init_30 ?_
  refine lv_icmp_ge (tgt := 53) hx hb dX2_init_31 (by decide) (fun c => absurd c (by decide)) (fun _ => ?_)
  refine lv_aload_n hx hb dX2_init_34 rfl (lv_at hl 1 rfl) ?_
  refine b_getR (n := 157) (r := 45) X hH (by omega) inC2 (by decide) rfl (by simp (disch := omega) [mR_sI, mR_sJ, mR_sR, if_ne1, if_ne2, if_eq1, KX4_R, KX6_R, KX1_R, KX5_R]) (by omega) V205 dX2_init_35 ?_
  refine lv_iload_n hx hb dX2_init_38 rfl (lv_at hl 0 rfl) ?_
  refine b_new (n := 157) (t := 5) X hH hL (by decide) rfl (by decide) okC5 V202 V108 V73 (Nat.le_of_ble_eq_true rfl) (Nat.le_of_ble_eq_true rfl) (by decide) dX2_init_39 (fun H hH hL => ?_)
  refine lv_dup hx hb dX2_init_42 rfl ?_
  refine b_call (n := 158) (n1 := 171) X hA hH hL hl.1 (init_X5 g l hst (158) _ (by decide) (by decide) (by decide) (by decide) (by decide) (by decide) (by decide) (by decide) (by decide) (by decide) (by decide) (by decide) (by decide) (by decide)) okI_X5 V204 ⟨(Nat.le_of_ble_eq_true rfl), (Nat.le_of_ble_eq_true rfl)⟩ ⟨(Nat.le_of_ble_eq_true rfl), (Nat.le_of_ble_eq_true rfl)⟩ (Nat.le_of_ble_eq_true rfl) dX2_init_43 (fun H locs hH hL => ?_)
  refine b_aast (n := 171) (t := 30) (t2 := 5) (N := 9) X hH (by omega) hL (by decide) rfl (by decide) (fun _ => rfl) (by decide) (by omega) rfl (by decide) rfl rfl (by decide) dX2_init_46 (fun H locs hH hL => ?_)
  refine lv_iinc (v := 9) (lv' := [(1, .int 9), (0, .ref (adr g (44)))]) hx hb dX2_init_47 hl (k := 0) rfl (by decide) (by decide) rfl (fun ls hl => ?_)
  refine lv_goto (tgt := 25) hx hb dX2_init_50 (by decide) ?_
  refine lv_iload_n hx hb dX2_init_25 rfl (lv_at hl 0 rfl) ?_
  refine lv_aload_n hx hb dX2_init_26 rfl (lv_at hl 1 rfl) ?_
  refine b_getR (n := 171) (r := 45) X hH (by omega) inC2 (by decide) rfl (by simp (disch := omega) [mR_sI, mR_sJ, mR_sR, if_ne1, if_ne2, if_eq1, KX4_R, KX6_R, KX1_R, KX5_R]) (by omega) V205 dX2_init_27 ?_
  refine b_alen (n := 171) (t := 30) (v := 9) X hH (by omega) (by decide) rfl (by decide) (by decide) dX2_init_30 ?_
  refine lv_icmp_ge (tgt := 53) hx hb dX2_init_31 (by decide) (fun _ => ?_) (fun c => absurd (by decide) c)
  exact b_vret X hr hH hL rfl rfl (Nat.le_of_ble_eq_true rfl) (Nat.le_of_ble_eq_true rfl) dX2_init_53
theorem okI_X3 : okI yX3_init cX3_init 2 := ⟨⟨V222, V76, by decide +kernel, by decide +kernel, by decide +kernel⟩, rfl, V221⟩
def KX3 (M : Mem) : Mem := sR (KX1 (200) (sR (KX1 (198) (sR (KX1 (196) (sR (KX1 (194) (sR (KX1 (192) (sR (KX1 (190) (sR (KX1 (188) (sR (KX1 (186) (sR (KX1 (184) (sR (KX1 (182) (sR (KX1 (180) (sR (KX1 (178) (sI (sI (sR (sR (KX6 (175) (M)) (174) 0 (175)) (174) 1 (177)) (174) 2 0) (174) 3 0)) (177) (0 : Int32).toNatClampNeg (178))) (177) (1 : Int32).toNatClampNeg (180))) (177) (2 : Int32).toNatClampNeg (182))) (177) (3 : Int32).toNatClampNeg (184))) (177) (4 : Int32).toNatClampNeg (186))) (177) (5 : Int32).toNatClampNeg (188))) (177) (6 : Int32).toNatClampNeg (190))) (177) (7 : Int32).toNatClampNeg (192))) (177) (8 : Int32).toNatClampNeg (194))) (177) (9 : Int32).toNatClampNeg (196))) (177) (10 : Int32).toNatClampNeg (198))) (177) (11 : Int32).toNatClampNeg (200)
set_option maxRecDepth 20000 in
set_option maxHeartbeats 4000000 in
theorem init_X3 (g : GP) (l : Launch) (hst : l.stackTraces = false) (M : Mem) : CIN g l yX3_init cX3_init 2 2 40 27 158 (174) (174) M (201) (KX3 M) := by
  refine CIN_of hst (by decide) (Nat.le_of_ble_eq_true rfl) rfl ?_
  intro p e s m below meth c ls X hA hr hin hH hL hl
  have hx := X.1
  have hb := X.2.1
  refine lv_aload_n hx hb dX3_init_0 rfl (lv_at hl 0 rfl) ?_
  refine b_obj X hl.1 V223 V105 V106 ⟨(Nat.le_of_ble_eq_true rfl), (Nat.le_of_ble_eq_true rfl)⟩ dX3_init_1 ?_
  refine lv_aload_n hx hb dX3_init_4 rfl (lv_at hl 0 rfl) ?_
  refine b_new (n := 174) (t := 6) X hH hL (by decide) rfl (by decide) okC6 V224 V225 V77 (Nat.le_of_ble_eq_true rfl) (Nat.le_of_ble_eq_true rfl) (by decide) dX3_init_5 (fun H hH hL => ?_)
  refine lv_dup hx hb dX3_init_8 rfl ?_
  refine b_callN (n := 175) (n1 := 176) X hA hH hL hl.1 (init_X6 g l hst (175) _ (by decide) (by decide)) okI_X6 V226 ⟨(Nat.le_of_ble_eq_true rfl), (Nat.le_of_ble_eq_true rfl)⟩ ⟨(Nat.le_of_ble_eq_true rfl), (Nat.le_of_ble_eq_true rfl)⟩ (Nat.le_of_ble_eq_true rfl) dX3_init_9 (fun H locs hH hL => ?_)
  refine b_putR (n := 176) (r := 175) X hH (by omega) hL okC3 (by decide) rfl (Or.inr ⟨rfl, hin, rfl⟩) (by omega) rfl (fun _ => rfl) (fun _ => rfl) V260 dX3_init_12 (fun H locs hH hL => ?_)
  refine lv_aload_n hx hb dX3_init_15 rfl (lv_at hl 0 rfl) ?_
  refine lv_bipush (v := 12) hx hb dX3_init_16 (by decide) ?_
  refine b_anew (n := 176) (t := 31) (C := clR 1) (N := 12) X hH hL (by decide) rfl (by decide) rfl hA.2.2 V240 rfl (by decide) (by decide) (Nat.le_of_ble_eq_true rfl) (Nat.le_of_ble_eq_true rfl) (Nat.le_of_ble_eq_true rfl) (fun _ => rfl) dX3_init_18 (fun H hH hL => ?_)
  refine b_putR (n := 177) (r := 177) X hH (by omega) hL okC3 (by decide) rfl (Or.inr ⟨rfl, hin, rfl⟩) (by omega) rfl (fun _ => rfl) (fun _ => rfl) V262 dX3_init_21 (fun H locs hH hL => ?_)
  refine lv_aload_n hx hb dX3_init_24 rfl (lv_at hl 0 rfl) ?_
  refine lv_iconst (v := 0) hx hb dX3_init_25 (by decide) ?_
  refine b_putI (n := 177) X hH (by omega) hL okC3 (by decide) rfl (Or.inl rfl) (fy := .int) rfl rfl rfl V264 dX3_init_26 (fun H locs hH hL => ?_)
  refine lv_aload_n hx hb dX3_init_29 rfl (lv_at hl 0 rfl) ?_
  refine lv_iconst (v := 0) hx hb dX3_init_30 (by decide) ?_
  refine b_putI (n := 177) X hH (by omega) hL okC3 (by decide) rfl (Or.inl rfl) (fy := .int) rfl rfl rfl V266 dX3_init_31 (fun H locs hH hL => ?_)
  refine lv_iconst (v := 0) hx hb dX3_init_34 (by decide) ?_
  refine lv_istore_n (lv' := [(1, .int 0), (0, .ref (adr g (174)))]) hx hb dX3_init_35 rfl hl (by decide) rfl (fun ls hl => ?_)
  refine lv_iload_n hx hb dX3_init_36 rfl (lv_at hl 0 rfl) ?_
  refine lv_aload_n hx hb dX3_init_37 rfl (lv_at hl 1 rfl) ?_
  refine b_getR (n := 177) (r := 177) X hH (by omega) inC3 (by decide) rfl (by simp (disch := omega) [mR_sI, mR_sJ, mR_sR, if_ne1, if_ne2, if_eq1, KX4_R, KX6_R, KX1_R, KX5_R]) (by omega) V262 dX3_init_38 ?_
  refine b_alen (n := 177) (t := 31) (v := 12) X hH (by omega) (by decide) rfl (by decide) (by decide) dX3_init_41 ?_
  refine lv_icmp_ge (tgt := 64) hx hb dX3_init_42 (by decide) (fun c => absurd c (by decide)) (fun _ => ?_)
  refine lv_aload_n hx hb dX3_init_45 rfl (lv_at hl 1 rfl) ?_
  refine b_getR (n := 177) (r := 177) X hH (by omega) inC3 (by decide) rfl (by simp (disch := omega) [mR_sI, mR_sJ, mR_sR, if_ne1, if_ne2, if_eq1, KX4_R, KX6_R, KX1_R, KX5_R]) (by omega) V262 dX3_init_46 ?_
  refine lv_iload_n hx hb dX3_init_49 rfl (lv_at hl 0 rfl) ?_
  refine b_new (n := 177) (t := 1) X hH hL (by decide) rfl (by decide) okC1 V240 V242 V78 (Nat.le_of_ble_eq_true rfl) (Nat.le_of_ble_eq_true rfl) (by decide) dX3_init_50 (fun H hH hL => ?_)
  refine lv_dup hx hb dX3_init_53 rfl ?_
  refine b_callN (n := 178) (n1 := 179) X hA hH hL hl.1 (init_X1 g l hst (178) _ (by decide) (by decide)) okI_X1 V243 ⟨(Nat.le_of_ble_eq_true rfl), (Nat.le_of_ble_eq_true rfl)⟩ ⟨(Nat.le_of_ble_eq_true rfl), (Nat.le_of_ble_eq_true rfl)⟩ (Nat.le_of_ble_eq_true rfl) dX3_init_54 (fun H locs hH hL => ?_)
  refine b_aast (n := 179) (t := 31) (t2 := 1) (N := 12) X hH (by omega) hL (by decide) rfl (by decide) (fun _ => rfl) (by decide) (by omega) rfl (by decide) rfl rfl (by decide) dX3_init_57 (fun H locs hH hL => ?_)
  refine lv_iinc (v := 1) (lv' := [(1, .int 1), (0, .ref (adr g (174)))]) hx hb dX3_init_58 hl (k := 0) rfl (by decide) (by decide) rfl (fun ls hl => ?_)
  refine lv_goto (tgt := 36) hx hb dX3_init_61 (by decide) ?_
  refine lv_iload_n hx hb dX3_init_36 rfl (lv_at hl 0 rfl) ?_
  refine lv_aload_n hx hb dX3_init_37 rfl (lv_at hl 1 rfl) ?_
  refine b_getR (n := 179) (r := 177) X hH (by omega) inC3 (by decide) rfl (by simp (disch := omega) [mR_sI, mR_sJ, mR_sR, if_ne1, if_ne2, if_eq1, KX4_R, KX6_R, KX1_R, KX5_R]) (by omega) V262 dX3_init_38 ?_
  refine b_alen (n := 179) (t := 31) (v := 12) X hH (by omega) (by decide) rfl (by decide) (by decide) dX3_init_41 ?_
  refine lv_icmp_ge (tgt := 64) hx hb dX3_init_42 (by decide) (fun c => absurd c (by decide)) (fun _ => ?_)
  refine lv_aload_n hx hb dX3_init_45 rfl (lv_at hl 1 rfl) ?_
  refine b_getR (n := 179) (r := 177) X hH (by omega) inC3 (by decide) rfl (by simp (disch := omega) [mR_sI, mR_sJ, mR_sR, if_ne1, if_ne2, if_eq1, KX4_R, KX6_R, KX1_R, KX5_R]) (by omega) V262 dX3_init_46 ?_
  refine lv_iload_n hx hb dX3_init_49 rfl (lv_at hl 0 rfl) ?_
  refine b_new (n := 179) (t := 1) X hH hL (by decide) rfl (by decide) okC1 V240 V242 V78 (Nat.le_of_ble_eq_true rfl) (Nat.le_of_ble_eq_true rfl) (by decide) dX3_init_50 (fun H hH hL => ?_)
  refine lv_dup hx hb dX3_init_53 rfl ?_
  refine b_callN (n := 180) (n1 := 181) X hA hH hL hl.1 (init_X1 g l hst (180) _ (by decide) (by decide)) okI_X1 V243 ⟨(Nat.le_of_ble_eq_true rfl), (Nat.le_of_ble_eq_true rfl)⟩ ⟨(Nat.le_of_ble_eq_true rfl), (Nat.le_of_ble_eq_true rfl)⟩ (Nat.le_of_ble_eq_true rfl) dX3_init_54 (fun H locs hH hL => ?_)
  refine b_aast (n := 181) (t := 31) (t2 := 1) (N := 12) X hH (by omega) hL (by decide) rfl (by decide) (fun _ => rfl) (by decide) (by omega) rfl (by decide) rfl rfl (by decide) dX3_init_57 (fun H locs hH hL => ?_)
  refine lv_iinc (v := 2) (lv' := [(1, .int 2), (0, .ref (adr g (174)))]) hx hb dX3_init_58 hl (k := 0) rfl (by decide) (by decide) rfl (fun ls hl => ?_)
  refine lv_goto (tgt := 36) hx hb dX3_init_61 (by decide) ?_
  refine lv_iload_n hx hb dX3_init_36 rfl (lv_at hl 0 rfl) ?_
  refine lv_aload_n hx hb dX3_init_37 rfl (lv_at hl 1 rfl) ?_
  refine b_getR (n := 181) (r := 177) X hH (by omega) inC3 (by decide) rfl (by simp (disch := omega) [mR_sI, mR_sJ, mR_sR, if_ne1, if_ne2, if_eq1, KX4_R, KX6_R, KX1_R, KX5_R]) (by omega) V262 dX3_init_38 ?_
  refine b_alen (n := 181) (t := 31) (v := 12) X hH (by omega) (by decide) rfl (by decide) (by decide) dX3_init_41 ?_
  refine lv_icmp_ge (tgt := 64) hx hb dX3_init_42 (by decide) (fun c => absurd c (by decide)) (fun _ => ?_)
  refine lv_aload_n hx hb dX3_init_45 rfl (lv_at hl 1 rfl) ?_
  refine b_getR (n := 181) (r := 177) X hH (by omega) inC3 (by decide) rfl (by simp (disch := omega) [mR_sI, mR_sJ, mR_sR, if_ne1, if_ne2, if_eq1, KX4_R, KX6_R, KX1_R, KX5_R]) (by omega) V262 dX3_init_46 ?_
  refine lv_iload_n hx hb dX3_init_49 rfl (lv_at hl 0 rfl) ?_
  refine b_new (n := 181) (t := 1) X hH hL (by decide) rfl (by decide) okC1 V240 V242 V78 (Nat.le_of_ble_eq_true rfl) (Nat.le_of_ble_eq_true rfl) (by decide) dX3_init_50 (fun H hH hL => ?_)
  refine lv_dup hx hb dX3_init_53 rfl ?_
  refine b_callN (n := 182) (n1 := 183) X hA hH hL hl.1 (init_X1 g l hst (182) _ (by decide) (by decide)) okI_X1 V243 ⟨(Nat.le_of_ble_eq_true rfl), (Nat.le_of_ble_eq_true rfl)⟩ ⟨(Nat.le_of_ble_eq_true rfl), (Nat.le_of_ble_eq_true rfl)⟩ (Nat.le_of_ble_eq_true rfl) dX3_init_54 (fun H locs hH hL => ?_)
  refine b_aast (n := 183) (t := 31) (t2 := 1) (N := 12) X hH (by omega) hL (by decide) rfl (by decide) (fun _ => rfl) (by decide) (by omega) rfl (by decide) rfl rfl (by decide) dX3_init_57 (fun H locs hH hL => ?_)
  refine lv_iinc (v := 3) (lv' := [(1, .int 3), (0, .ref (adr g (174)))]) hx hb dX3_init_58 hl (k := 0) rfl (by decide) (by decide) rfl (fun ls hl => ?_)
  refine lv_goto (tgt := 36) hx hb dX3_init_61 (by decide) ?_
  refine lv_iload_n hx hb dX3_init_36 rfl (lv_at hl 0 rfl) ?_
  refine lv_aload_n hx hb dX3_init_37 rfl (lv_at hl 1 rfl) ?_
  refine b_getR (n := 183) (r := 177) X hH (by omega) inC3 (by decide) rfl (by simp (disch := omega) [mR_sI, mR_sJ, mR_sR, if_ne1, if_ne2, if_eq1, KX4_R, KX6_R, KX1_R, KX5_R]) (by omega) V262 dX3_init_38 ?_
  refine b_alen (n := 183) (t := 31) (v := 12) X hH (by omega) (by decide) rfl (by decide) (by decide) dX3_init_41 ?_
  refine lv_icmp_ge (tgt := 64) hx hb dX3_init_42 (by decide) (fun c => absurd c (by decide)) (fun _ => ?_)
  refine lv_aload_n hx hb dX3_init_45 rfl (lv_at hl 1 rfl) ?_
  refine b_getR (n := 183) (r := 177) X hH (by omega) inC3 (by decide) rfl (by simp (disch := omega) [mR_sI, mR_sJ, mR_sR, if_ne1, if_ne2, if_eq1, KX4_R, KX6_R, KX1_R, KX5_R]) (by omega) V262 dX3_init_46 ?_
  refine lv_iload_n hx hb dX3_init_49 rfl (lv_at hl 0 rfl) ?_
  refine b_new (n := 183) (t := 1) X hH hL (by decide) rfl (by decide) okC1 V240 V242 V78 (Nat.le_of_ble_eq_true rfl) (Nat.le_of_ble_eq_true rfl) (by decide) dX3_init_50 (fun H hH hL => ?_)
  refine lv_dup hx hb dX3_init_53 rfl ?_
  refine b_callN (n := 184) (n1 := 185) X hA hH hL hl.1 (init_X1 g l hst (184) _ (by decide) (by decide)) okI_X1 V243 ⟨(Nat.le_of_ble_eq_true rfl), (Nat.le_of_ble_eq_true rfl)⟩ ⟨(Nat.le_of_ble_eq_true rfl), (Nat.le_of_ble_eq_true rfl)⟩ (Nat.le_of_ble_eq_true rfl) dX3_init_54 (fun H locs hH hL => ?_)
  refine b_aast (n := 185) (t := 31) (t2 := 1) (N := 12) X hH (by omega) hL (by decide) rfl (by decide) (fun _ => rfl) (by decide) (by omega) rfl (by decide) rfl rfl (by decide) dX3_init_57 (fun H locs hH hL => ?_)
  refine lv_iinc (v := 4) (lv' := [(1, .int 4), (0, .ref (adr g (174)))]) hx hb dX3_init_58 hl (k := 0) rfl (by decide) (by decide) rfl (fun ls hl => ?_)
  refine lv_goto (tgt := 36) hx hb dX3_init_61 (by decide) ?_
  refine lv_iload_n hx hb dX3_init_36 rfl (lv_at hl 0 rfl) ?_
  refine lv_aload_n hx hb dX3_init_37 rfl (lv_at hl 1 rfl) ?_
  refine b_getR (n := 185) (r := 177) X hH (by omega) inC3 (by decide) rfl (by simp (disch := omega) [mR_sI, mR_sJ, mR_sR, if_ne1, if_ne2, if_eq1, KX4_R, KX6_R, KX1_R, KX5_R]) (by omega) V262 dX3_init_38 ?_
  refine b_alen (n := 185) (t := 31) (v := 12) X hH (by omega) (by decide) rfl (by decide) (by decide) dX3_init_41 ?_
  refine lv_icmp_ge (tgt := 64) hx hb dX3_init_42 (by decide) (fun c => absurd c (by decide)) (fun _ => ?_)
  refine lv_aload_n hx hb dX3_init_45 rfl (lv_at hl 1 rfl) ?_
  refine b_getR (n := 185) (r := 177) X hH (by omega) inC3 (by decide) rfl (by simp (disch := omega) [mR_sI, mR_sJ, mR_sR, if_ne1, if_ne2, if_eq1, KX4_R, KX6_R, KX1_R, KX5_R]) (by omega) V262 dX3_init_46 ?_
  refine lv_iload_n hx hb dX3_init_49 rfl (lv_at hl 0 rfl) ?_
  refine b_new (n := 185) (t := 1) X hH hL (by decide) rfl (by decide) okC1 V240 V242 V78 (Nat.le_of_ble_eq_true rfl) (Nat.le_of_ble_eq_true rfl) (by decide) dX3_init_50 (fun H hH hL => ?_)
  refine lv_dup hx hb dX3_init_53 rfl ?_
  refine b_callN (n := 186) (n1 := 187) X hA hH hL hl.1 (init_X1 g l hst (186) _ (by decide) (by decide)) okI_X1 V243 ⟨(Nat.le_of_ble_eq_true rfl), (Nat.le_of_ble_eq_true rfl)⟩ ⟨(Nat.le_of_ble_eq_true rfl), (Nat.le_of_ble_eq_true rfl)⟩ (Nat.le_of_ble_eq_true rfl) dX3_init_54 (fun H locs hH hL => ?_)
  refine b_aast (n := 187) (t := 31) (t2 := 1) (N := 12) X hH (by omega) hL (by decide) rfl (by decide) (fun _ => rfl) (by decide) (by omega) rfl (by decide) rfl rfl (by decide) dX3_init_57 (fun H locs hH hL => ?_)
  refine lv_iinc (v := 5) (lv' := [(1, .int 5), (0, .ref (adr g (174)))]) hx hb dX3_init_58 hl (k := 0) rfl (by decide) (by decide) rfl (fun ls hl => ?_)
  refine lv_goto (tgt := 36) hx hb dX3_init_61 (by decide) ?_
  refine lv_iload_n hx hb dX3_init_36 rfl (lv_at hl 0 rfl) ?_
  refine lv_aload_n hx hb dX3_init_37 rfl (lv_at hl 1 rfl) ?_
  refine b_getR (n := 187) (r := 177) X hH (by omega) inC3 (by decide) rfl (by simp (disch := omega) [mR_sI, mR_sJ, mR_sR, if_ne1, if_ne2, if_eq1, KX4_R, KX6_R, KX1_R, KX5_R]) (by omega) V262 dX3_init_38 ?_
  refine b_alen (n := 187) (t := 31) (v := 12) X hH (by omega) (by decide) rfl (by decide) (by decide) dX3_init_41 ?_
  refine lv_icmp_ge (tgt := 64) hx hb dX3_init_42 (by decide) (fun c => absurd c (by decide)) (fun _ => ?_)
  refine lv_aload_n hx hb dX3_init_45 rfl (lv_at hl 1 rfl) ?_
  refine b_getR (n := 187) (r := 177) X hH (by omega) inC3 (by decide) rfl (by simp (disch := omega) [mR_sI, mR_sJ, mR_sR, if_ne1, if_ne2, if_eq1, KX4_R, KX6_R, KX1_R, KX5_R]) (by omega) V262 dX3_init_46 ?_
  refine lv_iload_n hx hb dX3_init_49 rfl (lv_at hl 0 rfl) ?_
  refine b_new (n := 187) (t := 1) X hH hL (by decide) rfl (by decide) okC1 V240 V242 V78 (Nat.le_of_ble_eq_true rfl) (Nat.le_of_ble_eq_true rfl) (by decide) dX3_init_50 (fun H hH hL => ?_)
  refine lv_dup hx hb dX3_init_53 rfl ?_
  refine b_callN (n := 188) (n1 := 189) X hA hH hL hl.1 (init_X1 g l hst (188) _ (by decide) (by decide)) okI_X1 V243 ⟨(Nat.le_of_ble_eq_true rfl), (Nat.le_of_ble_eq_true rfl)⟩ ⟨(Nat.le_of_ble_eq_true rfl), (Nat.le_of_ble_eq_true rfl)⟩ (Nat.le_of_ble_eq_true rfl) dX3_init_54 (fun H locs hH hL => ?_)
  refine b_aast (n := 189) (t := 31) (t2 := 1) (N := 12) X hH (by omega) hL (by decide) rfl (by decide) (fun _ => rfl) (by decide) (by omega) rfl (by decide) rfl rfl (by decide) dX3_init_57 (fun H locs hH hL => ?_)
  refine lv_iinc (v := 6) (lv' := [(1, .int 6), (0, .ref (adr g (174)))]) hx hb dX3_init_58 hl (k := 0) rfl (by decide) (by decide) rfl (fun ls hl => ?_)
  refine lv_goto (tgt := 36) hx hb dX3_init_61 (by decide) ?_
  refine lv_iload_n hx hb dX3_init_36 rfl (lv_at hl 0 rfl) ?_
  refine lv_aload_n hx hb dX3_init_37 rfl (lv_at hl 1 rfl) ?_
  refine b_getR (n := 189) (r := 177) X hH (by omega) inC3 (by decide) rfl (by simp (disch := omega) [mR_sI, mR_sJ, mR_sR, if_ne1, if_ne2, if_eq1, KX4_R, KX6_R, KX1_R, KX5_R]) (by omega) V262 dX3_init_38 ?_
  refine b_alen (n := 189) (t := 31) (v := 12) X hH (by omega) (by decide) rfl (by decide) (by decide) dX3_init_41 ?_
  refine lv_icmp_ge (tgt := 64) hx hb dX3_init_42 (by decide) (fun c => absurd c (by decide)) (fun _ => ?_)
  refine lv_aload_n hx hb dX3_init_45 rfl (lv_at hl 1 rfl) ?_
  refine b_getR (n := 189) (r := 177) X hH (by omega) inC3 (by decide) rfl (by simp (disch := omega) [mR_sI, mR_sJ, mR_sR, if_ne1, if_ne2, if_eq1, KX4_R, KX6_R, KX1_R, KX5_R]) (by omega) V262 dX3_init_46 ?_
  refine lv_iload_n hx hb dX3_init_49 rfl (lv_at hl 0 rfl) ?_
  refine b_new (n := 189) (t := 1) X hH hL (by decide) rfl (by decide) okC1 V240 V242 V78 (Nat.le_of_ble_eq_true rfl) (Nat.le_of_ble_eq_true rfl) (by decide) dX3_init_50 (fun H hH hL => ?_)
  refine lv_dup hx hb dX3_init_53 rfl ?_
  refine b_callN (n := 190) (n1 := 191) X hA hH hL hl.1 (init_X1 g l hst (190) _ (by decide) (by decide)) okI_X1 V243 ⟨(Nat.le_of_ble_eq_true rfl), (Nat.le_of_ble_eq_true rfl)⟩ ⟨(Nat.le_of_ble_eq_true rfl), (Nat.le_of_ble_eq_true rfl)⟩ (Nat.le_of_ble_eq_true rfl) dX3_init_54 (fun H locs hH hL => ?_)
  refine b_aast (n := 191) (t := 31) (t2 := 1) (N := 12) X hH (by omega) hL (by decide) rfl (by decide) (fun _ => rfl) (by decide) (by omega) rfl (by decide) rfl rfl (by decide) dX3_init_57 (fun H locs hH hL => ?_)
  refine lv_iinc (v := 7) (lv' := [(1, .int 7), (0, .ref (adr g (174)))]) hx hb dX3_init_58 hl (k := 0) rfl (by decide) (by decide) rfl (fun ls hl => ?_)
  refine lv_goto (tgt := 36) hx hb dX3_init_61 (by decide) ?_
  refine lv_iload_n hx hb dX3_init_36 rfl (lv_at hl 0 rfl) ?_
  refine lv_aload_n hx hb dX3_init_37 rfl (lv_at hl 1 rfl) ?_
  refine b_getR (n := 191) (r := 177) X hH (by omega) inC3 (by decide) rfl (by simp (disch := omega) [mR_sI, mR_sJ, mR_sR, if_ne1, if_ne2, if_eq1, KX4_R, KX6_R, KX1_R, KX5_R]) (by omega) V262 dX3_init_38 ?_
  refine b_alen (n := 191) (t := 31) (v := 12) X hH (by omega) (by decide) rfl (by decide) (by decide) dX3_init_41 ?_
  refine lv_icmp_ge (tgt := 64) hx hb dX3_init_42 (by decide) (fun c => absurd c (by decide)) (fun _ => ?_)
  refine lv_aload_n hx hb dX3_init_45 rfl (lv_at hl 1 rfl) ?_
  refine b_getR (n := 191) (r := 177) X hH (by omega) inC3 (by decide) rfl (by simp (disch := omega) [mR_sI, mR_sJ, mR_sR, if_ne1, if_ne2, if_eq1, KX4_R, KX6_R, KX1_R, KX5_R]) (by omega) V262 dX3_init_46 ?_
  refine lv_iload_n hx hb dX3_init_49 rfl (lv_at hl 0 rfl) ?_
  refine b_new (n := 191) (t := 1) X hH hL (by decide) rfl (by decide) okC1 V240 V242 V78 (Nat.le_of_ble_eq_true rfl) (Nat.le_of_ble_eq_true rfl) (by decide) dX3_init_50 (fun H hH hL => ?_)
  refine lv_dup hx hb dX3_init_53 rfl ?_
  refine b_callN (n := 192) (n1 := 193) X hA hH hL hl.1 (init_X1 g l hst (192) _ (by decide) (by decide)) okI_X1 V243 ⟨(Nat.le_of_ble_eq_true rfl), (Nat.le_of_ble_eq_true rfl)⟩ ⟨(Nat.le_of_ble_eq_true rfl), (Nat.le_of_ble_eq_true rfl)⟩ (Nat.le_of_ble_eq_true rfl) dX3_init_54 (fun H locs hH hL => ?_)
  refine b_aast (n := 193) (t := 31) (t2 := 1) (N := 12) X hH (by omega) hL (by decide) rfl (by decide) (fun _ => rfl) (by decide) (by omega) rfl (by decide) rfl rfl (by decide) dX3_init_57 (fun H locs hH hL => ?_)
  refine lv_iinc (v := 8) (lv' := [(1, .int 8), (0, .ref (adr g (174)))]) hx hb dX3_init_58 hl (k := 0) rfl (by decide) (by decide) rfl (fun ls hl => ?_)
  refine lv_goto (tgt := 36) hx hb dX3_init_61 (by decide) ?_
  refine lv_iload_n hx hb dX3_init_36 rfl (lv_at hl 0 rfl) ?_
  refine lv_aload_n hx hb dX3_init_37 rfl (lv_at hl 1 rfl) ?_
  refine b_getR (n := 193) (r := 177) X hH (by omega) inC3 (by decide) rfl (by simp (disch := omega) [mR_sI, mR_sJ, mR_sR, if_ne1, if_ne2, if_eq1, KX4_R, KX6_R, KX1_R, KX5_R]) (by omega) V262 dX3_init_38 ?_
  refine b_alen (n := 193) (t := 31) (v := 12) X hH (by omega) (by decide) rfl (by decide) (by decide) dX3_init_41 ?_
  refine lv_icmp_ge (tgt := 64) hx hb dX3_init_42 (by decide) (fun c => absurd c (by decide)) (fun _ => ?_)
  refine lv_aload_n hx hb dX3_init_45 rfl (lv_at hl 1 rfl) ?_
  refine b_getR (n := 193) (r := 177) X hH (by omega) inC3 (by decide) rfl (by simp (disch := omega) [mR_sI, mR_sJ, mR_sR, if_ne1, if_ne2, if_eq1, KX4_R, KX6_R, KX1_R, KX5_R]) (by omega) V262 dX3_init_46 ?_
  refine lv_iload_n hx hb dX3_init_49 rfl (lv_at hl 0 rfl) ?_
  refine b_new (n := 193) (t := 1) X hH hL (by decide) rfl (by decide) okC1 V240 V242 V78 (Nat.le_of_ble_eq_true rfl) (Nat.le_of_ble_eq_true rfl) (by decide) dX3_init_50 (fun H hH hL => ?_)
  refine lv_dup hx hb dX3_init_53 rfl ?_
  refine b_callN (n := 194) (n1 := 195) X hA hH hL hl.1 (init_X1 g l hst (194) _ (by decide) (by decide)) okI_X1 V243 ⟨(Nat.le_of_ble_eq_true rfl), (Nat.le_of_ble_eq_true rfl)⟩ ⟨(Nat.le_of_ble_eq_true rfl), (Nat.le_of_ble_eq_true rfl)⟩ (Nat.le_of_ble_eq_true rfl) dX3_init_54 (fun H locs hH hL => ?_)
  refine b_aast (n := 195) (t := 31) (t2 := 1) (N := 12) X hH (by omega) hL (by decide) rfl (by decide) (fun _ => rfl) (by decide) (by omega) rfl (by decide) rfl rfl (by decide) dX3_init_57 (fun H locs hH hL => ?_)
  refine lv_iinc (v := 9) (lv' := [(1, .int 9), (0, .ref (adr g (174)))]) hx hb dX3_init_58 hl (k := 0) rfl (by decide) (by decide) rfl (fun ls hl => ?_)
  refine lv_goto (tgt := 36) hx hb dX3_init_61 (by decide) ?_
  refine lv_iload_n hx hb dX3_init_36 rfl (lv_at hl 0 rfl) ?_
  refine lv_aload_n hx hb dX3_init_37 rfl (lv_at hl 1 rfl) ?_
  refine b_getR (n := 195) (r := 177) X hH (by omega) inC3 (by decide) rfl (by simp (disch := omega) [mR_sI, mR_sJ, mR_sR, if_ne1, if_ne2, if_eq1, KX4_R, KX6_R, KX1_R, KX5_R]) (by omega) V262 dX3_init_38 ?_
  refine b_alen (n := 195) (t := 31) (v := 12) X hH (by omega) (by decide) rfl (by decide) (by decide) dX3_init_41 ?_
  refine lv_icmp_ge (tgt := 64) hx hb dX3_init_42 (by decide) (fun c => absurd c (by decide)) (fun _ => ?_)
  refine lv_aload_n hx hb dX3_init_45 rfl (lv_at hl 1 rfl) ?_
  refine b_getR (n := 195) (r := 177) X hH (by omega) inC3 (by decide) rfl (by simp (disch := omega) [mR_sI, mR_sJ, mR_sR, if_ne1, if_ne2, if_eq1, KX4_R, KX6_R, KX1_R, KX5_R]) (by omega) V262 dX3_init_46 ?_
  refine lv_iload_n hx hb dX3_init_49 rfl (lv_at hl 0 rfl) ?_
  refine b_new (n := 195) (t := 1) X hH hL (by decide) rfl (by decide) okC1 V240 V242 V78 (Nat.le_of_ble_eq_true rfl) (Nat.le_of_ble_eq_true rfl) (by decide) dX3_init_50 (fun H hH hL => ?_)
  refine lv_dup hx hb dX3_init_53 rfl ?_
  refine b_callN (n := 196) (n1 := 197) X hA hH hL hl.1 (init_X1 g l hst (196) _ (by decide) (by decide)) okI_X1 V243 ⟨(Nat.le_of_ble_eq_true rfl), (Nat.le_of_ble_eq_true rfl)⟩ ⟨(Nat.le_of_ble_eq_true rfl), (Nat.le_of_ble_eq_true rfl)⟩ (Nat.le_of_ble_eq_true rfl) dX3_init_54 (fun H locs hH hL => ?_)
  refine b_aast (n := 197) (t := 31) (t2 := 1) (N := 12) X hH (by omega) hL (by decide) rfl (by decide) (fun _ => rfl) (by decide) (by omega) rfl (by decide) rfl rfl (by decide) dX3_init_57 (fun H locs hH hL => ?_)
  refine lv_iinc (v := 10) (lv' := [(1, .int 10), (0, .ref (adr g (174)))]) hx hb dX3_init_58 hl (k := 0) rfl (by decide) (by decide) rfl (fun ls hl => ?_)
  refine lv_goto (tgt := 36) hx hb dX3_init_61 (by decide) ?_
  refine lv_iload_n hx hb dX3_init_36 rfl (lv_at hl 0 rfl) ?_
  refine lv_aload_n hx hb dX3_init_37 rfl (lv_at hl 1 rfl) ?_
  refine b_getR (n := 197) (r := 177) X hH (by omega) inC3 (by decide) rfl (by simp (disch := omega) [mR_sI, mR_sJ, mR_sR, if_ne1, if_ne2, if_eq1, KX4_R, KX6_R, KX1_R, KX5_R]) (by omega) V262 dX3_init_38 ?_
  refine b_alen (n := 197) (t := 31) (v := 12) X hH (by omega) (by decide) rfl (by decide) (by decide) dX3_init_41 ?_
  refine lv_icmp_ge (tgt := 64) hx hb dX3_init_42 (by decide) (fun c => absurd c (by decide)) (fun _ => ?_)
  refine lv_aload_n hx hb dX3_init_45 rfl (lv_at hl 1 rfl) ?_
  refine b_getR (n := 197) (r := 177) X hH (by omega) inC3 (by decide) rfl (by simp (disch := omega) [mR_sI, mR_sJ, mR_sR, if_ne1, if_ne2, if_eq1, KX4_R, KX6_R, KX1_R, KX5_R]) (by omega) V262 dX3_init_46 ?_
  refine lv_iload_n hx hb dX3_init_49 rfl (lv_at hl 0 rfl) ?_
  refine b_new (n := 197) (t := 1) X hH hL (by decide) rfl (by decide) okC1 V240 V242 V78 (Nat.le_of_ble_eq_true rfl) (Nat.le_of_ble_eq_true rfl) (by decide) dX3_init_50 (fun H hH hL => ?_)
  refine lv_dup hx hb dX3_init_53 rfl ?_
  refine b_callN (n := 198) (n1 := 199) X hA hH hL hl.1 (init_X1 g l hst (198) _ (by decide) (by decide)) okI_X1 V243 ⟨(Nat.le_of_ble_eq_true rfl), (Nat.le_of_ble_eq_true rfl)⟩ ⟨(Nat.le_of_ble_eq_true rfl), (Nat.le_of_ble_eq_true rfl)⟩ (Nat.le_of_ble_eq_true rfl) dX3_init_54 (fun H locs hH hL => ?_)
  refine b_aast (n := 199) (t := 31) (t2 := 1) (N := 12) X hH (by omega) hL (by decide) rfl (by decide) (fun _ => rfl) (by decide) (by omega) rfl (by decide) rfl rfl (by decide) dX3_init_57 (fun H locs hH hL => ?_)
  refine lv_iinc (v := 11) (lv' := [(1, .int 11), (0, .ref (adr g (174)))]) hx hb dX3_init_58 hl (k := 0) rfl (by decide) (by decide) rfl (fun ls hl => ?_)
  refine lv_goto (tgt := 36) hx hb dX3_init_61 (by decide) ?_
  refine lv_iload_n hx hb dX3_init_36 rfl (lv_at hl 0 rfl) ?_
  refine lv_aload_n hx hb dX3_init_37 rfl (lv_at hl 1 rfl) ?_
  refine b_getR (n := 199) (r := 177) X hH (by omega) inC3 (by decide) rfl (by simp (disch := omega) [mR_sI, mR_sJ, mR_sR, if_ne1, if_ne2, if_eq1, KX4_R, KX6_R, KX1_R, KX5_R]) (by omega) V262 dX3_init_38 ?_
  refine b_alen (n := 199) (t := 31) (v := 12) X hH (by omega) (by decide) rfl (by decide) (by decide) dX3_init_41 ?_
  refine lv_icmp_ge (tgt := 64) hx hb dX3_init_42 (by decide) (fun c => absurd c (by decide)) (fun _ => ?_)
  refine lv_aload_n hx hb dX3_init_45 rfl (lv_at hl 1 rfl) ?_
  refine b_getR (n := 199) (r := 177) X hH (by omega) inC3 (by decide) rfl (by simp (disch := omega) [mR_sI, mR_sJ, mR_sR, if_ne1, if_ne2, if_eq1, KX4_R, KX6_R, KX1_R, KX5_R]) (by omega) V262 dX3_init_46 ?_
  refine lv_iload_n hx hb dX3_init_49 rfl (lv_at hl 0 rfl) ?_
  refine b_new (n := 199) (t := 1) X hH hL (by decide) rfl (by decide) okC1 V240 V242 V78 (Nat.le_of_ble_eq_true rfl) (Nat.le_of_ble_eq_true rfl) (by decide) dX3_init_50 (fun H hH hL => ?_)
  refine lv_dup hx hb dX3_init_53 rfl ?_
  refine b_callN (n := 200) (n1 := 201) X hA hH hL hl.1 (init_X1 g l hst (200) _ (by decide) (by decide)) okI_X1 V243 ⟨(Nat.le_of_ble_eq_true rfl), (Nat.le_of_ble_eq_true rfl)⟩ ⟨(Nat.le_of_ble_eq_true rfl), (Nat.le_of_ble_eq_true rfl)⟩ (Nat.le_of_ble_eq_true rfl) dX3_init_54 (fun H locs hH hL => ?_)
  refine b_aast (n := 201) (t := 31) (t2 := 1) (N := 12) X hH (by omega) hL (by decide) rfl (by decide) (fun _ => rfl) (by decide) (by omega) rfl (by decide) rfl rfl (by decide) dX3_init_57 (fun H locs hH hL => ?_)
  refine lv_iinc (v := 12) (lv' := [(1, .int 12), (0, .ref (adr g (174)))]) hx hb dX3_init_58 hl (k := 0) rfl (by decide) (by decide) rfl (fun ls hl => ?_)
  refine lv_goto (tgt := 36) hx hb dX3_init_61 (by decide) ?_
  refine lv_iload_n hx hb dX3_init_36 rfl (lv_at hl 0 rfl) ?_
  refine lv_aload_n hx hb dX3_init_37 rfl (lv_at hl 1 rfl) ?_
  refine b_getR (n := 201) (r := 177) X hH (by omega) inC3 (by decide) rfl (by simp (disch := omega) [mR_sI, mR_sJ, mR_sR, if_ne1, if_ne2, if_eq1, KX4_R, KX6_R, KX1_R, KX5_R]) (by omega) V262 dX3_init_38 ?_
  refine b_alen (n := 201) (t := 31) (v := 12) X hH (by omega) (by decide) rfl (by decide) (by decide) dX3_init_41 ?_
  refine lv_icmp_ge (tgt := 64) hx hb dX3_init_42 (by decide) (fun _ => ?_) (fun c => absurd (by decide) c)
  exact b_vret X hr hH hL rfl rfl (Nat.le_of_ble_eq_true rfl) (Nat.le_of_ble_eq_true rfl) dX3_init_64
theorem okI_X8 : okI yX8_init cX8_init 1 := ⟨⟨V103, V72, by decide +kernel, by decide +kernel, by decide +kernel⟩, rfl, V102⟩
def KX8 (M : Mem) : Mem := sI (sI (sR (KX6 (202) (sR (KX3 (sR (KX4 (172) (sR (KX2 (sI (sR (KX5 (30) (sR (KX5 (16) (sR (KX5 (2) (M)) (1) 0 (2))) (1) 1 (16))) (1) 2 (30)) (1) 3 0)) (1) 4 (44))) (1) 5 (172))) (1) 6 (174))) (1) 7 (202)) (1) 8 (-1)) (1) 9 (-1)
set_option maxRecDepth 20000 in
set_option maxHeartbeats 4000000 in
theorem init_X8 (g : GP) (l : Launch) (hst : l.stackTraces = false) (M : Mem) : CIN g l yX8_init cX8_init 1 4 82 202 3580 (1) (1) M (203) (KX8 M) := by
  refine CIN_of hst (by decide) (Nat.le_of_ble_eq_true rfl) rfl ?_
  intro p e s m below meth c ls X hA hr hin hH hL hl
  have hx := X.1
  have hb := X.2.1
  refine lv_aload_n hx hb dX8_init_0 rfl (lv_at hl 0 rfl) ?_
  refine b_obj X hl.1 V104 V105 V106 ⟨(Nat.le_of_ble_eq_true rfl), (Nat.le_of_ble_eq_true rfl)⟩ dX8_init_1 ?_
  refine lv_aload_n hx hb dX8_init_4 rfl (lv_at hl 0 rfl) ?_
  refine b_new (n := 1) (t := 5) X hH hL (by decide) rfl (by decide) okC5 V107 V108 V73 (Nat.le_of_ble_eq_true rfl) (Nat.le_of_ble_eq_true rfl) (by decide) dX8_init_5 (fun H hH hL => ?_)
  refine lv_dup hx hb dX8_init_8 rfl ?_
  refine b_call (n := 2) (n1 := 15) X hA hH hL hl.1 (init_X5 g l hst (2) _ (by decide) (by decide) (by decide) (by decide) (by decide) (by decide) (by decide) (by decide) (by decide) (by decide) (by decide) (by decide) (by decide) (by decide)) okI_X5 V109 ⟨(Nat.le_of_ble_eq_true rfl), (Nat.le_of_ble_eq_true rfl)⟩ ⟨(Nat.le_of_ble_eq_true rfl), (Nat.le_of_ble_eq_true rfl)⟩ (Nat.le_of_ble_eq_true rfl) dX8_init_9 (fun H locs hH hL => ?_)
  refine b_putR (n := 15) (r := 2) X hH (by omega) hL okC8 (by decide) rfl (Or.inr ⟨rfl, hin, rfl⟩) (by omega) rfl (fun _ => rfl) (fun _ => rfl) V279 dX8_init_12 (fun H locs hH hL => ?_)
  refine lv_aload_n hx hb dX8_init_15 rfl (lv_at hl 0 rfl) ?_
  refine b_new (n := 15) (t := 5) X hH hL (by decide) rfl (by decide) okC5 V107 V108 V73 (Nat.le_of_ble_eq_true rfl) (Nat.le_of_ble_eq_true rfl) (by decide) dX8_init_16 (fun H hH hL => ?_)
  refine lv_dup hx hb dX8_init_19 rfl ?_
  refine b_call (n := 16) (n1 := 29) X hA hH hL hl.1 (init_X5 g l hst (16) _ (by decide) (by decide) (by decide) (by decide) (by decide) (by decide) (by decide) (by decide) (by decide) (by decide) (by decide) (by decide) (by decide) (by decide)) okI_X5 V109 ⟨(Nat.le_of_ble_eq_true rfl), (Nat.le_of_ble_eq_true rfl)⟩ ⟨(Nat.le_of_ble_eq_true rfl), (Nat.le_of_ble_eq_true rfl)⟩ (Nat.le_of_ble_eq_true rfl) dX8_init_20 (fun H locs hH hL => ?_)
  refine b_putR (n := 29) (r := 16) X hH (by omega) hL okC8 (by decide) rfl (Or.inr ⟨rfl, hin, rfl⟩) (by omega) rfl (fun _ => rfl) (fun _ => rfl) V280 dX8_init_23 (fun H locs hH hL => ?_)
  refine lv_aload_n hx hb dX8_init_26 rfl (lv_at hl 0 rfl) ?_
  refine b_new (n := 29) (t := 5) X hH hL (by decide) rfl (by decide) okC5 V107 V108 V73 (Nat.le_of_ble_eq_true rfl) (Nat.le_of_ble_eq_true rfl) (by decide) dX8_init_27 (fun H hH hL => ?_)
  refine lv_dup hx hb dX8_init_30 rfl ?_
  refine b_call (n := 30) (n1 := 43) X hA hH hL hl.1 (init_X5 g l hst (30) _ (by decide) (by decide) (by decide) (by decide) (by decide) (by decide) (by decide) (by decide) (by decide) (by decide) (by decide) (by decide) (by decide) (by decide)) okI_X5 V109 ⟨(Nat.le_of_ble_eq_true rfl), (Nat.le_of_ble_eq_true rfl)⟩ ⟨(Nat.le_of_ble_eq_true rfl), (Nat.le_of_ble_eq_true rfl)⟩ (Nat.le_of_ble_eq_true rfl) dX8_init_31 (fun H locs hH hL => ?_)
  refine b_putR (n := 43) (r := 30) X hH (by omega) hL okC8 (by decide) rfl (Or.inr ⟨rfl, hin, rfl⟩) (by omega) rfl (fun _ => rfl) (fun _ => rfl) V281 dX8_init_34 (fun H locs hH hL => ?_)
  refine lv_aload_n hx hb dX8_init_37 rfl (lv_at hl 0 rfl) ?_
  refine lv_iconst (v := 0) hx hb dX8_init_38 (by decide) ?_
  refine b_putI (n := 43) X hH (by omega) hL okC8 (by decide) rfl (Or.inl rfl) (fy := .boolean) rfl rfl rfl V282 dX8_init_39 (fun H locs hH hL => ?_)
  refine lv_aload_n hx hb dX8_init_42 rfl (lv_at hl 0 rfl) ?_
  refine b_new (n := 43) (t := 2) X hH hL (by decide) rfl (by decide) okC2 V196 V197 V75 (Nat.le_of_ble_eq_true rfl) (Nat.le_of_ble_eq_true rfl) (by decide) dX8_init_43 (fun H hH hL => ?_)
  refine lv_dup hx hb dX8_init_46 rfl ?_
  refine b_call (n := 44) (n1 := 171) X hA hH hL hl.1 (init_X2 g l hst _) okI_X2 V198 ⟨(Nat.le_of_ble_eq_true rfl), (Nat.le_of_ble_eq_true rfl)⟩ ⟨(Nat.le_of_ble_eq_true rfl), (Nat.le_of_ble_eq_true rfl)⟩ (Nat.le_of_ble_eq_true rfl) dX8_init_47 (fun H locs hH hL => ?_)
  refine b_putR (n := 171) (r := 44) X hH (by omega) hL okC8 (by decide) rfl (Or.inr ⟨rfl, hin, rfl⟩) (by omega) rfl (fun _ => rfl) (fun _ => rfl) V283 dX8_init_50 (fun H locs hH hL => ?_)
  refine lv_aload_n hx hb dX8_init_53 rfl (lv_at hl 0 rfl) ?_
  refine b_new (n := 171) (t := 4) X hH hL (by decide) rfl (by decide) okC4 V216 V115 V74 (Nat.le_of_ble_eq_true rfl) (Nat.le_of_ble_eq_true rfl) (by decide) dX8_init_54 (fun H hH hL => ?_)
  refine lv_dup hx hb dX8_init_57 rfl ?_
  refine b_callN (n := 172) (n1 := 173) X hA hH hL hl.1 (init_X4 g l hst (172) _ (by decide) (by decide)) okI_X4 V217 ⟨(Nat.le_of_ble_eq_true rfl), (Nat.le_of_ble_eq_true rfl)⟩ ⟨(Nat.le_of_ble_eq_true rfl), (Nat.le_of_ble_eq_true rfl)⟩ (Nat.le_of_ble_eq_true rfl) dX8_init_58 (fun H locs hH hL => ?_)
  refine b_putR (n := 173) (r := 172) X hH (by omega) hL okC8 (by decide) rfl (Or.inr ⟨rfl, hin, rfl⟩) (by omega) rfl (fun _ => rfl) (fun _ => rfl) V284 dX8_init_61 (fun H locs hH hL => ?_)
  refine lv_aload_n hx hb dX8_init_64 rfl (lv_at hl 0 rfl) ?_
  refine b_new (n := 173) (t := 3) X hH hL (by decide) rfl (by decide) okC3 V218 V219 V76 (Nat.le_of_ble_eq_true rfl) (Nat.le_of_ble_eq_true rfl) (by decide) dX8_init_65 (fun H hH hL => ?_)
  refine lv_dup hx hb dX8_init_68 rfl ?_
  refine b_call (n := 174) (n1 := 201) X hA hH hL hl.1 (init_X3 g l hst _) okI_X3 V220 ⟨(Nat.le_of_ble_eq_true rfl), (Nat.le_of_ble_eq_true rfl)⟩ ⟨(Nat.le_of_ble_eq_true rfl), (Nat.le_of_ble_eq_true rfl)⟩ (Nat.le_of_ble_eq_true rfl) dX8_init_69 (fun H locs hH hL => ?_)
  refine b_putR (n := 201) (r := 174) X hH (by omega) hL okC8 (by decide) rfl (Or.inr ⟨rfl, hin, rfl⟩) (by omega) rfl (fun _ => rfl) (fun _ => rfl) V285 dX8_init_72 (fun H locs hH hL => ?_)
  refine lv_aload_n hx hb dX8_init_75 rfl (lv_at hl 0 rfl) ?_
  refine b_new (n := 201) (t := 6) X hH hL (by decide) rfl (by decide) okC6 V277 V225 V77 (Nat.le_of_ble_eq_true rfl) (Nat.le_of_ble_eq_true rfl) (by decide) dX8_init_76 (fun H hH hL => ?_)
  refine lv_dup hx hb dX8_init_79 rfl ?_
  refine b_callN (n := 202) (n1 := 203) X hA hH hL hl.1 (init_X6 g l hst (202) _ (by decide) (by decide)) okI_X6 V278 ⟨(Nat.le_of_ble_eq_true rfl), (Nat.le_of_ble_eq_true rfl)⟩ ⟨(Nat.le_of_ble_eq_true rfl), (Nat.le_of_ble_eq_true rfl)⟩ (Nat.le_of_ble_eq_true rfl) dX8_init_80 (fun H locs hH hL => ?_)
  refine b_putR (n := 203) (r := 202) X hH (by omega) hL okC8 (by decide) rfl (Or.inr ⟨rfl, hin, rfl⟩) (by omega) rfl (fun _ => rfl) (fun _ => rfl) V286 dX8_init_83 (fun H locs hH hL => ?_)
  refine lv_aload_n hx hb dX8_init_86 rfl (lv_at hl 0 rfl) ?_
  refine lv_iconst (v := (-1)) hx hb dX8_init_87 (by decide) ?_
  refine b_putI (n := 203) X hH (by omega) hL okC8 (by decide) rfl (Or.inl rfl) (fy := .int) rfl rfl rfl V287 dX8_init_88 (fun H locs hH hL => ?_)
  refine lv_aload_n hx hb dX8_init_91 rfl (lv_at hl 0 rfl) ?_
  refine lv_iconst (v := (-1)) hx hb dX8_init_92 (by decide) ?_
  refine b_putI (n := 203) X hH (by omega) hL okC8 (by decide) rfl (Or.inl rfl) (fy := .int) rfl rfl rfl V288 dX8_init_93 (fun H locs hH hL => ?_)
  exact b_vret X hr hH hL rfl rfl (Nat.le_of_ble_eq_true rfl) (Nat.le_of_ble_eq_true rfl) dX8_init_96
theorem okI_X9 : okI yX9_init cX9_init 1 := ⟨⟨V1282, V81, by decide +kernel, by decide +kernel, by decide +kernel⟩, rfl, V1281⟩
def KX9 (M : Mem) : Mem := sI (sI (sR (sI (sI (sR (sR (sR (sR (sR (sR (sR (M) (204) 1 (205)) (204) 2 (206)) (204) 3 (207)) (204) 4 (208)) (204) 5 (209)) (204) 9 (210)) (204) 11 (211)) (204) 14 (-1)) (204) 15 (-1)) (204) 16 (212)) (205) (2 : Int32).toNatClampNeg 2) (205) (3 : Int32).toNatClampNeg 30
set_option maxRecDepth 20000 in
set_option maxHeartbeats 4000000 in
theorem init_X9 (g : GP) (l : Launch) (hst : l.stackTraces = false) (M : Mem) : CIN g l yX9_init cX9_init 1 1 20 8 3244 (204) (204) M (212) (KX9 M) := by
  refine CIN_of hst (by decide) (Nat.le_of_ble_eq_true rfl) rfl ?_
  intro p e s m below meth c ls X hA hr hin hH hL hl
  have hx := X.1
  have hb := X.2.1
  refine lv_aload_n hx hb dX9_init_0 rfl (lv_at hl 0 rfl) ?_
  refine b_obj X hl.1 V1283 V105 V106 ⟨(Nat.le_of_ble_eq_true rfl), (Nat.le_of_ble_eq_true rfl)⟩ dX9_init_1 ?_
  refine lv_aload_n hx hb dX9_init_4 rfl (lv_at hl 0 rfl) ?_
  refine lv_sipush (v := 260) hx hb dX9_init_5 (by decide) ?_
  refine b_newa (n := 204) (t := 24) (atype := .int) (N := 260) X hH hL (by decide) rfl (by decide) rfl V156 rfl (by decide) (by decide) (Nat.le_of_ble_eq_true rfl) (Nat.le_of_ble_eq_true rfl) (Nat.le_of_ble_eq_true rfl) (fun _ => rfl) dX9_init_8 (fun H hH hL => ?_)
  refine b_putR (n := 205) (r := 205) X hH (by omega) hL okC9 (by decide) rfl (Or.inr ⟨rfl, hin, rfl⟩) (by omega) rfl (fun _ => rfl) (fun _ => rfl) V1285 dX9_init_10 (fun H locs hH hL => ?_)
  refine lv_aload_n hx hb dX9_init_13 rfl (lv_at hl 0 rfl) ?_
  refine lv_sipush (v := 2080) hx hb dX9_init_14 (by decide) ?_
  refine b_newa (n := 205) (t := 25) (atype := .int) (N := 2080) X hH hL (by decide) rfl (by decide) rfl V156 rfl (by decide) (by decide) (Nat.le_of_ble_eq_true rfl) (Nat.le_of_ble_eq_true rfl) (Nat.le_of_ble_eq_true rfl) (fun _ => rfl) dX9_init_17 (fun H hH hL => ?_)
  refine b_putR (n := 206) (r := 206) X hH (by omega) hL okC9 (by decide) rfl (Or.inr ⟨rfl, hin, rfl⟩) (by omega) rfl (fun _ => rfl) (fun _ => rfl) V1286 dX9_init_19 (fun H locs hH hL => ?_)
  refine lv_aload_n hx hb dX9_init_22 rfl (lv_at hl 0 rfl) ?_
  refine lv_sipush (v := 260) hx hb dX9_init_23 (by decide) ?_
  refine b_newa (n := 206) (t := 24) (atype := .int) (N := 260) X hH hL (by decide) rfl (by decide) rfl V156 rfl (by decide) (by decide) (Nat.le_of_ble_eq_true rfl) (Nat.le_of_ble_eq_true rfl) (Nat.le_of_ble_eq_true rfl) (fun _ => rfl) dX9_init_26 (fun H hH hL => ?_)
  refine b_putR (n := 207) (r := 207) X hH (by omega) hL okC9 (by decide) rfl (Or.inr ⟨rfl, hin, rfl⟩) (by omega) rfl (fun _ => rfl) (fun _ => rfl) V1287 dX9_init_28 (fun H locs hH hL => ?_)
  refine lv_aload_n hx hb dX9_init_31 rfl (lv_at hl 0 rfl) ?_
  refine lv_sipush (v := 260) hx hb dX9_init_32 (by decide) ?_
  refine b_newa (n := 207) (t := 24) (atype := .int) (N := 260) X hH hL (by decide) rfl (by decide) rfl V156 rfl (by decide) (by decide) (Nat.le_of_ble_eq_true rfl) (Nat.le_of_ble_eq_true rfl) (Nat.le_of_ble_eq_true rfl) (fun _ => rfl) dX9_init_35 (fun H hH hL => ?_)
  refine b_putR (n := 208) (r := 208) X hH (by omega) hL okC9 (by decide) rfl (Or.inr ⟨rfl, hin, rfl⟩) (by omega) rfl (fun _ => rfl) (fun _ => rfl) V1288 dX9_init_37 (fun H locs hH hL => ?_)
  refine lv_aload_n hx hb dX9_init_40 rfl (lv_at hl 0 rfl) ?_
  refine lv_sipush (v := 260) hx hb dX9_init_41 (by decide) ?_
  refine b_newa (n := 208) (t := 24) (atype := .int) (N := 260) X hH hL (by decide) rfl (by decide) rfl V156 rfl (by decide) (by decide) (Nat.le_of_ble_eq_true rfl) (Nat.le_of_ble_eq_true rfl) (Nat.le_of_ble_eq_true rfl) (fun _ => rfl) dX9_init_44 (fun H hH hL => ?_)
  refine b_putR (n := 209) (r := 209) X hH (by omega) hL okC9 (by decide) rfl (Or.inr ⟨rfl, hin, rfl⟩) (by omega) rfl (fun _ => rfl) (fun _ => rfl) V1289 dX9_init_46 (fun H locs hH hL => ?_)
  refine lv_aload_n hx hb dX9_init_49 rfl (lv_at hl 0 rfl) ?_
  refine lv_bipush (v := 60) hx hb dX9_init_50 (by decide) ?_
  refine b_newa (n := 209) (t := 26) (atype := .char) (N := 60) X hH hL (by decide) rfl (by decide) rfl V239 rfl (by decide) (by decide) (Nat.le_of_ble_eq_true rfl) (Nat.le_of_ble_eq_true rfl) (Nat.le_of_ble_eq_true rfl) (fun _ => rfl) dX9_init_52 (fun H hH hL => ?_)
  refine b_putR (n := 210) (r := 210) X hH (by omega) hL okC9 (by decide) rfl (Or.inr ⟨rfl, hin, rfl⟩) (by omega) rfl (fun _ => rfl) (fun _ => rfl) V1293 dX9_init_54 (fun H locs hH hL => ?_)
  refine lv_aload_n hx hb dX9_init_57 rfl (lv_at hl 0 rfl) ?_
  refine lv_bipush (v := 60) hx hb dX9_init_58 (by decide) ?_
  refine b_newa (n := 210) (t := 26) (atype := .char) (N := 60) X hH hL (by decide) rfl (by decide) rfl V239 rfl (by decide) (by decide) (Nat.le_of_ble_eq_true rfl) (Nat.le_of_ble_eq_true rfl) (Nat.le_of_ble_eq_true rfl) (fun _ => rfl) dX9_init_60 (fun H hH hL => ?_)
  refine b_putR (n := 211) (r := 211) X hH (by omega) hL okC9 (by decide) rfl (Or.inr ⟨rfl, hin, rfl⟩) (by omega) rfl (fun _ => rfl) (fun _ => rfl) V1295 dX9_init_62 (fun H locs hH hL => ?_)
  refine lv_aload_n hx hb dX9_init_65 rfl (lv_at hl 0 rfl) ?_
  refine lv_iconst (v := (-1)) hx hb dX9_init_66 (by decide) ?_
  refine b_putI (n := 211) X hH (by omega) hL okC9 (by decide) rfl (Or.inl rfl) (fy := .int) rfl rfl rfl V1298 dX9_init_67 (fun H locs hH hL => ?_)
  refine lv_aload_n hx hb dX9_init_70 rfl (lv_at hl 0 rfl) ?_
  refine lv_iconst (v := (-1)) hx hb dX9_init_71 (by decide) ?_
  refine b_putI (n := 211) X hH (by omega) hL okC9 (by decide) rfl (Or.inl rfl) (fy := .int) rfl rfl rfl V1299 dX9_init_72 (fun H locs hH hL => ?_)
  refine lv_aload_n hx hb dX9_init_75 rfl (lv_at hl 0 rfl) ?_
  refine lv_iconst (v := 4) hx hb dX9_init_76 (by decide) ?_
  refine b_newa (n := 211) (t := 23) (atype := .int) (N := 4) X hH hL (by decide) rfl (by decide) rfl V156 rfl (by decide) (by decide) (Nat.le_of_ble_eq_true rfl) (Nat.le_of_ble_eq_true rfl) (Nat.le_of_ble_eq_true rfl) (fun _ => rfl) dX9_init_77 (fun H hH hL => ?_)
  refine b_putR (n := 212) (r := 212) X hH (by omega) hL okC9 (by decide) rfl (Or.inr ⟨rfl, hin, rfl⟩) (by omega) rfl (fun _ => rfl) (fun _ => rfl) V1300 dX9_init_79 (fun H locs hH hL => ?_)
  refine lv_aload_n hx hb dX9_init_82 rfl (lv_at hl 0 rfl) ?_
  refine b_getR (n := 212) (r := 205) X hH (by omega) inC9 (by decide) rfl (by simp (disch := omega) [mR_sI, mR_sJ, mR_sR, if_ne1, if_ne2, if_eq1, KX4_R, KX6_R, KX1_R, KX5_R]) (by omega) V1285 dX9_init_83 ?_
  refine lv_iconst (v := 2) hx hb dX9_init_86 (by decide) ?_
  refine lv_iconst (v := 2) hx hb dX9_init_87 (by decide) ?_
  refine b_iast (n := 212) (t := 24) (N := 260) X hH (by omega) hL (by decide) rfl (by decide) (fun _ => rfl) rfl rfl (by decide) dX9_init_88 (fun H locs hH hL => ?_)
  refine lv_aload_n hx hb dX9_init_89 rfl (lv_at hl 0 rfl) ?_
  refine b_getR (n := 212) (r := 205) X hH (by omega) inC9 (by decide) rfl (by simp (disch := omega) [mR_sI, mR_sJ, mR_sR, if_ne1, if_ne2, if_eq1, KX4_R, KX6_R, KX1_R, KX5_R]) (by omega) V1285 dX9_init_90 ?_
  refine lv_iconst (v := 3) hx hb dX9_init_93 (by decide) ?_
  refine lv_bipush (v := 30) hx hb dX9_init_94 (by decide) ?_
  refine b_iast (n := 212) (t := 24) (N := 260) X hH (by omega) hL (by decide) rfl (by decide) (fun _ => rfl) rfl rfl (by decide) dX9_init_96 (fun H locs hH hL => ?_)
  exact b_vret X hr hH hL rfl rfl (Nat.le_of_ble_eq_true rfl) (Nat.le_of_ble_eq_true rfl) dX9_init_97
