/-! THE TABLES' FACTS AT THE LAW'S START -/
def FLT : List Cond := flatC (Jvm.Cond.and given_1 narrow_1)
def kS (j : Nat) : Nat := ([64, 66, 72, 74, 77, 79, 82, 84, 87, 74, 90, 74, 93, 95, 98, 74, 101, 103, 106, 108, 111, 113] : List Nat).getD j 0
def kx (j : Nat) : Nat := ([1000, 1008, 1015, 1024, 1029, 1038, 1048, 1057, 1065, 1024, 1074, 1024, 1083, 1093, 1101, 1024, 1111, 1121, 988, 996, 1126, 1134] : List Nat).getD j 0
def tmS (j : Nat) : Term := .string "ScoreOrchestra$Verb" (kS j)
def vnm (i : Nat) : String := (["ADD", "DROP", "NOTE", "MASK", "FLIP", "TURN", "RAISE", "TEMPO", "LIMIT", "WAVE", "BEAT"] : List String).getD i ""
def tmV (i : Nat) : Term := .static "ScoreOrchestra$Verb" (vnm i) "LScoreOrchestra$Verb;"
def tmL : Term := .static "ScoreOrchestra" "VERBS" "[LScoreOrchestra$Verb;"
def tmW : Term := .static "ScoreOrchestra$1" "$SwitchMap$ScoreOrchestra$Verb" "[I"
def ixG (L : List Nat) (i : Nat) : Nat := L.getD i 0
theorem fl_mem {w : Cond} {i : Nat} (h : FLT[i]? = some w) : w ∈ FLT := List.mem_of_getElem? h
theorem fs_ex : ∀ j, j < 22 → FLT[kx j]? = some (.exactly (tmS j) "java/lang/String") := by decide +kernel
theorem fs_co : ∀ j, j < 22 → FLT[kx j + 1]? = some (.eq (.field (tmS j) "java/lang/String" "coder" "B") (.int 0)) := by decide +kernel
theorem fs_ar : ∀ j, j < 22 → FLT[kx j + 2]? = some (.arrayOf (.field (tmS j) "java/lang/String" "value" "[B") .byte) := by decide +kernel
theorem fs_le : ∀ j, j < 22 → FLT[kx j + 3]? = some (.eq (.length (.field (tmS j) "java/lang/String" "value" "[B")) (.int (Int32.ofNat (sLen j)))) := by decide +kernel
theorem fs_el : ∀ j, j < 22 → ∀ k, k < sLen j → FLT[kx j + 4 + k]? = some (.eq (.elem (.field (tmS j) "java/lang/String" "value" "[B") (.int (Int32.ofNat k))) (.int (sAt j k))) := by decide +kernel
theorem fs_sh : ∀ j, j < 22 → sLen j < 2 ^ 31 := by decide +kernel
theorem fv_ex : ∀ i, i < 11 → FLT[ixG [45, 50, 56, 63, 71, 80, 90, 101, 113, 4, 126] i]? = some (.exactly (tmV i) "ScoreOrchestra$Verb") := by decide +kernel
theorem fv_or : ∀ i, i < 11 → FLT[ixG [46, 51, 57, 64, 72, 81, 91, 102, 114, 5, 127] i]? = some (.eq (.field (tmV i) "java/lang/Enum" "ordinal" "I") (.int (nI i))) := by decide +kernel
theorem fv_wo : ∀ i, i < 11 → FLT[ixG [47, 52, 58, 65, 73, 82, 92, 103, 115, 6, 128] i]? = some (.eq (.field (tmV i) "ScoreOrchestra$Verb" "word" "Ljava/lang/String;") (tmS (2 * i))) := by decide +kernel
theorem fv_fo : ∀ i, i < 11 → FLT[ixG [48, 53, 59, 66, 74, 83, 93, 104, 116, 7, 129] i]? = some (.eq (.field (tmV i) "ScoreOrchestra$Verb" "form" "Ljava/lang/String;") (tmS (2 * i + 1))) := by decide +kernel
theorem fl_ar : FLT[12]? = some (.arrayOf tmL (.object "ScoreOrchestra$Verb")) := by decide +kernel
theorem fl_le : FLT[13]? = some (.eq (.length tmL) (.int (Int32.ofNat 11))) := by decide +kernel
theorem fl_el : ∀ i, i < 11 → FLT[ixG [15, 16, 17, 18, 19, 20, 21, 22, 23, 24, 25] i]? = some (.eq (.elem tmL (.int (Int32.ofNat i))) (tmV i)) := by decide +kernel
theorem fw_ar : FLT[32]? = some (.arrayOf tmW .int) := by decide +kernel
theorem fw_le : FLT[33]? = some (.eq (.length tmW) (.int (Int32.ofNat 11))) := by decide +kernel
theorem fw_el : ∀ i, i < 11 → FLT[ixG [34, 35, 36, 37, 38, 39, 40, 41, 42, 43, 44] i]? = some (.eq (.elem tmW (.int (Int32.ofNat i))) (.int (swv i))) := by decide +kernel
theorem fc_cs : FLT[26]? = some (.eq (.static "java/lang/String" "COMPACT_STRINGS" "Z") (.int 1)) := by decide +kernel
theorem fc_si : FLT[27]? = some (.isRef (.static "jdk/internal/util/Preconditions" "SIOOBE_FORMATTER" "Ljava/util/function/BiFunction;")) := by decide +kernel
theorem fc_us : FLT[8]? = some (.isRef (.static Bundle.tN "UNASSIGNED_STACK" Bundle.steD)) := by decide +kernel
theorem fc_ss : FLT[9]? = some (.isRef (.static Bundle.tN "SUPPRESSED_SENTINEL" Bundle.listD)) := by decide +kernel
theorem fn_0 : FLT[150]? = some (.not (.castable "java/lang/IllegalStateException" "java/lang/IllegalArgumentException")) := by decide +kernel
theorem fn_1 : FLT[179]? = some (.not (.castable "java/lang/IllegalArgumentException" "java/lang/IndexOutOfBoundsException")) := by decide +kernel
theorem fn_2 : FLT[181]? = some (.not (.castable "java/lang/UnsupportedOperationException" "java/lang/IndexOutOfBoundsException")) := by decide +kernel
theorem fn_3 : FLT[151]? = some (.not (.castable "java/lang/UnsupportedOperationException" "java/lang/IllegalArgumentException")) := by decide +kernel
/-- the enum's constants, its tables, its texts -/
theorem kv_start {args : Array Value} {s : State} (hf : ∀ w ∈ FLT, w.before args s = true) (hts : ∀ w ∈ lw_tbl, w.before args s = true) (gC0 : (Nat → ClassId) × (Nat → Nat → Nat) × (Nat → ClassId)) : ∃ gv : Nat → Nat, KV (s.heap, gC0.1, gC0.2.1, gC0.2.2, gv) s := by
  have hA : ∀ a : Nat, a < s.heap.size → ¬ (fun q : Nat => s.heap.size ≤ q) a := fun a h => Nat.not_le.mpr h
  have hS : ∀ j : Nat, ∃ q : Nat × Nat, j < 22 → (tmS j).eval args s none [] s = some (.ref q.1) ∧ va_O "java/lang/String" q.1 (fun q => s.heap.size ≤ q) s s.heap ∧ va_OF "java/lang/String" "value" "[B" (.ref q.2) q.1 (fun q => s.heap.size ≤ q) s s.heap ∧ va_OF "java/lang/String" "coder" "B" (.int 0) q.1 (fun q => s.heap.size ≤ q) s s.heap ∧ va_T .byte q.2 (sLen j) (fun k => .int (sAt j k)) (fun q => s.heap.size ≤ q) s s.heap := by
    intro j
    by_cases hj : j < 22
    · obtain ⟨a, c, cA, kA, q1, q2, q3, q4, q5, q6, -⟩ := Cond.exactly_spec (args := args) (first := s) (o := none) (s := s) (idx := []) (t := tmS j) (cls := "java/lang/String") (hf _ (fl_mem (fs_ex j hj)))
      obtain ⟨t, ht, hT⟩ := va_Tof (f := fun k => .int (sAt j k)) (A := fun q => s.heap.size ≤ q) (fs_sh j hj) (hf _ (fl_mem (fs_ar j hj))) (va_eqt (hf _ (fl_mem (fs_le j hj)))) (fun k hk => va_eqt (hf _ (fl_mem (fs_el j hj k hk)))) hA
      exact ⟨(a, t), fun _ => ⟨q1, ⟨cA, q3, q5, by rw [q6]; exact q2, hA a (Array.getElem?_eq_some_iff.mp q3).1⟩, vk_OFof q1 ht hA, vk_OFof q1 (va_eqt (hf _ (fl_mem (fs_co j hj)))) hA, hT⟩⟩
    · exact ⟨(0, 0), fun h => absurd h hj⟩
  obtain ⟨ad, had⟩ := Classical.axiomOfChoice hS
  have hV : ∀ i : Nat, ∃ a : Nat, i < 11 → (tmV i).eval args s none [] s = some (.ref a) ∧ va_O "ScoreOrchestra$Verb" a (fun q => s.heap.size ≤ q) s s.heap ∧ va_OF "ScoreOrchestra$Verb" "word" "Ljava/lang/String;" (.ref (ad (2 * i)).1) a (fun q => s.heap.size ≤ q) s s.heap ∧ va_OF "ScoreOrchestra$Verb" "form" "Ljava/lang/String;" (.ref (ad (2 * i + 1)).1) a (fun q => s.heap.size ≤ q) s s.heap ∧ va_OF "java/lang/Enum" "ordinal" "I" (.int (nI i)) a (fun q => s.heap.size ≤ q) s s.heap := by
    intro i
    by_cases hi : i < 11
    · obtain ⟨a, c, cA, kA, q1, q2, q3, q4, q5, q6, -⟩ := Cond.exactly_spec (args := args) (first := s) (o := none) (s := s) (idx := []) (t := tmV i) (cls := "ScoreOrchestra$Verb") (hf _ (fl_mem (fv_ex i hi)))
      exact ⟨a, fun _ => ⟨q1, ⟨cA, q3, q5, by rw [q6]; exact q2, hA a (Array.getElem?_eq_some_iff.mp q3).1⟩, vk_OFof q1 (va_eqv (hf _ (fl_mem (fv_wo i hi))) (had (2 * i) (by omega)).1) hA, vk_OFof q1 (va_eqv (hf _ (fl_mem (fv_fo i hi))) (had (2 * i + 1) (by omega)).1) hA, vk_OFof q1 (va_eqt (hf _ (fl_mem (fv_or i hi)))) hA⟩⟩
    · exact ⟨0, fun h => absurd h hi⟩
  obtain ⟨av, hav⟩ := Classical.axiomOfChoice hV
  obtain ⟨tL, hL1, hL2⟩ := va_Tof (f := fun i => .ref (av i)) (A := fun q => s.heap.size ≤ q) (by decide) (hf _ (fl_mem fl_ar)) (va_eqt (hf _ (fl_mem fl_le))) (fun i hi => va_eqv (hf _ (fl_mem (fl_el i hi))) (hav i hi).1) hA
  obtain ⟨tW, hW1, hW2⟩ := va_Tof (f := fun i => .int (swv i)) (A := fun q => s.heap.size ≤ q) (by decide) (hf _ (fl_mem fw_ar)) (va_eqt (hf _ (fl_mem fw_le))) (fun i hi => va_eqt (hf _ (fl_mem (fw_el i hi)))) hA
  let gv : Nat → Nat := fun n => if n < 11 then av n else if n = 50 then tL else if n = 51 then tW else if n < 200 then (ad (n - 100)).1 else (ad (n - 200)).2
  have g1 : ∀ i, i < 11 → gv i = av i := fun i hi => if_pos hi
  have g2 : ∀ j, j < 22 → gv (100 + j) = (ad j).1 := fun j hj => by
    show (if 100 + j < 11 then _ else if 100 + j = 50 then _ else if 100 + j = 51 then _ else if 100 + j < 200 then (ad (100 + j - 100)).1 else _) = _
    rw [if_neg (by omega), if_neg (by omega), if_neg (by omega), if_pos (by omega), Nat.add_sub_cancel_left]
  have g3 : ∀ j, gv (200 + j) = (ad j).2 := fun j => by
    show (if 200 + j < 11 then _ else if 200 + j = 50 then _ else if 200 + j = 51 then _ else if 200 + j < 200 then _ else (ad (200 + j - 200)).2) = _
    rw [if_neg (by omega), if_neg (by omega), if_neg (by omega), if_neg (by omega), Nat.add_sub_cancel_left]
  refine ⟨gv, va_Zof (hts _ (lw_g5 (i := 88) (by decide +kernel))) (hts _ (lw_g1 (i := 1) (by decide +kernel))) hL1 hA, ?_, va_Zof (hts _ (lw_g5 (i := 190) (by decide +kernel))) (hts _ (lw_g1 (i := 27) (by decide +kernel))) hW1 hA, hW2, ?_, fun i hi => ?_, fun j hj => ?_, va_Zof (hts _ (lw_g5 (i := 102) (by decide +kernel))) (hts _ (lw_g1 (i := 21) (by decide +kernel))) (va_eqi (hf _ (fl_mem fc_cs))) hA, va_Zqof (hts _ (lw_g5 (i := 119) (by decide +kernel))) (hts _ (lw_g1 (i := 25) (by decide +kernel))) (hf _ (fl_mem fc_si)) hA⟩
  · obtain ⟨cell, k1, k2, k3, k4, k5, k6, k7⟩ := hL2
    exact ⟨cell, k1, k2, k3, k4, k5, fun i hi => by rw [k6 i hi]; show some (Value.ref (av i)) = some (.ref (gv i)); rw [g1 i hi], k7⟩
  · exact va_Zof (hts _ (lw_g1 (i := 177) (by decide +kernel))) (hts _ (lw_g1 (i := 9) (by decide +kernel))) (hav 9 (by decide)).1 hA
  · obtain ⟨k1, k2, k3, k4, k5⟩ := hav i hi
    show va_O _ (gv i) _ s s.heap ∧ va_OF _ _ _ (.ref (gv (100 + 2 * i))) (gv i) _ s s.heap ∧ va_OF _ _ _ (.ref (gv (100 + (2 * i + 1)))) (gv i) _ s s.heap ∧ va_OF _ _ _ _ (gv i) _ s s.heap
    rw [g1 i hi, g2 _ (by omega), g2 _ (by omega)]
    exact ⟨k2, k3, k4, k5⟩
  · obtain ⟨k1, k2, k3, k4, k5⟩ := had j hj
    show va_O _ (gv (100 + j)) _ s s.heap ∧ va_OF _ _ _ (.ref (gv (200 + j))) (gv (100 + j)) _ s s.heap ∧ va_OF _ _ _ _ (gv (100 + j)) _ s s.heap ∧ va_T _ (gv (200 + j)) _ _ _ s s.heap
    rw [g2 j hj, g3 j]
    exact ⟨k2, k3, k4, k5⟩
