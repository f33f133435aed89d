/-! ALL FACTS OF THE TABLES AT THE LAW'S START -/
theorem cls_one {s : State} {args : Array Value} (hts : ∀ w ∈ lw_tbl, w.before args s = true) {t : Nat} (h1 : inC t) (h2 : Cond.instantiable (clR t) (clN t) ∈ lw_tbl) : ∃ q : ClassId × (Nat → Nat), u_Kn s (clR t) (clT t) (clN t) q.1 q.2 := by
  obtain ⟨c, i, h⟩ := u_known (ws := BIG) (fun w hw => hts w (big_lw hw)) h1 (hts _ h2)
  exact ⟨(c, i), h⟩
theorem cls_all {s : State} {args : Array Value} (hts : ∀ w ∈ lw_tbl, w.before args s = true) : ∃ (c : Nat → ClassId) (i : Nat → Nat → Nat), ∀ t, isC t = true → u_Kn s (clR t) (clT t) (clN t) (c t) (i t) := by
  have h : ∀ t : Nat, ∃ q : ClassId × (Nat → Nat), isC t = true → u_Kn s (clR t) (clT t) (clN t) q.1 q.2 := by
    intro t
    by_cases hc : isC t = true
    · have ht : t = 1 ∨ t = 2 ∨ t = 3 ∨ t = 4 ∨ t = 5 ∨ t = 6 ∨ t = 8 ∨ t = 9 := by
        unfold isC at hc
        simpa [or_assoc] using hc
      rcases ht with rfl | rfl | rfl | rfl | rfl | rfl | rfl | rfl
      · exact (cls_one hts inC1 (lw_g1 (i := 171) (by decide +kernel))).imp fun _ h _ => h
      · exact (cls_one hts inC2 (lw_g1 (i := 126) (by decide +kernel))).imp fun _ h _ => h
      · exact (cls_one hts inC3 (lw_g1 (i := 148) (by decide +kernel))).imp fun _ h _ => h
      · exact (cls_one hts inC4 (lw_g1 (i := 44) (by decide +kernel))).imp fun _ h _ => h
      · exact (cls_one hts inC5 (lw_g1 (i := 37) (by decide +kernel))).imp fun _ h _ => h
      · exact (cls_one hts inC6 (lw_g1 (i := 154) (by decide +kernel))).imp fun _ h _ => h
      · exact (cls_one hts inC8 (lw_g1 (i := 29) (by decide +kernel))).imp fun _ h _ => h
      · exact (cls_one hts inC9 (lw_g6 (i := 8) (by decide +kernel))).imp fun _ h _ => h
    · exact ⟨(0, fun _ => 0), fun q => absurd q hc⟩
  obtain ⟨f, hf⟩ := Classical.axiomOfChoice h
  exact ⟨fun t => (f t).1, fun t => (f t).2, hf⟩
theorem arr_prim {s : State} {args : Array Value} {ty : FieldType} (h : (Cond.arrayClass ty).before args s = true) (hp : ∀ C, ty ≠ .object C) : ∃ cA : ClassId, ArrOfT s cA ty ∧ va_RA s cA ty := by
  obtain ⟨cA, kA, comp, h1, h2, h3⟩ := Cond.arrayClass_spec (args := args) (first := s) (o := none) (s := s) (idx := []) h
  refine ⟨cA, fun n z => ⟨fun k h => (by cases h), kA, h2, comp, h3⟩, ?_⟩
  cases ty with
  | object C => exact absurd rfl (hp C)
  | _ => exact h1
theorem arr_obj {s : State} {C : String} (h : va_AO C s) : ∃ cA : ClassId, ArrOfT s cA (.object C) ∧ va_RA s cA (.object C) := by
  obtain ⟨comp, cA, kA, h1, -, h3, h4, h5⟩ := Cond.arrayOver_spec (args := #[]) (first := s) (o := none) (s := s) (idx := []) h
  exact ⟨cA, fun n z => ⟨fun k h => (by cases h), kA, h3, comp, h4⟩, kA, comp, h3, h4, h1, h5⟩
theorem arr_all {s : State} {args : Array Value} (hts : ∀ w ∈ lw_tbl, w.before args s = true) (hA : AO s) : ∃ c : Nat → ClassId, ∀ t, isA t = true → ArrOfT s (c t) (eT t) ∧ va_RA s (c t) (eT t) := by
  have h : ∀ t : Nat, ∃ q : ClassId, isA t = true → ArrOfT s q (eT t) ∧ va_RA s q (eT t) := by
    intro t
    by_cases hc : isA t = true
    · have ht : (20 ≤ t ∧ t ≤ 25) ∨ t = 26 ∨ t = 27 ∨ t = 28 ∨ t = 29 ∨ t = 30 ∨ t = 31 := by
        unfold isA at hc
        simp only [Bool.and_eq_true, Nat.ble_eq] at hc
        omega
      rcases ht with ht | rfl | rfl | rfl | rfl | rfl | rfl
      · have he : eT t = .int := by
          rcases (show t = 20 ∨ t = 21 ∨ t = 22 ∨ t = 23 ∨ t = 24 ∨ t = 25 by omega) with rfl | rfl | rfl | rfl | rfl | rfl <;> rfl
        rw [he]
        exact (arr_prim (hts _ (lw_g1 (i := 85) (by decide +kernel))) (fun _ h => by cases h)).imp fun _ h _ => h
      · exact (arr_prim (hts (.arrayClass .char) (lw_g1 (i := 168) (by decide +kernel))) (fun _ h => by cases h)).imp fun _ h _ => h
      · exact (arr_prim (hts (.arrayClass .long) (lw_g8 (i := 74) (by decide +kernel))) (fun _ h => by cases h)).imp fun _ h _ => h
      · exact (arr_prim (hts (.arrayClass .double) (lw_g8 (i := 75) (by decide +kernel))) (fun _ h => by cases h)).imp fun _ h _ => h
      · exact (arr_obj hA.1).imp fun _ h _ => h
      · exact (arr_obj hA.2.1).imp fun _ h _ => h
      · exact (arr_obj hA.2.2).imp fun _ h _ => h
    · exact ⟨0, fun q => absurd q hc⟩
  obtain ⟨f, hf⟩ := Classical.axiomOfChoice h
  exact ⟨f, hf⟩
theorem ao_start {s : State} {args : Array Value} (hts : ∀ w ∈ lw_tbl, w.before args s = true) : AO s :=
  ⟨va_AO.of (hts (.arrayOver (.object RX4)) (lw_g1 (i := 43) (by decide +kernel))), va_AO.of (hts (.arrayOver (.object RX5)) (lw_g1 (i := 132) (by decide +kernel))), va_AO.of (hts (.arrayOver (.object RX1)) (lw_g1 (i := 170) (by decide +kernel)))⟩
theorem str_one {s : State} {args : Array Value} {c t : String} {n : Nat} (h : (Cond.stringRef c n t).before args s = true) : ∃ a, vk_R c n t a s := by
  have h1 := h
  have hcur : ∃ cur, s.vm.findClass c = some cur := by
    simp only [Cond.before, Cond.holds, Cond.value] at h1
    cases hc : s.vm.findClass c with
    | none => simp [hc] at h1
    | some cur => exact ⟨cur, rfl⟩
  obtain ⟨cur, hcur⟩ := hcur
  obtain ⟨k, cf, i, a, -, -, -, -, -, h6⟩ := Cond.stringRef_spec (args := args) (first := s) (o := none) (s := s) (idx := []) hcur h
  exact ⟨a, vk_R.of h h6⟩
theorem kn_start {s : State} {args : Array Value} (hts : ∀ w ∈ lw_tbl, w.before args s = true) (hf : ∀ w ∈ FLT, w.before args s = true) : ∃ g : GP, gH g = s.heap ∧ KN g s := by
  have hA : ∀ a : Nat, a < s.heap.size → ¬ (fun q : Nat => s.heap.size ≤ q) a := fun a h => Nat.not_le.mpr h
  obtain ⟨c, i, hc⟩ := cls_all hts
  obtain ⟨ca, hca⟩ := arr_all hts (ao_start hts)
  obtain ⟨gv, hgv⟩ := kv_start hf hts (c, i, ca)
  refine ⟨(s.heap, c, i, ca, gv), rfl, hc, hca, vx_Zqof (hts _ (lw_g2 (i := 101) (by decide +kernel))) (hts _ (lw_g1 (i := 13) (by decide +kernel))) (hf _ (fl_mem fc_us)) hA, vx_Zqof (hts _ (lw_g2 (i := 103) (by decide +kernel))) (hts _ (lw_g1 (i := 13) (by decide +kernel))) (hf _ (fl_mem fc_ss)) hA, fun w hw => ?_, fun q hq => ?_, fun q hq => ?_, hgv, ?_, fun q hq => ?_, fun E hE => ?_⟩
  · have h1 := List.mem_filter.mp hw
    simp only [Bool.and_eq_true] at h1
    exact va_tabs h1.2.2 rfl (hts w h1.1)
  · obtain ⟨w, hw, e⟩ := List.mem_filterMap.mp hq
    cases w <;> simp at e
    subst e
    exact str_one (hts _ hw)
  · obtain ⟨w, hw, e⟩ := List.mem_filterMap.mp hq
    cases w <;> simp at e
    subst e
    exact va_Nw.of rfl (hts _ hw)
  · exact va_Nw.of rfl (hts _ (lw_g5 (i := 87) (by decide +kernel)))
  · rcases List.mem_cons.mp hq with rfl | hq
    · exact va_Nc.of (hf _ (fl_mem fn_0))
    rcases List.mem_cons.mp hq with rfl | hq
    · exact va_Nc.of (hf _ (fl_mem fn_1))
    rcases List.mem_cons.mp hq with rfl | hq
    · exact va_Nc.of (hf _ (fl_mem fn_2))
    rw [List.mem_singleton.mp hq]
    exact va_Nc.of (hf _ (fl_mem fn_3))
  · rcases List.mem_cons.mp hE with rfl | hE
    · exact va_Nw.of rfl (hts _ (lw_g2 (i := 76) (by decide +kernel)))
    rcases List.mem_cons.mp hE with rfl | hE
    · exact va_Nw.of rfl (hts _ (lw_g2 (i := 148) (by decide +kernel)))
    rcases List.mem_cons.mp hE with rfl | hE
    · exact va_Nw.of rfl (hts _ (lw_g2 (i := 164) (by decide +kernel)))
    rcases List.mem_cons.mp hE with rfl | hE
    · exact va_Nw.of rfl (hts _ (lw_g2 (i := 180) (by decide +kernel)))
    rcases List.mem_cons.mp hE with rfl | hE
    · exact va_Nw.of rfl (hts _ (lw_g4 (i := 129) (by decide +kernel)))
    rw [List.mem_singleton.mp hE]
    exact va_Nw.of rfl (hts _ (lw_g4 (i := 235) (by decide +kernel)))
