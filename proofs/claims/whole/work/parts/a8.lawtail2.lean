/-! THE LAW'S TAILS: doubles, and questions that don't throw -/
theorem dn_self {x : UInt64} (h : nn64 x = true) : Op.cmpValue (FP.dcmp x x) .l = 0 := by
  have h0 : FP.Core.val64 x ≠ .nan := by
    rw [← FP.Core.notNaN_iff]
    have h1 : ¬ FP.Core.dIsNaN x = true := by
      rw [FP.Core.isNaN_bits]
      unfold nn64 at h
      rw [decide_eq_true_eq, UInt64.le_iff_toNat_le, UInt64.toNat_and] at h
      have h2 : x.toNat &&& (2 ^ 63 - 1) ≤ 9218868437227405312 := h
      rw [Nat.and_two_pow_sub_one_eq_mod] at h2
      omega
    simpa using h1
  rw [show FP.dcmp x x = some .eq from FP.Core.dcmp_self h0]
  rfl
section MYLAW3
variable {p : Program} {l : Launch} {e : Env} {R : Room} {s : State} {m : MethodId} {args : Array Value} {below : List Frame} {meth : Method} {c : Code} {H : Heap} {locs : List Loc} {cells slots : Nat} {Q : State → Prop}
variable {cc cy c1 c2 : ByteArray} {pc : Nat} {ls : Array Slot} {rest st : List Value} {g : GP} {own : String} {nL nY a t k n idx i1 i2 n1 n2 f1 f2 l1 l2 : Nat} {M M1 M2 : Mem} {lv : List (Nat × Value)} {y1 y2 : MethodName} {r1 r2 : Option FieldType}
theorem w_cmpD {k9 : Int32} {b : UInt64} {o2 : Int} {tg : Nat} (X : CX g l p s m args meth c own cc nL) (hH : HR g M H) (hl : lv_has ls nL lv) (k4 : Nat) (h4 : lv[k4]? = some (4, .ref (adr g 214))) (k6 : Nat) (h6 : lv[k6]? = some (6, .int k9)) (k7 : Nat) (h7 : lv[k7]? = some (7, .double b)) (hv : k9 = 0 → mD M 214 0 = b ∧ nn64 b = true)
    (d1 : decode cc pc = .ok (.iload 6, 2)) (d2 : decode cc (pc + 2) = .ok (.ifCond .ne 35, 3)) (d3 : decode cc (pc + 5) = .ok (.aload 4, 2)) (d4 : decode cc (pc + 7) = .ok (.iconst 0, 1)) (d5 : decode cc (pc + 8) = .ok (.daload, 1)) (d6 : decode cc (pc + 9) = .ok (.dload 7, 2)) (d8 : decode cc (pc + 11) = .ok (.dcmp .l, 1)) (d9 : decode cc (pc + 12) = .ok (.ifCond .eq 25, 3)) (d10 : decode cc (pc + 37) = .ok (.goto o2, 3)) (ht : ((pc + 37 : Nat) : Int) + o2 = (tg : Int))
    (kk : W p l e R s m args below meth c H locs cells slots Q (F0 m tg ls rest)) : W p l e R s m args below meth c H locs cells slots Q (F0 m pc ls rest) := by
  have hx := X.1
  have hb := X.2.1
  refine lv_iload hx hb d1 (lv_at hl k6 h6) ?_
  refine lv_if_ne (tgt := pc + 37) hx hb d2 (by omega) (fun h => ?_) (fun h => ?_)
  · exact lv_goto (tgt := tg) hx hb d10 ht kk
  · obtain ⟨hv1, hv2⟩ := hv h
    refine lv_aload hx hb d3 (lv_at hl k4 h4) ?_
    refine lv_iconst (v := 0) hx hb d4 (by decide) ?_
    refine m_dald (i := 0) X hH (show tyT 214 = 28 by decide) rfl (by decide) (fun _ => rfl) rfl (n := 1) rfl (by decide) d5 ?_
    refine lv_dload hx hb d6 (lv_at hl k7 h7) ?_
    refine lv_dcmp hx hb d8 ?_
    rw [show (0 : Int32).toNatClampNeg = 0 from rfl, hv1, dn_self hv2]
    refine lv_if_eq (tgt := pc + 37) hx hb d9 (by omega) (fun _ => ?_) (fun h => absurd rfl h)
    exact lv_goto (tgt := tg) hx hb d10 ht kk
theorem w_cmpF {k9 : Int32} {b : UInt32} {o2 : Int} {tg : Nat} (X : CX g l p s m args meth c own cc nL) (hH : HR g M H) (hl : lv_has ls nL lv) (k4 : Nat) (h4 : lv[k4]? = some (4, .ref (adr g 214))) (k6 : Nat) (h6 : lv[k6]? = some (6, .int k9)) (k7 : Nat) (h7 : lv[k7]? = some (7, .float b)) (hv : k9 = 0 → mD M 214 0 = FP.f2d b ∧ nn64 (FP.f2d b) = true)
    (d1 : decode cc pc = .ok (.iload 6, 2)) (d2 : decode cc (pc + 2) = .ok (.ifCond .ne 36, 3)) (d3 : decode cc (pc + 5) = .ok (.aload 4, 2)) (d4 : decode cc (pc + 7) = .ok (.iconst 0, 1)) (d5 : decode cc (pc + 8) = .ok (.daload, 1)) (d6 : decode cc (pc + 9) = .ok (.fload 7, 2)) (d7 : decode cc (pc + 11) = .ok (.f2d, 1)) (d8 : decode cc (pc + 12) = .ok (.dcmp .l, 1)) (d9 : decode cc (pc + 13) = .ok (.ifCond .eq 25, 3)) (d10 : decode cc (pc + 38) = .ok (.goto o2, 3)) (ht : ((pc + 38 : Nat) : Int) + o2 = (tg : Int))
    (kk : W p l e R s m args below meth c H locs cells slots Q (F0 m tg ls rest)) : W p l e R s m args below meth c H locs cells slots Q (F0 m pc ls rest) := by
  have hx := X.1
  have hb := X.2.1
  refine lv_iload hx hb d1 (lv_at hl k6 h6) ?_
  refine lv_if_ne (tgt := pc + 38) hx hb d2 (by omega) (fun h => ?_) (fun h => ?_)
  · exact lv_goto (tgt := tg) hx hb d10 ht kk
  · obtain ⟨hv1, hv2⟩ := hv h
    refine lv_aload hx hb d3 (lv_at hl k4 h4) ?_
    refine lv_iconst (v := 0) hx hb d4 (by decide) ?_
    refine m_dald (i := 0) X hH (show tyT 214 = 28 by decide) rfl (by decide) (fun _ => rfl) rfl (n := 1) rfl (by decide) d5 ?_
    refine lv_fload hx hb d6 (lv_at hl k7 h7) ?_
    refine lv_f2d hx hb d7 (nn64_n hv2) ?_
    refine lv_dcmp hx hb d8 ?_
    rw [show (0 : Int32).toNatClampNeg = 0 from rfl, hv1, dn_self hv2]
    refine lv_if_eq (tgt := pc + 38) hx hb d9 (by omega) (fun _ => ?_) (fun h => absurd rfl h)
    exact lv_goto (tgt := tg) hx hb d10 ht kk
/-- x.q() == m.q() -/
theorem w_askI {v : Int32} {o2 : Int} {tg : Nat} (X : CX g l p s m args meth c own cc nL) (hH : HR g M H) (hL : LK g s H locs) (hl : lv_has ls nL lv) (k1 : Nat) (h1 : lv[k1]? = some (1, .ref (adr g 1))) (k2 : Nat) (h2 : lv[k2]? = some (2, .ref (adr g 204)))
    (C1 : CO g l y1 c1 n1 r1 f1 l1 rvI [.ref (adr g 1)] M (.inl v : Int32 ⊕ String) M1) (o1 : okV y1 c1 n1 r1 0) (g1 : y1.cls = clR 8) (w1 : Cond.methodLink own i1 y1 ∈ BIG) (C2 : CO g l y2 c2 n2 r2 f2 l2 rvI [.ref (adr g 204)] M1 (.inl v : Int32 ⊕ String) M2) (o2' : okV y2 c2 n2 r2 0) (g2 : y2.cls = clR 9) (w2 : Cond.methodLink own i2 y2 ∈ BIG)
    (hR1 : f1 + 1 ≤ R.frames ∧ 8 + (n1 + 11) + l1 ≤ R.locals) (hR2 : f2 + 1 ≤ R.frames ∧ 8 + (n2 + 11) + l2 ≤ R.locals) (hf : cells ≤ R.cells ∧ slots ≤ R.slots)
    (d1 : decode cc pc = .ok (.aload_n 1, 1)) (d2 : decode cc (pc + 1) = .ok (.invokevirtual i1, 3)) (d3 : decode cc (pc + 4) = .ok (.aload_n 2, 1)) (d4 : decode cc (pc + 5) = .ok (.invokevirtual i2, 3)) (d5 : decode cc (pc + 8) = .ok (.if_icmp .eq o2, 3)) (ht : ((pc + 8 : Nat) : Int) + o2 = (tg : Int))
    (kk : ∀ H1 locs1, HR g M2 H1 → LK g s H1 locs1 → W p l e R s m args below meth c H1 locs1 cells slots Q (F0 m tg ls [])) : W p l e R s m args below meth c H locs cells slots Q (F0 m pc ls []) := by
  have hx := X.1
  have hb := X.2.1
  refine lv_aload_n hx hb d1 rfl (lv_at hl k1 h1) ?_
  refine my_done hL (my_runV X hH hl.1 C1 o1 w1 (show tyT 1 = 8 by decide) rfl (by decide) g1 rfl rfl hR1 hf (Nat.zero_le _) d2) (fun H locs hH hL => ?_)
  refine lv_aload_n hx hb d3 rfl (lv_at hl k2 h2) ?_
  refine my_done hL (my_runV X hH hl.1 C2 o2' w2 (show tyT 204 = 9 by decide) rfl (by decide) g2 rfl rfl hR2 hf (Nat.le_of_ble_eq_true rfl) d4) (fun H locs hH hL => ?_)
  exact lv_icmp_eq (tgt := tg) hx hb d5 ht (fun _ => kk H locs hH hL) (fun h => absurd rfl h)
theorem w_askJ {v : Int64} {o2 : Int} {tg : Nat} (X : CX g l p s m args meth c own cc nL) (hH : HR g M H) (hL : LK g s H locs) (hl : lv_has ls nL lv) (k1 : Nat) (h1 : lv[k1]? = some (1, .ref (adr g 1))) (k2 : Nat) (h2 : lv[k2]? = some (2, .ref (adr g 204)))
    (C1 : CO g l y1 c1 n1 r1 f1 l1 rvJ [.ref (adr g 1)] M (.inl v : Int64 ⊕ String) M1) (o1 : okV y1 c1 n1 r1 0) (g1 : y1.cls = clR 8) (w1 : Cond.methodLink own i1 y1 ∈ BIG) (C2 : CO g l y2 c2 n2 r2 f2 l2 rvJ [.ref (adr g 204)] M1 (.inl v : Int64 ⊕ String) M2) (o2' : okV y2 c2 n2 r2 0) (g2 : y2.cls = clR 9) (w2 : Cond.methodLink own i2 y2 ∈ BIG)
    (hR1 : f1 + 1 ≤ R.frames ∧ 8 + (n1 + 11) + l1 ≤ R.locals) (hR2 : f2 + 1 ≤ R.frames ∧ 8 + (n2 + 11) + l2 ≤ R.locals) (hf : cells ≤ R.cells ∧ slots ≤ R.slots)
    (d1 : decode cc pc = .ok (.aload_n 1, 1)) (d2 : decode cc (pc + 1) = .ok (.invokevirtual i1, 3)) (d3 : decode cc (pc + 4) = .ok (.aload_n 2, 1)) (d4 : decode cc (pc + 5) = .ok (.invokevirtual i2, 3)) (d5 : decode cc (pc + 8) = .ok (.lcmp, 1)) (d6 : decode cc (pc + 9) = .ok (.ifCond .eq o2, 3)) (ht : ((pc + 9 : Nat) : Int) + o2 = (tg : Int))
    (kk : ∀ H1 locs1, HR g M2 H1 → LK g s H1 locs1 → W p l e R s m args below meth c H1 locs1 cells slots Q (F0 m tg ls [])) : W p l e R s m args below meth c H locs cells slots Q (F0 m pc ls []) := by
  have hx := X.1
  have hb := X.2.1
  refine lv_aload_n hx hb d1 rfl (lv_at hl k1 h1) ?_
  refine my_done hL (my_runV X hH hl.1 C1 o1 w1 (show tyT 1 = 8 by decide) rfl (by decide) g1 rfl rfl hR1 hf (Nat.zero_le _) d2) (fun H locs hH hL => ?_)
  refine lv_aload_n hx hb d3 rfl (lv_at hl k2 h2) ?_
  refine my_done hL (my_runV X hH hl.1 C2 o2' w2 (show tyT 204 = 9 by decide) rfl (by decide) g2 rfl rfl hR2 hf (Nat.le_of_ble_eq_true rfl) d4) (fun H locs hH hL => ?_)
  refine W.lcmp hx hb d5 ?_
  rw [lg_same]
  exact lv_if_eq (tgt := tg) hx hb d6 ht (fun _ => kk H locs hH hL) (fun h => absurd rfl h)
end MYLAW3
