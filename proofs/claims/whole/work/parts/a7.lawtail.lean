/-! THE LAW'S TAILS: the same thrown, the same answer -/
theorem lg_same (x : Int64) : lg_cmp x x = 0 := by
  unfold lg_cmp
  rw [if_neg (by intro h; exact absurd h (Int64.lt_irrefl)), if_pos rfl]
section MYLAW2
variable {p : Program} {l : Launch} {e : Env} {R : Room} {s : State} {m : MethodId} {args : Array Value} {below : List Frame} {meth : Method} {c : Code} {H : Heap} {locs : List Loc} {cells slots : Nat} {Q : State → Prop}
variable {cc cy : ByteArray} {pc : Nat} {ls : Array Slot} {rest st : List Value} {g : GP} {own : String} {nL nY a t k n idx fr lo : Nat} {M M1 M2 : Mem} {lv : List (Nat × Value)}
/-- thrown() == k -/
theorem w_thr {v : Int32} (hst0 : l.stackTraces = false) (X : CX g l p s m args meth c own cc nL) (hH : HR g M H) (hL : LK g s H locs) (hl : lv_has ls nL lv) (hR : 1 ≤ R.frames ∧ 20 ≤ R.locals) (hf : cells ≤ R.cells ∧ slots ≤ R.slots) (k2 : Nat) (h2 : lv[k2]? = some (2, .ref (adr g 204))) (k6 : Nat) (h6 : lv[k6]? = some (6, .int v)) (hv : mI M 204 0 = v)
    (hlk : Cond.methodLink own idx yX9_thrown ∈ BIG) (d1 : decode cc pc = .ok (.aload_n 2, 1)) (d2 : decode cc (pc + 1) = .ok (.invokevirtual idx, 3)) (d3 : decode cc (pc + 4) = .ok (.iload 6, 2)) (d4 : decode cc (pc + 6) = .ok (.if_icmp .eq 5, 3))
    (kk : ∀ H1 locs1, HR g M H1 → LK g s H1 locs1 → W p l e R s m args below meth c H1 locs1 cells slots Q (F0 m (pc + 11) ls rest)) (hW : (rest.map fun v => v.category).sum ≤ 8) : W p l e R s m args below meth c H locs cells slots Q (F0 m pc ls rest) := by
  have hx := X.1
  have hb := X.2.1
  refine lv_aload_n hx hb d1 rfl (lv_at hl k2 h2) ?_
  refine my_done hL (my_runV X hH hl.1 (co_X9_thrown g l hst0 204 M (by decide) v (by rw [F_X9_thrown, hv])) ok_X9_thrown hlk (show tyT 204 = 9 by decide) rfl (by decide) rfl rfl rfl ⟨hR.1, hR.2⟩ ⟨hf.1, hf.2⟩ hW d2) (fun H locs hH hL => ?_)
  refine lv_iload hx hb d3 (lv_at hl k6 h6) ?_
  exact lv_icmp_eq (tgt := pc + 11) hx hb d4 (by omega) (fun _ => kk H locs hH hL) (fun h => absurd rfl h)
/-- out[0] == b -/
theorem w_cmpI {k9 b : Int32} {o2 : Int} {tg : Nat} (X : CX g l p s m args meth c own cc nL) (hH : HR g M H) (hl : lv_has ls nL lv) (k3 : Nat) (h3 : lv[k3]? = some (3, .ref (adr g 213))) (k6 : Nat) (h6 : lv[k6]? = some (6, .int k9)) (k7 : Nat) (h7 : lv[k7]? = some (7, .int b)) (hv : k9 = 0 → mJ M 213 0 = b.toInt64)
    (d1 : decode cc pc = .ok (.iload 6, 2)) (d2 : decode cc (pc + 2) = .ok (.ifCond .ne 15, 3)) (d3 : decode cc (pc + 5) = .ok (.aload_n 3, 1)) (d4 : decode cc (pc + 6) = .ok (.iconst 0, 1)) (d5 : decode cc (pc + 7) = .ok (.laload, 1)) (d6 : decode cc (pc + 8) = .ok (.iload 7, 2)) (d7 : decode cc (pc + 10) = .ok (.i2l, 1)) (d8 : decode cc (pc + 11) = .ok (.lcmp, 1)) (d9 : decode cc (pc + 12) = .ok (.ifCond .eq 5, 3)) (d10 : decode cc (pc + 17) = .ok (.goto o2, 3)) (ht : ((pc + 17 : Nat) : Int) + o2 = (tg : Int))
    (kk : W p l e R s m args below meth c H locs cells slots Q (F0 m tg ls rest)) : W p l e R s m args below meth c H locs cells slots Q (F0 m pc ls rest) := by
  have hx := X.1
  have hb := X.2.1
  refine lv_iload hx hb d1 (lv_at hl k6 h6) ?_
  refine lv_if_ne (tgt := pc + 17) hx hb d2 (by omega) (fun h => ?_) (fun h => ?_)
  · exact lv_goto (tgt := tg) hx hb d10 ht kk
  · have h0 : k9 = 0 := h
    refine lv_aload_n hx hb d3 rfl (lv_at hl k3 h3) ?_
    refine lv_iconst (v := 0) hx hb d4 (by decide) ?_
    refine m_lald (i := 0) X hH (show tyT 213 = 27 by decide) rfl (by decide) (fun _ => rfl) rfl (n := 1) rfl (by decide) d5 ?_
    refine lv_iload hx hb d6 (lv_at hl k7 h7) ?_
    refine lv_i2l hx hb d7 rfl ?_
    refine W.lcmp hx hb d8 ?_
    rw [show (0 : Int32).toNatClampNeg = 0 from rfl, hv h0, lg_same]
    refine lv_if_eq (tgt := pc + 17) hx hb d9 (by omega) (fun _ => ?_) (fun h => absurd rfl h)
    exact lv_goto (tgt := tg) hx hb d10 ht kk
/-- out[0] == (b ? 1L : 0L) -/
theorem w_cmpZ {k9 b : Int32} {o2 : Int} {tg : Nat} (X : CX g l p s m args meth c own cc nL) (hH : HR g M H) (hl : lv_has ls nL lv) (k3 : Nat) (h3 : lv[k3]? = some (3, .ref (adr g 213))) (k6 : Nat) (h6 : lv[k6]? = some (6, .int k9)) (k7 : Nat) (h7 : lv[k7]? = some (7, .int b)) (hv : k9 = 0 → mJ M 213 0 = b.toInt64) (hz : nokZ b = true)
    (d1 : decode cc pc = .ok (.iload 6, 2)) (d2 : decode cc (pc + 2) = .ok (.ifCond .ne 22, 3)) (d3 : decode cc (pc + 5) = .ok (.aload_n 3, 1)) (d4 : decode cc (pc + 6) = .ok (.iconst 0, 1)) (d5 : decode cc (pc + 7) = .ok (.laload, 1)) (d6 : decode cc (pc + 8) = .ok (.iload 7, 2)) (e1 : decode cc (pc + 10) = .ok (.ifCond .eq 7, 3)) (e2 : decode cc (pc + 13) = .ok (.lconst 1, 1)) (e3 : decode cc (pc + 14) = .ok (.goto 4, 3)) (e4 : decode cc (pc + 17) = .ok (.lconst 0, 1)) (d8 : decode cc (pc + 18) = .ok (.lcmp, 1)) (d9 : decode cc (pc + 19) = .ok (.ifCond .eq 5, 3)) (d10 : decode cc (pc + 24) = .ok (.goto o2, 3)) (ht : ((pc + 24 : Nat) : Int) + o2 = (tg : Int))
    (kk : W p l e R s m args below meth c H locs cells slots Q (F0 m tg ls rest)) : W p l e R s m args below meth c H locs cells slots Q (F0 m pc ls rest) := by
  have hx := X.1
  have hb := X.2.1
  refine lv_iload hx hb d1 (lv_at hl k6 h6) ?_
  refine lv_if_ne (tgt := pc + 24) hx hb d2 (by omega) (fun h => ?_) (fun h => ?_)
  · exact lv_goto (tgt := tg) hx hb d10 ht kk
  · have h0 : k9 = 0 := h
    refine lv_aload_n hx hb d3 rfl (lv_at hl k3 h3) ?_
    refine lv_iconst (v := 0) hx hb d4 (by decide) ?_
    refine m_lald (i := 0) X hH (show tyT 213 = 27 by decide) rfl (by decide) (fun _ => rfl) rfl (n := 1) rfl (by decide) d5 ?_
    refine lv_iload hx hb d6 (lv_at hl k7 h7) ?_
    rw [show (0 : Int32).toNatClampNeg = 0 from rfl, hv h0]
    simp only [nokZ, Bool.or_eq_true, beq_iff_eq] at hz
    rcases hz with rfl | rfl
    · refine lv_if_eq (tgt := pc + 17) hx hb e1 (by omega) (fun _ => ?_) (fun h => absurd rfl h)
      refine lv_lconst (v := 0) hx hb e4 (by decide) ?_
      refine W.lcmp hx hb d8 ?_
      rw [show (0 : Int32).toInt64 = 0 from rfl, lg_same]
      refine lv_if_eq (tgt := pc + 24) hx hb d9 (by omega) (fun _ => ?_) (fun h => absurd rfl h)
      exact lv_goto (tgt := tg) hx hb d10 ht kk
    · refine lv_if_eq (tgt := pc + 17) hx hb e1 (by omega) (fun h => absurd h (by decide)) (fun _ => ?_)
      refine lv_lconst (v := 1) hx hb e2 (by decide) ?_
      refine lv_goto (tgt := pc + 18) hx hb e3 (by omega) ?_
      refine W.lcmp hx hb d8 ?_
      rw [show (1 : Int32).toInt64 = 1 from rfl, lg_same]
      refine lv_if_eq (tgt := pc + 24) hx hb d9 (by omega) (fun _ => ?_) (fun h => absurd rfl h)
      exact lv_goto (tgt := tg) hx hb d10 ht kk
end MYLAW2
