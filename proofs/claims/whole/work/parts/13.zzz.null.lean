/-! MY ROWS: a local that holds null or a reference -/
theorem vR_ty {g : GP} {r t : Nat} (h : tyT r = t) (ht : t ≠ 0) : vR g r = .ref (adr g r) := vR_pos (ty_ge h ht).1
theorem vR_nul {g : GP} : vR g 0 = .null := if_pos rfl
theorem vR_cat {g : GP} {r : Nat} : (vR g r).category = 1 := by
  unfold vR
  split <;> rfl
section MYNU
variable {p : Program} {l : Launch} {e : Env} {R : Room} {s : State} {m : MethodId} {args : Array Value} {below : List Frame} {meth : Method} {c : Code} {H : Heap} {locs : List Loc} {cells slots : Nat} {Q : State → Prop}
variable {cc : ByteArray} {pc : Nat} {ls : Array Slot} {rest : List Value} {g : GP}
theorem m_null (hexec : p.tables.exec = Jvm.exec) (hb : c.code = cc) (hdg : decode cc pc = .ok (.aconst_null, 1)) (k : W p l e R s m args below meth c H locs cells slots Q (F0 m (pc + 1) ls (vR g 0 :: rest))) : W p l e R s m args below meth c H locs cells slots Q (F0 m pc ls rest) := by
  rw [vR_nul] at k
  exact lv_null hexec hb hdg k
theorem q_topN {q t : Nat} (h : tyT q = t) (ht : t ≠ 0) (k : W p l e R s m args below meth c H locs cells slots Q (F0 m pc ls (vR g q :: rest))) : W p l e R s m args below meth c H locs cells slots Q (F0 m pc ls (.ref (adr g q) :: rest)) := by
  rw [vR_ty h ht] at k
  exact k
theorem m_aloadN (hexec : p.tables.exec = Jvm.exec) (hb : c.code = cc) {k : Fin 4} {i q : Nat} (hdg : decode cc pc = .ok (.aload_n k, 1)) (hi : (k : Nat) = i) (hl : ls[i]? = some (.val (vR g q)))
    (kk : W p l e R s m args below meth c H locs cells slots Q (F0 m (pc + 1) ls (vR g q :: rest))) : W p l e R s m args below meth c H locs cells slots Q (F0 m pc ls rest) := by
  by_cases hq : q = 0
  · subst hq
    rw [vR_nul] at hl kk
    exact lv_aload_nN hexec hb hdg hi hl kk
  · rw [vR_pos (by omega)] at hl kk
    exact lv_aload_n hexec hb hdg hi hl kk
theorem m_astoreN (hexec : p.tables.exec = Jvm.exec) (hb : c.code = cc) {k : Fin 4} {i nL q : Nat} {lv lv' : List (Nat × Value)} (hdg : decode cc pc = .ok (.astore_n k, 1)) (hi : (k : Nat) = i) (h : lv_has ls nL lv) (hn : i < nL) (hl : (i, vR g q) :: lv.filter (fun q => !(q.1 == i) && !(q.1 + 1 == i && q.2.category == 2)) = lv')
    (kk : ∀ ls' : Array Slot, lv_has ls' nL lv' → W p l e R s m args below meth c H locs cells slots Q (F0 m (pc + 1) ls' rest)) : W p l e R s m args below meth c H locs cells slots Q (F0 m pc ls (vR g q :: rest)) := by
  by_cases hq : q = 0
  · subst hq
    rw [vR_nul] at hl ⊢
    exact lv_astore_nN hexec hb hdg hi h hn hl kk
  · rw [vR_pos (by omega)] at hl ⊢
    exact lv_astore_n hexec hb hdg hi h hn hl kk
theorem m_ifnull (hexec : p.tables.exec = Jvm.exec) (hb : c.code = cc) {off : Int} {tgt q : Nat} (hdg : decode cc pc = .ok (.ifnull off, 3)) (ht : (pc : Int) + off = (tgt : Int)) (k1 : q = 0 → W p l e R s m args below meth c H locs cells slots Q (F0 m tgt ls rest))
    (k2 : ¬ q = 0 → W p l e R s m args below meth c H locs cells slots Q (F0 m (pc + 3) ls rest)) : W p l e R s m args below meth c H locs cells slots Q (F0 m pc ls (vR g q :: rest)) := by
  by_cases hq : q = 0
  · subst hq
    rw [vR_nul]
    exact lv_ifnullN hexec hb hdg ht (k1 rfl)
  · rw [vR_pos (by omega)]
    exact lv_ifnull hexec hb hdg (k2 hq)
end MYNU
