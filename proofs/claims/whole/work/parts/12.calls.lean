/-! MY CALLS: a contract out of a walk, calls by contract, ends -/
abbrev rvI : Int32 → Option Value := fun x => some (.int x)
abbrev rvJ : Int64 → Option Value := fun x => some (.long x)
abbrev rvU : Unit → Option Value := fun _ => none
abbrev rvR (g : GP) : Nat → Option Value := fun a => some (.ref (adr g a))
abbrev rvF : UInt32 → Option Value := fun x => some (.float x)
abbrev rvD : UInt64 → Option Value := fun x => some (.double x)
theorem CO_of {τ : Type} {g : GP} {l : Launch} {y : MethodName} {cc : ByteArray} {nL : Nat} {ret : Option FieldType} {fr lo : Nat} {rv : τ → Option Value} {As : List Value} {M M' : Mem} {o : τ ⊕ String} (hl : l.stackTraces = false) (hy : plainName y.cls = true) (hn : (lg_sl As).length ≤ nL)
    (body : ∀ (p : Program) (e : Env) (s : State) (m : MethodId) (below : List Frame) (meth : Method) (c : Code) (ls : Array Slot), CX g l p s m As.toArray meth c y.cls cc nL → meth.sig.returnType = ret → (∀ x ∈ c.exceptionTable.toList, False) → HR g M s.heap → LK g s s.heap [] → lv_has ls nL (lv_args 0 As) →
      W p l e (rmO o fr lo) s m As.toArray below meth c s.heap [] 0 0 (MQO g below rv o M' As.toArray s) (F0 m 0 ls [])) : CO g l y cc nL ret fr lo rv As M o M' := by
  refine vx_ofW (cc := cc) (maxL := nL) (ret := ret) hy rfl ?_
  intro p e s m args below meth c s₁ B hml htb hv
  obtain ⟨rfl, hH, hK⟩ := hv
  have hl2 := lv_entry As hn
  rw [lg_entry_eq]
  have hts := atoms_spec (ws := .code y cc nL ret :: BIG) B.pre
  exact body p e s m below meth c _ ⟨B.exec, B.bytes, hml, findClass_of_methodNamed B.named, fun w h => hts w (List.mem_cons_of_mem _ h), hK, B.notSynchronized, hl, hH.1.1⟩ B.returns htb hH ⟨Nat.le_refl _, fun _ h => nomatch h⟩ hl2
/-- what the tables have of a callee -/
def okY (y : MethodName) (cc : ByteArray) (nL : Nat) (ret : Option FieldType) (n : Nat) : Prop :=
  Cond.code y cc nL ret ∈ BIG ∧ Cond.initialized y.cls ∈ BIG ∧ y.cls ≠ "java/lang/invoke/MethodHandle" ∧ y.cls ≠ "java/lang/invoke/VarHandle" ∧ (parseMethodDescriptor y.desc).map (fun d => d.parameters.length) = some n
def okV (y : MethodName) (cc : ByteArray) (nL : Nat) (ret : Option FieldType) (n : Nat) : Prop := okY y cc nL ret n ∧ Cond.instanceMethod y ∈ BIG ∧ Cond.selects y.cls y y ∈ BIG
def okS (y : MethodName) (cc : ByteArray) (nL : Nat) (ret : Option FieldType) (n : Nat) : Prop := okY y cc nL ret n ∧ Cond.static y ∈ BIG
section MYC
variable {p : Program} {l : Launch} {e : Env} {R : Room} {s : State} {m : MethodId} {args : Array Value} {below : List Frame} {meth : Method} {c : Code} {H : Heap} {locs : List Loc} {cells slots : Nat} {Q : State → Prop}
variable {cc cy : ByteArray} {pc : Nat} {ls : Array Slot} {rest st : List Value} {g : GP} {own : String} {nL nY a t n idx fr lo : Nat} {M M1 : Mem} {y : MethodName} {ret : Option FieldType} {As : List Value}
theorem my_blind {av : List Value} : FrameBlind (va_Pc av (fun U => HR g M U.heap ∧ KN g U)) := fun a U gf mk q => by
  obtain ⟨q0, q1, qK⟩ := q
  exact ⟨q0, q1, KN.warm (u := U) (U := U.calling gf mk a) (State.WarmedH.refl U) qK⟩
theorem my_recv (X : CX g l p s m args meth c own cc nL) (hH : HR g M H) (hty : tyT a = t) (hc : isC t = true) (ht : t < 20) : ∃ cellB : Cell, H[adr g a]? = some cellB ∧ cellB.vm.isStatics = false ∧ s.vm.findClass (clR t) = some cellB.cls := by
  obtain ⟨-, -, -, -, -, hK, -⟩ := X
  have hr := ty_ge hty (by rintro rfl; simp [isC] at hc)
  obtain ⟨cell, q1, q2, q3, -⟩ := hH.1.obj hr.1 hr.2 hty ht
  exact ⟨cell, q1, by rw [q3]; rfl, by rw [q2]; exact (hK.1 t hc).2.1⟩
theorem my_cwB (X : CX g l p s m args meth c own cc nL) {τ : Type} {o : τ ⊕ String} (hy : okY y cy nY ret n) (hlk : Cond.methodLink own idx y ∈ BIG) (hR : fr + 1 ≤ R.frames ∧ 8 + (nY + 11) + lo ≤ R.locals) : CallB R s args own idx y cy nY ret (.code y cy nY ret :: BIG) (rmO o fr lo) (mcO o) (msO o) n := by
  obtain ⟨-, -, -, -, hts, -⟩ := X
  obtain ⟨h1, h2, h3, h4, h5⟩ := hy
  have hG : GoodIn BIG (Cond.code y cy nY ret :: BIG) := fun w hw => by
    rcases List.mem_cons.mp hw with e | h
    · rw [e]; exact ⟨h1, good_of_word (big_good h1)⟩
    · exact ⟨h, good_of_word (big_good h)⟩
  exact callB_of n hts hG rfl rfl rfl (hts _ h2) (hts _ hlk) ⟨h3, h4, h5⟩ hR
theorem my_fix (X : CX g l p s m args meth c own cc nL) : CallFix p m c cc nL s args BIG own := ⟨X.1, X.2.1, X.2.2.1, X.2.2.2.1, X.2.2.2.2.1⟩
theorem my_runV {τ : Type} {rv : τ → Option Value} {o : τ ⊕ String} (X : CX g l p s m args meth c own cc nL) (hH : HR g M H) (hls : ls.size = nL) (hM : CO g l y cy nY ret fr lo rv (.ref (adr g a) :: As) M o M1) (hy : okV y cy nY ret n) (hlk : Cond.methodLink own idx y ∈ BIG) (hty : tyT a = t) (hc : isC t = true) (ht : t < 20) (hcl : y.cls = clR t) (hn : As.length = n) (hst : st = As.reverse ++ .ref (adr g a) :: rest)
    (hR : fr + 1 ≤ R.frames ∧ 8 + (nY + 11) + lo ≤ R.locals) (hf : cells + mcO o ≤ R.cells ∧ slots + msO o ≤ R.slots) (hW : (rest.map fun v => v.category).sum ≤ 8) (hdg : decode cc pc = .ok (.invokevirtual idx, 3)) :
    vx_Run p l e R s m args below meth c H locs cells slots (mcO o) (msO o) (F0 m pc ls st) rest (QcO g rv o M1 (Value.ref (adr g a) :: As).toArray) (XcO g o M1) (fun q => gN g ≤ q) := by
  have hrc := my_recv X hH hty hc ht
  have hts := X.2.2.2.2.1
  refine vx_runV (C := clR t) (As := As) (rest := rest) (my_fix X) hM ⟨my_cwB X hy.1 hlk hR, hts _ hy.2.1, ?_⟩ ⟨my_blind, hrc, fun U hU hW1 => ⟨rfl, by rw [hU]; exact hH, X.2.2.2.2.2.1.warm hW1⟩⟩ rfl hn hls hst (by show 2 * 0 + _ ≤ _; omega) hdg hf
  have h9 := hts _ hy.2.2
  rw [hcl] at h9
  exact h9
theorem my_runS {τ : Type} {rv : τ → Option Value} {o : τ ⊕ String} (X : CX g l p s m args meth c own cc nL) (hH : HR g M H) (hls : ls.size = nL) (hM : CO g l y cy nY ret fr lo rv As M o M1) (hy : okS y cy nY ret n) (hlk : Cond.methodLink own idx y ∈ BIG) (hn : As.length = n) (hst : st = As.reverse ++ rest)
    (hR : fr + 1 ≤ R.frames ∧ 8 + (nY + 11) + lo ≤ R.locals) (hf : cells + mcO o ≤ R.cells ∧ slots + msO o ≤ R.slots) (hW : (rest.map fun v => v.category).sum ≤ 8) (hdg : decode cc pc = .ok (.invokestatic idx, 3)) :
    vx_Run p l e R s m args below meth c H locs cells slots (mcO o) (msO o) (F0 m pc ls st) rest (QcO g rv o M1 As.toArray) (XcO g o M1) (fun q => gN g ≤ q) := by
  have hts := X.2.2.2.2.1
  exact vx_runS (As := As) (rest := rest) (my_fix X) hM ⟨my_cwB X hy.1 hlk hR, hts _ hy.2⟩ ⟨my_blind, fun U hU hW1 => ⟨rfl, by rw [hU]; exact hH, X.2.2.2.2.2.1.warm hW1⟩⟩ rfl hn hls hst (by show 2 * 0 + _ ≤ _; omega) hdg hf
theorem my_runSN {τ : Type} {rv : τ → Option Value} {o : τ ⊕ String} {host : String} (X : CX g l p s m args meth c own cc nL) (hH : HR g M H) (hls : ls.size = nL) (hM : CO g l y cy nY ret fr lo rv As M o M1) (hy : okS y cy nY ret n) (hlk : (own, idx, y, host) ∈ NEST) (hn : As.length = n) (hst : st = As.reverse ++ rest)
    (hR : fr + 1 ≤ R.frames ∧ 8 + (nY + 11) + lo ≤ R.locals) (hf : cells + mcO o ≤ R.cells ∧ slots + msO o ≤ R.slots) (hW : (rest.map fun v => v.category).sum ≤ 8) (hdg : decode cc pc = .ok (.invokestatic idx, 3)) :
    vx_Run p l e R s m args below meth c H locs cells slots (mcO o) (msO o) (F0 m pc ls st) rest (QcO g rv o M1 As.toArray) (XcO g o M1) (fun q => gN g ≤ q) := by
  have hts := X.2.2.2.2.1
  obtain ⟨⟨h1, h2, h3, h4, h5⟩, h6⟩ := hy
  have hG : GoodIn BIG (Cond.code y cy nY ret :: BIG) := fun w hw => by
    rcases List.mem_cons.mp hw with e | h
    · rw [e]; exact ⟨h1, good_of_word (big_good h1)⟩
    · exact ⟨h, good_of_word (big_good h)⟩
  exact vx_runSN (As := As) (rest := rest) (my_fix X) hM ⟨va_cnB n hts hG rfl rfl rfl (X.2.2.2.2.2.1.2.2.2.2.2.2.1 _ hlk) (hts _ h2) ⟨h3, h4, h5⟩ hR, hts _ h6, trivial⟩ ⟨my_blind, fun U hU hW1 => ⟨rfl, by rw [hU]; exact hH, X.2.2.2.2.2.1.warm hW1⟩⟩ rfl hn hls hst (by show 2 * 0 + _ ≤ _; omega) hdg hf
/-- behind a call that returns -/
theorem my_done {τ : Type} {rv : τ → Option Value} {v : τ} {aa : Array Value} (hL : LK g s H locs) (hr : vx_Run p l e R s m args below meth c H locs cells slots (mcO (.inl v : τ ⊕ String)) (msO (.inl v : τ ⊕ String)) (F0 m pc ls st) rest (QcO g rv (.inl v) M1 aa) (XcO g (.inl v : τ ⊕ String) M1) (fun q => gN g ≤ q))
    (kk : ∀ H1 locs1, HR g M1 H1 → LK g s H1 locs1 → W p l e R s m args below meth c H1 locs1 cells slots Q (F0 m (pc + 3) ls ((rv v).toList ++ rest))) : W p l e R s m args below meth c H locs cells slots Q (F0 m pc ls st) := by
  intro T hT X
  rcases hr T hT X with ⟨w, st₀, t, T', L, h0, X', hL2, e1, e2, ⟨v2, e3, e4, hH1, hz⟩, go⟩ | ⟨q, st₀, t, T', L, E, ce, h0, X', hL2, e1, e2, ⟨e3, -, -⟩, -⟩
  · cases e3
    cases Outcome.returned.inj e4
    obtain ⟨t2, a1, b1⟩ := kk T'.heap (locs ++ L) (by rw [e1]; exact hH1) ⟨Nat.le_trans hL.1 (by rw [e1, ← h0]; exact hz), fun q hq => (List.mem_append.mp hq).elim (hL.2 q) (hL2 q)⟩ T' rfl X'
    exact ⟨t2, go t2 a1, b1⟩
  · cases e3
/-- behind a call that throws, not caught here -/
theorem my_thrown {τ σ : Type} {rv : τ → Option Value} {rw0 : σ → Option Value} {E : String} {aa : Array Value} {R : Room} (hl0 : meth.locks = false) (htb : ∀ x ∈ c.exceptionTable.toList, False) (hL : LK g s H locs) (hr : vx_Run p l e R s m args below meth c H locs 0 0 (mcO (.inr E : τ ⊕ String)) (msO (.inr E : τ ⊕ String)) (F0 m pc ls st) rest (QcO g rv (.inr E) M1 aa) (XcO g (.inr E : τ ⊕ String) M1) (fun q => gN g ≤ q)) :
    W p l e R s m args below meth c H locs 0 0 (MQO g below rw0 (.inr E) M1 args s) (F0 m pc ls st) := by
  intro T hT X
  rcases hr T hT X with ⟨w, st₀, t, T', L, h0, X', hL2, e1, e2, ⟨v2, e3, -⟩, -⟩ | ⟨q, st₀, t, T', L, E2, ce, h0, X', hL2, e1, e2, ⟨e3, hH1, hz⟩, hce, hcv, hcl, go⟩
  · cases e3
  · cases e3
    obtain ⟨t2, a1, b1⟩ := vx_out (rest := rest) (pc := pc) (ls := ls) (E := E) (ce := ce) (q := q) (Qc := QcO g rw0 (.inr E) M1) (XC := XcO g (.inr E : σ ⊕ String) M1) (mc := 1) (ms := 6) (free := fun q => gN g ≤ q) (H := T'.heap) (locs := locs ++ L) (fun x hx => (htb x hx).elim) hl0 (by rw [e1]; exact hce) hcv hcl
      (fun t3 ht3 hA3 => ⟨rfl, by rw [ht3, e1]; exact hH1, by rw [ht3, e1]; exact Nat.le_trans hL.1 (by rw [← h0]; exact hz)⟩) (fun z hz => (List.mem_append.mp hz).elim (hL.2 z) (hL2 z)) (Nat.le_refl _) (Nat.le_refl _) T' rfl X'
    exact ⟨t2, go.trans a1, b1⟩
/-- the ends -/
theorem m_iret (X : CX g l p s m args meth c own cc nL) (hr : meth.sig.returnType = some .int) (hH : HR g M H) (hL : LK g s H locs) {x : Int32} (hdg : decode cc pc = .ok (.ireturn, 1)) : W p l e R s m args below meth c H locs 0 0 (MQO g below rvI (.inl x) M args s) (F0 m pc ls [.int x]) := by
  have hlk := X.2.2.2.2.2.2.1
  exact vx_ret (W.iret X.1 X.2.1 hr (fun t ht hW => ⟨x, rfl, rfl, by rw [ht]; exact hH, by rw [ht]; exact hL.1⟩) hL.2 hdg hlk)
theorem m_zret (X : CX g l p s m args meth c own cc nL) {ty : FieldType} (hr : meth.sig.returnType = some ty) (hH : HR g M H) (hL : LK g s H locs) {x : Int32} (hn : narrow ty (.int x) = .int x) (hdg : decode cc pc = .ok (.ireturn, 1)) : W p l e R s m args below meth c H locs 0 0 (MQO g below rvI (.inl x) M args s) (F0 m pc ls [.int x]) := by
  have hlk := X.2.2.2.2.2.2.1
  exact vx_ret (W.zret X.1 X.2.1 hr hn (fun t ht hW => ⟨x, rfl, rfl, by rw [ht]; exact hH, by rw [ht]; exact hL.1⟩) hL.2 hdg hlk)
theorem m_vret (X : CX g l p s m args meth c own cc nL) (hr : meth.sig.returnType = none) (hH : HR g M H) (hL : LK g s H locs) (hdg : decode cc pc = .ok (.return_, 1)) : W p l e R s m args below meth c H locs 0 0 (MQO g below rvU (.inl ()) M args s) (F0 m pc ls []) := by
  have hlk := X.2.2.2.2.2.2.1
  exact vx_ret (W.vret X.1 X.2.1 hr (fun t ht hW => ⟨(), rfl, rfl, by rw [ht]; exact hH, by rw [ht]; exact hL.1⟩) hL.2 hdg hlk)
theorem m_aret (X : CX g l p s m args meth c own cc nL) {ty : FieldType} (hr : meth.sig.returnType = some ty) (hty : (∃ n, ty = .object n) ∨ ∃ t, ty = .array t) (hH : HR g M H) (hL : LK g s H locs) (hdg : decode cc pc = .ok (.areturn, 1)) : W p l e R s m args below meth c H locs 0 0 (MQO g below (rvR g) (.inl a) M args s) (F0 m pc ls [.ref (adr g a)]) := by
  have hlk := X.2.2.2.2.2.2.1
  exact vx_ret (W.aret X.1 X.2.1 hr hty (Or.inr ⟨_, rfl⟩) (fun t ht hW => ⟨a, rfl, rfl, by rw [ht]; exact hH, by rw [ht]; exact hL.1⟩) hL.2 hdg hlk)
theorem m_lret (X : CX g l p s m args meth c own cc nL) (hr : meth.sig.returnType = some .long) (hH : HR g M H) (hL : LK g s H locs) {x : Int64} (hdg : decode cc pc = .ok (.lreturn, 1)) : W p l e R s m args below meth c H locs 0 0 (MQO g below rvJ (.inl x) M args s) (F0 m pc ls [.long x]) := by
  have hlk := X.2.2.2.2.2.2.1
  exact vx_ret (W.lret X.1 X.2.1 hr (fun t ht hW => ⟨x, rfl, rfl, by rw [ht]; exact hH, by rw [ht]; exact hL.1⟩) hL.2 hdg hlk)
theorem m_fret (X : CX g l p s m args meth c own cc nL) (hr : meth.sig.returnType = some .float) (hH : HR g M H) (hL : LK g s H locs) {x : UInt32} (hdg : decode cc pc = .ok (.freturn, 1)) : W p l e R s m args below meth c H locs 0 0 (MQO g below rvF (.inl x) M args s) (F0 m pc ls [.float x]) := by
  have hlk := X.2.2.2.2.2.2.1
  exact vx_ret (W.fret X.1 X.2.1 hr (fun t ht hW => ⟨x, rfl, rfl, by rw [ht]; exact hH, by rw [ht]; exact hL.1⟩) hL.2 hdg hlk)
theorem m_dret (X : CX g l p s m args meth c own cc nL) (hr : meth.sig.returnType = some .double) (hH : HR g M H) (hL : LK g s H locs) {x : UInt64} (hdg : decode cc pc = .ok (.dreturn, 1)) : W p l e R s m args below meth c H locs 0 0 (MQO g below rvD (.inl x) M args s) (F0 m pc ls [.double x]) := by
  have hlk := X.2.2.2.2.2.2.1
  exact vx_ret (W.dret X.1 X.2.1 hr (fun t ht hW => ⟨x, rfl, rfl, by rw [ht]; exact hH, by rw [ht]; exact hL.1⟩) hL.2 hdg hlk)
end MYC
