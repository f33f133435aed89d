/-! the law's own methods that call one of ours and catch: their contract, rows -/
def mw (v : Int32) : Nat := if v = 0 then 0 else 1
def bw {τ σ : Type} (x : Option ((τ ⊕ String) × Mem)) (k : τ → Mem → Option σ) (h : String → Mem → Option σ) : Option σ := match x with
  | none => none
  | some (.inl v, M) => k v M
  | some (.inr E, M) => h E M
abbrev rmW (v : Int32) (fr lo : Nat) : Room := { frames := fr, cells := mw v, slots := 6 * mw v, locals := lo }
abbrev QcW (g : GP) (v : Int32) (M' : Mem) : Array Value → State → Outcome → State → Prop := QcO g rvI (.inl v) M'
abbrev XcW (g : GP) (v : Int32) (M' : Mem) : String → State → State → Prop := XcO g (.inl v : Int32 ⊕ String) M'
def COW (g : GP) (l : Launch) (y : MethodName) (cc : ByteArray) (nL : Nat) (hh : List (Nat × Nat × Nat × Nat)) (fr lo : Nat) (As : List Value) (M : Mem) (v : Int32) (M' : Mem) : Prop :=
  vx_Met l y (.codeWith y cc nL (some .int) hh :: BIG) (rmW v fr lo) (va_Pc As (fun U => HR g M U.heap ∧ KN g U)) (QcW g v M') (XcW g v M') (mw v) (6 * mw v) (fun q => gN g ≤ q)
abbrev MQW (g : GP) (below : List Frame) (v : Int32) (M' : Mem) (args : Array Value) (s : State) : State → Prop := vx_MQ below (QcW g v M') (XcW g v M') args s (mw v) (6 * mw v) (fun q => gN g ≤ q)
theorem COW_of {g : GP} {l : Launch} {y : MethodName} {cc : ByteArray} {nL : Nat} {hh : List (Nat × Nat × Nat × Nat)} {fr lo : Nat} {As : List Value} {M M' : Mem} {v : Int32} (hl : l.stackTraces = false) (hy : plainName y.cls = true) (hn : (lg_sl As).length ≤ nL)
    (body : ∀ (p : Program) (e : Env) (s : State) (m : MethodId) (below : List Frame) (meth : Method) (c : Code) (ls : Array Slot), CX g l p s m As.toArray meth c y.cls cc nL → meth.sig.returnType = some .int → c.exceptionTable.toList = tableOf hh → HR g M s.heap → LK g s s.heap [] → lv_has ls nL (lv_args 0 As) →
      W p l e (rmW v fr lo) s m As.toArray below meth c s.heap [] 0 0 (MQW g below v M' As.toArray s) (F0 m 0 ls [])) : COW g l y cc nL hh fr lo As M v M' := by
  refine vx_ofWH (cc := cc) (maxL := nL) (ret := some .int) (hh := hh) hy rfl ?_
  intro p e s m args below meth c s₁ B hml hv
  obtain ⟨rfl, hH, hK⟩ := hv
  have hl2 := lv_entry As hn
  rw [lg_entry_eq]
  have hts := atoms_spec (ws := .codeWith y cc nL (some .int) hh :: BIG) B.pre
  exact body p e s m below meth c _ ⟨B.exec, B.bytes, hml, findClass_of_methodNamed B.named, fun w h => hts w (List.mem_cons_of_mem _ h), hK, B.notSynchronized, hl, hH.1.1⟩ B.returns (vx_table (x := y) B (hts _ List.mem_cons_self)) hH ⟨Nat.le_refl _, fun _ h => nomatch h⟩ hl2
section MYW
variable {p : Program} {l : Launch} {e : Env} {R : Room} {s : State} {m : MethodId} {args : Array Value} {below : List Frame} {meth : Method} {c : Code} {H : Heap} {locs : List Loc} {cells slots : Nat} {Q mq : State → Prop} {f0 : JFrame}
variable {cc cy : ByteArray} {pc : Nat} {ls : Array Slot} {rest st : List Value} {g : GP} {own : String} {nL nY a t n idx fr lo : Nat} {M M1 M2 : Mem} {y : MethodName} {ret : Option FieldType} {As : List Value}
theorem q_bw {τ σ : Type} {r0 : σ} {x : Option ((τ ⊕ String) × Mem)} {k : τ → Mem → Option σ} {h : String → Mem → Option σ} (h1 : ∀ v M, x = some (.inl v, M) → W p l e R s m args below meth c H locs cells slots (GQ (k v M) r0 mq) f0)
    (h2 : ∀ E M, x = some (.inr E, M) → W p l e R s m args below meth c H locs cells slots (GQ (h E M) r0 mq) f0) : W p l e R s m args below meth c H locs cells slots (GQ (bw x k h) r0 mq) f0 := by
  match x with
  | none => exact q_none
  | some (.inl v, M) => exact h1 v M rfl
  | some (.inr E, M) => exact h2 E M rfl
theorem q_endW {k v : Int32} {f : JFrame} (hk : W p l e (rmW k fr lo) s m args below meth c H locs cells slots (MQW g below k M1 args s) f) : W p l e (rmW v fr lo) s m args below meth c H locs cells slots (GQ (some (k, M1)) (v, M2) (MQW g below v M2 args s)) f := q_ret fun h => by cases h; exact hk
theorem m_iretW {v : Int32} (X : CX g l p s m args meth c own cc nL) (hr : meth.sig.returnType = some .int) (hH : HR g M H) (hL : LK g s H locs) (hc : cells ≤ mw v) (hs : slots ≤ 6 * mw v) (hdg : decode cc pc = .ok (.ireturn, 1)) : W p l e R s m args below meth c H locs cells slots (MQW g below v M args s) (F0 m pc ls [.int v]) := by
  have hlk := X.2.2.2.2.2.2.1
  exact W.widen hc hs (vx_ret (W.iret X.1 X.2.1 hr (fun t ht hW => ⟨v, rfl, rfl, by rw [ht]; exact hH, by rw [ht]; exact hL.1⟩) hL.2 hdg hlk))
/-- behind a call that throws: the handler -/
theorem my_caught {τ : Type} {rv : τ → Option Value} {E : String} {aa : Array Value} (X : CX g l p s m args meth c own cc nL) (hL : LK g s H locs) (hr : vx_Run p l e R s m args below meth c H locs cells slots (mcO (.inr E : τ ⊕ String)) (msO (.inr E : τ ⊕ String)) (F0 m pc ls st) rest (QcO g rv (.inr E) M1 aa) (XcO g (.inr E : τ ⊕ String) M1) (fun q => gN g ≤ q))
    (pre : List ExceptionTableEntry) (x : ExceptionTableEntry) (suf : List ExceptionTableEntry) (hsplit : c.exceptionTable.toList = pre ++ x :: suf)
    (hpass : ∀ z ∈ pre, z.catchType ≠ 0 ∧ ∃ nm : String, Cond.classLink own z.catchType nm ∈ BIG ∧ (E, nm) ∈ NCP) (hx : covers x pc = true) (h0 : x.catchType ≠ 0)
    (hlink : Cond.classLink own x.catchType E ∈ BIG) (hcast : E ∈ CAP)
    (kk : ∀ H1 locs1 q, HR g M1 H1 → LK g s H1 locs1 → W p l e R s m args below meth c H1 locs1 (cells + 1) (slots + 6) Q (F0 m x.handlerPc ls [.ref q])) : W p l e R s m args below meth c H locs cells slots Q (F0 m pc ls st) := by
  have hts := X.2.2.2.2.1
  have hK := X.2.2.2.2.2.1.2.2.2.2.2.2.2.2
  intro T hT XX
  rcases hr T hT XX with ⟨w, st₀, t, T', L, h0', X', hL2, e1, e2, ⟨v2, e3, -⟩, -⟩ | ⟨q, st₀, t, T', L, E2, ce, h0', X', hL2, e1, e2, ⟨e3, hH1, hz⟩, hce, hcv, hcl, go⟩
  · cases e3
  · cases e3
    obtain ⟨t2, a1, b1⟩ := vx_catch (rest := rest) (name := E) (E := E) (ce := ce) (q := q) (H := T'.heap) (locs := locs ++ L) (cells := cells + 1) (slots := slots + 6) (R := R) (Q := Q) (ls := ls) X.2.2.2.1 pre x suf hsplit (fun z hz2 => by
        obtain ⟨z1, nm, z2, z3⟩ := hpass z hz2
        exact Or.inr ⟨z1, nm, hts _ z2, hK.2.1 _ z3⟩) hx h0 (hts _ hlink) (va_Nw.use rfl (hK.2.2 _ hcast)) (by rw [e1]; exact hce) hcv hcl
      (kk T'.heap (locs ++ L) q (by rw [e1]; exact hH1) ⟨Nat.le_trans hL.1 (by rw [e1, ← h0']; exact hz), fun q hq => (List.mem_append.mp hq).elim (hL.2 q) (hL2 q)⟩) T' rfl X'
    exact ⟨t2, go.trans a1, b1⟩
theorem m_ls {i : Int32} {x : Int64} (X : CX g l p s m args meth c own cc nL) (hH : HR g M H) (hL : LK g s H locs) (hty : tyT a = 27) (hin : inb i 1 = true) (hdg : decode cc pc = .ok (.lastore, 1)) (eM : M2 = sJ M a i.toNatClampNeg x)
    (kk : ∀ H1 locs1, HR g M2 H1 → LK g s H1 locs1 → W p l e R s m args below meth c H1 locs1 cells slots Q (F0 m (pc + 1) ls rest)) : W p l e R s m args below meth c H locs cells slots Q (F0 m pc ls (.long x :: .int i :: .ref (adr g a) :: rest)) := by
  subst eM
  exact m_last X hH hL hty rfl (by decide) (fun _ => rfl) rfl (n := 1) rfl hin hdg kk
theorem m_ds {i : Int32} {x : UInt64} (X : CX g l p s m args meth c own cc nL) (hH : HR g M H) (hL : LK g s H locs) (hty : tyT a = 28) (hin : inb i 1 = true) (hdg : decode cc pc = .ok (.dastore, 1)) (eM : M2 = sD M a i.toNatClampNeg x)
    (kk : ∀ H1 locs1, HR g M2 H1 → LK g s H1 locs1 → W p l e R s m args below meth c H1 locs1 cells slots Q (F0 m (pc + 1) ls rest)) : W p l e R s m args below meth c H locs cells slots Q (F0 m pc ls (.double x :: .int i :: .ref (adr g a) :: rest)) := by
  subst eM
  exact m_dast X hH hL hty rfl (by decide) (fun _ => rfl) rfl (n := 1) rfl hin hdg kk
theorem np0 {E own : String} : ∀ z ∈ ([] : List ExceptionTableEntry), z.catchType ≠ 0 ∧ ∃ nm : String, Cond.classLink own z.catchType nm ∈ BIG ∧ (E, nm) ∈ NCP := fun _ h => nomatch h
theorem np1 {E own nm : String} {z : ExceptionTableEntry} {L : List ExceptionTableEntry} (h : z.catchType ≠ 0) (h1 : Cond.classLink own z.catchType nm ∈ BIG) (h2 : (E, nm) ∈ NCP) (t : ∀ z ∈ L, z.catchType ≠ 0 ∧ ∃ nm : String, Cond.classLink own z.catchType nm ∈ BIG ∧ (E, nm) ∈ NCP) : ∀ x ∈ z :: L, x.catchType ≠ 0 ∧ ∃ nm : String, Cond.classLink own x.catchType nm ∈ BIG ∧ (E, nm) ∈ NCP := fun x hx => by
  rcases List.mem_cons.mp hx with e | h9
  · rw [e]; exact ⟨h, nm, h1, h2⟩
  · exact t x h9
end MYW
/-- what the tables have of a method of the law's with handlers -/
def okL (y : MethodName) (cc : ByteArray) (nL : Nat) (hh : List (Nat × Nat × Nat × Nat)) (n : Nat) : Prop :=
  Cond.codeWith y cc nL (some .int) hh ∈ BIG ∧ Cond.initialized y.cls ∈ BIG ∧ Cond.static y ∈ BIG ∧ y.cls ≠ "java/lang/invoke/MethodHandle" ∧ y.cls ≠ "java/lang/invoke/VarHandle" ∧ (parseMethodDescriptor y.desc).map (fun d => d.parameters.length) = some n
