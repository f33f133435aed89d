/-! CONSTRUCTORS: the heap grows object by object; rows for it -/
def zV (d : Nat) : Value := match d with
  | 0 => .int 0
  | 1 => .long 0
  | 2 => .null
  | 3 => .null
  | _ => .double 0
/-- nothing is written yet behind the first n objects -/
def BLK (n : Nat) (M : Mem) : Prop := ∀ a k, n < a → mI M a k = 0 ∧ mJ M a k = 0 ∧ mR M a k = 0 ∧ mD M a k = 0
def HBN (g : GP) (n : Nat) (M : Mem) (H : Heap) : Prop := HR0 g n M H ∧ BLK n M ∧ H.size = gN g + n
def AO (U : State) : Prop := va_AO RX4 U ∧ va_AO RX5 U ∧ va_AO RX1 U
theorem BLK.z {n : Nat} {M : Mem} (h : BLK n M) (g : GP) {a : Nat} (k d : Nat) (ha : n < a) : vV g M d a k = zV d := by
  obtain ⟨h1, h2, h3, h4⟩ := h a k ha
  unfold vV zV
  split
  · rw [h1]; rfl
  · rw [h2]; rfl
  · rw [h3]; rfl
  · rw [h3]; rfl
  · rename_i q1 q2 q3 q4
    split
    · exact absurd rfl q1
    · exact absurd rfl q2
    · exact absurd rfl q3
    · exact absurd rfl q4
    · rw [h4]
theorem BLK.mono {n n' : Nat} {M : Mem} (h : BLK n M) (hn : n ≤ n') : BLK n' M := fun a k ha => h a k (by omega)
theorem BLK.sI {n : Nat} {M : Mem} (h : BLK n M) {a : Nat} (ha : a ≤ n) (k : Nat) (x : Int32) : BLK n (sI M a k x) := fun b j hb => by
  rw [mI_sI, if_neg (by omega), mJ_sI, mR_sI, mD_sI]; exact h b j hb
theorem BLK.sJ {n : Nat} {M : Mem} (h : BLK n M) {a : Nat} (ha : a ≤ n) (k : Nat) (x : Int64) : BLK n (sJ M a k x) := fun b j hb => by
  rw [mJ_sJ, if_neg (by omega), mI_sJ, mR_sJ, mD_sJ]; exact h b j hb
theorem BLK.sR {n : Nat} {M : Mem} (h : BLK n M) {a : Nat} (ha : a ≤ n) (k : Nat) (x : Nat) : BLK n (sR M a k x) := fun b j hb => by
  rw [mR_sR, if_neg (by omega), mI_sR, mJ_sR, mD_sR]; exact h b j hb
theorem HR0.push {g : GP} {n : Nat} {M : Mem} {H H1 : Heap} (h : HR0 g n M H) (hz : H.size = gN g + n) (z1 : H1.size = H.size + 1) (o1 : ∀ q, q < H.size → H1[q]? = H[q]?) (hc : CellAt g M H1 (n + 1)) : HR0 g (n + 1) M H1 := by
  refine ⟨fun q hq => ?_, fun b hb hn => ?_, by omega⟩
  · rw [o1 q (by omega)]; exact h.1 q hq
  · by_cases e : b = n + 1
    · rw [e]; exact hc
    · exact cell_kept (o1 _ (by unfold adr; omega)) (fun _ _ => rfl) (h.2.1 b hb (by omega))
/-- a constructor's contract -/
def CIN (g : GP) (l : Launch) (y : MethodName) (cc : ByteArray) (nL fr lo mc ms n a : Nat) (M : Mem) (n1 : Nat) (M1 : Mem) : Prop :=
  vx_Met l y (.code y cc nL none :: BIG) { frames := fr, cells := mc, slots := ms, locals := lo } (va_Pc [.ref (adr g a)] (fun U => HBN g n M U.heap ∧ KN g U ∧ AO U)) (fun _ st oc t => oc = .returned none ∧ HBN g n1 M1 t.heap ∧ st.heap.size ≤ t.heap.size) (fun _ _ _ => False) mc ms (fun q => gN g ≤ q)
abbrev MQN (g : GP) (below : List Frame) (n1 : Nat) (M1 : Mem) (mc ms : Nat) (args : Array Value) (s : State) : State → Prop := vx_MQ below (fun _ st oc t => oc = .returned none ∧ HBN g n1 M1 t.heap ∧ st.heap.size ≤ t.heap.size) (fun _ _ _ => False) args s mc ms (fun q => gN g ≤ q)
theorem CIN_of {g : GP} {l : Launch} {y : MethodName} {cc : ByteArray} {nL fr lo mc ms n a n1 : Nat} {M M1 : Mem} (hl : l.stackTraces = false) (hy : plainName y.cls = true) (hn : 1 ≤ nL) (hnm : y.name = "<init>")
    (body : ∀ (p : Program) (e : Env) (s : State) (m : MethodId) (below : List Frame) (meth : Method) (c : Code) (ls : Array Slot), CX g l p s m #[.ref (adr g a)] meth c y.cls cc nL → AO s → meth.sig.returnType = none → meth.name = "<init>" → HBN g n M s.heap → LK g s s.heap [] → lv_has ls nL [(0, .ref (adr g a))] →
      W p l e { frames := fr, cells := mc, slots := ms, locals := lo } s m #[.ref (adr g a)] below meth c s.heap [] 0 0 (MQN g below n1 M1 mc ms #[.ref (adr g a)] s) (F0 m 0 ls [])) : CIN g l y cc nL fr lo mc ms n a M n1 M1 := by
  refine vx_ofW (cc := cc) (maxL := nL) (ret := none) hy rfl ?_
  intro p e s m args below meth c s₁ B hml htb hv
  obtain ⟨rfl, hH, hK, hA⟩ := hv
  have hl2 := lv_entry [.ref (adr g a)] (n := nL) hn
  rw [lg_entry_eq]
  have hts := atoms_spec (ws := .code y cc nL none :: BIG) B.pre
  have hnm2 : meth.name = y.name := (name_of_methodNamed B.named B.method).1
  exact body p e s m below meth c _ ⟨B.exec, B.bytes, hml, findClass_of_methodNamed B.named, fun w h => hts w (List.mem_cons_of_mem _ h), hK, B.notSynchronized, hl, hH.1.1⟩ hA B.returns (hnm2.trans hnm) hH ⟨Nat.le_refl _, fun _ h => nomatch h⟩ hl2
theorem AO.warm {u U : State} (hW : u.WarmedH U.vm) (h : AO u) : AO U := ⟨va_AO.moved hW.alike h.1, va_AO.moved hW.alike h.2.1, va_AO.moved hW.alike h.2.2⟩
section MYN
variable {p : Program} {l : Launch} {e : Env} {R : Room} {s : State} {m : MethodId} {args : Array Value} {below : List Frame} {meth : Method} {c : Code} {H : Heap} {locs : List Loc} {cells slots : Nat} {Q : State → Prop}
variable {cc cy : ByteArray} {pc : Nat} {ls : Array Slot} {rest st : List Value} {g : GP} {own : String} {nL nY a t k idx fr lo mc ms n n1 : Nat} {M M1 : Mem} {y : MethodName}
theorem b_new (X : CX g l p s m args meth c own cc nL) (hH : HBN g n M H) (hL : LK g s H locs) (hty : tyT (n + 1) = t) (hc : isC t = true) (ht : t < 20) (ho : okC t) (hcl : Cond.classLink own idx (clR t) ∈ BIG) (hinst : Cond.instantiable (clR t) (clN t) ∈ BIG) (hini : Cond.initialized (clR t) ∈ BIG) (hcells : cells + 1 ≤ R.cells) (hslots : slots + clN t ≤ R.slots) (hdef : ∀ k, k < clN t → defaultValue (clY t k) = zV (kd t k)) (hdg : decode cc pc = .ok (.new idx, 3))
    (kk : ∀ H1, HBN g (n + 1) M H1 → LK g s H1 locs → W p l e R s m args below meth c H1 locs (cells + 1) (slots + clN t) Q (F0 m (pc + 3) ls (.ref (adr g (n + 1)) :: rest))) : W p l e R s m args below meth c H locs cells slots Q (F0 m pc ls rest) := by
  obtain ⟨hx, hb, -, hown, hts, hK, -⟩ := X
  have hKn := hK.1 t hc
  have hsz : H.size = adr g (n + 1) := hH.2.2
  refine W.newcK hx hb hown (hts _ hcl) (hts _ hinst) (hts _ hini) rfl hdg hcells hslots hKn.2.1 hsz fun H1 kC hkC e1 z1 o1 => ?_
  refine kk H1 ⟨hH.1.push hH.2.2 (by rw [z1, hsz]) (fun q hq => o1 q (by rw [← hsz]; exact hq)) ?_, hH.2.1.mono (by omega), by rw [z1, ← hsz, hH.2.2]; omega⟩ ⟨by rw [z1, ← hsz]; exact Nat.le_succ_of_le hL.1, hL.2⟩
  unfold CellAt
  rw [hty, if_pos ht]
  exact (u_born (clY t) hts ho.1 hKn hkC e1 ho.2.2).to (fun k hk => by rw [hH.2.1.z g k _ (Nat.lt_succ_self n)]; exact hdef k hk)
theorem b_newa {atype : ArrayType} {N : Nat} {v : Int32} (X : CX g l p s m args meth c own cc nL) (hH : HBN g n M H) (hL : LK g s H locs) (hty : tyT (n + 1) = t) (hc : isA t = true) (ht : ¬ t < 20) (he : eT t = newarray.typeOf atype) (hw : Cond.arrayClass (newarray.typeOf atype) ∈ BIG) (hN : alen t = N) (h0 : ¬ v < 0) (hv : v.toNatClampNeg = N) (hby : N * componentBytes (newarray.typeOf atype) ≤ 536870912) (hcells : cells + 1 ≤ R.cells) (hslots : slots + N ≤ R.slots) (hdef : ∀ k, defaultValue (newarray.typeOf atype) = zV (kd t k)) (hdg : decode cc pc = .ok (.newarray atype, 2))
    (kk : ∀ H1, HBN g (n + 1) M H1 → LK g s H1 locs → W p l e R s m args below meth c H1 locs (cells + 1) (slots + N) Q (F0 m (pc + 2) ls (.ref (adr g (n + 1)) :: rest))) : W p l e R s m args below meth c H locs cells slots Q (F0 m pc ls (.int v :: rest)) := by
  obtain ⟨hx, hb, -, hown, hts, hK, -⟩ := X
  have hKn := hK.2.1 t hc
  have hsz : H.size = adr g (n + 1) := hH.2.2
  refine va_newaK hx hb (hts _ hw) rfl hdg rfl h0 hv hby hcells hslots hsz fun H1 cA e1 z1 o1 hAr hNm => ?_
  have hcA : gA g t = cA := by
    have h9 := hKn.2
    rw [he] at h9
    cases atype <;> exact Option.some.inj (h9.symm.trans hNm)
  refine kk H1 ⟨hH.1.push hH.2.2 (by rw [z1, hsz]) (fun q hq => o1 q (by rw [← hsz]; exact hq)) ?_, hH.2.1.mono (by omega), by rw [z1, ← hsz, hH.2.2]; omega⟩ ⟨by rw [z1, ← hsz]; exact Nat.le_succ_of_le hL.1, hL.2⟩
  unfold CellAt
  rw [hty, if_neg ht, e1, hcA, hN]
  congr 2
  funext q
  rw [hH.2.1.z g q _ (Nat.lt_succ_self n)]
  exact hdef q
theorem b_anew {C : String} {N : Nat} {v : Int32} (X : CX g l p s m args meth c own cc nL) (hH : HBN g n M H) (hL : LK g s H locs) (hty : tyT (n + 1) = t) (hc : isA t = true) (ht : ¬ t < 20) (he : eT t = .object C) (hA : va_AO C s) (hcl : Cond.classLink own idx C ∈ BIG) (hN : alen t = N) (h0 : ¬ v < 0) (hv : v.toNatClampNeg = N) (hby : N * 4 ≤ 536870912) (hcells : cells + 1 ≤ R.cells) (hslots : slots + N ≤ R.slots) (hdef : ∀ k, kd t k = 2) (hdg : decode cc pc = .ok (.anewarray idx, 3))
    (kk : ∀ H1, HBN g (n + 1) M H1 → LK g s H1 locs → W p l e R s m args below meth c H1 locs (cells + 1) (slots + N) Q (F0 m (pc + 3) ls (.ref (adr g (n + 1)) :: rest))) : W p l e R s m args below meth c H locs cells slots Q (F0 m pc ls (.int v :: rest)) := by
  obtain ⟨hx, hb, -, hown, hts, hK, -⟩ := X
  have hKn := hK.2.1 t hc
  have hsz : H.size = adr g (n + 1) := hH.2.2
  subst hv
  refine W.anew hx hb hown (hts _ hcl) (va_AO.use hA) rfl hdg rfl h0 hby hcells hslots fun cA kA comp f1 f2 f3 f4 => ?_
  generalize hH1 : H.push ({ cls := cA, slots := Array.replicate v.toNatClampNeg .null, vm := .none } : Cell) = H1
  have z1 : H1.size = H.size + 1 := by rw [← hH1, Array.size_push]
  have e1 : H1[H.size]? = some (arrV cA v.toNatClampNeg (fun _ => .null)) := by rw [← hH1, Array.getElem?_push_size, ← arrV_new]
  have o1 : ∀ q, q < H.size → H1[q]? = H[q]? := fun q hq => by rw [← hH1, Array.getElem?_push, if_neg (Nat.ne_of_lt hq)]
  have hcA : gA g t = cA := by
    have h9 := hKn.2
    rw [he] at h9
    obtain ⟨_, _, -, -, -, h10⟩ := h9
    exact Option.some.inj (h10.symm.trans f1)
  rw [hsz]
  refine kk H1 ⟨hH.1.push hH.2.2 z1 o1 ?_, hH.2.1.mono (by omega), by rw [z1, hH.2.2]; omega⟩ ⟨by rw [z1]; exact Nat.le_succ_of_le hL.1, hL.2⟩
  unfold CellAt
  rw [hty, if_neg ht, ← hsz, e1, hcA, hN]
  congr 2
  funext q
  rw [hH.2.1.z g q _ (Nat.lt_succ_self n), hdef]
  rfl
/-- a field written: also a final one, in its own constructor -/
theorem b_put (X : CX g l p s m args meth c own cc nL) (hH : HBN g n M H) (hn : a ≤ n) (hL : LK g s H locs) (ho : okC t) (hty : tyT a = t) (hc : isC t = true) (ht : t < 20) (hk : k < clN t) (hfin : (clT t k).2.2.2 = false ∨ ((clT t k).2.2.2 = true ∧ meth.name = "<init>" ∧ (clT t k).1 = own)) {v : Value} {fy : FieldType} (hfy : clY t k = fy) (hnr : narrow fy v = v) (hft : fits fy v = true) (hB : BLK n M1) (hv : vV g M1 (kd t k) a k = v) (hj : ∀ j, j ≠ k → vV g M1 (kd t j) a j = vV g M (kd t j) a j) (ho' : ∀ b d j, b ≠ a → vV g M1 d b j = vV g M d b j)
    (hlk : Cond.fieldLink own idx (clT t k).1 (clT t k).2.1 (clT t k).2.2.1 ∈ BIG) (hdg : decode cc pc = .ok (.putfield idx, 3))
    (kk : ∀ H1 locs1, HBN g n M1 H1 → LK g s H1 locs1 → W p l e R s m args below meth c H1 locs1 cells slots Q (F0 m (pc + 3) ls rest)) : W p l e R s m args below meth c H locs cells slots Q (F0 m pc ls (v :: .ref (adr g a) :: rest)) := by
  have hap := m_apart X ho hc
  obtain ⟨hx, hb, -, hown, hts, hK, -⟩ := X
  have hr := ty_ge hty (by rintro rfl; simp [isC] at hc)
  obtain ⟨cell, q1, q2, q3, q4⟩ := hH.1.obj hr.1 hn hty ht
  obtain ⟨hS, hfc, kC, hkC, hkind⟩ := hK.1 t hc
  obtain ⟨cf, kf, fi, f, hi, hsl⟩ := hS k hk
  have hlay := hts _ (ho.1 _ (u_in_lay hk))
  have hst := (u_facts hfc hkC (u_lays hts ho.1 hk) hi).1
  have fin : ∀ H' : Heap, H'[adr g a]? = some (cell.setSlot f.slot v) → H'.size = H.size → (∀ q, q ≠ adr g a → H'[q]? = H[q]?) → W p l e R s m args below meth c H' (locs ++ [⟨adr g a, f.slot⟩]) cells slots Q (F0 m (pc + 3) ls rest) := fun H' e1 e2 e3 => by
    rw [hsl] at e1
    refine kk H' _ ⟨hH.1.put hr.1 e3 e2 (m_obj ⟨_, e1, q2, q3, t_set q4 hap hk v⟩ hty ht hv hj) ho', hB, by rw [e2]; exact hH.2.2⟩ ⟨by rw [e2]; exact hL.1, fun q hq => ?_⟩
    rcases List.mem_append.mp hq with h | h
    · exact hL.2 q h
    · rw [List.mem_singleton.mp h]; unfold adr; exact Nat.le_add_right _ _
  unfold u_lay at hlay
  rcases hfin with hfin | ⟨hfin, hin2, hdecl⟩
  · rw [if_neg (by rw [hfin]; decide)] at hlay
    have h6 := u_store hfc hkC hkind hlay hi (ho.2.2 k hk) (by rw [hfy]; exact hnr) (by rw [hfy]; exact hft)
    exact W.putK hx hb (f := f) ⟨hown, hts _ hlk, ⟨_, _, _, hi⟩, hst⟩ (by rw [q2]; exact h6) q1 q3 (by rw [hsl]; exact k2_hasslot (q4 k hk)) rfl rfl hdg fin
  · rw [if_pos hfin] at hlay
    have hcf : m.cls = cf := by
      obtain ⟨_, _, c', _, _, _, -, -, hf', -, -, -, hown2, -⟩ := Cond.laysFinal_spec hlay
      have e1 : c' = cf := by have := hi.symm.trans hf'; simp at this; exact this.1.symm
      rw [hdecl] at hown2
      rw [← e1]; exact Option.some.inj (hown.symm.trans hown2)
    have h6 := u_fits hfc hkC hkind (Or.inr hlay) hi (ho.2.2 k hk) (by rw [hfy]; exact hnr) (by rw [hfy]; exact hft)
    exact W.putFinK hx hb hown (hts _ hlk) hi hst hcf hin2 (by rw [q2]; exact h6) q1 q3 (by rw [hsl]; exact k2_hasslot (q4 k hk)) rfl rfl hdg fin
end MYN
