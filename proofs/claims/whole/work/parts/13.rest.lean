/-! MY ROWS: arraycopy of whole int arrays, table switches -/
theorem sw_ne {x k : Int32} {z : Int} (h : ¬ x = k) (e : k.toInt = z) : x.toInt ≠ z := fun h2 => h (Int32.toInt_inj.mp (h2.trans e.symm))
def tbl (d lo hi : Int) (offs : Array Int) (z : Int) : Int := if z < lo ∨ hi < z then d else (offs[(z - lo).toNat]?).getD d
def tbOk (lo hi : Int) (offs : Array Int) : Bool := decide ((offs.size : Int) = hi - lo + 1)
theorem tb_def {d lo hi : Int} {offs : Array Int} (ks : List Int) (hc : (List.range offs.size).all (fun i => ks.contains (lo + (i : Int)) || decide (offs[i]? = some d)) = true) {z : Int} (h : ∀ k ∈ ks, z ≠ k) : tbl d lo hi offs z = d := by
  unfold tbl
  split
  · rfl
  · rename_i hz
    cases ho : offs[(z - lo).toNat]? with
    | none => rfl
    | some v =>
      have hl := (Array.getElem?_eq_some_iff.mp ho).1
      have h1 := List.all_eq_true.mp hc _ (List.mem_range.mpr hl)
      have e1 : lo + (((z - lo).toNat : Nat) : Int) = z := by omega
      rw [e1, Bool.or_eq_true] at h1
      rcases h1 with h1 | h1
      · exact absurd rfl (h z (List.contains_iff_mem.mp h1))
      · have h2 := of_decide_eq_true h1
        rw [ho] at h2
        rw [Option.some.inj h2]; rfl
section MYA
variable {p : Program} {l : Launch} {e : Env} {R : Room} {s : State} {m : MethodId} {args : Array Value} {below : List Frame} {meth : Method} {c : Code} {H : Heap} {locs : List Loc} {cells slots : Nat} {Q mq : State → Prop} {f0 : JFrame}
variable {cc cy : ByteArray} {pc : Nat} {ls : Array Slot} {rest st : List Value} {g : GP} {own : String} {nL nY a b t k n idx fr lo : Nat} {M M1 M2 : Mem} {y : MethodName} {ret : Option FieldType} {As : List Value}
theorem m_table (hexec : p.tables.exec = Jvm.exec) (hb : c.code = cc) {dflt lo hi : Int} {offs : Array Int} {len : Nat} {x : Int32} {off : Int} {tgt : Nat} (hdg : decode cc pc = .ok (.tableswitch dflt lo hi offs, len)) (hok : tbOk lo hi offs = true) (ho : tbl dflt lo hi offs x.toInt = off) (ht : (pc : Int) + off = (tgt : Int))
    (kk : W p l e R s m args below meth c H locs cells slots Q (F0 m tgt ls rest)) : W p l e R s m args below meth c H locs cells slots Q (F0 m pc ls (.int x :: rest)) := by
  have hok := of_decide_eq_true hok
  unfold tbl at ho
  split at ho
  · rename_i h
    subst ho
    exact lv_tableOut hexec hb hdg h ht kk
  · rename_i h
    have hl : (x.toInt - lo).toNat < offs.size := by omega
    rw [Array.getElem?_eq_getElem hl] at ho
    exact lv_tableIn hexec hb hdg (fun q => h (Or.inl q)) (fun q => h (Or.inr q)) (by rw [Array.getElem?_eq_getElem hl]; exact congrArg some ho) ht kk
theorem m_acopy (X : CX g l p s m args meth c own cc nL) (hH : HR g M H) (hL : LK g s H locs) (hls : ls.size = nL) (hta : tyT a = t) (htb : tyT b = t) (hc : isA t = true) (ht : ¬ t < 20) (hd : ∀ j, kd t j = 0) (he : eT t = .int) {N : Nat} (hN : alen t = N) {n : Int32} (hn : ¬ n < 0) (hnN : n.toNatClampNeg = N) (h2N : N < 2 ^ 31)
    (hlk : Cond.methodLink own idx arraycopyName ∈ BIG) (hnat : Cond.native arraycopyName ∈ BIG) (hstat : Cond.static arraycopyName ∈ BIG) (hini : Cond.initialized "java/lang/System" ∈ BIG)
    (hframes : 1 ≤ R.frames) (hlocals : (rest.map fun v => v.category).sum + (nativeFrameWords "java/lang/System" "arraycopy" 5 + 11) ≤ R.locals) (hdg : decode cc pc = .ok (.invokestatic idx, 3)) (eM : M2 = cpI M a 0 b 0 N)
    (kk : ∀ H1 locs1, HR g M2 H1 → LK g s H1 locs1 → W p l e R s m args below meth c H1 locs1 cells slots Q (F0 m (pc + 3) ls rest)) : W p l e R s m args below meth c H locs cells slots Q (F0 m pc ls (.int n :: .int 0 :: .ref (adr g b) :: .int 0 :: .ref (adr g a) :: rest)) := by
  subst eM
  obtain ⟨hx, hb, hml, hown, hts, hK, -⟩ := X
  have hra := ty_ge hta (by rintro rfl; simp at ht)
  have hrb := ty_ge htb (by rintro rfl; simp at ht)
  have hc0 : H[adr g a]? = some (arrV (gA g t) N (fun j => .int (mI M a j))) := by
    rw [hH.1.arr hra.1 hra.2 hta ht, hN]
    simp only [hd]; rfl
  have hc1 : H[adr g b]? = some (arrV (gA g t) N (fun j => .int (mI M b j))) := by
    rw [hH.1.arr hrb.1 hrb.2 htb ht, hN]
    simp only [hd]; rfl
  have hA := (hK.2.1 t hc).1
  rw [he] at hA
  obtain ⟨-, k0, hk0, cm0, hkk0⟩ := hA N (fun j => .int (mI M a j))
  obtain ⟨-, k1, hk1, cm1, hkk1⟩ := hA N (fun j => .int (mI M b j))
  have hnI : n.toInt = (N : Int) := by
    have hz0 : (0 : Int) ≤ n.toInt := by
      have := Int32.not_lt.mp hn
      simpa using Int32.le_iff_toInt_le.mp this
    have : n.toNatClampNeg = n.toInt.toNat := rfl
    omega
  have h00 : (0 : Int32).toInt = 0 := by decide
  intro T hT X
  obtain ⟨vm', X', step⟩ := X.arraycopy hx hown (hts _ hlk) (hts _ hnat) (hts _ hstat) (hts _ hini) (src := adr g a) (dst := adr g b) (cs := arrV (gA g t) N (fun j => .int (mI M a j))) (cd := arrV (gA g t) N (fun j => .int (mI M b j))) (srcPos := 0) (destPos := 0) (n := n) (by rw [hT]; exact hc0) (by rw [hT]; exact hc1)
    (fun _ h => by cases h) (fun _ h => by cases h) (fun h => by cases h) (fun h => by cases h) hk0 hk1 hkk0 hkk1 (by simp [refKind]) (by decide) (by decide) hn
    (by rw [h00, hnI, arrV_size]; omega)
    (by rw [h00, hnI, arrV_size]; omega)
    (fun vm₁ _ i hi => by
      have e : (arrV (gA g t) N (fun j => .int (mI M a j))).slots.getD ((0 : Int32).toNatClampNeg + i) .null = .int (mI M a ((0 : Int32).toNatClampNeg + i)) := by
        have h9 : (0 : Int32).toNatClampNeg = 0 := by decide
        rw [h9, Array.getD_eq_getD_getElem?, arrV_read _ _ (by omega)]
        rfl
      refine ⟨?_, ?_⟩
      · rw [e]; rfl
      · rw [e]; exact trivial)
    (g := F0 m pc ls (.int n :: .int 0 :: .ref (adr g b) :: .int 0 :: .ref (adr g a) :: rest)) rfl (by rw [hml]; exact hls) (rest := rest) rfl (by rw [hb]; exact hdg) hframes (by show 2 * 0 + _ + _ ≤ _; omega)
  have e1 : copied (arrV (gA g t) N (fun j => .int (mI M a j))) (arrV (gA g t) N (fun j => .int (mI M b j))) 0 0 n = arrV (gA g t) N (fun j => .int (va_cpy (mI M a) (mI M b) 0 0 N j)) := by
    have := va_copied (fun z => Value.int z) (gA g t) (gA g t) (n0 := N) (n1 := N) (sp := 0) (dp := 0) (n := N) (mI M a) (mI M b) (by omega)
    rw [← this]
    show (arrV _ _ _).storeRun (0 : Int32).toNatClampNeg ((arrV _ _ _).stretch (0 : Int32).toNatClampNeg n.toNatClampNeg) = _
    rw [hnN]
    rfl
  rw [e1] at X' step
  have hl : adr g b < H.size := (Array.getElem?_eq_some_iff.mp hc1).1
  have hheap : ((T.setVm vm').setCell (adr g b) (arrV (gA g t) N (fun j => .int (va_cpy (mI M a) (mI M b) 0 0 N j)))).heap = H.setIfInBounds (adr g b) (arrV (gA g t) N (fun j => .int (va_cpy (mI M a) (mI M b) 0 0 N j))) := by rw [← hT]; rfl
  have oq : ∀ q : Nat, q ≠ adr g b → (H.setIfInBounds (adr g b) (arrV (gA g t) N (fun j => .int (va_cpy (mI M a) (mI M b) 0 0 N j))))[q]? = H[q]? := fun q hq => by simp [Array.getElem?_setIfInBounds, Ne.symm hq]
  have hns : ∀ c9 j, c9 ≠ b → ∀ d, vV g (cpI M a 0 b 0 N) d c9 j = vV g M d c9 j := fun c9 j h9 d => by
    unfold vV
    split
    · rw [mI_cpI, if_neg h9]
    all_goals rfl
  obtain ⟨t2, a1, b1⟩ := kk _ _ ⟨hH.1.put hrb.1 oq (by simp) (by
      unfold CellAt
      rw [htb, if_neg ht, hN]
      rw [show (H.setIfInBounds (adr g b) (arrV (gA g t) N (fun j => .int (va_cpy (mI M a) (mI M b) 0 0 N j))))[adr g b]? = some (arrV (gA g t) N (fun j => .int (va_cpy (mI M a) (mI M b) 0 0 N j))) by simp [Array.getElem?_setIfInBounds, hl]]
      simp only [hd]
      congr 2
      funext j
      show _ = Value.int (mI (cpI M a 0 b 0 N) b j)
      rw [mI_cpI, if_pos rfl]
      rfl) (fun c9 d j h9 => hns c9 j h9 d), hH.2.cpI a 0 b 0 N⟩ ⟨by simp; exact hL.1, fun q hq => by
      rcases List.mem_append.mp hq with h | h
      · exact hL.2 q h
      · obtain ⟨z, -, hz⟩ := List.mem_map.mp h
        rw [← hz]
        unfold adr; exact Nat.le_add_right _ _⟩ _ hheap X'
  exact ⟨t2, step t2 a1, b1⟩
end MYA
