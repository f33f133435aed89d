/-! MY ROWS once more, handier -/
def lt {α β : Type} (x : β) (k : β → α) : α := k x
def b1 {α β : Type} (x : Option (β × Mem)) (k : β → Mem → Option α) : Option α := match x with
  | none => none
  | some (v, M) => k v M
def nokZ (x : Int32) : Bool := x == 0 || x == 1
def nokC (x : Int32) : Bool := decide (0 ≤ x) && decide (x ≤ 65535) && decide (x.toUInt32.toUInt16.toUInt32.toInt32 = x)
theorem nokZ_n {x : Int32} (h : nokZ x = true) : narrow .boolean (.int x) = .int x := by
  simp only [nokZ, Bool.or_eq_true, beq_iff_eq] at h
  rcases h with rfl | rfl <;> decide
theorem nokZ_f {x : Int32} (h : nokZ x = true) : fits .boolean (.int x) = true := h
theorem nokC_n {x : Int32} (h : nokC x = true) : narrow .char (.int x) = .int x := by
  simp only [nokC, Bool.and_eq_true, decide_eq_true_eq] at h
  show Value.int _ = _
  rw [h.2]
theorem nokC_f {x : Int32} (h : nokC x = true) : fits .char (.int x) = true := by
  simp only [nokC, Bool.and_eq_true, decide_eq_true_eq] at h
  simp [fits, h.1.1, h.1.2]
def nn32 (r : UInt32) : Bool := decide (r &&& 0x7fffffff ≤ 0x7f800000)
def nn64 (r : UInt64) : Bool := decide (r &&& 0x7fffffffffffffff ≤ 0x7ff0000000000000)
theorem nn32_n {r : UInt32} (h : nn32 r = true) : vf_n32 r := by unfold nn32 at h; unfold vf_n32; exact of_decide_eq_true h
theorem nn64_n {r : UInt64} (h : nn64 r = true) : vf_n64 r := by unfold nn64 at h; unfold vf_n64; exact of_decide_eq_true h
def nz (y : Int32) : Bool := decide (¬ y = 0)
theorem nz_n {y : Int32} (h : nz y = true) : ¬ y = 0 := of_decide_eq_true h
def fok (t k d : Nat) : Bool := isC t && Nat.blt t 20 && Nat.blt k (clN t) && Nat.beq (kd t k) d
def pok (t k d : Nat) : Bool := isC t && Nat.blt t 20 && Nat.blt k (clN t) && Nat.beq (kd t k) d && !((clT t k).2.2.2)
theorem fok_s {t k d : Nat} (h : fok t k d = true) : isC t = true ∧ t < 20 ∧ k < clN t ∧ kd t k = d := by
  simp only [fok, Bool.and_eq_true] at h
  exact ⟨h.1.1.1, Nat.le_of_ble_eq_true h.1.1.2, Nat.le_of_ble_eq_true h.1.2, Nat.eq_of_beq_eq_true h.2⟩
theorem pok_s {t k d : Nat} (h : pok t k d = true) : isC t = true ∧ t < 20 ∧ k < clN t ∧ kd t k = d ∧ (clT t k).2.2.2 = false := by
  simp only [pok, Bool.and_eq_true, Bool.not_eq_true'] at h
  exact ⟨h.1.1.1.1, Nat.le_of_ble_eq_true h.1.1.1.2, Nat.le_of_ble_eq_true h.1.1.2, Nat.eq_of_beq_eq_true h.1.2, h.2⟩
theorem sw_def {ps : List (Int × Int)} {d : Int} {x : Int} (h : ∀ q ∈ ps, x ≠ q.1) : Op.lookupswitch.offset ps d x = d := by
  induction ps with
  | nil => rfl
  | cons q r ih =>
    have h1 := h q List.mem_cons_self
    have h2 := ih fun q hq => h q (List.mem_cons_of_mem _ hq)
    unfold Op.lookupswitch.offset
    simp only [Ne.symm h1, if_false, beq_iff_eq, decide_false] at *
    first | exact h2 | simpa [h1, Ne.symm h1] using h2
section MYM
variable {p : Program} {l : Launch} {e : Env} {R : Room} {s : State} {m : MethodId} {args : Array Value} {below : List Frame} {meth : Method} {c : Code} {H : Heap} {locs : List Loc} {cells slots : Nat} {Q mq : State → Prop} {f0 : JFrame}
variable {cc cy : ByteArray} {pc : Nat} {ls : Array Slot} {rest st : List Value} {g : GP} {own : String} {nL nY a t k n idx fr lo : Nat} {M M1 M2 : Mem} {y : MethodName} {ret : Option FieldType} {As : List Value}
theorem q_lt {α β : Type} {r0 : α} {x : β} {k : β → Option α} (h : ∀ y, y = x → W p l e R s m args below meth c H locs cells slots (GQ (k y) r0 mq) f0) : W p l e R s m args below meth c H locs cells slots (GQ (lt x k) r0 mq) f0 := h x rfl
theorem q_b1 {α β : Type} {r0 : α} {x : Option (β × Mem)} {k : β → Mem → Option α} (h : ∀ v M, x = some (v, M) → W p l e R s m args below meth c H locs cells slots (GQ (k v M) r0 mq) f0) : W p l e R s m args below meth c H locs cells slots (GQ (b1 x k) r0 mq) f0 := by
  match x with
  | none => exact q_none
  | some (v, M) => exact h v M rfl
theorem q_out {α : Type} {r0 : α} {f : Option α} (hf : f = some r0) (k : W p l e R s m args below meth c H locs cells slots (GQ f r0 mq) f0) : W p l e R s m args below meth c H locs cells slots mq f0 := by
  intro T hT X
  obtain ⟨t, a, b⟩ := k T hT X
  exact ⟨t, a, b hf⟩
theorem q_topI {x y : Int32} (h : y = x) (k : W p l e R s m args below meth c H locs cells slots Q (F0 m pc ls (.int y :: rest))) : W p l e R s m args below meth c H locs cells slots Q (F0 m pc ls (.int x :: rest)) := h ▸ k
theorem q_topJ {x y : Int64} (h : y = x) (k : W p l e R s m args below meth c H locs cells slots Q (F0 m pc ls (.long y :: rest))) : W p l e R s m args below meth c H locs cells slots Q (F0 m pc ls (.long x :: rest)) := h ▸ k
theorem q_topR {x y : Nat} (h : y = x) (k : W p l e R s m args below meth c H locs cells slots Q (F0 m pc ls (.ref (adr g y) :: rest))) : W p l e R s m args below meth c H locs cells slots Q (F0 m pc ls (.ref (adr g x) :: rest)) := h ▸ k
theorem m_gI (X : CX g l p s m args meth c own cc nL) (hH : HR g M H) (hw : inC t) (hty : tyT a = t) (hf : fok t k 0 = true) (hlk : Cond.fieldLink own idx (clT t k).1 (clT t k).2.1 (clT t k).2.2.1 ∈ BIG) (hdg : decode cc pc = .ok (.getfield idx, 3))
    (kk : W p l e R s m args below meth c H locs cells slots Q (F0 m (pc + 3) ls (.int (mI M a k) :: rest))) : W p l e R s m args below meth c H locs cells slots Q (F0 m pc ls (.ref (adr g a) :: rest)) := by
  obtain ⟨h1, h2, h3, h4⟩ := fok_s hf
  exact m_getI X hH hw hty h1 h2 h3 h4 hlk hdg kk
theorem m_gJ (X : CX g l p s m args meth c own cc nL) (hH : HR g M H) (hw : inC t) (hty : tyT a = t) (hf : fok t k 1 = true) (hlk : Cond.fieldLink own idx (clT t k).1 (clT t k).2.1 (clT t k).2.2.1 ∈ BIG) (hdg : decode cc pc = .ok (.getfield idx, 3))
    (kk : W p l e R s m args below meth c H locs cells slots Q (F0 m (pc + 3) ls (.long (mJ M a k) :: rest))) : W p l e R s m args below meth c H locs cells slots Q (F0 m pc ls (.ref (adr g a) :: rest)) := by
  obtain ⟨h1, h2, h3, h4⟩ := fok_s hf
  exact m_getJ X hH hw hty h1 h2 h3 h4 hlk hdg kk
theorem m_gR (X : CX g l p s m args meth c own cc nL) (hH : HR g M H) (hw : inC t) (hty : tyT a = t) (hf : fok t k 2 = true) (hlk : Cond.fieldLink own idx (clT t k).1 (clT t k).2.1 (clT t k).2.2.1 ∈ BIG) (hdg : decode cc pc = .ok (.getfield idx, 3)) (t2 : Nat) (h2 : rt t k = t2)
    (kk : tyT (mR M a k) = t2 → W p l e R s m args below meth c H locs cells slots Q (F0 m (pc + 3) ls (.ref (adr g (mR M a k)) :: rest))) : W p l e R s m args below meth c H locs cells slots Q (F0 m pc ls (.ref (adr g a) :: rest)) := by
  obtain ⟨h1, h22, h3, h4⟩ := fok_s hf
  exact m_getR X hH hw hty h1 h22 h3 h4 hlk hdg h2 kk
theorem m_gQ (X : CX g l p s m args meth c own cc nL) (hH : HR g M H) (hw : inC t) (hty : tyT a = t) (hf : fok t k 3 = true) (hlk : Cond.fieldLink own idx (clT t k).1 (clT t k).2.1 (clT t k).2.2.1 ∈ BIG) (hdg : decode cc pc = .ok (.getfield idx, 3))
    (kk : 1 ≤ mR M a k ∧ mR M a k ≤ 11 → W p l e R s m args below meth c H locs cells slots Q (F0 m (pc + 3) ls (.ref (gV g (mR M a k - 1)) :: rest))) : W p l e R s m args below meth c H locs cells slots Q (F0 m pc ls (.ref (adr g a) :: rest)) := by
  obtain ⟨h1, h22, h3, h4⟩ := fok_s hf
  exact m_getQ X hH hw hty h1 h22 h3 h4 hlk hdg kk
theorem m_pI {x : Int32} {fy : FieldType} (X : CX g l p s m args meth c own cc nL) (hH : HR g M H) (hL : LK g s H locs) (ho : okC t) (hty : tyT a = t) (hf : pok t k 0 = true) (hfy : clY t k = fy) (hnr : narrow fy (.int x) = .int x) (hft : fits fy (.int x) = true)
    (hlk : Cond.fieldLink own idx (clT t k).1 (clT t k).2.1 (clT t k).2.2.1 ∈ BIG) (hdg : decode cc pc = .ok (.putfield idx, 3)) (eM : M2 = sI M a k x)
    (kk : ∀ H1 locs1, HR g M2 H1 → LK g s H1 locs1 → W p l e R s m args below meth c H1 locs1 cells slots Q (F0 m (pc + 3) ls rest)) : W p l e R s m args below meth c H locs cells slots Q (F0 m pc ls (.int x :: .ref (adr g a) :: rest)) := by
  obtain ⟨h1, h2, h3, h4, h5⟩ := pok_s hf
  subst eM
  exact m_putI X hH hL ho hty h1 h2 h3 h4 h5 hfy hnr hft hlk hdg kk
theorem m_pJ {x : Int64} (X : CX g l p s m args meth c own cc nL) (hH : HR g M H) (hL : LK g s H locs) (ho : okC t) (hty : tyT a = t) (hf : pok t k 1 = true) (hfy : clY t k = .long)
    (hlk : Cond.fieldLink own idx (clT t k).1 (clT t k).2.1 (clT t k).2.2.1 ∈ BIG) (hdg : decode cc pc = .ok (.putfield idx, 3)) (eM : M2 = sJ M a k x)
    (kk : ∀ H1 locs1, HR g M2 H1 → LK g s H1 locs1 → W p l e R s m args below meth c H1 locs1 cells slots Q (F0 m (pc + 3) ls rest)) : W p l e R s m args below meth c H locs cells slots Q (F0 m pc ls (.long x :: .ref (adr g a) :: rest)) := by
  obtain ⟨h1, h2, h3, h4, h5⟩ := pok_s hf
  subst eM
  exact m_putJ X hH hL ho hty h1 h2 h3 h4 h5 hfy hlk hdg kk
theorem m_pQ {i : Nat} {cn : String} (X : CX g l p s m args meth c own cc nL) (hH : HR g M H) (hL : LK g s H locs) (ho : okC t) (hty : tyT a = t) (hf : pok t k 3 = true) (hi : i < 11) (hfy : clY t k = .object cn)
    (hlk : Cond.fieldLink own idx (clT t k).1 (clT t k).2.1 (clT t k).2.2.1 ∈ BIG) (hdg : decode cc pc = .ok (.putfield idx, 3)) (eM : M2 = sR M a k (i + 1))
    (kk : ∀ H1 locs1, HR g M2 H1 → LK g s H1 locs1 → W p l e R s m args below meth c H1 locs1 cells slots Q (F0 m (pc + 3) ls rest)) : W p l e R s m args below meth c H locs cells slots Q (F0 m pc ls (.ref (gV g i) :: .ref (adr g a) :: rest)) := by
  obtain ⟨h1, h2, h3, h4, h5⟩ := pok_s hf
  subst eM
  exact m_putQ X hH hL ho hty h1 h2 h3 h4 h5 hi hfy hlk hdg kk
theorem m_is {i x : Int32} (X : CX g l p s m args meth c own cc nL) (hH : HR g M H) (hL : LK g s H locs) (hty : tyT a = t) (hc : isA t = true) (ht : ¬ t < 20) (hd : ∀ j, kd t j = 0) (he : eT t = .int) {n : Nat} (hn : alen t = n) (hin : inb i n = true) (hdg : decode cc pc = .ok (.iastore, 1)) (eM : M2 = sI M a i.toNatClampNeg x)
    (kk : ∀ H1 locs1, HR g M2 H1 → LK g s H1 locs1 → W p l e R s m args below meth c H1 locs1 cells slots Q (F0 m (pc + 1) ls rest)) : W p l e R s m args below meth c H locs cells slots Q (F0 m pc ls (.int x :: .int i :: .ref (adr g a) :: rest)) := by
  subst eM
  exact m_iast X hH hL hty hc ht hd he hn hin hdg kk
theorem m_cs {i x : Int32} (X : CX g l p s m args meth c own cc nL) (hH : HR g M H) (hL : LK g s H locs) (hty : tyT a = t) (hc : isA t = true) (ht : ¬ t < 20) (hd : ∀ j, kd t j = 0) (he : eT t = .char) {n : Nat} (hn : alen t = n) (hin : inb i n = true) (hdg : decode cc pc = .ok (.castore, 1)) (eM : M2 = sI M a i.toNatClampNeg (vp_nar .char x))
    (kk : ∀ H1 locs1, HR g M2 H1 → LK g s H1 locs1 → W p l e R s m args below meth c H1 locs1 cells slots Q (F0 m (pc + 1) ls rest)) : W p l e R s m args below meth c H locs cells slots Q (F0 m pc ls (.int x :: .int i :: .ref (adr g a) :: rest)) := by
  subst eM
  exact m_cast X hH hL hty hc ht hd he hn hin hdg kk
/-- an element of an array of references replaced by another object of its kind -/
theorem m_as {i : Int32} {b : Nat} (X : CX g l p s m args meth c own cc nL) (hH : HR g M H) (hL : LK g s H locs) (hty : tyT a = t) (hc : isA t = true) (ht : ¬ t < 20) (hd : ∀ j, kd t j = 2) {t2 : Nat} (hb2 : tyT b = t2) (hc2 : isC t2 = true) (ht2 : t2 < 20) (he : eT t = .object (clR t2)) (h2 : ∀ j, rt t j = t2) {n : Nat} (hn : alen t = n) (hin : inb i n = true) (hdg : decode cc pc = .ok (.aastore, 1)) (eM : M2 = sR M a i.toNatClampNeg b)
    (kk : ∀ H1 locs1, HR g M2 H1 → LK g s H1 locs1 → W p l e R s m args below meth c H1 locs1 cells slots Q (F0 m (pc + 1) ls rest)) : W p l e R s m args below meth c H locs cells slots Q (F0 m pc ls (.ref (adr g b) :: .int i :: .ref (adr g a) :: rest)) := by
  subst eM
  have hrc := my_recv X hH hb2 hc2 ht2
  obtain ⟨hx, hb, -, hown, hts, hK, -⟩ := X
  have hr := ty_ge hty (by rintro rfl; simp at ht)
  have hr2 := ty_ge hb2 (by rintro rfl; simp [isC] at hc2)
  have q := hH.1.arr hr.1 hr.2 hty ht
  have hin := inb_in hin
  subst hn
  have hlt : i.toNatClampNeg < alen t := Nat.not_le.mp fun q => hin (Or.inr q)
  have h0 : ¬ i < 0 := fun q => hin (Or.inl q)
  obtain ⟨cellV, g1, g3, g2⟩ := hrc
  have hcls := (hK.1 t2 hc2).2
  have hra := (hK.2.1 t hc).2
  rw [he] at hra
  obtain ⟨kA, comp, k1, k2, k3, -⟩ := hra
  have hcomp : comp = gC g t2 := Option.some.inj (k3.symm.trans hcls.1)
  subst hcomp
  obtain ⟨kC, hkC, -⟩ := hcls.2
  have hcv : cellV.cls = gC g t2 := Option.some.inj (g2.symm.trans hcls.1)
  refine W.aast hx hb q (fun q h => by cases h) (fun h => by cases h) k1 k2 rfl hkC ⟨h0, by rw [arrV_size]; exact hlt⟩ g1 (fun q h => by rw [h] at g3; cases g3) (by rw [hcv]; exact hkC) (by rw [hcv]; exact va_assign hcls) rfl rfl hdg fun H1 e1 z oq => ?_
  rw [arrV_store] at e1
  refine kk H1 _ ⟨m_arr hH.1 hty ht hr.1 e1 z oq (by rw [hd]; show vR g (mR _ a _) = _; rw [mR_sR, if_pos ⟨rfl, rfl⟩, vR_pos hr2.1]) (fun j hj => vV_sR_ne _ (fun h => hj h.2)) (fun b2 d j hb => vV_sR_ne _ (fun h => hb h.1)), fun b2 j h3 h4 h5 => ?_⟩ (hL.put z)
  by_cases zz : b2 = a ∧ j = i.toNatClampNeg
  · obtain ⟨rfl, rfl⟩ := zz
    rw [mR_sR, if_pos ⟨rfl, rfl⟩]
    exact ⟨fun _ => ⟨hr2.1, hr2.2, by rw [hty, hb2, h2]⟩, fun h6 => absurd h6 (by rw [hty, hd]; decide)⟩
  · rw [mR_sR, if_neg zz]
    exact hH.2 b2 j h3 h4 h5
theorem my_doneI {x : Int32} {aa : Array Value} (hL : LK g s H locs) (hr : vx_Run p l e R s m args below meth c H locs cells slots (mcO (.inl x : Int32 ⊕ String)) (msO (.inl x : Int32 ⊕ String)) (F0 m pc ls st) rest (QcO g rvI (.inl x) M1 aa) (XcO g (.inl x : Int32 ⊕ String) M1) (fun q => gN g ≤ q))
    (kk : ∀ H1 locs1, HR g M1 H1 → LK g s H1 locs1 → W p l e R s m args below meth c H1 locs1 cells slots Q (F0 m (pc + 3) ls (.int x :: rest))) : W p l e R s m args below meth c H locs cells slots Q (F0 m pc ls st) := my_done hL hr kk
theorem my_doneJ {x : Int64} {aa : Array Value} (hL : LK g s H locs) (hr : vx_Run p l e R s m args below meth c H locs cells slots (mcO (.inl x : Int64 ⊕ String)) (msO (.inl x : Int64 ⊕ String)) (F0 m pc ls st) rest (QcO g rvJ (.inl x) M1 aa) (XcO g (.inl x : Int64 ⊕ String) M1) (fun q => gN g ≤ q))
    (kk : ∀ H1 locs1, HR g M1 H1 → LK g s H1 locs1 → W p l e R s m args below meth c H1 locs1 cells slots Q (F0 m (pc + 3) ls (.long x :: rest))) : W p l e R s m args below meth c H locs cells slots Q (F0 m pc ls st) := my_done hL hr kk
theorem my_doneR {x : Nat} {aa : Array Value} (hL : LK g s H locs) (hr : vx_Run p l e R s m args below meth c H locs cells slots (mcO (.inl x : Nat ⊕ String)) (msO (.inl x : Nat ⊕ String)) (F0 m pc ls st) rest (QcO g (rvR g) (.inl x) M1 aa) (XcO g (.inl x : Nat ⊕ String) M1) (fun q => gN g ≤ q))
    (kk : ∀ H1 locs1, HR g M1 H1 → LK g s H1 locs1 → W p l e R s m args below meth c H1 locs1 cells slots Q (F0 m (pc + 3) ls (.ref (adr g x) :: rest))) : W p l e R s m args below meth c H locs cells slots Q (F0 m pc ls st) := my_done hL hr kk
theorem my_doneF {x : UInt32} {aa : Array Value} (hL : LK g s H locs) (hr : vx_Run p l e R s m args below meth c H locs cells slots (mcO (.inl x : UInt32 ⊕ String)) (msO (.inl x : UInt32 ⊕ String)) (F0 m pc ls st) rest (QcO g rvF (.inl x) M1 aa) (XcO g (.inl x : UInt32 ⊕ String) M1) (fun q => gN g ≤ q))
    (kk : ∀ H1 locs1, HR g M1 H1 → LK g s H1 locs1 → W p l e R s m args below meth c H1 locs1 cells slots Q (F0 m (pc + 3) ls (.float x :: rest))) : W p l e R s m args below meth c H locs cells slots Q (F0 m pc ls st) := my_done hL hr kk
theorem my_doneD {x : UInt64} {aa : Array Value} (hL : LK g s H locs) (hr : vx_Run p l e R s m args below meth c H locs cells slots (mcO (.inl x : UInt64 ⊕ String)) (msO (.inl x : UInt64 ⊕ String)) (F0 m pc ls st) rest (QcO g rvD (.inl x) M1 aa) (XcO g (.inl x : UInt64 ⊕ String) M1) (fun q => gN g ≤ q))
    (kk : ∀ H1 locs1, HR g M1 H1 → LK g s H1 locs1 → W p l e R s m args below meth c H1 locs1 cells slots Q (F0 m (pc + 3) ls (.double x :: rest))) : W p l e R s m args below meth c H locs cells slots Q (F0 m pc ls st) := my_done hL hr kk
theorem my_doneU {x : Unit} {aa : Array Value} (hL : LK g s H locs) (hr : vx_Run p l e R s m args below meth c H locs cells slots (mcO (.inl x : Unit ⊕ String)) (msO (.inl x : Unit ⊕ String)) (F0 m pc ls st) rest (QcO g rvU (.inl x) M1 aa) (XcO g (.inl x : Unit ⊕ String) M1) (fun q => gN g ≤ q))
    (kk : ∀ H1 locs1, HR g M1 H1 → LK g s H1 locs1 → W p l e R s m args below meth c H1 locs1 cells slots Q (F0 m (pc + 3) ls rest)) : W p l e R s m args below meth c H locs cells slots Q (F0 m pc ls st) := my_done hL hr kk
/-- the words of a throw -/
def okT (own : String) (ik ic is : Nat) (cls text : String) (names : List String) : Prop :=
  Bundle.fit cls = true ∧ (∀ n ∈ names, Bundle.fit n = true) ∧ Cond.classLink own ik cls ∈ BIG ∧ Cond.initialized cls ∈ BIG ∧ (own, is, text) ∈ STR ∧ (∀ w ∈ vx_atS own ic cls names, w ∈ BIG ∨ w ∈ FACE) ∧ (∀ w ∈ vx_atS own ic cls names, vx_ot w = true)
theorem my_sz {g : GP} {s : State} (X : CX g l p s m args meth c own cc nL) (hH : HR g M H) (hL : LK g s H locs) : va_S (fun q => gN g ≤ q) s.heap H locs :=
  ⟨hL.1, fun q _ hq => by rw [hH.1.1 q (Nat.lt_of_not_le hq), X.2.2.2.2.2.2.2.2 q (Nat.lt_of_not_le hq)], hL.2⟩
theorem my_zq {C nm d : String} (X : CX g l p s m args meth c own cc nL) (h : vx_Zq C nm d (fun q => gN g ≤ q) s (gH g)) : vx_Zq C nm d (fun q => gN g ≤ q) s s.heap := h.kept fun q h1 _ => X.2.2.2.2.2.2.2.2 q h1
theorem m_throw {τ : Type} {rv : τ → Option Value} {ik ic is : Nat} {cls text : String} {names : List String} (X : CX g l p s m args meth c own cc nL) (htb : ∀ x ∈ c.exceptionTable.toList, False) (hH : HR g M H) (hL : LK g s H locs) (hls : ls.size = nL) (hT : okT own ik ic is cls text names)
    (d0 : decode cc pc = .ok (.new ik, 3)) (d3 : decode cc (pc + 3) = .ok (.dup, 1)) (d4 : decode cc (pc + 4) = .ok (.ldc is, 2)) (d6 : decode cc (pc + 6) = .ok (.invokespecial ic, 3)) (d9 : decode cc (pc + 9) = .ok (.athrow, 1))
    (hR1 : names.length + 3 < fr) (hR2 : (rest.map fun v => v.category).sum + (13 * (names.length + 1) + 43) ≤ lo) :
    W p l e (rmO (.inr cls : τ ⊕ String) fr lo) s m args below meth c H locs 0 0 (MQO g below rv (.inr cls) M args s) (F0 m pc ls rest) := by
  obtain ⟨h1, h2, h3, h4, h5, h6, h7⟩ := hT
  have hts := X.2.2.2.2.1
  have hK := X.2.2.2.2.2.1
  obtain ⟨sa, hsa⟩ := hK.2.2.2.2.2.1 _ h5
  have hat : ∀ w ∈ vx_atS own ic cls names, w.before args s = true := fun w hw => (h6 w hw).elim (hts w) fun hf => face_any hf (hK.2.2.2.2.1 w hf)
  refine vx_throwS (A := fun q => gN g ≤ q) (names := names) (sa := sa) (mc := 1) (ms := 6) X.1 X.2.1 X.2.2.2.2.2.2.2.1 X.2.2.2.1 h1 h2 (hts _ h3) (hts _ h4) hsa hat (fun w hw => ?_) (my_zq X hK.2.2.1) (my_zq X hK.2.2.2.1) (my_sz X hH hL) (hls.trans X.2.2.1.symm) d0 d3 d4 d6 d9 (fun x hx => (htb x hx).elim) hR1 hR2 (Nat.le_refl _) (Nat.le_refl _) X.2.2.2.2.2.2.1 (fun t hA hz hq => ⟨rfl, ⟨⟨fun q hq1 => ?_, fun b hb1 hb2 => ?_, ?_⟩, hH.2⟩, ?_⟩) hL.2 (Nat.le_refl _) (Nat.le_refl _)
  · rcases List.mem_cons.mp hw with e1 | hw
    · rw [e1]; unfold vx_ot; rw [big_good h3]; simp
    · rcases List.mem_cons.mp hw with e1 | hw
      · rw [e1]; unfold vx_ot; rw [big_good h4]; simp
      · exact h7 w hw
  · rw [hq q (Nat.lt_of_lt_of_le hq1 (Nat.le_trans (Nat.le_add_right _ _) hH.1.2.2))]
    exact hH.1.1 q hq1
  · refine cell_kept (hq _ ?_) (fun _ _ => rfl) (hH.1.2.1 b hb1 hb2)
    have := hH.1.2.2
    unfold adr; omega
  · exact Nat.le_trans hH.1.2.2 hz
  · exact Nat.le_trans hL.1 hz
theorem m_throwW {τ : Type} {rv : τ → Option Value} {ik ic is : Nat} {cls text : String} {names : List String} (X : CX g l p s m args meth c own cc nL) (htb : ∀ x ∈ c.exceptionTable.toList, False) (hH : HR g M H) (hL : LK g s H locs) (hls : ls.size = nL) (hT : okT own ik ic is cls text names)
    (d0 : decode cc pc = .ok (.new ik, 3)) (d3 : decode cc (pc + 3) = .ok (.dup, 1)) (d4 : decode cc (pc + 4) = .ok (.ldc_w is, 3)) (d6 : decode cc (pc + 7) = .ok (.invokespecial ic, 3)) (d9 : decode cc (pc + 10) = .ok (.athrow, 1))
    (hR1 : names.length + 3 < fr) (hR2 : (rest.map fun v => v.category).sum + (13 * (names.length + 1) + 43) ≤ lo) :
    W p l e (rmO (.inr cls : τ ⊕ String) fr lo) s m args below meth c H locs 0 0 (MQO g below rv (.inr cls) M args s) (F0 m pc ls rest) := by
  obtain ⟨h1, h2, h3, h4, h5, h6, h7⟩ := hT
  have hts := X.2.2.2.2.1
  have hK := X.2.2.2.2.2.1
  obtain ⟨sa, hsa⟩ := hK.2.2.2.2.2.1 _ h5
  have hat : ∀ w ∈ vx_atS own ic cls names, w.before args s = true := fun w hw => (h6 w hw).elim (hts w) fun hf => face_any hf (hK.2.2.2.2.1 w hf)
  refine vx_throwSW (A := fun q => gN g ≤ q) (names := names) (sa := sa) (mc := 1) (ms := 6) X.1 X.2.1 X.2.2.2.2.2.2.2.1 X.2.2.2.1 h1 h2 (hts _ h3) (hts _ h4) hsa hat (fun w hw => ?_) (my_zq X hK.2.2.1) (my_zq X hK.2.2.2.1) (my_sz X hH hL) (hls.trans X.2.2.1.symm) d0 d3 d4 d6 d9 (fun x hx => (htb x hx).elim) hR1 hR2 (Nat.le_refl _) (Nat.le_refl _) X.2.2.2.2.2.2.1 (fun t hA hz hq => ⟨rfl, ⟨⟨fun q hq1 => ?_, fun b hb1 hb2 => ?_, ?_⟩, hH.2⟩, ?_⟩) hL.2 (Nat.le_refl _) (Nat.le_refl _)
  · rcases List.mem_cons.mp hw with e1 | hw
    · rw [e1]; unfold vx_ot; rw [big_good h3]; simp
    · rcases List.mem_cons.mp hw with e1 | hw
      · rw [e1]; unfold vx_ot; rw [big_good h4]; simp
      · exact h7 w hw
  · rw [hq q (Nat.lt_of_lt_of_le hq1 (Nat.le_trans (Nat.le_add_right _ _) hH.1.2.2))]
    exact hH.1.1 q hq1
  · refine cell_kept (hq _ ?_) (fun _ _ => rfl) (hH.1.2.1 b hb1 hb2)
    have := hH.1.2.2
    unfold adr; omega
  · exact Nat.le_trans hH.1.2.2 hz
  · exact Nat.le_trans hL.1 hz
theorem q_end0 {τ : Type} {rv : τ → Option Value} {x v : τ} (k : W p l e R s m args below meth c H locs cells slots (MQO g below rv (.inl x) M args s) f0) : W p l e R s m args below meth c H locs cells slots (GQ (some x) v (MQO g below rv (.inl v) M args s)) f0 := q_ret fun h => by cases h; exact k
theorem q_end1 {τ : Type} {rv : τ → Option Value} {x v : τ} (k : W p l e R s m args below meth c H locs cells slots (MQO g below rv (.inl x) M1 args s) f0) : W p l e R s m args below meth c H locs cells slots (GQ (some (x, M1)) (v, M2) (MQO g below rv (.inl v) M2 args s)) f0 := q_ret fun h => by cases h; exact k
theorem q_end2 {τ : Type} {rv : τ → Option Value} {x : τ} {o : τ ⊕ String} (k : W p l e R s m args below meth c H locs cells slots (MQO g below rv (.inl x) M1 args s) f0) : W p l e R s m args below meth c H locs cells slots (GQ (some (.inl x, M1)) (o, M2) (MQO g below rv o M2 args s)) f0 := q_ret fun h => by cases h; exact k
theorem q_thr {τ : Type} {rv : τ → Option Value} {E : String} {o : τ ⊕ String} (k : W p l e (rmO (.inr E : τ ⊕ String) fr lo) s m args below meth c H locs cells slots (MQO g below rv (.inr E) M1 args s) f0) : W p l e (rmO o fr lo) s m args below meth c H locs cells slots (GQ (some (.inr E, M1)) (o, M2) (MQO g below rv o M2 args s)) f0 := q_ret fun h => by cases h; exact k
theorem q_bx2 {τ σ : Type} {rv : σ → Option Value} {o : σ ⊕ String} {x : Option ((τ ⊕ String) × Mem)} {k : τ → Mem → Option ((σ ⊕ String) × Mem)} (h : ∀ v M, x = some (.inl v, M) → W p l e (rmO o fr lo) s m args below meth c H locs cells slots (GQ (k v M) (o, M2) (MQO g below rv o M2 args s)) f0)
    (hx : ∀ E M, x = some (.inr E, M) → W p l e (rmO (.inr E : σ ⊕ String) fr lo) s m args below meth c H locs cells slots (MQO g below rv (.inr E) M args s) f0) : W p l e (rmO o fr lo) s m args below meth c H locs cells slots (GQ (bx x k) (o, M2) (MQO g below rv o M2 args s)) f0 := q_bx h fun E M h1 h2 => by cases h2; exact hx _ _ h1
end MYM
