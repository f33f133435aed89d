/-! MY ROWS over the pure memory -/
section MYR
variable {p : Program} {l : Launch} {e : Env} {R : Room} {s : State} {m : MethodId} {args : Array Value} {below : List Frame} {meth : Method} {c : Code} {H : Heap} {locs : List Loc} {cells slots : Nat} {Q : State → Prop}
variable {cc : ByteArray} {pc : Nat} {ls : Array Slot} {rest : List Value} {g : GP} {own : String} {nL a t k idx : Nat} {M M' : Mem}
/-- a class's words among BIG (a row by program each) -/
def inC (t : Nat) : Prop := ∀ w ∈ u_ws (clR t) (clT t) (clN t), w ∈ BIG
def okC (t : Nat) : Prop := inC t ∧ (∀ a, a < clN t → ∀ b, b < clN t → a ≠ b → (clT t a).2.1 ≠ (clT t b).2.1) ∧ ∀ k, k < clN t → parseFieldDescriptor (clT t k).2.2.1 = some (clY t k)
theorem m_get (X : CX g l p s m args meth c own cc nL) (hH : HR g M H) (hw : inC t) (hty : tyT a = t) (hc : isC t = true) (ht : t < 20) (hk : k < clN t) (hlk : Cond.fieldLink own idx (clT t k).1 (clT t k).2.1 (clT t k).2.2.1 ∈ BIG) (hdg : decode cc pc = .ok (.getfield idx, 3))
    (kk : W p l e R s m args below meth c H locs cells slots Q (F0 m (pc + 3) ls (vV g M (kd t k) a k :: rest))) : W p l e R s m args below meth c H locs cells slots Q (F0 m pc ls (.ref (adr g a) :: rest)) := by
  obtain ⟨hx, hb, -, hown, hts, hK, -⟩ := X
  have hr := ty_ge hty (by rintro rfl; simp [isC] at hc)
  obtain ⟨cell, q1, q2, q3, q4⟩ := hH.1.obj hr.1 hr.2 hty ht
  obtain ⟨hS, hfc, kC, hkC, hkind⟩ := hK.1 t hc
  obtain ⟨cf, kf, fi, f, hi, hsl⟩ := hS k hk
  refine W.getf hx hb hown (hts _ hlk) hi (u_facts hfc hkC (u_lays hts hw hk) hi).1 q1 (by rw [q3]; exact fun h => by cases h) (v := vV g M (kd t k) a k) ?_ rfl rfl hdg kk
  rw [hsl, q4 k hk]
theorem m_getI (X : CX g l p s m args meth c own cc nL) (hH : HR g M H) (hw : inC t) (hty : tyT a = t) (hc : isC t = true) (ht : t < 20) (hk : k < clN t) (hd : kd t k = 0) (hlk : Cond.fieldLink own idx (clT t k).1 (clT t k).2.1 (clT t k).2.2.1 ∈ BIG) (hdg : decode cc pc = .ok (.getfield idx, 3))
    (kk : W p l e R s m args below meth c H locs cells slots Q (F0 m (pc + 3) ls (.int (mI M a k) :: rest))) : W p l e R s m args below meth c H locs cells slots Q (F0 m pc ls (.ref (adr g a) :: rest)) := by
  refine m_get X hH hw hty hc ht hk hlk hdg ?_
  rw [hd]; exact kk
theorem m_getJ (X : CX g l p s m args meth c own cc nL) (hH : HR g M H) (hw : inC t) (hty : tyT a = t) (hc : isC t = true) (ht : t < 20) (hk : k < clN t) (hd : kd t k = 1) (hlk : Cond.fieldLink own idx (clT t k).1 (clT t k).2.1 (clT t k).2.2.1 ∈ BIG) (hdg : decode cc pc = .ok (.getfield idx, 3))
    (kk : W p l e R s m args below meth c H locs cells slots Q (F0 m (pc + 3) ls (.long (mJ M a k) :: rest))) : W p l e R s m args below meth c H locs cells slots Q (F0 m pc ls (.ref (adr g a) :: rest)) := by
  refine m_get X hH hw hty hc ht hk hlk hdg ?_
  rw [hd]; exact kk
theorem m_getR (X : CX g l p s m args meth c own cc nL) (hH : HR g M H) (hw : inC t) (hty : tyT a = t) (hc : isC t = true) (ht : t < 20) (hk : k < clN t) (hd : kd t k = 2) (hlk : Cond.fieldLink own idx (clT t k).1 (clT t k).2.1 (clT t k).2.2.1 ∈ BIG) (hdg : decode cc pc = .ok (.getfield idx, 3)) {t2 : Nat} (h2 : rt t k = t2)
    (kk : tyT (mR M a k) = t2 → W p l e R s m args below meth c H locs cells slots Q (F0 m (pc + 3) ls (.ref (adr g (mR M a k)) :: rest))) : W p l e R s m args below meth c H locs cells slots Q (F0 m pc ls (.ref (adr g a) :: rest)) := by
  refine m_get X hH hw hty hc ht hk hlk hdg ?_
  have hr := ty_ge hty (by rintro rfl; simp [isC] at hc)
  have hwt := (hH.2 a k hr.1 hr.2 (by unfold slotsOf; rw [hty, if_pos ht]; exact hk)).1 (by rw [hty]; exact hd)
  rw [hd]
  show W p l e R s m args below meth c H locs cells slots Q (F0 m (pc + 3) ls (vR g (mR M a k) :: rest))
  rw [vR_pos hwt.1]
  exact kk (by rw [hwt.2.2, hty, h2])
theorem m_getQ (X : CX g l p s m args meth c own cc nL) (hH : HR g M H) (hw : inC t) (hty : tyT a = t) (hc : isC t = true) (ht : t < 20) (hk : k < clN t) (hd : kd t k = 3) (hlk : Cond.fieldLink own idx (clT t k).1 (clT t k).2.1 (clT t k).2.2.1 ∈ BIG) (hdg : decode cc pc = .ok (.getfield idx, 3))
    (kk : 1 ≤ mR M a k ∧ mR M a k ≤ 11 → W p l e R s m args below meth c H locs cells slots Q (F0 m (pc + 3) ls (.ref (gV g (mR M a k - 1)) :: rest))) : W p l e R s m args below meth c H locs cells slots Q (F0 m pc ls (.ref (adr g a) :: rest)) := by
  refine m_get X hH hw hty hc ht hk hlk hdg ?_
  have hr := ty_ge hty (by rintro rfl; simp [isC] at hc)
  have hwt := (hH.2 a k hr.1 hr.2 (by unfold slotsOf; rw [hty, if_pos ht]; exact hk)).2 (by rw [hty]; exact hd)
  rw [hd]
  show W p l e R s m args below meth c H locs cells slots Q (F0 m (pc + 3) ls (vQ g (mR M a k) :: rest))
  rw [vQ_pos hwt.1]
  exact kk hwt
theorem m_apart (X : CX g l p s m args meth c own cc nL) (ho : okC t) (hc : isC t = true) : ∀ x y, x < clN t → y < clN t → x ≠ y → gI g t x ≠ gI g t y := by
  obtain ⟨-, -, -, -, hts, hK, -⟩ := X
  intro x y hx hy hne
  obtain ⟨hS, -⟩ := hK.1 t hc
  obtain ⟨_, _, _, fa, hia, ea⟩ := hS x hx
  obtain ⟨_, _, _, fb, hib, eb⟩ := hS y hy
  rw [← ea, ← eb]
  refine u_apart (u_lays hts ho.1 hx) (u_lays hts ho.1 hy) hia hib ?_
  rw [(State.fieldFound?_type hia (ho.2.2 x hx)).1, (State.fieldFound?_type hib (ho.2.2 y hy)).1]
  exact ho.2.1 x hx y hy hne
/-- the object with one field changed -/
theorem m_obj {H' : Heap} {v : Value} (h : t_OB (adr g a) (gC g t) (clN t) (gI g t) H' (updV (fun j => vV g M (kd t j) a j) k v)) (hty : tyT a = t) (ht : t < 20) (hv : vV g M' (kd t k) a k = v) (hn : ∀ j, j ≠ k → vV g M' (kd t j) a j = vV g M (kd t j) a j) : CellAt g M' H' a := by
  unfold CellAt
  rw [hty, if_pos ht]
  refine h.to fun j _ => ?_
  by_cases e : j = k
  · subst e; simp [updV, hv]
  · simp [updV, e, hn j e]
theorem m_put (X : CX g l p s m args meth c own cc nL) {n : Nat} (hH : HR0 g n M H) (hn : a ≤ n) (hL : LK g s H locs) (ho : okC t) (hty : tyT a = t) (hc : isC t = true) (ht : t < 20) (hk : k < clN t) (hfin : (clT t k).2.2.2 = false) {v : Value} {fy : FieldType} (hfy : clY t k = fy) (hnr : narrow fy v = v) (hft : fits fy v = true) (hv : vV g M' (kd t k) a k = v) (hj : ∀ j, j ≠ k → vV g M' (kd t j) a j = vV g M (kd t j) a j) (ho' : ∀ b d j, b ≠ a → vV g M' d b j = vV g M d b j)
    (hlk : Cond.fieldLink own idx (clT t k).1 (clT t k).2.1 (clT t k).2.2.1 ∈ BIG) (hdg : decode cc pc = .ok (.putfield idx, 3))
    (kk : ∀ H1 locs1, HR0 g n M' H1 → LK g s H1 locs1 → W p l e R s m args below meth c H1 locs1 cells slots Q (F0 m (pc + 3) ls rest)) : W p l e R s m args below meth c H locs cells slots Q (F0 m pc ls (v :: .ref (adr g a) :: rest)) := by
  have hap := m_apart X ho hc
  obtain ⟨hx, hb, -, hown, hts, hK, -⟩ := X
  have hr := ty_ge hty (by rintro rfl; simp [isC] at hc)
  obtain ⟨cell, q1, q2, q3, q4⟩ := hH.obj hr.1 hn hty ht
  obtain ⟨hS, hfc, kC, hkC, hkind⟩ := hK.1 t hc
  obtain ⟨cf, kf, fi, f, hi, hsl⟩ := hS k hk
  have hlay := hts _ (ho.1 _ (u_in_lay hk))
  unfold u_lay at hlay
  rw [if_neg (by rw [hfin]; decide)] at hlay
  have hst := (u_facts hfc hkC (u_lays hts ho.1 hk) hi).1
  have h6 := u_store hfc hkC hkind hlay hi (ho.2.2 k hk) (by rw [hfy]; exact hnr) (by rw [hfy]; exact hft)
  refine W.putK hx hb (f := f) ⟨hown, hts _ hlk, ⟨_, _, _, hi⟩, hst⟩ (by rw [q2]; exact h6) q1 q3 (by rw [hsl]; exact k2_hasslot (q4 k hk)) rfl rfl hdg fun H' e1 e2 e3 => ?_
  rw [hsl] at e1 ⊢
  refine kk H' _ (hH.put hr.1 e3 e2 (m_obj ⟨_, e1, q2, q3, t_set q4 hap hk v⟩ hty ht hv hj) ho') ⟨by rw [e2]; exact hL.1, fun q hq => ?_⟩
  rcases List.mem_append.mp hq with h | h
  · exact hL.2 q h
  · rw [List.mem_singleton.mp h]; unfold adr; exact Nat.le_add_right _ _
theorem vV_sI_self (x : Int32) : vV g (sI M a k x) 0 a k = .int x := by show Value.int (mI _ a k) = _; rw [mI_sI, if_pos ⟨rfl, rfl⟩]
theorem vV_sI_ne (x : Int32) {b j d : Nat} (h : ¬ (b = a ∧ j = k)) : vV g (sI M a k x) d b j = vV g M d b j := by
  unfold vV
  split
  · rw [mI_sI, if_neg h]
  all_goals rfl
theorem vV_sJ_self (x : Int64) : vV g (sJ M a k x) 1 a k = .long x := by show Value.long (mJ _ a k) = _; rw [mJ_sJ, if_pos ⟨rfl, rfl⟩]
theorem vV_sJ_ne (x : Int64) {b j d : Nat} (h : ¬ (b = a ∧ j = k)) : vV g (sJ M a k x) d b j = vV g M d b j := by
  unfold vV
  split
  · rfl
  · rw [mJ_sJ, if_neg h]
  all_goals rfl
theorem vV_sR_ne (x : Nat) {b j d : Nat} (h : ¬ (b = a ∧ j = k)) : vV g (sR M a k x) d b j = vV g M d b j := by
  unfold vV
  split
  · rfl
  · rfl
  · rw [mR_sR, if_neg h]
  · rw [mR_sR, if_neg h]
  · rfl
theorem vV_sD_self (x : UInt64) : vV g (sD M a k x) 4 a k = .double x := by show Value.double (mD _ a k) = _; rw [mD_sD, if_pos ⟨rfl, rfl⟩]
theorem vV_sD_ne (x : UInt64) {b j d : Nat} (h : ¬ (b = a ∧ j = k)) : vV g (sD M a k x) d b j = vV g M d b j := by
  unfold vV
  split
  · rfl
  · rfl
  · rfl
  · rfl
  · rw [mD_sD, if_neg h]
theorem WT.sI (h : WT M) (a k : Nat) (x : Int32) : WT (sI M a k x) := h
theorem WT.sJ (h : WT M) (a k : Nat) (x : Int64) : WT (sJ M a k x) := h
theorem WT.sD (h : WT M) (a k : Nat) (x : UInt64) : WT (sD M a k x) := h
theorem WT.cpI (h : WT M) (a sp b dp n : Nat) : WT (cpI M a sp b dp n) := h
theorem m_putI (X : CX g l p s m args meth c own cc nL) (hH : HR g M H) (hL : LK g s H locs) (ho : okC t) (hty : tyT a = t) (hc : isC t = true) (ht : t < 20) (hk : k < clN t) (hd : kd t k = 0) (hfin : (clT t k).2.2.2 = false) {x : Int32} {fy : FieldType} (hfy : clY t k = fy) (hnr : narrow fy (.int x) = .int x) (hft : fits fy (.int x) = true)
    (hlk : Cond.fieldLink own idx (clT t k).1 (clT t k).2.1 (clT t k).2.2.1 ∈ BIG) (hdg : decode cc pc = .ok (.putfield idx, 3))
    (kk : ∀ H1 locs1, HR g (sI M a k x) H1 → LK g s H1 locs1 → W p l e R s m args below meth c H1 locs1 cells slots Q (F0 m (pc + 3) ls rest)) : W p l e R s m args below meth c H locs cells slots Q (F0 m pc ls (.int x :: .ref (adr g a) :: rest)) :=
  m_put X hH.1 (ty_ge hty (by rintro rfl; simp [isC] at hc)).2 hL ho hty hc ht hk hfin hfy hnr hft (by rw [hd]; exact vV_sI_self x) (fun j hj => vV_sI_ne x (fun h => hj h.2)) (fun b d j hb => vV_sI_ne x (fun h => hb h.1)) hlk hdg (fun H1 locs1 h1 h2 => kk H1 locs1 ⟨h1, hH.2.sI a k x⟩ h2)
theorem m_putJ (X : CX g l p s m args meth c own cc nL) (hH : HR g M H) (hL : LK g s H locs) (ho : okC t) (hty : tyT a = t) (hc : isC t = true) (ht : t < 20) (hk : k < clN t) (hd : kd t k = 1) (hfin : (clT t k).2.2.2 = false) {x : Int64} (hfy : clY t k = .long)
    (hlk : Cond.fieldLink own idx (clT t k).1 (clT t k).2.1 (clT t k).2.2.1 ∈ BIG) (hdg : decode cc pc = .ok (.putfield idx, 3))
    (kk : ∀ H1 locs1, HR g (sJ M a k x) H1 → LK g s H1 locs1 → W p l e R s m args below meth c H1 locs1 cells slots Q (F0 m (pc + 3) ls rest)) : W p l e R s m args below meth c H locs cells slots Q (F0 m pc ls (.long x :: .ref (adr g a) :: rest)) :=
  m_put X hH.1 (ty_ge hty (by rintro rfl; simp [isC] at hc)).2 hL ho hty hc ht hk hfin hfy rfl rfl (by rw [hd]; exact vV_sJ_self x) (fun j hj => vV_sJ_ne x (fun h => hj h.2)) (fun b d j hb => vV_sJ_ne x (fun h => hb h.1)) hlk hdg (fun H1 locs1 h1 h2 => kk H1 locs1 ⟨h1, hH.2.sJ a k x⟩ h2)
/-- Command.verb: a verb's constant -/
theorem m_putQ (X : CX g l p s m args meth c own cc nL) (hH : HR g M H) (hL : LK g s H locs) (ho : okC t) (hty : tyT a = t) (hc : isC t = true) (ht : t < 20) (hk : k < clN t) (hd : kd t k = 3) (hfin : (clT t k).2.2.2 = false) {i : Nat} (hi : i < 11) {cn : String} (hfy : clY t k = .object cn)
    (hlk : Cond.fieldLink own idx (clT t k).1 (clT t k).2.1 (clT t k).2.2.1 ∈ BIG) (hdg : decode cc pc = .ok (.putfield idx, 3))
    (kk : ∀ H1 locs1, HR g (sR M a k (i + 1)) H1 → LK g s H1 locs1 → W p l e R s m args below meth c H1 locs1 cells slots Q (F0 m (pc + 3) ls rest)) : W p l e R s m args below meth c H locs cells slots Q (F0 m pc ls (.ref (gV g i) :: .ref (adr g a) :: rest)) := by
  refine m_put (M' := sR M a k (i + 1)) X hH.1 (ty_ge hty (by rintro rfl; simp [isC] at hc)).2 hL ho hty hc ht hk hfin hfy rfl rfl (by rw [hd]; show vQ g (mR _ a k) = _; rw [mR_sR, if_pos ⟨rfl, rfl⟩, vQ_pos (by omega)]; rfl) (fun j hj => vV_sR_ne _ (fun h => hj h.2)) (fun b d j hb => vV_sR_ne _ (fun h => hb h.1)) hlk hdg (fun H1 locs1 h1 h2 => kk H1 locs1 ⟨h1, fun b j h3 h4 h5 => ?_⟩ h2)
  by_cases z : b = a ∧ j = k
  · obtain ⟨rfl, rfl⟩ := z
    rw [mR_sR, if_pos ⟨rfl, rfl⟩]
    exact ⟨fun h6 => absurd h6 (by rw [hty, hd]; decide), fun _ => by omega⟩
  · rw [mR_sR, if_neg z]
    exact hH.2 b j h3 h4 h5
theorem m_alen (X : CX g l p s m args meth c own cc nL) (hH : HR g M H) (hty : tyT a = t) (hc : isA t = true) (ht : ¬ t < 20) {v : Int32} (hv : Int32.ofNat (alen t) = v) (hdg : decode cc pc = .ok (.arraylength, 1))
    (kk : W p l e R s m args below meth c H locs cells slots Q (F0 m (pc + 1) ls (.int v :: rest))) : W p l e R s m args below meth c H locs cells slots Q (F0 m pc ls (.ref (adr g a) :: rest)) := by
  obtain ⟨hx, hb, -, hown, hts, hK, -⟩ := X
  have hr := ty_ge hty (by rintro rfl; simp at ht)
  have q := hH.1.arr hr.1 hr.2 hty ht
  exact W.alen (n := v) hx hb q ((hK.2.1 t hc).1 _ _) (by rw [arrV_size]; exact hv) rfl rfl hdg kk
theorem m_iald (X : CX g l p s m args meth c own cc nL) (hH : HR g M H) (hty : tyT a = t) (hc : isA t = true) (ht : ¬ t < 20) (hd : ∀ j, kd t j = 0) (he : eT t = .int) {n : Nat} (hn : alen t = n) {i : Int32} (hin : inb i n = true) (hdg : decode cc pc = .ok (.iaload, 1))
    (kk : W p l e R s m args below meth c H locs cells slots Q (F0 m (pc + 1) ls (.int (mI M a i.toNatClampNeg) :: rest))) : W p l e R s m args below meth c H locs cells slots Q (F0 m pc ls (.int i :: .ref (adr g a) :: rest)) := by
  obtain ⟨hx, hb, -, hown, hts, hK, -⟩ := X
  have hr := ty_ge hty (by rintro rfl; simp at ht)
  have q := hH.1.arr hr.1 hr.2 hty ht
  have hin := inb_in hin
  subst hn
  have hlt : i.toNatClampNeg < alen t := Nat.not_le.mp fun q => hin (Or.inr q)
  refine W.iald (v := .int (mI M a i.toNatClampNeg)) hx hb q (by have := (hK.2.1 t hc).1; rw [he] at this; exact this _ _) (fun q => by cases q) (by show ¬ (i < 0 ∨ (arrV _ _ _).slots.size ≤ _); rw [arrV_size]; exact hin) ?_ rfl rfl hdg kk
  rw [arrV_read _ _ hlt, hd]; rfl
theorem m_cald (X : CX g l p s m args meth c own cc nL) (hH : HR g M H) (hty : tyT a = t) (hc : isA t = true) (ht : ¬ t < 20) (hd : ∀ j, kd t j = 0) (he : eT t = .char) {n : Nat} (hn : alen t = n) {i : Int32} (hin : inb i n = true) (hdg : decode cc pc = .ok (.caload, 1))
    (kk : W p l e R s m args below meth c H locs cells slots Q (F0 m (pc + 1) ls (.int (mI M a i.toNatClampNeg) :: rest))) : W p l e R s m args below meth c H locs cells slots Q (F0 m pc ls (.int i :: .ref (adr g a) :: rest)) := by
  obtain ⟨hx, hb, -, hown, hts, hK, -⟩ := X
  have hr := ty_ge hty (by rintro rfl; simp at ht)
  have q := hH.1.arr hr.1 hr.2 hty ht
  have hin := inb_in hin
  subst hn
  have hlt : i.toNatClampNeg < alen t := Nat.not_le.mp fun q => hin (Or.inr q)
  refine W.cald (v := .int (mI M a i.toNatClampNeg)) hx hb q (by have := (hK.2.1 t hc).1; rw [he] at this; exact this _ _) (fun q => by cases q) (by show ¬ (i < 0 ∨ (arrV _ _ _).slots.size ≤ _); rw [arrV_size]; exact hin) ?_ rfl rfl hdg kk
  rw [arrV_read _ _ hlt, hd]; rfl
theorem m_lald (X : CX g l p s m args meth c own cc nL) (hH : HR g M H) (hty : tyT a = t) (hc : isA t = true) (ht : ¬ t < 20) (hd : ∀ j, kd t j = 1) (he : eT t = .long) {n : Nat} (hn : alen t = n) {i : Int32} (hin : inb i n = true) (hdg : decode cc pc = .ok (.laload, 1))
    (kk : W p l e R s m args below meth c H locs cells slots Q (F0 m (pc + 1) ls (.long (mJ M a i.toNatClampNeg) :: rest))) : W p l e R s m args below meth c H locs cells slots Q (F0 m pc ls (.int i :: .ref (adr g a) :: rest)) := by
  obtain ⟨hx, hb, -, hown, hts, hK, -⟩ := X
  have hr := ty_ge hty (by rintro rfl; simp at ht)
  have q := hH.1.arr hr.1 hr.2 hty ht
  have hin := inb_in hin
  subst hn
  have hlt : i.toNatClampNeg < alen t := Nat.not_le.mp fun q => hin (Or.inr q)
  refine W.lald (v := .long (mJ M a i.toNatClampNeg)) hx hb q (by have := (hK.2.1 t hc).1; rw [he] at this; exact this _ _) (fun q => by cases q) (by show ¬ (i < 0 ∨ (arrV _ _ _).slots.size ≤ _); rw [arrV_size]; exact hin) ?_ rfl rfl hdg kk
  rw [arrV_read _ _ hlt, hd]; rfl
theorem m_dald (X : CX g l p s m args meth c own cc nL) (hH : HR g M H) (hty : tyT a = t) (hc : isA t = true) (ht : ¬ t < 20) (hd : ∀ j, kd t j = 4) (he : eT t = .double) {n : Nat} (hn : alen t = n) {i : Int32} (hin : inb i n = true) (hdg : decode cc pc = .ok (.daload, 1))
    (kk : W p l e R s m args below meth c H locs cells slots Q (F0 m (pc + 1) ls (.double (mD M a i.toNatClampNeg) :: rest))) : W p l e R s m args below meth c H locs cells slots Q (F0 m pc ls (.int i :: .ref (adr g a) :: rest)) := by
  obtain ⟨hx, hb, -, hown, hts, hK, -⟩ := X
  have hr := ty_ge hty (by rintro rfl; simp at ht)
  have q := hH.1.arr hr.1 hr.2 hty ht
  have hin := inb_in hin
  subst hn
  have hlt : i.toNatClampNeg < alen t := Nat.not_le.mp fun q => hin (Or.inr q)
  refine W.dald (v := .double (mD M a i.toNatClampNeg)) hx hb q (by have := (hK.2.1 t hc).1; rw [he] at this; exact this _ _) (fun q => by cases q) (by show ¬ (i < 0 ∨ (arrV _ _ _).slots.size ≤ _); rw [arrV_size]; exact hin) ?_ rfl rfl hdg kk
  rw [arrV_read _ _ hlt, hd]; rfl
theorem m_aald (X : CX g l p s m args meth c own cc nL) (hH : HR g M H) (hty : tyT a = t) (hc : isA t = true) (ht : ¬ t < 20) (hd : ∀ j, kd t j = 2) (he : (eT t).isReference = true) {n t2 : Nat} (hn : alen t = n) (h2 : ∀ j, rt t j = t2) {i : Int32} (hin : inb i n = true) (hdg : decode cc pc = .ok (.aaload, 1))
    (kk : tyT (mR M a i.toNatClampNeg) = t2 → W p l e R s m args below meth c H locs cells slots Q (F0 m (pc + 1) ls (.ref (adr g (mR M a i.toNatClampNeg)) :: rest))) : W p l e R s m args below meth c H locs cells slots Q (F0 m pc ls (.int i :: .ref (adr g a) :: rest)) := by
  obtain ⟨hx, hb, -, hown, hts, hK, -⟩ := X
  have hr := ty_ge hty (by rintro rfl; simp at ht)
  have q := hH.1.arr hr.1 hr.2 hty ht
  have hin := inb_in hin
  subst hn
  have hlt : i.toNatClampNeg < alen t := Nat.not_le.mp fun q => hin (Or.inr q)
  have hwt := (hH.2 a i.toNatClampNeg hr.1 hr.2 (by unfold slotsOf; rw [hty, if_neg ht]; exact hlt)).1 (by rw [hty]; exact hd _)
  refine W.aald (v := .ref (adr g (mR M a i.toNatClampNeg))) (ty := eT t) hx hb q ((hK.2.1 t hc).1 _ _) he (fun q => by cases q) (by show ¬ (i < 0 ∨ (arrV _ _ _).slots.size ≤ _); rw [arrV_size]; exact hin) ?_ rfl rfl hdg (kk (by rw [hwt.2.2, hty, h2]))
  rw [arrV_read _ _ hlt, hd]
  show some (vR g (mR M a i.toNatClampNeg)) = _
  rw [vR_pos hwt.1]
/-- an array with one place changed -/
theorem m_arr {n : Nat} (hH : HR0 g n M H) {H' : Heap} {v : Value} {i : Nat} (hty : tyT a = t) (ht : ¬ t < 20) (h1 : 1 ≤ a) (e1 : H'[adr g a]? = some (arrV (gA g t) (alen t) (updV (fun k => vV g M (kd t k) a k) i v))) (hz : H'.size = H.size) (oq : ∀ q, q ≠ adr g a → H'[q]? = H[q]?) (hv : vV g M' (kd t i) a i = v) (hj : ∀ j, j ≠ i → vV g M' (kd t j) a j = vV g M (kd t j) a j) (ho' : ∀ b d j, b ≠ a → vV g M' d b j = vV g M d b j) : HR0 g n M' H' := by
  refine hH.put h1 oq hz ?_ ho'
  unfold CellAt
  rw [hty, if_neg ht, e1]
  congr 2
  funext q
  by_cases hq : q = i
  · subst hq; simp [updV, hv]
  · simp [updV, hq, hj q hq]
theorem LK.put (hL : LK g s H locs) {H' : Heap} (hz : H'.size = H.size) {k : Nat} : LK g s H' (locs ++ [⟨adr g a, k⟩]) :=
  ⟨by rw [hz]; exact hL.1, fun q hq => by
    rcases List.mem_append.mp hq with h | h
    · exact hL.2 q h
    · rw [List.mem_singleton.mp h]; unfold adr; exact Nat.le_add_right _ _⟩
theorem m_iast (X : CX g l p s m args meth c own cc nL) (hH : HR g M H) (hL : LK g s H locs) (hty : tyT a = t) (hc : isA t = true) (ht : ¬ t < 20) (hd : ∀ j, kd t j = 0) (he : eT t = .int) {n : Nat} (hn : alen t = n) {i x : Int32} (hin : inb i n = true) (hdg : decode cc pc = .ok (.iastore, 1))
    (kk : ∀ H1 locs1, HR g (sI M a i.toNatClampNeg x) H1 → LK g s H1 locs1 → W p l e R s m args below meth c H1 locs1 cells slots Q (F0 m (pc + 1) ls rest)) : W p l e R s m args below meth c H locs cells slots Q (F0 m pc ls (.int x :: .int i :: .ref (adr g a) :: rest)) := by
  obtain ⟨hx, hb, -, hown, hts, hK, -⟩ := X
  have hr := ty_ge hty (by rintro rfl; simp at ht)
  have q := hH.1.arr hr.1 hr.2 hty ht
  have hin := inb_in hin
  subst hn
  refine W.iast hx hb q (by have := (hK.2.1 t hc).1; rw [he] at this; exact this _ _) (fun q => by cases q) (by show ¬ (i < 0 ∨ (arrV _ _ _).slots.size ≤ _); rw [arrV_size]; exact hin) rfl rfl hdg fun H1 e1 z oq => ?_
  rw [arrV_store] at e1
  exact kk H1 _ ⟨m_arr hH.1 hty ht hr.1 e1 z oq (by rw [hd]; exact vV_sI_self x) (fun j hj => vV_sI_ne x (fun h => hj h.2)) (fun b d j hb => vV_sI_ne x (fun h => hb h.1)), hH.2.sI _ _ _⟩ (hL.put z)
theorem m_cast (X : CX g l p s m args meth c own cc nL) (hH : HR g M H) (hL : LK g s H locs) (hty : tyT a = t) (hc : isA t = true) (ht : ¬ t < 20) (hd : ∀ j, kd t j = 0) (he : eT t = .char) {n : Nat} (hn : alen t = n) {i x : Int32} (hin : inb i n = true) (hdg : decode cc pc = .ok (.castore, 1))
    (kk : ∀ H1 locs1, HR g (sI M a i.toNatClampNeg (vp_nar .char x)) H1 → LK g s H1 locs1 → W p l e R s m args below meth c H1 locs1 cells slots Q (F0 m (pc + 1) ls rest)) : W p l e R s m args below meth c H locs cells slots Q (F0 m pc ls (.int x :: .int i :: .ref (adr g a) :: rest)) := by
  obtain ⟨hx, hb, -, hown, hts, hK, -⟩ := X
  have hr := ty_ge hty (by rintro rfl; simp at ht)
  have q := hH.1.arr hr.1 hr.2 hty ht
  have hin := inb_in hin
  subst hn
  refine W.cast hx hb q (by have := (hK.2.1 t hc).1; rw [he] at this; exact this _ _) (fun q => by cases q) (by show ¬ (i < 0 ∨ (arrV _ _ _).slots.size ≤ _); rw [arrV_size]; exact hin) rfl rfl hdg fun H1 e1 z oq => ?_
  rw [arrV_store] at e1
  refine kk H1 _ ⟨m_arr hH.1 hty ht hr.1 e1 z oq (by rw [hd, vV_sI_self]; simp [vp_nar]; try rfl) (fun j hj => vV_sI_ne _ (fun h => hj h.2)) (fun b d j hb => vV_sI_ne _ (fun h => hb h.1)), hH.2.sI _ _ _⟩ (hL.put z)
theorem m_last (X : CX g l p s m args meth c own cc nL) (hH : HR g M H) (hL : LK g s H locs) (hty : tyT a = t) (hc : isA t = true) (ht : ¬ t < 20) (hd : ∀ j, kd t j = 1) (he : eT t = .long) {n : Nat} (hn : alen t = n) {i : Int32} {x : Int64} (hin : inb i n = true) (hdg : decode cc pc = .ok (.lastore, 1))
    (kk : ∀ H1 locs1, HR g (sJ M a i.toNatClampNeg x) H1 → LK g s H1 locs1 → W p l e R s m args below meth c H1 locs1 cells slots Q (F0 m (pc + 1) ls rest)) : W p l e R s m args below meth c H locs cells slots Q (F0 m pc ls (.long x :: .int i :: .ref (adr g a) :: rest)) := by
  obtain ⟨hx, hb, -, hown, hts, hK, -⟩ := X
  have hr := ty_ge hty (by rintro rfl; simp at ht)
  have q := hH.1.arr hr.1 hr.2 hty ht
  have hin := inb_in hin
  subst hn
  refine W.last hx hb q (by have := (hK.2.1 t hc).1; rw [he] at this; exact this _ _) (fun q => by cases q) (by show ¬ (i < 0 ∨ (arrV _ _ _).slots.size ≤ _); rw [arrV_size]; exact hin) rfl rfl hdg fun H1 e1 z oq => ?_
  rw [arrV_store] at e1
  exact kk H1 _ ⟨m_arr hH.1 hty ht hr.1 e1 z oq (by rw [hd]; exact vV_sJ_self x) (fun j hj => vV_sJ_ne x (fun h => hj h.2)) (fun b d j hb => vV_sJ_ne x (fun h => hb h.1)), hH.2.sJ _ _ _⟩ (hL.put z)
theorem m_dast (X : CX g l p s m args meth c own cc nL) (hH : HR g M H) (hL : LK g s H locs) (hty : tyT a = t) (hc : isA t = true) (ht : ¬ t < 20) (hd : ∀ j, kd t j = 4) (he : eT t = .double) {n : Nat} (hn : alen t = n) {i : Int32} {x : UInt64} (hin : inb i n = true) (hdg : decode cc pc = .ok (.dastore, 1))
    (kk : ∀ H1 locs1, HR g (sD M a i.toNatClampNeg x) H1 → LK g s H1 locs1 → W p l e R s m args below meth c H1 locs1 cells slots Q (F0 m (pc + 1) ls rest)) : W p l e R s m args below meth c H locs cells slots Q (F0 m pc ls (.double x :: .int i :: .ref (adr g a) :: rest)) := by
  obtain ⟨hx, hb, -, hown, hts, hK, -⟩ := X
  have hr := ty_ge hty (by rintro rfl; simp at ht)
  have q := hH.1.arr hr.1 hr.2 hty ht
  have hin := inb_in hin
  subst hn
  refine W.dast hx hb q (by have := (hK.2.1 t hc).1; rw [he] at this; exact this _ _) (fun q => by cases q) (by show ¬ (i < 0 ∨ (arrV _ _ _).slots.size ≤ _); rw [arrV_size]; exact hin) rfl rfl hdg fun H1 e1 z oq => ?_
  rw [arrV_store] at e1
  exact kk H1 _ ⟨m_arr hH.1 hty ht hr.1 e1 z oq (by rw [hd]; exact vV_sD_self x) (fun j hj => vV_sD_ne x (fun h => hj h.2)) (fun b d j hb => vV_sD_ne x (fun h => hb h.1)), hH.2.sD _ _ _⟩ (hL.put z)
end MYR
