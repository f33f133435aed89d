/-! CONSTRUCTORS: rows, second part -/
theorem va_sR_self {g : GP} {M : Mem} {a k r : Nat} (hr : 1 ≤ r) : vV g (sR M a k r) 2 a k = .ref (adr g r) := by show vR g (mR _ a k) = _; rw [mR_sR, if_pos ⟨rfl, rfl⟩, vR_pos hr]
def putok (t k d : Nat) : Bool := isC t && Nat.blt t 20 && Nat.blt k (clN t) && (kd t k == d)
theorem putok_t {t k d : Nat} (h : putok t k d = true) : isC t = true ∧ t < 20 ∧ k < clN t ∧ kd t k = d := by
  unfold putok at h
  simp only [Bool.and_eq_true, beq_iff_eq, Nat.blt_eq] at h
  exact ⟨h.1.1.1, h.1.1.2, h.1.2, h.2⟩
section MYN2
variable {p : Program} {l : Launch} {e : Env} {R : Room} {s : State} {m : MethodId} {args : Array Value} {below : List Frame} {meth : Method} {c : Code} {H : Heap} {locs : List Loc} {cells slots : Nat} {Q : State → Prop}
variable {cc cy : ByteArray} {pc : Nat} {ls : Array Slot} {rest st : List Value} {g : GP} {own : String} {nL nY a t k idx fr lo mc ms n n1 : Nat} {M M1 : Mem} {y : MethodName}
theorem b_putI (X : CX g l p s m args meth c own cc nL) (hH : HBN g n M H) (hn : a ≤ n) (hL : LK g s H locs) (ho : okC t) (hty : tyT a = t) (hok : putok t k 0 = true) (hfin : (clT t k).2.2.2 = false ∨ ((clT t k).2.2.2 = true ∧ meth.name = "<init>" ∧ (clT t k).1 = own)) {x : Int32} {fy : FieldType} (hfy : clY t k = fy) (hnr : narrow fy (.int x) = .int x) (hft : fits fy (.int x) = true)
    (hlk : Cond.fieldLink own idx (clT t k).1 (clT t k).2.1 (clT t k).2.2.1 ∈ BIG) (hdg : decode cc pc = .ok (.putfield idx, 3))
    (kk : ∀ H1 locs1, HBN g n (sI M a k x) H1 → LK g s H1 locs1 → W p l e R s m args below meth c H1 locs1 cells slots Q (F0 m (pc + 3) ls rest)) : W p l e R s m args below meth c H locs cells slots Q (F0 m pc ls (.int x :: .ref (adr g a) :: rest)) := by
  obtain ⟨h1, h2, h3, h4⟩ := putok_t hok
  exact b_put X hH hn hL ho hty h1 h2 h3 hfin hfy hnr hft (hH.2.1.sI hn k x) (by rw [h4]; exact vV_sI_self x) (fun j hj => vV_sI_ne x (fun h => hj h.2)) (fun b d j hb => vV_sI_ne x (fun h => hb h.1)) hlk hdg kk
theorem b_putJ (X : CX g l p s m args meth c own cc nL) (hH : HBN g n M H) (hn : a ≤ n) (hL : LK g s H locs) (ho : okC t) (hty : tyT a = t) (hok : putok t k 1 = true) (hfin : (clT t k).2.2.2 = false ∨ ((clT t k).2.2.2 = true ∧ meth.name = "<init>" ∧ (clT t k).1 = own)) {x : Int64} (hfy : clY t k = .long)
    (hlk : Cond.fieldLink own idx (clT t k).1 (clT t k).2.1 (clT t k).2.2.1 ∈ BIG) (hdg : decode cc pc = .ok (.putfield idx, 3))
    (kk : ∀ H1 locs1, HBN g n (sJ M a k x) H1 → LK g s H1 locs1 → W p l e R s m args below meth c H1 locs1 cells slots Q (F0 m (pc + 3) ls rest)) : W p l e R s m args below meth c H locs cells slots Q (F0 m pc ls (.long x :: .ref (adr g a) :: rest)) := by
  obtain ⟨h1, h2, h3, h4⟩ := putok_t hok
  exact b_put X hH hn hL ho hty h1 h2 h3 hfin hfy rfl rfl (hH.2.1.sJ hn k x) (by rw [h4]; exact vV_sJ_self x) (fun j hj => vV_sJ_ne x (fun h => hj h.2)) (fun b d j hb => vV_sJ_ne x (fun h => hb h.1)) hlk hdg kk
theorem b_putR (X : CX g l p s m args meth c own cc nL) (hH : HBN g n M H) (hn : a ≤ n) (hL : LK g s H locs) (ho : okC t) (hty : tyT a = t) (hok : putok t k 2 = true) (hfin : (clT t k).2.2.2 = false ∨ ((clT t k).2.2.2 = true ∧ meth.name = "<init>" ∧ (clT t k).1 = own)) {r : Nat} (hr : 1 ≤ r) (hft : fits (clY t k) (.ref 0) = true) (hft2 : ∀ q : Nat, fits (clY t k) (.ref q) = fits (clY t k) (.ref 0)) (hnr : ∀ q : Nat, narrow (clY t k) (.ref q) = .ref q)
    (hlk : Cond.fieldLink own idx (clT t k).1 (clT t k).2.1 (clT t k).2.2.1 ∈ BIG) (hdg : decode cc pc = .ok (.putfield idx, 3))
    (kk : ∀ H1 locs1, HBN g n (sR M a k r) H1 → LK g s H1 locs1 → W p l e R s m args below meth c H1 locs1 cells slots Q (F0 m (pc + 3) ls rest)) : W p l e R s m args below meth c H locs cells slots Q (F0 m pc ls (.ref (adr g r) :: .ref (adr g a) :: rest)) := by
  obtain ⟨h1, h2, h3, h4⟩ := putok_t hok
  exact b_put X hH hn hL ho hty h1 h2 h3 hfin rfl (hnr _) (by rw [hft2]; exact hft) (hH.2.1.sR hn k r) (by rw [h4]; exact va_sR_self hr) (fun j hj => vV_sR_ne r (fun h => hj h.2)) (fun b d j hb => vV_sR_ne r (fun h => hb h.1)) hlk hdg kk
/-- Command.verb -/
theorem b_putQ (X : CX g l p s m args meth c own cc nL) (hH : HBN g n M H) (hn : a ≤ n) (hL : LK g s H locs) (ho : okC t) (hty : tyT a = t) (hok : putok t k 3 = true) (hfin : (clT t k).2.2.2 = false) {i : Nat} (hft : fits (clY t k) (.ref 0) = true) (hft2 : ∀ q : Nat, fits (clY t k) (.ref q) = fits (clY t k) (.ref 0)) (hnr : ∀ q : Nat, narrow (clY t k) (.ref q) = .ref q)
    (hlk : Cond.fieldLink own idx (clT t k).1 (clT t k).2.1 (clT t k).2.2.1 ∈ BIG) (hdg : decode cc pc = .ok (.putfield idx, 3))
    (kk : ∀ H1 locs1, HBN g n (sR M a k (i + 1)) H1 → LK g s H1 locs1 → W p l e R s m args below meth c H1 locs1 cells slots Q (F0 m (pc + 3) ls rest)) : W p l e R s m args below meth c H locs cells slots Q (F0 m pc ls (.ref (gV g i) :: .ref (adr g a) :: rest)) := by
  obtain ⟨h1, h2, h3, h4⟩ := putok_t hok
  exact b_put X hH hn hL ho hty h1 h2 h3 (Or.inl hfin) rfl (hnr _) (by rw [hft2]; exact hft) (hH.2.1.sR hn k (i + 1)) (by rw [h4]; show vQ g (mR _ a k) = _; rw [mR_sR, if_pos ⟨rfl, rfl⟩, vQ_pos (by omega)]; rfl) (fun j hj => vV_sR_ne _ (fun h => hj h.2)) (fun b d j hb => vV_sR_ne _ (fun h => hb h.1)) hlk hdg kk
theorem b_getR (X : CX g l p s m args meth c own cc nL) (hH : HBN g n M H) (hn : a ≤ n) (hw : inC t) (hty : tyT a = t) (hok : putok t k 2 = true) {r : Nat} (hr : mR M a k = r) (h1 : 1 ≤ r) (hlk : Cond.fieldLink own idx (clT t k).1 (clT t k).2.1 (clT t k).2.2.1 ∈ BIG) (hdg : decode cc pc = .ok (.getfield idx, 3))
    (kk : W p l e R s m args below meth c H locs cells slots Q (F0 m (pc + 3) ls (.ref (adr g r) :: rest))) : W p l e R s m args below meth c H locs cells slots Q (F0 m pc ls (.ref (adr g a) :: rest)) := by
  obtain ⟨g1, g2, g3, g4⟩ := putok_t hok
  obtain ⟨hx, hb, -, hown, hts, hK, -⟩ := X
  have hrr := ty_ge hty (by rintro rfl; simp [isC] at g1)
  obtain ⟨cell, q1, q2, q3, q4⟩ := hH.1.obj hrr.1 hn hty g2
  obtain ⟨hS, hfc, kC, hkC, hkind⟩ := hK.1 t g1
  obtain ⟨cf, kf, fi, f, hi, hsl⟩ := hS k g3
  refine W.getf hx hb hown (hts _ hlk) hi (u_facts hfc hkC (u_lays hts hw g3) hi).1 q1 (by rw [q3]; exact fun h => by cases h) (v := .ref (adr g r)) ?_ rfl rfl hdg kk
  rw [hsl, q4 k g3]
  show some (vV g M (kd t k) a k) = _
  rw [g4]
  show some (vR g (mR M a k)) = _
  rw [hr, vR_pos h1]
theorem b_alen (X : CX g l p s m args meth c own cc nL) (hH : HBN g n M H) (hn : a ≤ n) (hty : tyT a = t) (hc : isA t = true) (ht : ¬ t < 20) {v : Int32} (hv : Int32.ofNat (alen t) = v) (hdg : decode cc pc = .ok (.arraylength, 1))
    (kk : W p l e R s m args below meth c H locs cells slots Q (F0 m (pc + 1) ls (.int v :: rest))) : W p l e R s m args below meth c H locs cells slots Q (F0 m pc ls (.ref (adr g a) :: rest)) := by
  obtain ⟨hx, hb, -, hown, hts, hK, -⟩ := X
  have hr := ty_ge hty (by rintro rfl; simp at ht)
  have q := hH.1.arr hr.1 hn hty ht
  exact W.alen (n := v) hx hb q ((hK.2.1 t hc).1 _ _) (by rw [arrV_size]; exact hv) rfl rfl hdg kk
theorem b_iast (X : CX g l p s m args meth c own cc nL) (hH : HBN g n M H) (hn : a ≤ n) (hL : LK g s H locs) (hty : tyT a = t) (hc : isA t = true) (ht : ¬ t < 20) (hd : ∀ j, kd t j = 0) (he : eT t = .int) {N : Nat} (hN : alen t = N) {i x : Int32} (hin : inb i N = true) (hdg : decode cc pc = .ok (.iastore, 1))
    (kk : ∀ H1 locs1, HBN g n (sI M a i.toNatClampNeg x) H1 → LK g s H1 locs1 → W p l e R s m args below meth c H1 locs1 cells slots Q (F0 m (pc + 1) ls rest)) : W p l e R s m args below meth c H locs cells slots Q (F0 m pc ls (.int x :: .int i :: .ref (adr g a) :: rest)) := by
  obtain ⟨hx, hb, -, hown, hts, hK, -⟩ := X
  have hr := ty_ge hty (by rintro rfl; simp at ht)
  have q := hH.1.arr hr.1 hn hty ht
  have hin := inb_in hin
  subst hN
  refine W.iast hx hb q (by have := (hK.2.1 t hc).1; rw [he] at this; exact this _ _) (fun q => by cases q) (by show ¬ (i < 0 ∨ (arrV _ _ _).slots.size ≤ _); rw [arrV_size]; exact hin) rfl rfl hdg fun H1 e1 z oq => ?_
  rw [arrV_store] at e1
  exact kk H1 _ ⟨m_arr hH.1 hty ht hr.1 e1 z oq (by rw [hd]; exact vV_sI_self x) (fun j hj => vV_sI_ne x (fun h => hj h.2)) (fun b d j hb => vV_sI_ne x (fun h => hb h.1)), hH.2.1.sI hn _ _, by rw [z]; exact hH.2.2⟩ (hL.put z)
theorem b_aast (X : CX g l p s m args meth c own cc nL) (hH : HBN g n M H) (hn : a ≤ n) (hL : LK g s H locs) (hty : tyT a = t) (hc : isA t = true) (ht : ¬ t < 20) (hd : ∀ j, kd t j = 2) {r t2 : Nat} (h2 : tyT r = t2) (hr2 : r ≤ n) (hc2 : isC t2 = true) (ht2 : t2 < 20) (he : eT t = .object (clR t2)) {N : Nat} (hN : alen t = N) {i : Int32} (hin : inb i N = true) (hdg : decode cc pc = .ok (.aastore, 1))
    (kk : ∀ H1 locs1, HBN g n (sR M a i.toNatClampNeg r) H1 → LK g s H1 locs1 → W p l e R s m args below meth c H1 locs1 cells slots Q (F0 m (pc + 1) ls rest)) : W p l e R s m args below meth c H locs cells slots Q (F0 m pc ls (.ref (adr g r) :: .int i :: .ref (adr g a) :: rest)) := by
  obtain ⟨hx, hb, -, hown, hts, hK, -⟩ := X
  have hr := ty_ge hty (by rintro rfl; simp at ht)
  have q := hH.1.arr hr.1 hn hty ht
  have hin := inb_in hin
  subst hN
  have hlt : i.toNatClampNeg < alen t := Nat.not_le.mp fun q => hin (Or.inr q)
  have h0 : ¬ i < 0 := fun q => hin (Or.inl q)
  have hrr := ty_ge h2 (by rintro rfl; simp [isC] at hc2)
  obtain ⟨cellV, g1, g2, g3, -⟩ := hH.1.obj hrr.1 hr2 h2 ht2
  have hcls := (hK.1 t2 hc2).2
  have hra := (hK.2.1 t hc).2
  rw [he] at hra
  obtain ⟨kA, comp, k1, k2, k3, -⟩ := hra
  have hcomp : comp = gC g t2 := Option.some.inj (k3.symm.trans hcls.1)
  subst hcomp
  have hcls0 := hcls
  obtain ⟨kC, hkC, -⟩ := hcls.2
  refine W.aast hx hb q (fun q h => by cases h) (fun h => by cases h) k1 k2 rfl hkC ⟨h0, by show _ < (arrV _ _ _).slots.size; rw [arrV_size]; exact hlt⟩ g1 (fun q h => by rw [g3] at h; cases h) (by rw [g2]; exact hkC) (by rw [g2]; exact va_assign hcls0) rfl rfl hdg fun H1 e1 z oq => ?_
  rw [arrV_store] at e1
  exact kk H1 _ ⟨m_arr hH.1 hty ht hr.1 e1 z oq (by rw [hd]; exact va_sR_self hrr.1) (fun j hj => vV_sR_ne r (fun h => hj h.2)) (fun b d j hb => vV_sR_ne r (fun h => hb h.1)), hH.2.1.sR hn _ _, by rw [z]; exact hH.2.2⟩ (hL.put z)
theorem b_obj (X : CX g l p s m args meth c own cc nL) (hls : ls.size = nL) {q : Nat} (hlk : Cond.methodLink own idx Lib.objectInit ∈ BIG) (hin : Cond.instanceMethod Lib.objectInit ∈ BIG) (hcd : Cond.code Lib.objectInit { data := #[177] } 1 none ∈ BIG) (hR : 1 ≤ R.frames ∧ 12 ≤ R.locals) (hdg : decode cc pc = .ok (.invokespecial idx, 3))
    (kk : W p l e R s m args below meth c H locs cells slots Q (F0 m (pc + 3) ls [])) : W p l e R s m args below meth c H locs cells slots Q (F0 m pc ls [.ref q]) := by
  obtain ⟨hx, hb, hml, hown, hts, hK, -⟩ := X
  exact W.objInit hx hb hown (hts _ hlk) (hts _ hin) (hts _ hcd) rfl (hls.trans hml.symm) rfl hdg hR.1 (by simpa [F0] using hR.2) kk
/-- what the tables have of a constructor -/
def okI (y : MethodName) (cy : ByteArray) (nY : Nat) : Prop := okY y cy nY none 0 ∧ y.name = "<init>" ∧ Cond.instanceMethod y ∈ BIG
theorem bn_blind : FrameBlind (va_Pc [.ref (adr g a)] (fun U => HBN g n M U.heap ∧ KN g U ∧ AO U)) := fun x U gf mk q => by
  obtain ⟨q0, q1, qK, qA⟩ := q
  exact ⟨q0, q1, KN.warm (u := U) (U := U.calling gf mk x) (State.WarmedH.refl U) qK, AO.warm (u := U) (U := U.calling gf mk x) (State.WarmedH.refl U) qA⟩
theorem b_done {Qc : Array Value → State → Outcome → State → Prop} {aa : Array Value} (hL : LK g s H locs) (hQ : Qc = fun _ st oc t => oc = .returned none ∧ HBN g n1 M1 t.heap ∧ st.heap.size ≤ t.heap.size) (hr : vx_Run p l e R s m args below meth c H locs cells slots mc ms (F0 m pc ls st) rest (Qc aa) (fun _ _ _ => False) (fun q => gN g ≤ q))
    (kk : ∀ H1 locs1, HBN g n1 M1 H1 → LK g s H1 locs1 → W p l e R s m args below meth c H1 locs1 (cells + mc) (slots + ms) Q (F0 m (pc + 3) ls rest)) : W p l e R s m args below meth c H locs cells slots Q (F0 m pc ls st) := by
  subst hQ
  intro T hT X
  rcases hr T hT X with ⟨w, st₀, t, T', L, h0, X', hL2, e1, e2, ⟨e4, hH1, hz⟩, go⟩ | ⟨q, st₀, t, T', L, E, ce, h0, X', hL2, e1, e2, hf, -⟩
  · cases Outcome.returned.inj e4
    obtain ⟨t2, a1, b1⟩ := kk T'.heap (locs ++ L) (by rw [e1]; exact hH1) ⟨Nat.le_trans hL.1 (by rw [e1, ← h0]; exact hz), fun q hq => (List.mem_append.mp hq).elim (hL.2 q) (hL2 q)⟩ T' rfl X'
    exact ⟨t2, go t2 a1, b1⟩
  · exact hf.elim
theorem b_cw {y : MethodName} {cy : ByteArray} (X : CX g l p s m args meth c own cc nL) (hy : okI y cy nY) (hlk : Cond.methodLink own idx y ∈ BIG) (hR : fr + 1 ≤ R.frames ∧ 8 + (nY + 11) + lo ≤ R.locals) : CallB R s args own idx y cy nY none (.code y cy nY none :: BIG) { frames := fr, cells := mc, slots := ms, locals := lo } mc ms 0 := by
  obtain ⟨-, -, -, -, hts, -⟩ := X
  obtain ⟨⟨h1, h2, h3, h4, h5⟩, -⟩ := hy
  have hG : GoodIn BIG (Cond.code y cy nY none :: BIG) := fun w hw => by
    rcases List.mem_cons.mp hw with e | h
    · rw [e]; exact ⟨h1, good_of_word (big_good h1)⟩
    · exact ⟨h, good_of_word (big_good h)⟩
  exact callB_of 0 hts hG rfl rfl rfl (hts _ h2) (hts _ hlk) ⟨h3, h4, h5⟩ hR
theorem b_call (X : CX g l p s m args meth c own cc nL) (hA : AO s) (hH : HBN g n M H) (hL : LK g s H locs) (hls : ls.size = nL) (hM : CIN g l y cy nY fr lo mc ms n a M n1 M1) (hy : okI y cy nY) (hlk : Cond.methodLink own idx y ∈ BIG)
    (hR : fr + 1 ≤ R.frames ∧ 8 + (nY + 11) + lo ≤ R.locals) (hf : cells + mc ≤ R.cells ∧ slots + ms ≤ R.slots) (hW : (rest.map fun v => v.category).sum ≤ 8) (hdg : decode cc pc = .ok (.invokespecial idx, 3))
    (kk : ∀ H1 locs1, HBN g n1 M1 H1 → LK g s H1 locs1 → W p l e R s m args below meth c H1 locs1 (cells + mc) (slots + ms) Q (F0 m (pc + 3) ls rest)) : W p l e R s m args below meth c H locs cells slots Q (F0 m pc ls (.ref (adr g a) :: rest)) := by
  have hts := X.2.2.2.2.1
  exact b_done (aa := #[.ref (adr g a)]) hL rfl (vx_runI (As := []) (rest := rest) (my_fix X) hM ⟨b_cw X hy hlk hR, hy.2.1, hts _ hy.2.2⟩ ⟨bn_blind, fun U hU hW1 => ⟨rfl, by rw [hU]; exact hH, X.2.2.2.2.2.1.warm hW1, hA.warm hW1⟩⟩ rfl rfl hls rfl (by show 2 * 0 + _ ≤ _; omega) hdg hf) kk
theorem b_callN {host : String} (X : CX g l p s m args meth c own cc nL) (hA : AO s) (hH : HBN g n M H) (hL : LK g s H locs) (hls : ls.size = nL) (hM : CIN g l y cy nY fr lo mc ms n a M n1 M1) (hy : okI y cy nY) (hlk : (own, idx, y, host) ∈ NEST)
    (hR : fr + 1 ≤ R.frames ∧ 8 + (nY + 11) + lo ≤ R.locals) (hf : cells + mc ≤ R.cells ∧ slots + ms ≤ R.slots) (hW : (rest.map fun v => v.category).sum ≤ 8) (hdg : decode cc pc = .ok (.invokespecial idx, 3))
    (kk : ∀ H1 locs1, HBN g n1 M1 H1 → LK g s H1 locs1 → W p l e R s m args below meth c H1 locs1 (cells + mc) (slots + ms) Q (F0 m (pc + 3) ls rest)) : W p l e R s m args below meth c H locs cells slots Q (F0 m pc ls (.ref (adr g a) :: rest)) := by
  have hts := X.2.2.2.2.1
  obtain ⟨⟨h1, h2, h3, h4, h5⟩, h6, h7⟩ := hy
  have hG : GoodIn BIG (Cond.code y cy nY none :: BIG) := fun w hw => by
    rcases List.mem_cons.mp hw with e | h
    · rw [e]; exact ⟨h1, good_of_word (big_good h1)⟩
    · exact ⟨h, good_of_word (big_good h)⟩
  exact b_done (aa := #[.ref (adr g a)]) hL rfl (vx_runIN (As := []) (rest := rest) (my_fix X) hM ⟨va_cnB 0 hts hG rfl rfl rfl (X.2.2.2.2.2.1.2.2.2.2.2.2.1 _ hlk) (hts _ h2) ⟨h3, h4, h5⟩ hR, h6, hts _ h7⟩ ⟨bn_blind, fun U hU hW1 => ⟨rfl, by rw [hU]; exact hH, X.2.2.2.2.2.1.warm hW1, hA.warm hW1⟩⟩ rfl rfl hls rfl (by show 2 * 0 + _ ≤ _; omega) hdg hf) kk
theorem b_vret (X : CX g l p s m args meth c own cc nL) (hr : meth.sig.returnType = none) (hH : HBN g n M H) (hL : LK g s H locs) (e1 : n = n1) (e2 : M = M1) (hc : cells ≤ mc) (hs : slots ≤ ms) (hdg : decode cc pc = .ok (.return_, 1)) : W p l e R s m args below meth c H locs cells slots (MQN g below n1 M1 mc ms args s) (F0 m pc ls []) := by
  subst e1; subst e2
  have hlk := X.2.2.2.2.2.2.1
  exact W.widen hc hs (vx_ret (W.vret X.1 X.2.1 hr (fun t ht hW => ⟨rfl, by rw [ht]; exact hH, by rw [ht]; exact hL.1⟩) hL.2 hdg hlk))
theorem b_wave (X : CX g l p s m args meth c own cc nL) (hH : HBN g n M H) (hL : LK g s H locs) (hlk : Cond.fieldLink own idx "ScoreOrchestra$Verb" "WAVE" "LScoreOrchestra$Verb;" ∈ BIG) (hdg : decode cc pc = .ok (.getstatic idx, 3))
    (kk : W p l e R s m args below meth c H locs cells slots Q (F0 m (pc + 3) ls (.ref (gV g 9) :: rest))) : W p l e R s m args below meth c H locs cells slots Q (F0 m pc ls rest) := by
  obtain ⟨hx, hb, -, hown, hts, hK, -, -, hg⟩ := X
  obtain ⟨cf, kf, fi, f, q, cell, h1, h2, h3, h4, h5, h6, h7, h8⟩ := hK.2.2.2.2.2.2.2.1.2.2.2.2.1
  have hq : q < gN g := Nat.lt_of_not_le h8
  exact W.gets hx hb hown (hts _ hlk) h1 h2 h3 h4 (by rw [hH.1.1 q hq]; exact h5) (fun e => by rw [e] at h6; cases h6) h7 rfl hdg kk
end MYN2
