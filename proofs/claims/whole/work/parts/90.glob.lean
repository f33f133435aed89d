/-! PURE LEVEL: all that is remembered, on both sides -/
/-- our references -/
def LC (M : Mem) : Prop :=
  (mR M 1 0 = 2 ∧ mR M 1 1 = 16 ∧ mR M 1 2 = 30 ∧ mR M 1 4 = 44 ∧ mR M 1 5 = 172 ∧ mR M 1 6 = 174 ∧ mR M 1 7 = 202) ∧ ShR M 16 ∧ ShR M 30 ∧ ShH M ∧
  (mR M 172 3 = 173 ∧ mR M 174 0 = 175 ∧ mR M 174 1 = 177 ∧ mR M 175 0 = 176 ∧ mR M 202 0 = 203) ∧ ∀ i, i < 12 → mR M 177 i = 178 + 2 * i ∧ mR M (178 + 2 * i) 1 = 179 + 2 * i
/-- the row now, the rows remembered, their number -/
abbrev HS : Type := Row × (Nat → Row) × Nat
/-- a text and its length -/
abbrev TS : Type := (Nat → Nat) × Nat
def HCi (M : Mem) (H : HS) : Prop := StR M 2 H.1 ∧ ∃ nx, HC M H.2.1 H.2.2 nx
def HMi (M : Mem) (H : HS) : Prop := WA M 205 260 H.1 ∧ ∃ fc, HM M H.2.1 H.2.2 fc
def HB (B : Nat) (H : HS) : Prop := Inv B H.1 ∧ ∀ j, j < H.2.2 → Inv B (H.2.1 j)
def SCi (M : Mem) (S : Row × Nat) : Prop := mI M 1 3 = nI S.2 ∧ (S.2 = 1 → StR M 30 S.1)
def SMi (M : Mem) (S : Row × Nat) : Prop := mI M 204 8 = nI S.2 ∧ (S.2 = 1 → WA M 207 260 S.1)
def SB (B : Nat) (S : Row × Nat) : Prop := S.2 < 2 ∧ (S.2 = 1 → Inv B S.1)
def OCi (M : Mem) (O : TS) : Prop := mI M 202 1 = nI O.2 ∧ ∀ k, k < O.2 → mI M 203 k = nI (O.1 k)
def OMi (M : Mem) (O : TS) : Prop := mI M 204 10 = nI O.2 ∧ ∀ k, k < O.2 → mI M 210 k = nI (O.1 k)
def OB (O : TS) : Prop := O.2 ≤ 60 ∧ ∀ k, k < O.2 → O.1 k < 128
def TCi (M : Mem) (T : TS) : Prop := mI M 175 1 = nI T.2 ∧ ∀ k, k < T.2 → mI M 176 k = nI (T.1 k)
def TMi (M : Mem) (T : TS) : Prop := mI M 204 12 = nI T.2 ∧ ∀ k, k < T.2 → mI M 211 k = nI (T.1 k)
def TB (T : TS) : Prop := T.2 ≤ 60 ∧ ∀ k, k < T.2 → 32 ≤ T.1 k ∧ T.1 k < 127
def ECi (M : Mem) (E : Int32 × Int32) : Prop := mI M 1 8 = E.1 ∧ mI M 1 9 = E.2
def EMi (M : Mem) (E : Int32 × Int32) : Prop := mI M 204 14 = E.1 ∧ mI M 204 15 = E.2
def EB (E : Int32 × Int32) : Prop := (E.1 = -1 ∨ ∃ n, n < 1000 ∧ E.1 = nI n) ∧ (E.2 = -1 ∨ ∃ n, n < 1000 ∧ E.2 = nI n)
abbrev ZS : Type := HS × (Row × Nat) × TS × TS × (Int32 × Int32)
def CI (M : Mem) (Z : ZS) : Prop := LC M ∧ HCi M Z.1 ∧ SCi M Z.2.1 ∧ OCi M Z.2.2.1 ∧ TCi M Z.2.2.2.1 ∧ ECi M Z.2.2.2.2
def MI (M : Mem) (Z : ZS) : Prop := LM M ∧ HMi M Z.1 ∧ SMi M Z.2.1 ∧ OMi M Z.2.2.1 ∧ TMi M Z.2.2.2.1 ∧ EMi M Z.2.2.2.2
def BI (B : Nat) (Z : ZS) : Prop := HB B Z.1 ∧ SB B Z.2.1 ∧ OB Z.2.2.1 ∧ TB Z.2.2.2.1 ∧ EB Z.2.2.2.2
def GI (B : Nat) (M : Mem) : Prop := ∃ Z, BI B Z ∧ CI M Z ∧ MI M Z
/-! frames -/
/-- the same at the places of P -/
def Same (P : Nat → Nat → Prop) (M M' : Mem) : Prop := ∀ a k, P a k → mI M' a k = mI M a k ∧ mJ M' a k = mJ M a k ∧ mR M' a k = mR M a k
theorem Same.refl (P : Nat → Nat → Prop) (M : Mem) : Same P M M := fun _ _ _ => ⟨rfl, rfl, rfl⟩
theorem Same.trans {P : Nat → Nat → Prop} {M M1 M2 : Mem} (h : Same P M M1) (h2 : Same P M1 M2) : Same P M M2 := fun a k p => ⟨(h2 a k p).1.trans (h a k p).1, (h2 a k p).2.1.trans (h a k p).2.1, (h2 a k p).2.2.trans (h a k p).2.2⟩
theorem Same.sub {P Q : Nat → Nat → Prop} {M M' : Mem} (h : Same P M M') (e : ∀ a k, Q a k → P a k) : Same Q M M' := fun a k q => h a k (e a k q)
theorem Same.only {M M' : Mem} {q : Nat} (h : Only M M' q) : Same (fun a _ => a ≠ q) M M' := fun a k p => ⟨h.1 a k p, only_j h a k, only_r h a k⟩
theorem Same.blk {M M' : Mem} {x n : Nat} (h : Blk M M' x n) : Same (fun a _ => a < x ∨ x + n ≤ a) M M' := fun a k p => ⟨(h.1 a k p).1, (h.1 a k p).2, blk_r h a k⟩
theorem Same.frS {M M' : Mem} (h : FrS M M') : Same (fun a _ => ¬ (2 ≤ a ∧ a < 16)) M M' := h
theorem Same.onlyH {M M' : Mem} (h : OnlyH M M') : Same (fun a k => a ≠ 206 ∧ a ≠ 208 ∧ ¬ (a = 204 ∧ (k = 6 ∨ k = 7))) M M' := fun a k p => ⟨h.1 a k p.1 p.2.1 p.2.2, by unfold mJ; rw [h.2], onlyH_r h a k⟩
theorem Same.sI (M : Mem) (q j : Nat) (x : Int32) : Same (fun a k => ¬ (a = q ∧ k = j)) M (sI M q j x) := fun a k p => ⟨by rw [mI_sI, if_neg p], rfl, rfl⟩
theorem Same.sJ (M : Mem) (q j : Nat) (x : Int64) : Same (fun a k => ¬ (a = q ∧ k = j)) M (sJ M q j x) := fun a k p => ⟨rfl, by rw [mJ_sJ, if_neg p], rfl⟩
theorem Same.sD (M : Mem) (q j : Nat) (x : UInt64) : Same (fun _ _ => True) M (sD M q j x) := fun a k p => ⟨rfl, rfl, rfl⟩
section SM
variable {M M' : Mem}
theorem LM.s (h : LM M) (e : Same (fun a k => a = 204 ∧ k ≤ 16) M M') : LM M' := by
  obtain ⟨h1, h2, h3, h4, h5, h6, h7, h8⟩ := h
  exact ⟨(e 204 _ ⟨rfl, by decide⟩).2.2.trans h1, (e 204 _ ⟨rfl, by decide⟩).2.2.trans h2, (e 204 _ ⟨rfl, by decide⟩).2.2.trans h3, (e 204 _ ⟨rfl, by decide⟩).2.2.trans h4, (e 204 _ ⟨rfl, by decide⟩).2.2.trans h5, (e 204 _ ⟨rfl, by decide⟩).2.2.trans h6, (e 204 _ ⟨rfl, by decide⟩).2.2.trans h7, (e 204 _ ⟨rfl, by decide⟩).2.2.trans h8⟩
/-- the references alone the same -/
def SameR (P : Nat → Nat → Prop) (M M' : Mem) : Prop := ∀ a k, P a k → mR M' a k = mR M a k
theorem LM.r (h : LM M) (e : SameR (fun a _ => a = 204) M M') : LM M' := by
  obtain ⟨h1, h2, h3, h4, h5, h6, h7, h8⟩ := h
  exact ⟨(e 204 _ rfl).trans h1, (e 204 _ rfl).trans h2, (e 204 _ rfl).trans h3, (e 204 _ rfl).trans h4, (e 204 _ rfl).trans h5, (e 204 _ rfl).trans h6, (e 204 _ rfl).trans h7, (e 204 _ rfl).trans h8⟩
theorem LC.r (h : LC M) (e : SameR (fun a k => a < 204 ∧ ¬ (2 ≤ a ∧ a < 16) ∧ ¬ (178 ≤ a ∧ k = 0 ∧ a < 202)) M M') : LC M' := by
  obtain ⟨⟨h1, h2, h3, h4, h5, h6, h7⟩, s1, s2, s3, ⟨g1, g2, g3, g4, g5⟩, c⟩ := h
  refine ⟨⟨(e 1 _ (by omega)).trans h1, (e 1 _ (by omega)).trans h2, (e 1 _ (by omega)).trans h3, (e 1 _ (by omega)).trans h4, (e 1 _ (by omega)).trans h5, (e 1 _ (by omega)).trans h6, (e 1 _ (by omega)).trans h7⟩, s1.mv fun a k p q => e a k (by omega), s2.mv fun a k p q => e a k (by omega), s3.mv fun a k p q => e a k (by omega), ⟨(e 172 _ (by omega)).trans g1, (e 174 _ (by omega)).trans g2, (e 174 _ (by omega)).trans g3, (e 175 _ (by omega)).trans g4, (e 202 _ (by omega)).trans g5⟩, fun i hi => ⟨(e 177 _ (by omega)).trans (c i hi).1, (e _ _ (by omega)).trans (c i hi).2⟩⟩
theorem HCi.s {H : HS} (h : HCi M H) (h0 : H.1 0 ≤ 5) (e : Same (fun a _ => (2 ≤ a ∧ a < 16) ∨ (44 ≤ a ∧ a < 172)) M M') : HCi M' H := by
  obtain ⟨h1, nx, h2⟩ := h
  exact ⟨h1.mv h0 fun a k p q => e a k (by omega), nx, h2.mv (e 44 _ (by omega)).1 (e 44 _ (by omega)).1 fun a k p q _ => e a k (by omega)⟩
theorem HMi.s {H : HS} (h : HMi M H) (e : Same (fun a k => (a = 205 ∧ k < 260) ∨ a = 206 ∨ (a = 204 ∧ (k = 6 ∨ k = 7))) M M') : HMi M' H := by
  obtain ⟨h1, fc, h2, h3, h4, h5, h6⟩ := h
  exact ⟨fun k hk => (e _ _ (by omega)).1.trans (h1 k hk), fc, h2, h3, (e _ _ (by omega)).1.trans h4, (e _ _ (by omega)).1.trans h5, fun j hj k hk => (e _ _ (by omega)).1.trans (h6 j hj k hk)⟩
theorem SCi.s {S : Row × Nat} (h : SCi M S) (h0 : S.2 = 1 → S.1 0 ≤ 5) (e : Same (fun a k => (30 ≤ a ∧ a < 44) ∨ (a = 1 ∧ k = 3)) M M') : SCi M' S :=
  ⟨(e _ _ (by omega)).1.trans h.1, fun z => (h.2 z).mv (h0 z) fun a k p q => e a k (by omega)⟩
theorem SMi.s {S : Row × Nat} (h : SMi M S) (e : Same (fun a k => a = 207 ∨ (a = 204 ∧ k = 8)) M M') : SMi M' S :=
  ⟨(e _ _ (by omega)).1.trans h.1, fun z k hk => (e _ _ (by omega)).1.trans (h.2 z k hk)⟩
theorem OCi.s {O : TS} (h : OCi M O) (e : Same (fun a _ => a = 202 ∨ a = 203) M M') : OCi M' O :=
  ⟨(e _ _ (by omega)).1.trans h.1, fun k hk => (e _ _ (by omega)).1.trans (h.2 k hk)⟩
theorem OMi.s {O : TS} (h : OMi M O) (e : Same (fun a k => a = 210 ∨ (a = 204 ∧ k = 10)) M M') : OMi M' O :=
  ⟨(e _ _ (by omega)).1.trans h.1, fun k hk => (e _ _ (by omega)).1.trans (h.2 k hk)⟩
theorem TCi.s {T : TS} (h : TCi M T) (e : Same (fun a _ => a = 175 ∨ a = 176) M M') : TCi M' T :=
  ⟨(e _ _ (by omega)).1.trans h.1, fun k hk => (e _ _ (by omega)).1.trans (h.2 k hk)⟩
theorem TMi.s {T : TS} (h : TMi M T) (e : Same (fun a k => a = 211 ∨ (a = 204 ∧ k = 12)) M M') : TMi M' T :=
  ⟨(e _ _ (by omega)).1.trans h.1, fun k hk => (e _ _ (by omega)).1.trans (h.2 k hk)⟩
theorem ECi.s {E : Int32 × Int32} (h : ECi M E) (e : Same (fun a k => a = 1 ∧ (k = 8 ∨ k = 9)) M M') : ECi M' E :=
  ⟨(e _ _ (by omega)).1.trans h.1, (e _ _ (by omega)).1.trans h.2⟩
theorem EMi.s {E : Int32 × Int32} (h : EMi M E) (e : Same (fun a k => a = 204 ∧ (k = 14 ∨ k = 15)) M M') : EMi M' E :=
  ⟨(e _ _ (by omega)).1.trans h.1, (e _ _ (by omega)).1.trans h.2⟩
/-- what our questions leave as it was: all but the sandbox and the section transposed -/
abbrev KpC (a k : Nat) : Prop := a < 204 ∧ ¬ (16 ≤ a ∧ a < 30) ∧ a ≠ 172 ∧ a ≠ 173
/-- what the model's questions leave as it was -/
abbrev KpM (a k : Nat) : Prop := 204 ≤ a ∧ a ≤ 212 ∧ a ≠ 208 ∧ a ≠ 209 ∧ a ≠ 212 ∧ ¬ (a = 204 ∧ (k = 0 ∨ k = 13 ∨ k = 17 ∨ k = 18)) ∧ ¬ (a = 205 ∧ 260 ≤ k)
theorem CI.s {Z : ZS} (h : CI M Z) (h0 : Z.1.1 0 ≤ 5) (h1 : Z.2.1.2 = 1 → Z.2.1.1 0 ≤ 5) (e : Same KpC M M') (er : SameR (fun a _ => a < 204) M M') : CI M' Z := by
  obtain ⟨g1, g2, g3, g4, g5, g6⟩ := h
  exact ⟨g1.r (fun a k p => er a k p.1), g2.s h0 (e.sub fun a k p => by omega), g3.s h1 (e.sub fun a k p => by omega), g4.s (e.sub fun a k p => by omega), g5.s (e.sub fun a k p => by omega), g6.s (e.sub fun a k p => by omega)⟩
theorem MI.s {Z : ZS} (h : MI M Z) (e : Same KpM M M') (er : SameR (fun a _ => a = 204) M M') : MI M' Z := by
  obtain ⟨g1, g2, g3, g4, g5, g6⟩ := h
  exact ⟨g1.r er, g2.s (e.sub fun a k p => by omega), g3.s (e.sub fun a k p => by omega), g4.s (e.sub fun a k p => by omega), g5.s (e.sub fun a k p => by omega), g6.s (e.sub fun a k p => by omega)⟩
end SM
theorem BI.r0 {B : Nat} {Z : ZS} (h : BI B Z) : Z.1.1 0 ≤ 5 := h.1.1.r5
theorem BI.r1 {B : Nat} {Z : ZS} (h : BI B Z) : Z.2.1.2 = 1 → Z.2.1.1 0 ≤ 5 := fun z => (h.2.1.2 z).r5
theorem HB.mono {B B' : Nat} {H : HS} (h : HB B H) (hb : B ≤ B') : HB B' H := ⟨h.1.mono hb, fun j hj => (h.2 j hj).mono hb⟩
theorem BI.mono {B B' : Nat} {Z : ZS} (h : BI B Z) (hb : B ≤ B') : BI B' Z := ⟨h.1.mono hb, ⟨h.2.1.1, fun z => (h.2.1.2 z).mono hb⟩, h.2.2⟩
/-- a call that may throw, on both sides -/
def Call (B : Nat) (M : Mem) (fl : Mem → Option (Int32 × Mem)) (fm : Mem → Option (Int32 × Mem)) : Prop :=
  ∃ k M1 b M2, fl M = some (k, M1) ∧ fm M1 = some (b, M2) ∧ mI M2 204 0 = k ∧ (k = 0 → mJ M2 213 0 = b.toInt64) ∧ GI B M2
/-- a call that doesn't throw -/
def CallN {τ : Type} (B : Nat) (M : Mem) (fc fm : Mem → Option (τ × Mem)) : Prop :=
  ∃ v M1 M2, fc M = some (v, M1) ∧ fm M1 = some (v, M2) ∧ GI B M2
/-- a question, ours -/
def QC {σ : Type} (Z : ZS) (B : Nat) (fc : Mem → Option (σ × Mem)) (r : σ) : Prop :=
  ∀ M, CI M Z → BI B Z → ∃ M1, fc M = some (r, M1) ∧ Same (fun a k => KpC a k ∨ 204 ≤ a) M M1 ∧ SameR (fun _ _ => True) M M1
/-- a question, the model's: answer b, thrown c -/
def QM {σ : Type} (Z : ZS) (B : Nat) (fm : Mem → Option (σ × Mem)) (b : σ) (c : Int32) : Prop :=
  ∀ M, MI M Z → BI B Z → ∃ M2, fm M = some (b, M2) ∧ mI M2 204 0 = c ∧ Same (fun a k => KpM a k ∨ a < 204 ∨ 212 < a) M M2 ∧ SameR (fun _ _ => True) M M2
theorem QC.ci {σ : Type} {Z : ZS} {B : Nat} {fc : Mem → Option (σ × Mem)} {r : σ} (h : QC Z B fc r) {M : Mem} (hC : CI M Z) (hM : MI M Z) (hB : BI B Z) : ∃ M1, fc M = some (r, M1) ∧ CI M1 Z ∧ MI M1 Z := by
  obtain ⟨M1, g1, g2, g3⟩ := h M hC hB
  exact ⟨M1, g1, hC.s hB.r0 hB.r1 (g2.sub fun a k p => Or.inl p) (fun a k _ => g3 a k trivial), hM.s (g2.sub fun a k p => Or.inr p.1) (fun a k _ => g3 a k trivial)⟩
theorem QM.mi {σ : Type} {Z : ZS} {B : Nat} {fm : Mem → Option (σ × Mem)} {b : σ} {c : Int32} (h : QM Z B fm b c) {M : Mem} (hC : CI M Z) (hM : MI M Z) (hB : BI B Z) : ∃ M2, fm M = some (b, M2) ∧ mI M2 204 0 = c ∧ CI M2 Z ∧ MI M2 Z ∧ mJ M2 213 0 = mJ M 213 0 ∧ mD M2 = mD M2 := by
  obtain ⟨M2, g1, g2, g3, g4⟩ := h M hM hB
  exact ⟨M2, g1, g2, hC.s hB.r0 hB.r1 (g3.sub fun a k p => Or.inr (Or.inl p.1)) (fun a k _ => g4 a k trivial), hM.s (g3.sub fun a k p => Or.inl p) (fun a k _ => g4 a k trivial), (g3 213 0 (Or.inr (Or.inr (by decide)))).2.1, rfl⟩
theorem GI.q {B : Nat} {M : Mem} {Z : ZS} (hC : CI M Z) (hM : MI M Z) (hB : BI B Z) : GI B M := ⟨Z, hB, hC, hM⟩
/-- a question that doesn't throw -/
theorem callN {σ : Type} {B : Nat} {M : Mem} {fc fm : Mem → Option (σ × Mem)} (h : GI B M) (hq : ∀ Z, BI B Z → ∃ v, QC Z B fc v ∧ ∃ c, QM Z B fm v c) : CallN B M fc fm := by
  obtain ⟨Z, hB, hC, hM⟩ := h
  obtain ⟨v, q1, c, q2⟩ := hq Z hB
  obtain ⟨M1, g1, g2, g3⟩ := q1.ci hC hM hB
  obtain ⟨M2, k1, -, k2, k3, -⟩ := q2.mi g2 g3 hB
  exact ⟨v, M1, M2, g1, k1, .q k2 k3 hB⟩
/-- our answer, as the law's wrapper keeps it -/
def keepI (v : Int32) (M : Mem) : Option (Int32 × Mem) := chk (inb 0 1) (lt (sJ M 213 0 (v.toInt64)) (fun (M6 : Mem) => some (0, M6)))
def keepZ (v : Int32) (M : Mem) : Option (Int32 × Mem) := if v = 0 then chk (inb 0 1) (lt (sJ M 213 0 0) (fun (M7 : Mem) => some (0, M7))) else chk (inb 0 1) (lt (sJ M 213 0 1) (fun (M9 : Mem) => some (0, M9)))
theorem keepZ_I {v : Int32} (h : v = 0 ∨ v = 1) (M : Mem) : keepZ v M = keepI v M := by
  unfold keepZ keepI
  rcases h with rfl | rfl
  · rw [if_pos rfl]; rfl
  · rw [if_neg (by decide)]; rfl
theorem keepI_s (v : Int32) (M : Mem) : keepI v M = some (0, sJ M 213 0 v.toInt64) := by
  unfold keepI
  rw [chk_t (by decide), lt_v]
/-- a question that may throw: either answered on both sides, or thrown on both -/
theorem callQ1 {B : Nat} {M : Mem} {Z : ZS} {fc : Mem → Option ((Int32 ⊕ String) × Mem)} {fm : Mem → Option (Int32 × Mem)} {hd : String → Mem → Option (Int32 × Mem)} {kp : Int32 → Mem → Option (Int32 × Mem)}
    (hB : BI B Z) (hC : CI M Z) (hM : MI M Z) (hq : (∃ v, QC Z B fc (.inl v) ∧ QM Z B fm v 0 ∧ ∀ M, kp v M = keepI v M) ∨ (∃ E c b, QC Z B fc (.inr E) ∧ QM Z B fm b c ∧ c ≠ 0 ∧ ∀ M, hd E M = some (c, M))) : Call B M (fun M => bw (fc M) kp hd) fm := by
  rcases hq with ⟨v, q1, q2, kp1⟩ | ⟨E, c, b, q1, q2, c0, h1⟩
  · obtain ⟨M1, g1, g2, g3⟩ := q1.ci hC hM hB
    have e := Same.sJ M1 213 0 v.toInt64
    have g2' : CI (sJ M1 213 0 v.toInt64) Z := g2.s hB.r0 hB.r1 (e.sub fun a k p => by omega) (fun a k _ => rfl)
    have g3' : MI (sJ M1 213 0 v.toInt64) Z := g3.s (e.sub fun a k p => by omega) (fun a k _ => rfl)
    obtain ⟨M2, k1, k2, k3, k4, k5, -⟩ := q2.mi g2' g3' hB
    refine ⟨0, _, v, M2, ?_, k1, k2, fun _ => ?_, .q k3 k4 hB⟩
    · show bw (fc M) kp hd = _
      rw [g1, bw_l, kp1, keepI_s]
    · rw [k5, mJ_sJ, if_pos ⟨rfl, rfl⟩]
  · obtain ⟨M1, g1, g2, g3⟩ := q1.ci hC hM hB
    obtain ⟨M2, k1, k2, k3, k4, k5, -⟩ := q2.mi g2 g3 hB
    refine ⟨c, M1, b, M2, ?_, k1, k2, fun z => absurd z c0, .q k3 k4 hB⟩
    show bw (fc M) kp hd = _
    rw [g1, bw_r, h1]
theorem callQ {B : Nat} {M : Mem} {fc : Mem → Option ((Int32 ⊕ String) × Mem)} {fm : Mem → Option (Int32 × Mem)} {hd : String → Mem → Option (Int32 × Mem)} {kp : Int32 → Mem → Option (Int32 × Mem)}
    (h : GI B M) (hq : ∀ Z, BI B Z → (∃ v, QC Z B fc (.inl v) ∧ QM Z B fm v 0 ∧ ∀ M, kp v M = keepI v M) ∨ (∃ E c b, QC Z B fc (.inr E) ∧ QM Z B fm b c ∧ c ≠ 0 ∧ ∀ M, hd E M = some (c, M))) : Call B M (fun M => bw (fc M) kp hd) fm := by
  obtain ⟨Z, hB, hC, hM⟩ := h
  exact callQ1 hB hC hM (hq Z hB)
/-- a call that answers, and changes what is remembered from Z to Z' -/
theorem callA {B B' : Nat} {M M1 : Mem} {Z Z' : ZS} {v : Int32} {fc : Mem → Option ((Int32 ⊕ String) × Mem)} {fm : Mem → Option (Int32 × Mem)} {hd : String → Mem → Option (Int32 × Mem)} {kp : Int32 → Mem → Option (Int32 × Mem)}
    (hB0 : BI B Z) (hB : BI B' Z') (h1 : fc M = some (.inl v, M1)) (hC : CI M1 Z') (hM : MI M1 Z) (hk : ∀ M, kp v M = keepI v M) (h2 : ∀ M, CI M Z' → MI M Z → ∃ M2, fm M = some (v, M2) ∧ mI M2 204 0 = 0 ∧ mJ M2 213 0 = mJ M 213 0 ∧ CI M2 Z' ∧ MI M2 Z') : Call B' M (fun M => bw (fc M) kp hd) fm := by
  have e := Same.sJ M1 213 0 v.toInt64
  obtain ⟨M2, k1, k2, k3, k4, k5⟩ := h2 (sJ M1 213 0 v.toInt64) (hC.s hB.r0 hB.r1 (e.sub fun a k p => by omega) (fun a k _ => rfl)) (hM.s (e.sub fun a k p => by omega) (fun a k _ => rfl))
  refine ⟨0, _, v, M2, ?_, k1, k2, fun _ => ?_, .q k4 k5 hB⟩
  · show bw (fc M) kp hd = _
    rw [h1, bw_l, hk, keepI_s]
  · rw [k3, mJ_sJ, if_pos ⟨rfl, rfl⟩]
/-- a call that throws, and changes what is remembered from Z to Z' -/
theorem callT {B' : Nat} {M M1 : Mem} {Z Z' : ZS} {E : String} {c b : Int32} {fc : Mem → Option ((Int32 ⊕ String) × Mem)} {fm : Mem → Option (Int32 × Mem)} {hd : String → Mem → Option (Int32 × Mem)} {kp : Int32 → Mem → Option (Int32 × Mem)}
    (hB : BI B' Z') (h1 : fc M = some (.inr E, M1)) (hC : CI M1 Z') (hM : MI M1 Z) (c0 : c ≠ 0) (hk : ∀ M, hd E M = some (c, M)) (h2 : ∀ M, CI M Z' → MI M Z → ∃ M2, fm M = some (b, M2) ∧ mI M2 204 0 = c ∧ CI M2 Z' ∧ MI M2 Z') : Call B' M (fun M => bw (fc M) kp hd) fm := by
  obtain ⟨M2, k1, k2, k4, k5⟩ := h2 M1 hC hM
  refine ⟨c, M1, b, M2, ?_, k1, k2, fun z => absurd z c0, .q k4 k5 hB⟩
  show bw (fc M) kp hd = _
  rw [h1, bw_r, hk]
/-- a question of ours that touches nothing -/
theorem QC.pure {σ : Type} {Z : ZS} {B : Nat} {fc : Mem → Option (σ × Mem)} {r : σ} (h : ∀ M, CI M Z → BI B Z → fc M = some (r, M)) : QC Z B fc r := fun M hC hB => ⟨M, h M hC hB, Same.refl _ _, fun _ _ _ => rfl⟩
/-- a question of the model's that touches but what is thrown -/
theorem QM.thrown {σ : Type} {Z : ZS} {B : Nat} {fm : Mem → Option (σ × Mem)} {b : σ} {c : Int32} (h : ∀ M, MI M Z → BI B Z → ∃ M2, fm M = some (b, M2) ∧ mI M2 204 0 = c ∧ Same (fun a k => ¬ (a = 204 ∧ k = 0)) M M2 ∧ M2.2 = M.2) : QM Z B fm b c := fun M hM hB => by
  obtain ⟨M2, g1, g2, g3, g4⟩ := h M hM hB
  exact ⟨M2, g1, g2, g3.sub fun a k p => by omega, fun a k _ => by unfold mR; rw [g4]⟩
theorem MI.t {M : Mem} {Z : ZS} (h : MI M Z) (x : Int32) : MI (sI M 204 0 x) Z := h.s ((Same.sI M 204 0 x).sub fun a k p => by omega) (fun a k _ => rfl)
theorem CI.t {M : Mem} {Z : ZS} (h : CI M Z) (h0 : Z.1.1 0 ≤ 5) (h1 : Z.2.1.2 = 1 → Z.2.1.1 0 ≤ 5) (x : Int32) : CI (sI M 204 0 x) Z := h.s h0 h1 ((Same.sI M 204 0 x).sub fun a k p => by omega) (fun a k _ => rfl)
theorem F_failsT (c : Int32) (M : Mem) : F_X9_fails 204 c M = some (0, sI M 204 0 c) := rfl
theorem sI_sI (M : Mem) (a k : Nat) (x y : Int32) : sI (sI M a k x) a k y = sI M a k y := by
  unfold sI
  congr 1
  funext b j
  show (if b = a ∧ j = k then y else if b = a ∧ j = k then x else M.1 b j) = if b = a ∧ j = k then y else M.1 b j
  split <;> rfl
