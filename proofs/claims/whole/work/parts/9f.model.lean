/-! PURE LEVEL: scripts read, the model's -/
/-- its place, numbers and sort -/
abbrev St : Type := Nat × (Nat → Int32) × Int32
def MQr (M : Mem) (T : TS) (z : St) : Prop := LM M ∧ TMi M T ∧ z.1 ≤ T.2 ∧ mI M 204 13 = nI z.1 ∧ (∀ k, k < 4 → mI M 212 k = z.2.1 k) ∧ mI M 204 17 = z.2.2
abbrev KpR (a k : Nat) : Prop := ¬ (a = 204 ∧ (k = 13 ∨ k = 17)) ∧ a ≠ 212
def setN (f : Nat → Int32) (k : Nat) (x : Int32) : Nat → Int32 := fun j => if j = k then x else f j
def nxS (T : TS) (p : Nat) : Int32 := if p < T.2 then nI (T.1 p) else -1
abbrev SP : Type := St → Bool × St
def rdS (s : Nat → Nat) (c : Nat) : SP := fun z => if s z.1 = c then (true, (z.1 + 1, z.2)) else (false, z)
def rdDS (s : Nat → Nat) (k : Nat) : SP := fun z => if digS (s z.1) then (true, (z.1 + 1, setN z.2.1 k (nI (s z.1 - 48)), z.2.2)) else (false, z)
def rdNS (s : Nat → Nat) (k : Nat) : SP := fun z => if digS (s z.1) then (if digS (s (z.1 + 1)) then (true, (z.1 + 2, setN z.2.1 k (nI (10 * (s z.1 - 48) + (s (z.1 + 1) - 48))), z.2.2)) else (true, (z.1 + 1, setN z.2.1 k (nI (s z.1 - 48)), z.2.2))) else (false, z)
def rdGS (s : Nat → Nat) (k : Nat) : SP := fun z => if s z.1 = 43 then (true, (z.1 + 1, setN z.2.1 k 1, z.2.2)) else if s z.1 = 45 then (true, (z.1 + 1, setN z.2.1 k 0, z.2.2)) else (false, (z.1, setN z.2.1 k 0, z.2.2))
def ifS (a b c : SP) : SP := fun z => if (a z).1 = true then b (a z).2 else c (a z).2
def noS : SP := fun z => (false, z)
def yesS : SP := fun z => (true, z)
def andS (a b : SP) : SP := ifS a b noS
/-- a method of the model's reads as S says -/
def Sim (T : TS) (F : Mem → Option (Int32 × Mem)) (S : SP) : Prop := ∀ M z, MQr M T z → ∃ M', F M = some (if (S z).1 = true then 1 else 0, M') ∧ MQr M' T (S z).2 ∧ Same KpR M M' ∧ M'.2 = M.2
theorem Sim.iff {T : TS} {F G H : Mem → Option (Int32 × Mem)} {a b c : SP} (hF : Sim T F a) (hH : Sim T H b) (hG : Sim T G c) : Sim T (fun M => b1 (F M) (fun v M3 => if v = 0 then G M3 else H M3)) (ifS a b c) := fun M z hz => by
  obtain ⟨M1, g1, g2, g3, g4⟩ := hF M z hz
  show ∃ M', b1 (F M) (fun v M3 => if v = 0 then G M3 else H M3) = _ ∧ _
  unfold ifS
  rw [g1, b1_s]
  by_cases h : (a z).1 = true
  · rw [if_pos h, if_neg (by decide), if_pos h]
    obtain ⟨M2, k1, k2, k3, k4⟩ := hH M1 _ g2
    exact ⟨M2, k1, k2, g3.trans k3, k4.trans g4⟩
  · rw [if_neg h, if_pos rfl, if_neg h]
    obtain ⟨M2, k1, k2, k3, k4⟩ := hG M1 _ g2
    exact ⟨M2, k1, k2, g3.trans k3, k4.trans g4⟩
theorem Sim.no {T : TS} : Sim T (fun M => some (0, M)) noS := fun M z hz => ⟨M, rfl, hz, Same.refl _ _, rfl⟩
theorem Sim.ok {T : TS} : Sim T (fun M => some (1, M)) yesS := fun M z hz => ⟨M, rfl, hz, Same.refl _ _, rfl⟩
theorem Sim.and {T : TS} {F H : Mem → Option (Int32 × Mem)} {a b : SP} (hF : Sim T F a) (hH : Sim T H b) : Sim T (fun M => b1 (F M) (fun v M3 => if v = 0 then some (0, M3) else H M3)) (andS a b) := hF.iff hH .no
theorem Sim.z {T : TS} {F : Mem → Option (Int32 × Mem)} {a : SP} (hF : Sim T F a) : Sim T (fun M => b1 (F M) (fun v M3 => chk (nokZ v) (some (v, M3)))) a := fun M z hz => by
  obtain ⟨M1, g1, g2, g3, g4⟩ := hF M z hz
  refine ⟨M1, ?_, g2, g3, g4⟩
  show b1 (F M) (fun v M3 => chk (nokZ v) (some (v, M3))) = _
  rw [g1, b1_s]
  by_cases h : (a z).1 = true
  · rw [if_pos h]; rfl
  · rw [if_neg h]; rfl
section FS
variable {T : TS}
theorem F_next (hT : TB T) {M : Mem} {z : St} (hz : MQr M T z) : F_X9_nextChar 204 M = some (nxS T z.1) := by
  obtain ⟨hL, h1, h2, h3, -⟩ := hz
  have l60 := hT.1
  unfold F_X9_nextChar nxS
  rw [h1.1, h3]
  by_cases c : z.1 < T.2
  · rw [if_neg (nI_ge c (by omega)), chk_t (inb_n (by omega) (by decide)), nI_clamp (by omega), hL.2.2.2.2.2.2.1, h1.2 _ c, if_pos c]
  · rw [if_pos (nI_le (by omega) (by omega)), if_neg c]
theorem nx_eq (hT : TB T) {p c : Nat} (hc : 0 < c) (hc2 : c < 128) : nxS T p = nI c ↔ sg T p = c := by
  unfold nxS sg
  by_cases h : p < T.2
  · have := hT.2 p h
    rw [if_pos h, if_pos h, nI_eq (by omega) (by omega)]
  · rw [if_neg h, if_neg h]
    exact ⟨fun y => absurd y.symm (nI_nneg (by omega)).1, fun y => by omega⟩
/-- the place moved on, the numbers set -/
theorem MQr.adv {M : Mem} {z : St} (hz : MQr M T z) (h : z.1 < T.2) : MQr (sI M 204 13 (nI (z.1 + 1))) T (z.1 + 1, z.2) ∧ Same KpR M (sI M 204 13 (nI (z.1 + 1))) := by
  obtain ⟨hL, h1, h2, h3, h4, h5⟩ := hz
  exact ⟨⟨hL.of rfl, h1.s ((Same.sI _ _ _ _).sub fun a k p => by omega), h, mI_same _ _ _ _, fun k hk => by rw [mI_diff _ (Or.inl (by decide))]; exact h4 k hk, by rw [mI_diff _ (Or.inr (by decide))]; exact h5⟩, (Same.sI _ _ _ _).sub fun a k p => by omega⟩
theorem MQr.num {M : Mem} {z : St} (hz : MQr M T z) {k : Nat} (hk : k < 4) (x : Int32) : MQr (sI M 212 k x) T (z.1, setN z.2.1 k x, z.2.2) ∧ Same KpR M (sI M 212 k x) := by
  obtain ⟨hL, h1, h2, h3, h4, h5⟩ := hz
  refine ⟨⟨hL.of rfl, h1.s ((Same.sI _ _ _ _).sub fun a k p => by omega), h2, by rw [mI_diff _ (Or.inl (by decide))]; exact h3, fun j hj => ?_, by rw [mI_diff _ (Or.inl (by decide))]; exact h5⟩, (Same.sI _ _ _ _).sub fun a k p => by omega⟩
  rw [mI_sI]
  show _ = setN z.2.1 k x j
  unfold setN
  by_cases e : j = k
  · rw [if_pos ⟨rfl, e⟩, if_pos e]
  · rw [if_neg (fun y => e y.2), if_neg e]; exact h4 j hj
theorem Sim.rd (hT : TB T) {c : Nat} (hc : 0 < c) (hc2 : c < 128) : Sim T (F_X9_reads 204 (nI c)) (rdS (sg T) c) := fun M z hz => by
  unfold F_X9_reads rdS
  rw [F_next hT hz, ob_s]
  by_cases h : sg T z.1 = c
  · have hin := sg_in (T := T) (p := z.1) (by omega)
    obtain ⟨q1, q2⟩ := hz.adv hin
    rw [if_pos ((nx_eq hT hc hc2).mpr h), if_pos h, hz.2.2.2.1, nI_1, lt_v]
    exact ⟨_, rfl, q1, q2, rfl⟩
  · rw [if_neg (fun y => h ((nx_eq hT hc hc2).mp y)), if_neg h]
    exact ⟨M, rfl, hz, Same.refl _ _, rfl⟩
theorem nx_dig (hT : TB T) (p : Nat) : F_X9_isBetween (nxS T p) 48 57 = some (if digS (sg T p) then 1 else 0) := by
  rw [F_bet]
  congr 1
  unfold nxS sg digS
  by_cases h : p < T.2
  · have := hT.2 p h
    have e1 : nI (T.1 p) < 48 ↔ T.1 p < 48 := nI_ltI (b := 48) (by omega) (by omega)
    have e2 : 57 < nI (T.1 p) ↔ 57 < T.1 p := nI_ltI (a := 57) (by omega) (by omega)
    rw [if_pos h, if_pos h]
    by_cases d : 48 ≤ T.1 p ∧ T.1 p ≤ 57
    · rw [if_neg (fun y => by rw [e1, e2] at y; omega), if_pos d]
    · rw [if_pos (by rw [e1, e2]; omega), if_neg d]
  · rw [if_neg h, if_neg h, if_pos (Or.inl (by decide)), if_neg (by omega)]
theorem nx_in {p : Nat} (h : p < T.2) : nxS T p = nI (sg T p) := by
  unfold nxS sg
  rw [if_pos h, if_pos h]
theorem Sim.dig (hT : TB T) {k : Nat} (hk : k < 4) : Sim T (F_X9_readsDigit 204 (nI k)) (rdDS (sg T) k) := fun M z hz => by
  unfold F_X9_readsDigit rdDS
  rw [F_next hT hz, ob_s, nx_dig hT, ob_s]
  rcases digS_or (sg T z.1) with h | h
  · have hin := sg_in (T := T) (p := z.1) (by omega)
    obtain ⟨q1, q2⟩ := hz.num hk (nI (sg T z.1 - 48))
    obtain ⟨r1, r2⟩ := q1.adv hin
    rw [if_pos h, if_neg (by decide), if_pos h, ob_s, chk_t (inb_n hk (by decide)), nI_clamp (by omega), hz.1.2.2.2.2.2.2.2, nx_in hin, show (48 : Int32) = nI 48 from rfl, nI_sub h.1, lt_v, mI_diff _ (Or.inl (by decide)), hz.2.2.2.1, nI_1, lt_v]
    exact ⟨_, rfl, r1, q2.trans r2, rfl⟩
  · rw [if_neg h, if_pos rfl, if_neg h]
    exact ⟨M, rfl, hz, Same.refl _ _, rfl⟩
theorem setN_2 (f : Nat → Int32) (k : Nat) (x y : Int32) : setN (setN f k x) k y = setN f k y := funext fun j => by
  unfold setN; split <;> rfl
theorem Sim.num (hT : TB T) {k : Nat} (hk : k < 4) : Sim T (F_X9_readsNumber 204 (nI k)) (rdNS (sg T) k) := fun M z hz => by
  obtain ⟨M1, g1, g2, g3, g4⟩ := Sim.dig hT hk M z hz
  unfold F_X9_readsNumber rdNS
  rcases digS_or (sg T z.1) with h | h
  · have e1 : rdDS (sg T) k z = (true, (z.1 + 1, setN z.2.1 k (nI (sg T z.1 - 48)), z.2.2)) := by unfold rdDS; rw [if_pos h]
    rw [e1] at g1 g2
    have g1' : F_X9_readsDigit 204 (nI k) M = some (1, M1) := g1
    rw [g1', b1_s, if_neg (by decide), if_pos h, F_next hT g2, ob_s, nx_dig hT, ob_s]
    rcases digS_or (sg T (z.1 + 1)) with h2 | h2
    · have hin := sg_in (T := T) (p := z.1 + 1) (by omega)
      have ek : mI M1 212 k = nI (sg T z.1 - 48) := by
        rw [g2.2.2.2.2.1 k hk]
        show setN z.2.1 k (nI (sg T z.1 - 48)) k = _
        unfold setN; rw [if_pos rfl]
      obtain ⟨q1, q2⟩ := g2.num hk (nI (10 * (sg T z.1 - 48) + (sg T (z.1 + 1) - 48)))
      obtain ⟨r1, r2⟩ := q1.adv hin
      rw [show setN (z.1 + 1, setN z.2.1 k (nI (sg T z.1 - 48)), z.2.2).2.1 k (nI (10 * (sg T z.1 - 48) + (sg T (z.1 + 1) - 48))) = setN z.2.1 k (nI (10 * (sg T z.1 - 48) + (sg T (z.1 + 1) - 48))) from setN_2 _ _ _ _] at r1
      rw [if_pos h2, if_neg (by decide), if_pos h2, chk_t (inb_n hk (by decide)), ob_s, chk_t (inb_n hk (by decide)), nI_clamp (by omega), g2.1.2.2.2.2.2.2.2, ek, nx_in hin, show (10 : Int32) = nI 10 from rfl, nI_mul, nI_add, show (48 : Int32) = nI 48 from rfl, nI_sub (by omega), show 10 * (sg T z.1 - 48) + sg T (z.1 + 1) - 48 = 10 * (sg T z.1 - 48) + (sg T (z.1 + 1) - 48) by omega, lt_v, mI_diff _ (Or.inl (by decide)), g2.2.2.2.1, nI_1, lt_v]
      exact ⟨_, rfl, r1, (g3.trans q2).trans r2, by show M1.2 = M.2; exact g4⟩
    · rw [if_neg h2, if_pos rfl, if_neg h2]
      exact ⟨M1, rfl, g2, g3, g4⟩
  · have e1 : rdDS (sg T) k z = (false, z) := by unfold rdDS; rw [if_neg h]
    rw [e1] at g1 g2
    have g1' : F_X9_readsDigit 204 (nI k) M = some (0, M1) := g1
    rw [g1', b1_s, if_pos rfl, if_neg h]
    exact ⟨M1, rfl, g2, g3, g4⟩
theorem Sim.sgn (hT : TB T) {k : Nat} (hk : k < 4) : Sim T (F_X9_readsSign 204 (nI k)) (rdGS (sg T) k) := fun M z hz => by
  unfold F_X9_readsSign rdGS
  rw [F_next hT hz, ob_s]
  by_cases h : sg T z.1 = 43
  · obtain ⟨q1, q2⟩ := hz.num hk 1
    obtain ⟨M2, k1, k2, k3, k4⟩ := Sim.rd hT (c := 43) (by decide) (by decide) _ _ q1
    have e1 : rdS (sg T) 43 (z.1, setN z.2.1 k 1, z.2.2) = (true, (z.1 + 1, setN z.2.1 k 1, z.2.2)) := by unfold rdS; rw [if_pos h]
    rw [e1] at k1 k2
    rw [if_pos (show nxS T z.1 = 43 from (nx_eq hT (c := 43) (by decide) (by decide)).mpr h), if_pos h, chk_t (inb_n hk (by decide)), nI_clamp (by omega), hz.1.2.2.2.2.2.2.2, lt_v, show (43 : Int32) = nI 43 from rfl, k1, b1_s, if_pos rfl, if_neg (by decide)]
    exact ⟨M2, rfl, k2, q2.trans k3, k4⟩
  · obtain ⟨q1, q2⟩ := hz.num hk 0
    obtain ⟨M2, k1, k2, k3, k4⟩ := Sim.rd hT (c := 43) (by decide) (by decide) _ _ q1
    have e1 : rdS (sg T) 43 (z.1, setN z.2.1 k 0, z.2.2) = (false, (z.1, setN z.2.1 k 0, z.2.2)) := by unfold rdS; rw [if_neg h]
    rw [e1] at k1 k2
    have k1' : F_X9_reads 204 (nI 43) (sI M 212 k 0) = some (0, M2) := k1
    have k2' : MQr M2 T (z.1, setN z.2.1 k 0, z.2.2) := k2
    obtain ⟨M3, m1, m2, m3, m4⟩ := Sim.rd hT (c := 45) (by decide) (by decide) _ _ k2'
    rw [if_neg (show ¬ nxS T z.1 = 43 from fun y => h ((nx_eq hT (c := 43) (by decide) (by decide)).mp y)), if_neg h, chk_t (inb_n hk (by decide)), nI_clamp (by omega), hz.1.2.2.2.2.2.2.2, lt_v, show (43 : Int32) = nI 43 from rfl, k1', b1_s, if_pos rfl, show (45 : Int32) = nI 45 from rfl]
    by_cases h2 : sg T z.1 = 45
    · have e2 : rdS (sg T) 45 (z.1, setN z.2.1 k 0, z.2.2) = (true, (z.1 + 1, setN z.2.1 k 0, z.2.2)) := by unfold rdS; rw [if_pos h2]
      rw [e2] at m1 m2
      have m1' : F_X9_reads 204 (nI 45) M2 = some (1, M3) := m1
      rw [m1', b1_s, if_neg (by decide), if_pos h2]
      exact ⟨M3, rfl, m2, (q2.trans k3).trans m3, by rw [m4, k4]; rfl⟩
    · have e2 : rdS (sg T) 45 (z.1, setN z.2.1 k 0, z.2.2) = (false, (z.1, setN z.2.1 k 0, z.2.2)) := by unfold rdS; rw [if_neg h2]
      rw [e2] at m1 m2
      have m1' : F_X9_reads 204 (nI 45) M2 = some (0, M3) := m1
      rw [m1', b1_s, if_pos rfl, if_neg h2]
      exact ⟨M3, rfl, m2, (q2.trans k3).trans m3, by rw [m4, k4]; rfl⟩
/-- a chain of signs -/
def chS (s : Nat → Nat) : List Nat → SP → SP
  | [], k => k
  | c :: cs, k => andS (rdS s c) (chS s cs k)
def setK (T : TS) (k : SP) : SP := fun z => k (z.1, setN z.2.1 0 (nxS T z.1), z.2.2)
def addM (T : TS) : SP := chS (sg T) [100, 100, 32] (setK T (ifS (rdS (sg T) 115) (andS (rdDS (sg T) 1) (andS (rdDS (sg T) 2) yesS)) (ifS (rdS (sg T) 119) (andS (rdDS (sg T) 1) (andS (rdDS (sg T) 2) yesS)) (andS (rdS (sg T) 100) (andS (rdDS (sg T) 1) (andS (rdDS (sg T) 2) yesS))))))
theorem Sim.rdA (hT : TB T) (c : Nat) {F : Mem → Option (Int32 × Mem)} {a : SP} (hF : Sim T F a) (hc : 0 < c) (hc2 : c < 128) : Sim T (fun M => b1 (F_X9_reads 204 (nI c) M) (fun v M3 => if v = 0 then some (0, M3) else F M3)) (andS (rdS (sg T) c) a) := (Sim.rd hT hc hc2).and hF
theorem Sim.digA (hT : TB T) (k : Nat) {F : Mem → Option (Int32 × Mem)} {a : SP} (hF : Sim T F a) (hk : k < 4) : Sim T (fun M => b1 (F_X9_readsDigit 204 (nI k) M) (fun v M3 => if v = 0 then some (0, M3) else F M3)) (andS (rdDS (sg T) k) a) := (Sim.dig hT hk).and hF
theorem Sim.setK (hT : TB T) {F : Mem → Option (Int32 × Mem)} {a : SP} (hF : Sim T F a) : Sim T (fun M => Option.bind (F_X9_nextChar 204 M) (fun v15 => chk (inb 0 4) (lt (sI M (mR M 204 16) (0) v15) (fun (M17 : Mem) => F M17)))) (setK T a) := fun M z hz => by
  obtain ⟨q1, q2⟩ := hz.num (k := 0) (by decide) (nxS T z.1)
  obtain ⟨M2, k1, k2, k3, k4⟩ := hF _ _ q1
  refine ⟨M2, ?_, k2, q2.trans k3, k4⟩
  show Option.bind (F_X9_nextChar 204 M) _ = _
  rw [F_next hT hz, ob_s, chk_t (by decide), hz.1.2.2.2.2.2.2.2, lt_v]
  exact k1
theorem Sim.add (hT : TB T) : Sim T (F_X9_readsAdd 204) (addM T) :=
  Sim.rdA hT 100 (Sim.rdA hT 100 (Sim.rdA hT 32 (Sim.setK hT ((Sim.rd hT (c := 115) (by decide) (by decide)).iff (Sim.digA hT 1 (Sim.digA hT 2 .ok (by decide)) (by decide)) ((Sim.rd hT (c := 119) (by decide) (by decide)).iff (Sim.digA hT 1 (Sim.digA hT 2 .ok (by decide)) (by decide)) (Sim.rdA hT 100 (Sim.digA hT 1 (Sim.digA hT 2 .ok (by decide)) (by decide)) (by decide) (by decide))))) (by decide) (by decide)) (by decide) (by decide)) (by decide) (by decide)
def noteM (T : TS) : SP := chS (sg T) [111, 116, 101, 32] (andS (rdDS (sg T) 0) (andS (rdS (sg T) 32) (andS (rdDS (sg T) 1) (andS (rdDS (sg T) 2) (andS (rdS (sg T) 61) (andS (rdDS (sg T) 3) yesS))))))
theorem Sim.note (hT : TB T) : Sim T (F_X9_readsNote 204) (noteM T) :=
  Sim.rdA hT 111 (Sim.rdA hT 116 (Sim.rdA hT 101 (Sim.rdA hT 32 (Sim.digA hT 0 (Sim.rdA hT 32 (Sim.digA hT 1 (Sim.digA hT 2 (Sim.rdA hT 61 (Sim.digA hT 3 .ok (by decide)) (by decide) (by decide)) (by decide)) (by decide)) (by decide) (by decide)) (by decide)) (by decide) (by decide)) (by decide) (by decide)) (by decide) (by decide)) (by decide) (by decide)
def maskM (T : TS) : SP := chS (sg T) [97, 115, 107, 32] (andS (rdDS (sg T) 0) (andS (rdS (sg T) 32) (andS (rdDS (sg T) 1) (andS (rdGS (sg T) 2) yesS))))
theorem Sim.mask (hT : TB T) : Sim T (F_X9_readsMask 204) (maskM T) :=
  Sim.rdA hT 97 (Sim.rdA hT 115 (Sim.rdA hT 107 (Sim.rdA hT 32 (Sim.digA hT 0 (Sim.rdA hT 32 (Sim.digA hT 1 ((Sim.sgn hT (k := 2) (by decide)).and .ok) (by decide)) (by decide) (by decide)) (by decide)) (by decide) (by decide)) (by decide) (by decide)) (by decide) (by decide)) (by decide) (by decide)
def negS : SP := fun z => if z.2.1 2 = 0 then (true, (z.1, setN z.2.1 1 (-(z.2.1 1)), z.2.2)) else (true, z)
theorem Sim.neg (hT : TB T) : Sim T (fun M35 => chk (inb 2 4) (
                    if (mI M35 (mR M35 204 16) 2) = 0 then
                      chk (inb 1 4) (
                      chk (inb 1 4) (
                      lt (sI M35 (mR M35 204 16) (1) (-(mI M35 (mR M35 204 16) 1))) (fun (M44 : Mem) =>
                      some (1, M44))))
                    else
                      some (1, M35))) negS := fun M z hz => by
  show ∃ M', chk (inb 2 4) (if (mI M (mR M 204 16) 2) = 0 then _ else _) = _ ∧ _
  unfold negS
  rw [chk_t (by decide), hz.1.2.2.2.2.2.2.2, hz.2.2.2.2.1 2 (by decide), hz.2.2.2.2.1 1 (by decide)]
  by_cases h : z.2.1 2 = 0
  · obtain ⟨q1, q2⟩ := hz.num (k := 1) (by decide) (-(z.2.1 1))
    rw [if_pos h, if_pos h, chk_t (by decide), chk_t (by decide), lt_v]
    exact ⟨_, rfl, q1, q2, rfl⟩
  · rw [if_neg h, if_neg h]
    exact ⟨M, rfl, hz, Same.refl _ _, rfl⟩
def raiseM (T : TS) : SP := chS (sg T) [97, 105, 115, 101, 32] (andS (rdDS (sg T) 0) (andS (rdS (sg T) 32) (andS (rdGS (sg T) 2) (andS (rdDS (sg T) 1) negS))))
theorem Sim.raise (hT : TB T) : Sim T (F_X9_readsRaise 204) (raiseM T) :=
  Sim.rdA hT 97 (Sim.rdA hT 105 (Sim.rdA hT 115 (Sim.rdA hT 101 (Sim.rdA hT 32 (Sim.digA hT 0 (Sim.rdA hT 32 ((Sim.sgn hT (k := 2) (by decide)).and (Sim.digA hT 1 (Sim.neg hT) (by decide))) (by decide) (by decide)) (by decide)) (by decide) (by decide)) (by decide) (by decide)) (by decide) (by decide)) (by decide) (by decide)) (by decide) (by decide)
def sortS (x : Int32) (k : SP) : SP := fun z => k (z.1, z.2.1, x)
theorem MQr.sort {M : Mem} {z : St} (hz : MQr M T z) (x : Int32) : MQr (sI M 204 17 x) T (z.1, z.2.1, x) ∧ Same KpR M (sI M 204 17 x) := by
  obtain ⟨hL, h1, h2, h3, h4, h5⟩ := hz
  exact ⟨⟨hL.of rfl, h1.s ((Same.sI _ _ _ _).sub fun a k p => by omega), h2, by rw [mI_diff _ (Or.inr (by decide))]; exact h3, fun k hk => by rw [mI_diff _ (Or.inl (by decide))]; exact h4 k hk, mI_same _ _ _ _⟩, (Same.sI _ _ _ _).sub fun a k p => by omega⟩
theorem Sim.sort {F : Mem → Option (Int32 × Mem)} {a : SP} (x : Int32) (hF : Sim T F a) : Sim T (fun M => lt (sI M 204 17 x) (fun M5 => F M5)) (sortS x a) := fun M z hz => by
  obtain ⟨q1, q2⟩ := hz.sort x
  obtain ⟨M2, k1, k2, k3, k4⟩ := hF _ _ q1
  exact ⟨M2, k1, k2, q2.trans k3, k4⟩
def tM (T : TS) : SP := ifS (rdS (sg T) 117) (chS (sg T) [114, 110, 32] (andS (rdDS (sg T) 0) yesS)) (sortS 101 (chS (sg T) [101, 109, 112, 111, 32] (andS (rdDS (sg T) 0) yesS)))
theorem Sim.t (hT : TB T) : Sim T (F_X9_readsT 204) (tM T) :=
  (Sim.rd hT (c := 117) (by decide) (by decide)).iff (Sim.rdA hT 114 (Sim.rdA hT 110 (Sim.rdA hT 32 (Sim.digA hT 0 .ok (by decide)) (by decide) (by decide)) (by decide) (by decide)) (by decide) (by decide)) (Sim.sort 101 (Sim.rdA hT 101 (Sim.rdA hT 109 (Sim.rdA hT 112 (Sim.rdA hT 111 (Sim.rdA hT 32 (Sim.digA hT 0 .ok (by decide)) (by decide) (by decide)) (by decide) (by decide)) (by decide) (by decide)) (by decide) (by decide)) (by decide) (by decide)))
def oneS (k : SP) : SP := fun z => k (z.1, setN z.2.1 0 1, z.2.2)
theorem Sim.one (hT : TB T) {F : Mem → Option (Int32 × Mem)} {a : SP} (hF : Sim T F a) : Sim T (fun M11 => chk (inb 0 4) (lt (sI M11 (mR M11 204 16) (0) 1) (fun (M15 : Mem) => F M15))) (oneS a) := fun M z hz => by
  obtain ⟨q1, q2⟩ := hz.num (k := 0) (by decide) 1
  obtain ⟨M2, k1, k2, k3, k4⟩ := hF _ _ q1
  refine ⟨M2, ?_, k2, q2.trans k3, k4⟩
  show chk (inb 0 4) (lt (sI M (mR M 204 16) 0 1) _) = _
  rw [chk_t (by decide), hz.1.2.2.2.2.2.2.2, lt_v]
  exact k1
def beatM (T : TS) : SP := chS (sg T) [101, 97, 116] (oneS (ifS (rdS (sg T) 32) (andS (rdNS (sg T) 0) yesS) yesS))
theorem Sim.beat (hT : TB T) : Sim T (F_X9_readsBeat 204) (beatM T) :=
  Sim.rdA hT 101 (Sim.rdA hT 97 (Sim.rdA hT 116 (Sim.one hT ((Sim.rd hT (c := 32) (by decide) (by decide)).iff ((Sim.num hT (k := 0) (by decide)).and .ok) .ok)) (by decide) (by decide)) (by decide) (by decide)) (by decide) (by decide)
def cmdM (T : TS) : SP := fun z => sortS (nxS T z.1) (ifS (rdS (sg T) 97) (addM T) (ifS (rdS (sg T) 100) (chS (sg T) [114, 111, 112, 32] (andS (rdDS (sg T) 0) yesS)) (ifS (rdS (sg T) 110) (noteM T) (ifS (rdS (sg T) 109) (maskM T) (ifS (rdS (sg T) 102) (chS (sg T) [108, 105, 112, 32] (andS (rdDS (sg T) 0) yesS)) (ifS (rdS (sg T) 116) (tM T) (ifS (rdS (sg T) 114) (raiseM T) (ifS (rdS (sg T) 108) (chS (sg T) [105, 109, 105, 116, 32] (andS (rdNS (sg T) 0) yesS)) (ifS (rdS (sg T) 119) (chS (sg T) [97, 118, 101] yesS) (andS (rdS (sg T) 98) (andS (beatM T) yesS))))))))))) z
theorem Sim.cmd (hT : TB T) : Sim T (F_X9_readsCommand 204) (cmdM T) := fun M z hz => by
  have D : ∀ k, k < 4 → Sim T (fun M => b1 (F_X9_readsDigit 204 (nI k) M) (fun v M3 => if v = 0 then some (0, M3) else some (1, M3))) (andS (rdDS (sg T) k) yesS) := fun k hk => Sim.digA hT k .ok hk
  have R := fun (c : Nat) (hc : 0 < c) (hc2 : c < 128) => Sim.rd hT hc hc2
  have A := fun (c : Nat) (F : Mem → Option (Int32 × Mem)) (a : SP) (hc : 0 < c) (hc2 : c < 128) (hF : Sim T F a) => Sim.rdA hT c hF hc hc2
  have N : Sim T (fun M => b1 (F_X9_readsNumber 204 (nI 0) M) (fun v M3 => if v = 0 then some (0, M3) else some (1, M3))) (andS (rdNS (sg T) 0) yesS) := (Sim.num hT (k := 0) (by decide)).and .ok
  have big : Sim T _ _ := Sim.sort (nxS T z.1) ((R 97 (by decide) (by decide)).iff (Sim.add hT).z ((R 100 (by decide) (by decide)).iff (A 114 _ _ (by decide) (by decide) (A 111 _ _ (by decide) (by decide) (A 112 _ _ (by decide) (by decide) (A 32 _ _ (by decide) (by decide) (D 0 (by decide)))))) ((R 110 (by decide) (by decide)).iff (Sim.note hT).z ((R 109 (by decide) (by decide)).iff (Sim.mask hT).z ((R 102 (by decide) (by decide)).iff (A 108 _ _ (by decide) (by decide) (A 105 _ _ (by decide) (by decide) (A 112 _ _ (by decide) (by decide) (A 32 _ _ (by decide) (by decide) (D 0 (by decide)))))) ((R 116 (by decide) (by decide)).iff (Sim.t hT).z ((R 114 (by decide) (by decide)).iff (Sim.raise hT).z ((R 108 (by decide) (by decide)).iff (A 105 _ _ (by decide) (by decide) (A 109 _ _ (by decide) (by decide) (A 105 _ _ (by decide) (by decide) (A 116 _ _ (by decide) (by decide) (A 32 _ _ (by decide) (by decide) N))))) ((R 119 (by decide) (by decide)).iff (A 97 _ _ (by decide) (by decide) (A 118 _ _ (by decide) (by decide) (A 101 _ _ (by decide) (by decide) .ok))) (A 98 _ _ (by decide) (by decide) ((Sim.beat hT).and .ok)))))))))))
  obtain ⟨M2, k1, k2, k3, k4⟩ := big M z hz
  refine ⟨M2, ?_, k2, k3, k4⟩
  unfold F_X9_readsCommand
  rw [F_next hT hz, ob_s]
  exact k1
end FS
