/-! PURE LEVEL: a change, called -/
def chg (dc : Nat → Mem → Option (Int32 × Mem)) (M : Mem) : Option ((Int32 ⊕ String) × Mem) :=
  b1 (F_X2_prepare (mR M 1 4) (mR M 1 0) M) (fun _ M5 => b1 (dc (mR M5 1 0) M5) (fun v M9 => bx (F_X8_settled 1 v M9) (fun v11 M12 => some (.inl v11, M12))))
theorem chg_eq (dc : Nat → Mem → Option (Int32 × Mem)) (M : Mem) : chg dc M = b1 (F_X2_prepare (mR M 1 4) (mR M 1 0) M) (fun _ M5 => b1 (dc (mR M5 1 0) M5) (fun v M9 => bx (F_X8_settled 1 v M9) (fun v11 M12 => some (.inl v11, M12)))) := rfl
def mdl (nt : Mem → Option Int32) (dm : Mem → Option (Int32 × Mem)) (M : Mem) : Option (Int32 × Mem) :=
  lt (sI M 204 0 0) (fun (M1 : Mem) => Option.bind (nt M1) (fun v3 => if v3 = 0 then b1 (F_X9_remembers 204 M1) (fun _ M7 => b1 (dm M7) (fun v9 M10 => some (v9, M10))) else b1 (F_X9_fails 204 v3 M1) (fun v12 M13 => some (v12, M13))))
def exn (x : Int32) : String := if x = -1 then "java/lang/IndexOutOfBoundsException" else if x = -2 then "java/lang/IllegalArgumentException" else if x = -3 then "java/lang/IllegalStateException" else "java/lang/UnsupportedOperationException"
theorem settled_bad {x : Int32} (h : x = -1 ∨ x = -2 ∨ x = -3 ∨ x = -4) (M : Mem) : F_X8_settled 1 x M = some (.inr (exn x), M) := by
  unfold F_X8_settled exn
  rcases h with rfl | rfl | rfl | rfl <;> rfl
theorem nI_nneg {v : Nat} (h : v < 2 ^ 31) : nI v ≠ -1 ∧ nI v ≠ -2 ∧ nI v ≠ -3 ∧ nI v ≠ -4 := by
  have : ¬ nI v < 0 := nI_pos h
  refine ⟨?_, ?_, ?_, ?_⟩ <;> intro z <;> rw [z] at this <;> exact this (by decide)
theorem settled_ok {v : Nat} (h : v < 2 ^ 31) {M : Mem} (hr : mR M 1 4 = 44) : F_X8_settled 1 (nI v) M = b1 (F_X2_keep 44 M) (fun _ M8 => some (.inl (nI v), M8)) := by
  obtain ⟨h1, h2, h3, h4⟩ := nI_nneg h
  unfold F_X8_settled
  rw [if_neg h1, if_neg h2, if_neg h3, if_neg h4, hr]
/-- the state after a change -/
def afterCh (Z : ZS) (w' : Row) : ZS := ((w', push Z.1.2.1 Z.1.2.2 Z.1.1, min (Z.1.2.2 + 1) 8), Z.2)
theorem push_at (u : Nat → Row) (n : Nat) (b : Row) (j : Nat) : push u n b j = if n = 8 then (if j = 7 then b else u (j + 1)) else (if j = n then b else u j) := by
  unfold push
  split <;> rfl
theorem HB.push {B B' : Nat} {H : HS} {w' : Row} (h : HB B H) (hb : B ≤ B') (hw : Inv B' w') : HB B' (w', push H.2.1 H.2.2 H.1, min (H.2.2 + 1) 8) := by
  refine ⟨hw, fun j hj => ?_⟩
  change j < min (H.2.2 + 1) 8 at hj
  refine Eq.mpr (congrArg (Inv B') (push_at H.2.1 H.2.2 H.1 j)) ?_
  by_cases h8 : H.2.2 = 8
  · rw [if_pos h8]
    show Inv B' (if j = 7 then H.1 else H.2.1 (j + 1))
    by_cases h7 : j = 7
    · rw [if_pos h7]; exact h.1.mono hb
    · rw [if_neg h7]; exact (h.2 (j + 1) (by omega)).mono hb
  · rw [if_neg h8]
    show Inv B' (if j = H.2.2 then H.1 else H.2.1 j)
    by_cases h7 : j = H.2.2
    · rw [if_pos h7]; exact h.1.mono hb
    · rw [if_neg h7]; exact (h.2 j (by omega)).mono hb
section CHG
variable {N B B' : Nat} {M : Mem} {Z Z' : ZS} {dc : Nat → Mem → Option (Int32 × Mem)} {cd : Nat → Int32}
theorem StR.s {M M' : Mem} {x : Nat} {w : Row} (h : StR M x w) (h0 : w 0 ≤ 5) (e : Same (fun a _ => x ≤ a ∧ a < x + 14) M M') : StR M' x w := h.mv h0 fun a k p q => e a k ⟨p, q⟩
/-- what a change of ours may touch: our state, our history -/
theorem CI.chg {Z : ZS} {M M' : Mem} {H : HS} (h : CI M Z) (h1 : Z.2.1.2 = 1 → Z.2.1.1 0 ≤ 5) (e : Same (fun a _ => ¬ (2 ≤ a ∧ a < 16) ∧ ¬ (44 ≤ a ∧ a < 172)) M M') (er : SameR (fun a _ => a < 204 ∧ ¬ (2 ≤ a ∧ a < 16)) M M') (hH : HCi M' H) : CI M' (H, Z.2) := by
  obtain ⟨g1, g2, g3, g4, g5, g6⟩ := h
  exact ⟨g1.r (fun a k p => er a k (by omega)), hH, g3.s h1 (e.sub fun a k p => by omega), g4.s (e.sub fun a k p => by omega), g5.s (e.sub fun a k p => by omega), g6.s (e.sub fun a k p => by omega)⟩
theorem C_chgGood (hC : CI M Z) (hM : MI M Z) (hB : BI B Z) {v : Nat} {w' : Row} (hv : v < 2 ^ 31) (h5 : w' 0 ≤ 5) (h : ∀ M, StR M 2 Z.1.1 → ∃ M', dc 2 M = some (nI v, M') ∧ StR M' 2 w' ∧ FrS M M') :
    ∃ M1, chg dc M = some (.inl (nI v), M1) ∧ CI M1 (afterCh Z w') ∧ MI M1 Z := by
  have h0 := hB.r0
  obtain ⟨hS, nx, hH⟩ := hC.2.1
  have nx9 := hH.2.1
  obtain ⟨M1, g1, g2, g3, g4, g5⟩ := C_prep hC.1.2.2.2.1 hH hS h0
  obtain ⟨M2, k1, k2, k3⟩ := h M1 g4
  have e12 := Same.frS k3
  have e01 := Same.blk g5
  have r14 : mR M2 1 4 = 44 := by rw [(e12 1 4 (by omega)).2.2, blk_r g5]; exact hC.1.1.2.2.2.1
  have r10 : mR M1 1 0 = 2 := by rw [blk_r g5]; exact hC.1.1.1
  obtain ⟨M3, nx', m1, m2, m3⟩ := C_keep (M := M2) (u := Z.1.2.1) (n := Z.1.2.2) (nx := nx) (w := Z.1.1) (g2.mv (e12 44 1 (by omega)).1 (e12 44 2 (by omega)).1 (fun a k p q r => e12 a k (by omega))) (g3.s h0 (e12.sub fun a k p => by omega)) h0
  have e23 := Same.only m3
  have tot : Same (fun a _ => ¬ (2 ≤ a ∧ a < 16) ∧ ¬ (44 ≤ a ∧ a < 172)) M M3 := ((e01.sub fun a k p => by omega).trans (e12.sub fun a k p => by omega)).trans (e23.sub fun a k p => by omega)
  have totR : SameR (fun a _ => ¬ (2 ≤ a ∧ a < 16)) M M3 := fun a k p => (only_r m3 a k).trans (((e12 a k p).2.2).trans (blk_r g5 a k))
  refine ⟨M3, ?_, hC.chg hB.r1 tot (fun a k p => totR a k p.2) ⟨k2.s h5 (e23.sub fun a k p => by omega), nx', m2⟩, hM.s (tot.sub fun a k p => by omega) (fun a k p => totR a k (by omega))⟩
  rw [chg_eq]
  rw [hC.1.1.2.2.2.1, hC.1.1.1, g1, b1_s, r10, k1, b1_s, settled_ok hv r14, m1, b1_s, bx_l]
theorem C_chgBad (hC : CI M Z) (hM : MI M Z) (hB : BI B Z) {x : Int32} (hx : x = -1 ∨ x = -2 ∨ x = -3 ∨ x = -4) (h : ∀ M, StR M 2 Z.1.1 → dc 2 M = some (x, M)) :
    ∃ M1, chg dc M = some (.inr (exn x), M1) ∧ CI M1 Z ∧ MI M1 Z := by
  have h0 := hB.r0
  obtain ⟨hS, nx, hH⟩ := hC.2.1
  have nx9 := hH.2.1
  obtain ⟨M1, g1, g2, g3, g4, g5⟩ := C_prep hC.1.2.2.2.1 hH hS h0
  have e01 := Same.blk g5
  refine ⟨M1, ?_, hC.chg hB.r1 (e01.sub fun a k p => by omega) (fun a k p => blk_r g5 a k) ⟨g4, nx, g2⟩, hM.s (e01.sub fun a k p => by omega) (fun a k p => blk_r g5 a k)⟩
  rw [chg_eq]
  rw [hC.1.1.2.2.2.1, hC.1.1.1, g1, b1_s, show mR M1 1 0 = 2 by rw [blk_r g5]; exact hC.1.1.1, h M1 g4, b1_s, settled_bad hx, bx_r]
theorem M_chgGood {nt : Mem → Option Int32} {dm : Mem → Option (Int32 × Mem)} (hC : CI M Z') (hB' : Z'.1.1 0 ≤ 5) (hB1 : Z'.2.1.2 = 1 → Z'.2.1.1 0 ≤ 5) (hM : MI M Z) {v : Nat} {w' : Row} (h : ∀ M, LM M → WA M 205 260 Z.1.1 → nt M = some (nI 0) ∧ ∃ M', dm M = some (nI v, M') ∧ WA M' 205 260 w' ∧ Only M M' 205) :
    ∃ M2, mdl nt dm M = some (nI v, M2) ∧ mI M2 204 0 = 0 ∧ CI M2 Z' ∧ MI M2 (afterCh Z w') ∧ mJ M2 213 0 = mJ M 213 0 := by
  have e0 := Same.sI M 204 0 0
  have hM1 : MI (sI M 204 0 0) Z := hM.s (e0.sub fun a k p => by omega) (fun a k _ => rfl)
  obtain ⟨hw, fc, hH⟩ := hM1.2.1
  obtain ⟨M1, fc', g1, g2, g3⟩ := F_rem hM1.1 hH hw
  have e1 := Same.onlyH g3
  have hw1 : WA M1 205 260 Z.1.1 := fun k hk => (e1 205 k (by omega)).1.trans (hw k hk)
  obtain ⟨M2, k1, k2, k3⟩ := (h M1 (hM1.1.r fun a k _ => onlyH_r g3 a k) hw1).2
  have e2 := Same.only k3
  have tot : Same (fun a k => a ≠ 205 ∧ a ≠ 206 ∧ a ≠ 208 ∧ ¬ (a = 204 ∧ (k = 0 ∨ k = 6 ∨ k = 7))) M M2 := ((e0.sub fun a k p => by omega).trans (e1.sub fun a k p => by omega)).trans (e2.sub fun a k p => by omega)
  have totR : ∀ a k, mR M2 a k = mR M a k := fun a k => (only_r k3 a k).trans (onlyH_r g3 a k)
  refine ⟨M2, ?_, ?_, hC.s hB' hB1 (tot.sub fun a k p => by omega) (fun a k _ => totR a k), ⟨hM.1.r fun a k _ => totR a k, ⟨k2, fc', ?_⟩, hM.2.2.1.s (tot.sub fun a k p => by omega), hM.2.2.2.1.s (tot.sub fun a k p => by omega), hM.2.2.2.2.1.s (tot.sub fun a k p => by omega), hM.2.2.2.2.2.s (tot.sub fun a k p => by omega)⟩, (tot 213 0 (by omega)).2.1⟩
  · unfold mdl
    rw [lt_v, (h (sI M 204 0 0) hM1.1 hw).1, ob_s, if_pos nI_0, g1, b1_s, k1, b1_s]
  · rw [(e2 204 0 (by omega)).1, (e1 204 0 (by omega)).1, mI_same]
  · obtain ⟨q1, q2, q3, q4, q5⟩ := g2
    exact ⟨q1, q2, (e2 _ _ (by omega)).1.trans q3, (e2 _ _ (by omega)).1.trans q4, fun j hj k hk => (e2 _ _ (by omega)).1.trans (q5 j hj k hk)⟩
theorem M_chgBad {nt : Mem → Option Int32} {dm : Mem → Option (Int32 × Mem)} (hC : CI M Z') (hB' : Z'.1.1 0 ≤ 5) (hB1 : Z'.2.1.2 = 1 → Z'.2.1.1 0 ≤ 5) (hM : MI M Z) {c : Nat} (hc : 1 ≤ c ∧ c ≤ 3) (h : ∀ M, LM M → WA M 205 260 Z.1.1 → nt M = some (nI c)) :
    ∃ M2, mdl nt dm M = some (0, M2) ∧ mI M2 204 0 = nI c ∧ CI M2 Z' ∧ MI M2 Z := by
  have e0 := Same.sI M 204 0 0
  have hM1 : MI (sI M 204 0 0) Z := hM.s (e0.sub fun a k p => by omega) (fun a k _ => rfl)
  have e1 := Same.sI (sI M 204 0 0) 204 0 (nI c)
  refine ⟨sI (sI M 204 0 0) 204 0 (nI c), ?_, mI_same _ _ _ _, hC.s hB' hB1 ((e0.trans e1).sub fun a k p => by omega) (fun a k _ => rfl), hM1.s (e1.sub fun a k p => by omega) (fun a k _ => rfl)⟩
  unfold mdl
  rw [lt_v, h (sI M 204 0 0) hM1.1 hM1.2.1.1, ob_s, if_neg (nI_ne0 (by omega) (by omega))]
  unfold F_X9_fails
  rw [lt_v, b1_s]
end CHG
/-- a change called: both sides -/
theorem callCh {N V B B' : Nat} {M : Mem} {fc : Mem → Option ((Int32 ⊕ String) × Mem)} {fm dm : Mem → Option (Int32 × Mem)} {dc : Nat → Mem → Option (Int32 × Mem)} {nt : Mem → Option Int32} {cd : Nat → Int32} {hd : String → Mem → Option (Int32 × Mem)} {kp : Int32 → Mem → Option (Int32 × Mem)}
    (h : GI B M) (hb : B ≤ B') (hN : N ≤ 3) (hch : ∀ w, Inv B w → CH N V B' w nt dm (dc 2) cd) (hV : V ≤ 2 ^ 31) (hfc : ∀ M, bw (fc M) kp hd = bw (chg dc M) kp hd) (hfm : ∀ M, fm M = mdl nt dm M) (hkp : ∀ v, v < V → ∀ M, kp (nI v) M = keepI (nI v) M)
    (hcd : ∀ c, 1 ≤ c → c ≤ N → (cd c = -1 ∨ cd c = -2 ∨ cd c = -3 ∨ cd c = -4) ∧ ∀ M, hd (exn (cd c)) M = some (nI c, M)) : Call B' M (fun M => bw (fc M) kp hd) fm := by
  obtain ⟨Z, hB, hC, hM⟩ := h
  obtain ⟨c, v, w', hc, hv, hI, hF, hQ⟩ := hch Z.1.1 hB.1.1
  rcases Nat.eq_zero_or_pos c with z | z
  · subst z
    have hI' := hI rfl
    obtain ⟨M1, g1, g2, g3⟩ := C_chgGood hC hM hB (Nat.lt_of_lt_of_le hv hV) hI'.r5 (fun M hS => (hQ M hS).1 rfl)
    have hB' : BI B' (afterCh Z w') := ⟨hB.1.push hb hI', (hB.mono hb).2⟩
    have e := Same.sJ M1 213 0 (nI v).toInt64
    have g2' : CI (sJ M1 213 0 (nI v).toInt64) (afterCh Z w') := g2.s hB'.r0 hB'.r1 (e.sub fun a k p => by omega) (fun a k _ => rfl)
    have g3' : MI (sJ M1 213 0 (nI v).toInt64) Z := g3.s (e.sub fun a k p => by omega) (fun a k _ => rfl)
    obtain ⟨M2, k1, k2, k3, k4, k5⟩ := M_chgGood g2' hB'.r0 hB'.r1 g3' (fun M hL hw => ⟨(hF M hL hw).1, (hF M hL hw).2 rfl⟩)
    refine ⟨0, _, nI v, M2, ?_, (hfm _).trans k1, k2, fun _ => ?_, .q k3 k4 hB'⟩
    · show bw (fc M) kp hd = _
      rw [hfc M, g1, bw_l, hkp v hv, keepI_s]
    · rw [k5, mJ_sJ, if_pos ⟨rfl, rfl⟩]
  · obtain ⟨x1, x2⟩ := hcd c z hc
    obtain ⟨M1, g1, g2, g3⟩ := C_chgBad hC hM hB x1 (fun M hS => (hQ M hS).2 (by omega))
    obtain ⟨M2, k1, k2, k3, k4⟩ := M_chgBad (dm := dm) g2 hB.r0 hB.r1 g3 (c := c) ⟨z, by omega⟩ (fun M hL hw => (hF M hL hw).1)
    refine ⟨nI c, M1, 0, M2, ?_, (hfm _).trans k1, k2, fun y => absurd y (nI_ne0 z (by omega)), .q k3 k4 (hB.mono hb)⟩
    show bw (fc M) kp hd = _
    rw [hfc M, g1, bw_r, x2]
