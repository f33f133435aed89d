/-! PURE LEVEL: sections by volume; what lies ahead -/
def plS (w : Row) (s : Nat) : Nat := w (bs s + 6)
def faS (w : Row) (s : Nat) : Nat := w (bs s + 4)
/-- section b ahead of section a -/
def ahS (w : Row) (a b : Nat) : Nat := if plS w b = plS w a then (if faS w b = faS w a then (if a ≤ b then 0 else 1) else (if faS w a ≤ faS w b then 0 else 1)) else (if plS w b ≤ plS w a then 0 else 1)
theorem ahS_01 (w : Row) (a b : Nat) : ahS w a b = 0 ∨ ahS w a b = 1 := by
  unfold ahS
  split
  · split
    · split
      · exact Or.inl rfl
      · exact Or.inr rfl
    · split
      · exact Or.inl rfl
      · exact Or.inr rfl
  · split
    · exact Or.inl rfl
    · exact Or.inr rfl
def rkS (w : Row) (a : Nat) : Nat := isum (ahS w a) 0 (w 0)
section RK
variable {B : Nat} {M : Mem} {Z : ZS}
theorem BI.pl (hB : BI B Z) (hB0 : B ≤ 2 ^ 20) {s : Nat} (hs : s < Z.1.1 0) : plS Z.1.1 s < 2 ^ 30 := by
  have b1 := hB.1.1.2.1
  have := hB.1.1.played hs
  unfold plS; omega
theorem BI.fa (hB : BI B Z) {s : Nat} (hs : s < Z.1.1 0) : faS Z.1.1 s < 3 := (hB.sec hs).2.2.2.2.1
theorem C_played (hC : CI M Z) (hB : BI B Z) {s : Nat} (hs : s < Z.1.1 0) : F_X8_playedVolume 1 (nI s) M = some (.inl (nI (plS Z.1.1 s)), M) := by
  have r5 := hB.r0
  unfold F_X8_playedVolume
  rw [C_pres hC hB hs, bx_l, chk_t (C_secTy hC (by omega)).1, (hC.sec hs).2.2.2.2.2.2.1]; rfl
theorem C_fat (hC : CI M Z) (hB : BI B Z) {s : Nat} (hs : s < Z.1.1 0) : F_X8_fatigue 1 (nI s) M = some (.inl (nI (faS Z.1.1 s)), M) := by
  have r5 := hB.r0
  unfold F_X8_fatigue
  rw [C_pres hC hB hs, bx_l, chk_t (C_secTy hC (by omega)).1, (hC.sec hs).2.2.2.2.1]; rfl
theorem C_prec (hC : CI M Z) (hB : BI B Z) (hB0 : B ≤ 2 ^ 20) {a b : Nat} (ha : a < Z.1.1 0) (hb : b < Z.1.1 0) : F_X8_precedes 1 (nI b) (nI a) M = some (.inl (nI (ahS Z.1.1 a b)), M) := by
  have r5 := hB.r0
  have pa := hB.pl hB0 ha
  have pb := hB.pl hB0 hb
  have fa := hB.fa ha
  have fb := hB.fa hb
  unfold F_X8_precedes ahS
  rw [C_played hC hB hb, bx_l, C_played hC hB ha, bx_l]
  by_cases z : plS Z.1.1 b = plS Z.1.1 a
  · rw [if_pos (congrArg nI z), if_pos z, C_fat hC hB hb, bx_l, C_fat hC hB ha, bx_l]
    by_cases z2 : faS Z.1.1 b = faS Z.1.1 a
    · rw [if_pos (congrArg nI z2), if_pos z2]
      by_cases z3 : a ≤ b
      · rw [if_pos (nI_le z3 (by omega)), if_pos z3]; rfl
      · rw [if_neg (nI_ge (by omega) (by omega)), if_neg z3]; rfl
    · rw [if_neg (fun y => z2 ((nI_eq (by omega) (by omega)).mp y)), if_neg z2, C_fat hC hB hb, bx_l, C_fat hC hB ha, bx_l]
      by_cases z3 : faS Z.1.1 a ≤ faS Z.1.1 b
      · rw [if_pos (nI_le z3 (by omega)), if_pos z3]; rfl
      · rw [if_neg (nI_ge (by omega) (by omega)), if_neg z3]; rfl
  · rw [if_neg (fun y => z ((nI_eq (by omega) (by omega)).mp y)), if_neg z, C_played hC hB hb, bx_l, C_played hC hB ha, bx_l]
    by_cases z3 : plS Z.1.1 b ≤ plS Z.1.1 a
    · rw [if_pos (nI_le z3 (by omega)), if_pos z3]; rfl
    · rw [if_neg (nI_ge (by omega) (by omega)), if_neg z3]; rfl
theorem F_ahead (hL : LM M) (hw : WA M 205 260 Z.1.1) (hB : BI B Z) (hB0 : B ≤ 2 ^ 20) {a b : Nat} (ha : a < Z.1.1 0) (hb : b < Z.1.1 0) : F_X9_isAhead 204 (nI b) (nI a) M = some (nI (ahS Z.1.1 a b)) := by
  have r5 := hB.r0
  have pa := hB.pl hB0 ha
  have pb := hB.pl hB0 hb
  have fa := hB.fa ha
  have fb := hB.fa hb
  obtain ⟨c1, c2, c3⟩ := sub_cmp pb pa
  obtain ⟨d1, d2, d3⟩ := sub_cmp (a := faS Z.1.1 a) (b := faS Z.1.1 b) (by omega) (by omega)
  unfold F_X9_isAhead ahS
  rw [show F_X9_of 204 (nI b) 6 M = some (nI (plS Z.1.1 b)) from F_of hL hw (k := 6) (by omega), ob_s, show F_X9_of 204 (nI a) 6 M = some (nI (plS Z.1.1 a)) from F_of hL hw (k := 6) (by omega), ob_s, lt_v, show F_X9_of 204 (nI a) 4 M = some (nI (faS Z.1.1 a)) from F_of hL hw (k := 4) (by omega), ob_s, show F_X9_of 204 (nI b) 4 M = some (nI (faS Z.1.1 b)) from F_of hL hw (k := 4) (by omega), ob_s, lt_v]
  by_cases z : plS Z.1.1 b = plS Z.1.1 a
  · rw [if_pos (c1.mpr z), if_pos z]
    by_cases z2 : faS Z.1.1 b = faS Z.1.1 a
    · rw [if_pos (d1.mpr z2.symm), if_pos z2]
      by_cases z3 : a ≤ b
      · rw [if_pos (nI_le z3 (by omega)), if_pos z3]; rfl
      · rw [if_neg (nI_ge (by omega) (by omega)), if_neg z3]; rfl
    · rw [if_neg (fun y => z2 (d1.mp y).symm), if_neg z2]
      by_cases z3 : faS Z.1.1 a ≤ faS Z.1.1 b
      · rw [if_pos (d3.mpr z3), if_pos z3]; rfl
      · rw [if_neg (fun y => z3 (d3.mp y)), if_neg z3]; rfl
  · rw [if_neg (fun y => z (c1.mp y)), if_neg z]
    by_cases z3 : plS Z.1.1 b ≤ plS Z.1.1 a
    · rw [if_pos (c3.mpr z3), if_pos z3]; rfl
    · rw [if_neg (fun y => z3 (c3.mp y)), if_neg z3]; rfl
theorem C_rsL (hC : CI M Z) (hB : BI B Z) (hB0 : B ≤ 2 ^ 20) {a : Nat} (ha : a < Z.1.1 0) (K : Int32 → Int32 → Mem → Option ((Int32 ⊕ String) × Mem)) : ∀ (d i t n : Nat), i + d = Z.1.1 0 → d < n → ∃ x, F_X8_sectionRank_L1 1 (nI a) K n (nI t) (nI i) M = K (nI (t + isum (ahS Z.1.1 a) i d)) x M := by
  have r5 := hB.r0
  intro d
  induction d with
  | zero =>
    intro i t n e hn
    obtain ⟨n, rfl⟩ : ∃ m, n = m + 1 := ⟨n - 1, by omega⟩
    refine ⟨nI i, ?_⟩
    rw [F_X8_sectionRank_L1, hC.1.1.1, hC.2.1.1.2.1.1, if_pos (nI_le (by omega) (by omega))]; rfl
  | succ d ih =>
    intro i t n e hn
    obtain ⟨n, rfl⟩ : ∃ m, n = m + 1 := ⟨n - 1, by omega⟩
    obtain ⟨x, hx⟩ := ih (i + 1) (t + ahS Z.1.1 a i) n (by omega) (by omega)
    refine ⟨x, ?_⟩
    rw [F_X8_sectionRank_L1, hC.1.1.1, hC.2.1.1.2.1.1, if_neg (nI_ge (by omega) (by omega)), C_prec hC hB hB0 ha (by omega), bx_l]
    show _ = K (nI (t + (ahS Z.1.1 a i + isum _ (i + 1) d))) x M
    rw [← Nat.add_assoc, ← hx]
    rcases ahS_01 Z.1.1 a i with z | z
    · rw [z, if_pos nI_0, lt_v, nI_1, Nat.add_zero t]
    · rw [z, if_neg (by decide), lt_v, lt_v, nI_1, nI_1]
theorem F_rsL (hL : LM M) (hw : WA M 205 260 Z.1.1) (hB : BI B Z) (hB0 : B ≤ 2 ^ 20) {a : Nat} (ha : a < Z.1.1 0) (K : Int32 → Int32 → Option (Int32 × Mem)) : ∀ (d i t n : Nat), i + d = Z.1.1 0 → d < n → ∃ x, F_X9_sectionByVolume_L2 204 M (nI a) K n (nI t) (nI i) = K (nI (t + isum (ahS Z.1.1 a) i d)) x := by
  have r5 := hB.r0
  intro d
  induction d with
  | zero =>
    intro i t n e hn
    obtain ⟨n, rfl⟩ : ∃ m, n = m + 1 := ⟨n - 1, by omega⟩
    refine ⟨nI i, ?_⟩
    rw [F_X9_sectionByVolume_L2, chk_t (by decide), hL.1, hw.at (by decide), if_pos (nI_le (by omega) (by omega))]; rfl
  | succ d ih =>
    intro i t n e hn
    obtain ⟨n, rfl⟩ : ∃ m, n = m + 1 := ⟨n - 1, by omega⟩
    obtain ⟨x, hx⟩ := ih (i + 1) (t + ahS Z.1.1 a i) n (by omega) (by omega)
    refine ⟨x, ?_⟩
    rw [F_X9_sectionByVolume_L2, chk_t (by decide), hL.1, hw.at (by decide), if_neg (nI_ge (by omega) (by omega)), F_ahead hL hw hB hB0 ha (by omega), ob_s]
    show _ = K (nI (t + (ahS Z.1.1 a i + isum _ (i + 1) d))) x
    rw [← Nat.add_assoc, ← hx]
    rcases ahS_01 Z.1.1 a i with z | z
    · rw [z, if_pos nI_0, lt_v, lt_v, show (0 : Int32) = nI 0 from rfl, nI_add, nI_1]
    · rw [z, if_neg (by decide), lt_v, lt_v, nI_1, nI_1]
theorem C_sbL (hC : CI M Z) (hB : BI B Z) (hB0 : B ≤ 2 ^ 20) (p : Int32) (K : Int32 → Mem → Option ((Int32 ⊕ String) × Mem)) : ∀ (d a n : Nat), a + d = Z.1.1 0 → d < n →
    (∀ v, rkF (rkS Z.1.1) p a d = some v → F_X8_sectionByVolume_L1 1 p K n (nI a) M = some (.inl (nI v), M)) ∧ (rkF (rkS Z.1.1) p a d = none → F_X8_sectionByVolume_L1 1 p K n (nI a) M = K (nI (Z.1.1 0)) M) := by
  have r5 := hB.r0
  intro d
  induction d with
  | zero =>
    intro a n e hn
    obtain ⟨n, rfl⟩ : ∃ m, n = m + 1 := ⟨n - 1, by omega⟩
    refine ⟨fun v h => (by rw [rkF] at h; cases h), fun _ => ?_⟩
    rw [F_X8_sectionByVolume_L1, hC.1.1.1, hC.2.1.1.2.1.1, if_pos (nI_le (by omega) (by omega)), show a = Z.1.1 0 by omega]
  | succ d ih =>
    intro a n e hn
    obtain ⟨n, rfl⟩ : ∃ m, n = m + 1 := ⟨n - 1, by omega⟩
    obtain ⟨h1, h2⟩ := ih (a + 1) n (by omega) (by omega)
    have hk : F_X8_sectionRank 1 (nI a) M = some (.inl (nI (rkS Z.1.1 a)), M) := by
      unfold F_X8_sectionRank
      obtain ⟨x, hx⟩ := C_rsL hC hB hB0 (a := a) (by omega) (fun (x16 : Int32) (x17 : Int32) (M18 : Mem) =>
  some (.inl x16, M18)) (Z.1.1 0) 0 0 3000 (by omega) (by omega)
      rw [show (0 : Int32) = nI 0 from rfl, hx, Nat.zero_add]; rfl
    rw [F_X8_sectionByVolume_L1, hC.1.1.1, hC.2.1.1.2.1.1, if_neg (nI_ge (by omega) (by omega)), hk, bx_l, lt_v, nI_1]
    unfold rkF
    by_cases z : nI (rkS Z.1.1 a) = p
    · rw [if_pos z, if_pos z]
      exact ⟨fun v hv => (by cases hv; rfl), fun hv => (by cases hv)⟩
    · rw [if_neg z, if_neg z]
      exact ⟨h1, h2⟩
theorem F_sbL (hL : LM M) (hw : WA M 205 260 Z.1.1) (hB : BI B Z) (hB0 : B ≤ 2 ^ 20) (p : Int32) (K : Int32 → Option (Int32 × Mem)) : ∀ (d a n : Nat), a + d = Z.1.1 0 → d < n →
    (∀ v, rkF (rkS Z.1.1) p a d = some v → F_X9_sectionByVolume_L1 204 p M K n (nI a) = some (nI v, M)) ∧ (rkF (rkS Z.1.1) p a d = none → F_X9_sectionByVolume_L1 204 p M K n (nI a) = K (nI (Z.1.1 0))) := by
  have r5 := hB.r0
  intro d
  induction d with
  | zero =>
    intro a n e hn
    obtain ⟨n, rfl⟩ : ∃ m, n = m + 1 := ⟨n - 1, by omega⟩
    refine ⟨fun v h => (by rw [rkF] at h; cases h), fun _ => ?_⟩
    rw [F_X9_sectionByVolume_L1, chk_t (by decide), hL.1, hw.at (by decide), if_pos (nI_le (by omega) (by omega)), show a = Z.1.1 0 by omega]
  | succ d ih =>
    intro a n e hn
    obtain ⟨n, rfl⟩ : ∃ m, n = m + 1 := ⟨n - 1, by omega⟩
    obtain ⟨h1, h2⟩ := ih (a + 1) n (by omega) (by omega)
    obtain ⟨x, hx⟩ := F_rsL hL hw hB hB0 (a := a) (by omega) (fun (x21 : Int32) (x22 : Int32) =>
        if x21 = p then
          some (nI a, M)
        else
          lt (nI a + 1) (fun (v24 : Int32) =>
          F_X9_sectionByVolume_L1 204 p M K n v24)) (Z.1.1 0) 0 0 3000 (by omega) (by omega)
    rw [F_X9_sectionByVolume_L1, chk_t (by decide), hL.1, hw.at (by decide), if_neg (nI_ge (by omega) (by omega)), show (0 : Int32) = nI 0 from rfl, hx, Nat.zero_add, show isum (ahS Z.1.1 a) 0 (Z.1.1 0) = rkS Z.1.1 a from rfl, lt_v, nI_1]
    unfold rkF
    by_cases z : nI (rkS Z.1.1 a) = p
    · rw [if_pos z, if_pos z]
      exact ⟨fun v hv => (by cases hv; rfl), fun hv => (by cases hv)⟩
    · rw [if_neg z, if_neg z]
      exact ⟨h1, h2⟩
theorem call_sectionByVolume (h : GI B M) (hB0 : B ≤ 2 ^ 20) (p : Int32) : Call B M (F_L_sectionByVolume 1 p 213) (F_X9_sectionByVolume 204 p) := by
  refine callQ (fc := F_X8_sectionByVolume 1 p) (kp := keepI) h fun Z hB => ?_
  have r5 := hB.r0
  cases hr : rkF (rkS Z.1.1) p 0 (Z.1.1 0) with
  | some v =>
    refine Or.inl ⟨nI v, .pure fun M hC _ => ?_, .ans fun M hM _ => ?_, fun M => rfl⟩
    · unfold F_X8_sectionByVolume
      rw [show (0 : Int32) = nI 0 from rfl, (C_sbL hC hB hB0 p _ (Z.1.1 0) 0 3000 (by omega) (by omega)).1 v hr]
    · have hM0 := hM.t 0
      unfold F_X9_sectionByVolume
      rw [lt_v, show (0 : Int32) = nI 0 from rfl, (F_sbL (M := sI M 204 0 (nI 0)) hM0.1 hM0.2.1.1 hB hB0 p _ (Z.1.1 0) 0 3000 (by omega) (by omega)).1 v hr]
  | none =>
    refine Or.inr ⟨"java/util/NoSuchElementException", 1, 0, .pure fun M hC _ => ?_, .bad fun M hM _ => ?_, by decide, fun _ => rfl⟩
    · unfold F_X8_sectionByVolume
      rw [show (0 : Int32) = nI 0 from rfl, (C_sbL hC hB hB0 p _ (Z.1.1 0) 0 3000 (by omega) (by omega)).2 hr]
    · have hM0 := hM.t 0
      unfold F_X9_sectionByVolume
      rw [lt_v, show (0 : Int32) = nI 0 from rfl, (F_sbL (M := sI M 204 0 (nI 0)) hM0.1 hM0.2.1.1 hB hB0 p _ (Z.1.1 0) 0 3000 (by omega) (by omega)).2 hr, F_failsT, b1_s, sI_sI]; rfl
/-! what lies ahead: played on a copy -/
theorem backF {M M3 : Mem} {Z : ZS} (hM : MI M Z) (m2 : WA M3 205 260 Z.1.1) (c3 : ∀ a k, a ≠ 205 → a ≠ 209 → mI M3 a k = mI (sI M 204 0 0) a k) (c4 : M3.2 = M.2) : Same (fun a k => KpM a k ∨ a < 204 ∨ 212 < a) M M3 ∧ SameR (fun _ _ => True) M M3 := by
  refine ⟨fun a k p => ⟨?_, by unfold mJ; rw [c4], by unfold mR; rw [c4]⟩, fun a k _ => by unfold mR; rw [c4]⟩
  by_cases e : a = 205
  · subst e
    rw [m2 k (by omega), hM.2.1.1 k (by omega)]
  · rw [c3 a k e (by omega), mI_diff _ (by omega)]
theorem call_totalWithin (h : GI B M) (hB0 : B + 100 ≤ 2 ^ 20) (p : Int32) : Call B M (F_L_totalWithin 1 p 213) (F_X9_totalWithin 204 p) := by
  refine callQ (fc := F_X8_totalWithin 1 p) (kp := keepI) h fun Z hB => ?_
  have r5 := hB.r0
  have b1 := hB.1.1.2.1
  by_cases hp : p < 0 ∨ 60 < p
  · refine Or.inr ⟨"java/lang/IllegalArgumentException", 1, 0, .pure fun M hC _ => ?_, .bad fun M hM _ => ?_, by decide, fun _ => rfl⟩
    · unfold F_X8_totalWithin
      by_cases p0 : p < 0
      · rw [if_pos p0]
      · rw [if_neg p0, if_neg (fun z => hp.elim p0 (fun y => (fa_of_lt y).2.1 z))]
    · unfold F_X9_totalWithin
      rw [lt_v, F_bet, ob_s, if_pos hp, if_pos rfl, F_failsT, b1_s, sI_sI]
  have p0 : ¬ p < 0 := fun z => hp (Or.inl z)
  have p60 := fa_of_nlt (fun z => hp (Or.inr z))
  obtain ⟨N, hN, rfl⟩ := nI_of p0
  have n60 : N ≤ 60 := by rwa [show (60 : Int32) = nI 60 from rfl, nI_leI hN (by decide)] at p60
  refine Or.inl ⟨nI (tsum N Z.1.1), fun M hC _ => ?_, fun M hM _ => ?_, fun M => rfl⟩
  · obtain ⟨M1, g1, g2, g3⟩ := C_copy (x := 16) (y := 2) (by omega) hC.1.2.1 hC.2.1.1 r5
    obtain ⟨M2, k1, k2, k3⟩ := C_plays (N := N) (x := 16) (by omega) g2 hB.1.1.ok2 (by omega)
    have e := (Same.blk g3).trans (Same.blk k3)
    refine ⟨M2, ?_, e.sub fun a k p => by omega, fun a k _ => (blk_r k3 a k).trans (blk_r g3 a k)⟩
    unfold F_X8_totalWithin
    rw [if_neg p0, if_pos p60, hC.1.1.2.1, hC.1.1.1, g1, b1_s, blk_r g3, hC.1.1.2.1, k1, b1_s]
  · have hM0 := hM.t 0
    obtain ⟨M1, g1, g2, g3⟩ := F_aheadT hM0.1 hM0.2.1.1
    have L1 := hM0.1.of g3.2
    obtain ⟨M2, k1, k2, k3⟩ := F_times (N := N) (by omega) L1 (fun k hk => (g3.1 _ _ (by decide)).trans (hM0.2.1.1 k hk)) hB.1.1.ok2 (by omega)
    obtain ⟨M3, m1, m2, m3⟩ := F_backT (b := Z.1.1) (L1.of k3.2) (fun k hk => (k3.1 _ _ (by decide)).trans (g2 k hk))
    have c3 : ∀ a k, a ≠ 205 → a ≠ 209 → mI M3 a k = mI (sI M 204 0 0) a k := fun a k h1 h2 => (m3.1 a k h1).trans ((k3.1 a k h1).trans (g3.1 a k h2))
    have c4 : M3.2 = M.2 := by rw [m3.2, k3.2, g3.2]; rfl
    obtain ⟨q1, q2⟩ := backF hM m2 c3 c4
    refine ⟨M3, ?_, by rw [c3 _ _ (by decide) (by decide), mI_same], q1, q2⟩
    unfold F_X9_totalWithin
    rw [lt_v, F_bet, ob_s, if_neg hp, if_neg (by decide), g1, b1_s, k1, b1_s, m1, b1_s]
theorem tick_4e {r : Row} (h : RowOK r) : tick r 4 = r 4 + (if r 3 < (tick1 r).2.1 then 1 else 0) := by
  have e := (tick1_ok h).2.1 4 (by decide)
  show tick2 r 4 = _
  unfold tick2
  split
  · rw [tireRow_lo (by simp only [bs]; omega) (by decide), upR_s, e]
  · exact e
/-- the first beat from here that breaks, d beats ahead -/
def brk : Nat → Row → Option Nat
  | 0, _ => none
  | d+1, r => if r 3 < (tick1 r).2.1 then some 1 else (brk d (tick r)).map (· + 1)
theorem C_brL (K : Int32 → Mem → Option ((Int32 ⊕ String) × Mem)) : ∀ (d i n B : Nat) (M : Mem) (r : Row), mR M 1 1 = 16 → StR M 16 r → Inv B r → B + d ≤ 2 ^ 20 → i + d = 61 → d < n →
    ∃ M', Blk M M' 16 14 ∧ (∀ v, brk d r = some v → F_X8_beatsUntilBreak_L1 1 K n (nI i) M = some (.inl (nI (i + v - 1)), M')) ∧ (brk d r = none → F_X8_beatsUntilBreak_L1 1 K n (nI i) M = K (nI 61) M') := by
  intro d
  induction d with
  | zero =>
    intro i n B M r h1 hS hI hB e hn
    obtain ⟨n, rfl⟩ : ∃ m, n = m + 1 := ⟨n - 1, by omega⟩
    refine ⟨M, Blk.refl _ _ _, fun v h => (by rw [brk] at h; cases h), fun _ => ?_⟩
    rw [F_X8_beatsUntilBreak_L1, show (60 : Int32) = nI 60 from rfl, if_pos (nI_lt (by omega) (by omega)), show i = 61 by omega]
  | succ d ih =>
    intro i n B M r h1 hS hI hB e hn
    obtain ⟨n, rfl⟩ : ∃ m, n = m + 1 := ⟨n - 1, by omega⟩
    obtain ⟨M1, g1, g2, g3⟩ := C_beat hS hI.ok2
    have h11 : mR M1 1 1 = 16 := (blk_r g3 1 1).trans h1
    have t1 := (tick1_ok hI.1).2.2.1
    have t3 := tick_lo hI.1 (k := 3) (by decide) (by decide)
    have i3 := hI.2.2.2.1
    have st : F_X8_beatsUntilBreak_L1 1 K (n + 1) (nI i) M = if nI (tick1 r).2.1 ≤ nI (r 3) then F_X8_beatsUntilBreak_L1 1 K n (nI (i + 1)) M1 else some (.inl (nI i), M1) := by
      rw [F_X8_beatsUntilBreak_L1, show (60 : Int32) = nI 60 from rfl, if_neg (nI_nlt (by omega) (by omega)), h1, g1, b1_s, h11, g2.2.1.2.2.1, t3, lt_v, nI_1]
    unfold brk
    by_cases z : r 3 < (tick1 r).2.1
    · refine ⟨M1, g3, fun v h => ?_, fun h => ?_⟩
      · rw [if_pos z] at h
        cases h
        rw [st, if_neg (nI_ge z (by omega))]
        rfl
      · rw [if_pos z] at h; cases h
    · obtain ⟨M2, k1, k2, k3⟩ := ih (i + 1) n (B + 1) M1 (tick r) h11 g2 (hI.tick (by omega)) (by omega) (by omega) (by omega)
      refine ⟨M2, g3.trans k1, fun v h => ?_, fun h => ?_⟩
      · rw [if_neg z] at h
        cases hb : brk d (tick r) with
        | none => rw [hb] at h; cases h
        | some u =>
          rw [hb] at h
          cases h
          rw [st, if_pos (nI_le (by omega) (by omega)), k2 u hb]
          congr 4
          show i + 1 + u - 1 = i + (u + 1) - 1
          omega
      · rw [if_neg z] at h
        cases hb : brk d (tick r) with
        | none => rw [st, if_pos (nI_le (by omega) (by omega)), k3 hb]
        | some u => rw [hb] at h; cases h
theorem F_brL {b4 : Nat} (hb4 : b4 < 2 ^ 30) (K : Int32 → Mem → Option (Int32 × Mem)) : ∀ (d i n B : Nat) (M : Mem) (r : Row), LM M → WA M 205 260 r → Inv B r → B + d ≤ 2 ^ 20 → r 4 = b4 → i + d = 60 → d + 1 < n →
    ∃ M', Only M M' 205 ∧ (∀ v, brk d r = some v → mI M' 205 4 = nI (b4 + 1) ∧ F_X9_beatsUntilBreak_L1 204 (nI b4) K n (nI i) M = K (nI (i + v)) M') ∧ (brk d r = none → mI M' 205 4 = nI b4 ∧ F_X9_beatsUntilBreak_L1 204 (nI b4) K n (nI i) M = K (nI 60) M') := by
  intro d
  induction d with
  | zero =>
    intro i n B M r hL hw hI hB h4 e hn
    obtain ⟨n, rfl⟩ : ∃ m, n = m + 1 := ⟨n - 1, by omega⟩
    refine ⟨M, Only.refl _ _, fun v h => (by rw [brk] at h; cases h), fun _ => ⟨by rw [hw.at (by decide), h4], ?_⟩⟩
    rw [F_X9_beatsUntilBreak_L1, show (60 : Int32) = nI 60 from rfl, if_pos (nI_le (by omega) (by omega)), show i = 60 by omega]
  | succ d ih =>
    intro i n B M r hL hw hI hB h4 e hn
    obtain ⟨n, rfl⟩ : ∃ m, n = m + 1 := ⟨n - 1, by omega⟩
    obtain ⟨M1, g1, g2, g3⟩ := F_beat hL hw hI.ok2
    have L1 := hL.of g3.2
    have t4 := tick_4e hI.1
    have st : F_X9_beatsUntilBreak_L1 204 (nI b4) K (n + 1) (nI i) M = F_X9_beatsUntilBreak_L1 204 (nI b4) K n (nI (i + 1)) M1 := by
      rw [F_X9_beatsUntilBreak_L1, show (60 : Int32) = nI 60 from rfl, if_neg (nI_ge (by omega) (by omega)), chk_t (by decide), hL.1, hw.at (by decide), h4, if_pos rfl, g1, b1_s, lt_v, nI_1]
    unfold brk
    by_cases z : r 3 < (tick1 r).2.1
    · rw [if_pos z] at t4
      obtain ⟨m, rfl⟩ : ∃ m, n = m + 1 := ⟨n - 1, by omega⟩
      refine ⟨M1, g3, fun v h => ?_, fun h => ?_⟩
      · rw [if_pos z] at h
        cases h
        refine ⟨by rw [g2.at (by decide), t4, h4], ?_⟩
        rw [st, F_X9_beatsUntilBreak_L1, L1.1, g2.at (by decide), t4, h4]
        by_cases i60 : 60 ≤ i + 1
        · rw [show (60 : Int32) = nI 60 from rfl, if_pos (nI_le i60 (by omega))]
        · rw [show (60 : Int32) = nI 60 from rfl, if_neg (nI_ge (by omega) (by omega)), chk_t (by decide), if_neg (fun y => by have := (nI_eq (by omega) (by omega)).mp y; omega)]
      · rw [if_pos z] at h; cases h
    · rw [if_neg z] at t4
      obtain ⟨M2, k1, k2, k3⟩ := ih (i + 1) n (B + 1) M1 (tick r) L1 g2 (hI.tick (by omega)) (by omega) (by omega) (by omega) (by omega)
      refine ⟨M2, g3.trans k1, fun v h => ?_, fun h => ?_⟩
      · rw [if_neg z] at h
        cases hb : brk d (tick r) with
        | none => rw [hb] at h; cases h
        | some u =>
          rw [hb] at h
          cases h
          obtain ⟨q1, q2⟩ := k2 u hb
          refine ⟨q1, ?_⟩
          rw [st, q2]
          congr 2
          show i + 1 + u = i + (u + 1)
          omega
      · rw [if_neg z] at h
        cases hb : brk d (tick r) with
        | none =>
          obtain ⟨q1, q2⟩ := k3 hb
          exact ⟨q1, by rw [st, q2]⟩
        | some u => rw [hb] at h; cases h
theorem call_beatsUntilBreak (h : GI B M) (hB0 : B + 100 ≤ 2 ^ 20) : Call B M (F_L_beatsUntilBreak 1 213) (F_X9_beatsUntilBreak 204) := by
  refine callQ (fc := F_X8_beatsUntilBreak 1) (kp := keepI) h fun Z hB => ?_
  have r5 := hB.r0
  have hb1 := hB.1.1.2.1
  have b4 := hB.1.1.2.2.2.2.1
  have hc : ∀ M, CI M Z → ∃ M2, (Same (fun a _ => a < 16 ∨ 30 ≤ a) M M2 ∧ ∀ a k, mR M2 a k = mR M a k) ∧ (∀ v, brk 60 Z.1.1 = some v → F_X8_beatsUntilBreak 1 M = some (.inl (nI v), M2)) ∧ (brk 60 Z.1.1 = none → F_X8_beatsUntilBreak 1 M = some (.inr "java/util/NoSuchElementException", M2)) := fun M hC => by
    obtain ⟨M1, g1, g2, g3⟩ := C_copy (x := 16) (y := 2) (by omega) hC.1.2.1 hC.2.1.1 r5
    obtain ⟨M2, k1, k2, k3⟩ := C_brL (fun (x18 : Int32) (M19 : Mem) =>
  some (.inr "java/util/NoSuchElementException", M19)) 60 1 3000 B M1 Z.1.1 ((blk_r g3 1 1).trans hC.1.1.2.1) g2 hB.1.1 (by omega) (by omega) (by omega)
    refine ⟨M2, ⟨(Same.blk g3).trans (Same.blk k1), fun a k => (blk_r k1 a k).trans (blk_r g3 a k)⟩, fun v hv => ?_, fun hv => ?_⟩
    · unfold F_X8_beatsUntilBreak
      rw [hC.1.1.2.1, hC.1.1.1, g1, b1_s, show (1 : Int32) = nI 1 from rfl, k2 v hv, Nat.add_sub_cancel_left]
    · unfold F_X8_beatsUntilBreak
      rw [hC.1.1.2.1, hC.1.1.1, g1, b1_s, show (1 : Int32) = nI 1 from rfl, k3 hv]
  have hm : ∀ M, MI M Z → ∃ M3 M4 x, F_X9_beatsUntilBreak 204 M = (if (mI M3 205 4) ≤ nI (Z.1.1 4) then some (0, sI M4 204 0 1) else some (x, M4)) ∧ WA M4 205 260 Z.1.1 ∧ (∀ a k, a ≠ 205 → a ≠ 209 → mI M4 a k = mI (sI M 204 0 0) a k) ∧ M4.2 = M.2 ∧ (∀ v, brk 60 Z.1.1 = some v → mI M3 205 4 = nI (Z.1.1 4 + 1) ∧ x = nI v) ∧ (brk 60 Z.1.1 = none → mI M3 205 4 = nI (Z.1.1 4)) := fun M hM => by
    have hM0 := hM.t 0
    obtain ⟨M1, g1, g2, g3⟩ := F_aheadT hM0.1 hM0.2.1.1
    have L1 := hM0.1.of g3.2
    have w1 : WA M1 205 260 Z.1.1 := fun k hk => (g3.1 _ _ (by decide)).trans (hM0.2.1.1 k hk)
    obtain ⟨M2, k1, k2, k3⟩ := F_brL (b4 := Z.1.1 4) (by omega) (fun (x20 : Int32) (M21 : Mem) =>
  chk (inb 4 260) (
  if (mI M21 (mR M21 204 1) 4) ≤ nI (Z.1.1 4) then
    b1 (F_X9_looksBack 204 M21) (fun u26 M27 =>
    b1 (F_X9_fails 204 1 M27) (fun v30 M31 =>
    some (v30, M31)))
  else
    b1 (F_X9_looksBack 204 M21) (fun u33 M34 =>
    some (x20, M34)))) 60 0 3000 B M1 Z.1.1 L1 w1 hB.1.1 (by omega) rfl (by omega) (by omega)
    have L2 := L1.of k1.2
    obtain ⟨M3, m1, m2, m3⟩ := F_backT (b := Z.1.1) L2 (fun k hk => (k1.1 _ _ (by decide)).trans (g2 k hk))
    have st : ∀ x : Int32, F_X9_beatsUntilBreak_L1 204 (nI (Z.1.1 4)) (fun (x20 : Int32) (M21 : Mem) =>
  chk (inb 4 260) (
  if (mI M21 (mR M21 204 1) 4) ≤ nI (Z.1.1 4) then
    b1 (F_X9_looksBack 204 M21) (fun u26 M27 =>
    b1 (F_X9_fails 204 1 M27) (fun v30 M31 =>
    some (v30, M31)))
  else
    b1 (F_X9_looksBack 204 M21) (fun u33 M34 =>
    some (x20, M34)))) 3000 (nI 0) M1 = chk (inb 4 260) (
  if (mI M2 (mR M2 204 1) 4) ≤ nI (Z.1.1 4) then
    b1 (F_X9_looksBack 204 M2) (fun u26 M27 =>
    b1 (F_X9_fails 204 1 M27) (fun v30 M31 =>
    some (v30, M31)))
  else
    b1 (F_X9_looksBack 204 M2) (fun u33 M34 =>
    some (x, M34))) → F_X9_beatsUntilBreak 204 M = (if (mI M2 205 4) ≤ nI (Z.1.1 4) then some (0, sI M3 204 0 1) else some (x, M3)) := fun x hx => by
      unfold F_X9_beatsUntilBreak
      rw [lt_v, g1, b1_s, chk_t (by decide), L1.1, w1.at (by decide), lt_v, show (0 : Int32) = nI 0 from rfl, hx, chk_t (by decide), L2.1, m1, b1_s, b1_s, F_failsT, b1_s]; rfl
    cases hb : brk 60 Z.1.1 with
    | some v =>
      obtain ⟨q1, q2⟩ := k2 v hb
      exact ⟨M2, M3, nI (0 + v), st _ q2, m2, fun a k h1 h2 => (m3.1 a k h1).trans ((k1.1 a k h1).trans (g3.1 a k h2)), by rw [m3.2, k1.2, g3.2]; rfl, fun u hu => (by cases hu; exact ⟨q1, by rw [Nat.zero_add]⟩), fun h => (by cases h)⟩
    | none =>
      obtain ⟨q1, q2⟩ := k3 hb
      exact ⟨M2, M3, nI 60, st _ q2, m2, fun a k h1 h2 => (m3.1 a k h1).trans ((k1.1 a k h1).trans (g3.1 a k h2)), by rw [m3.2, k1.2, g3.2]; rfl, fun u hu => (by cases hu), fun _ => q1⟩
  cases hb : brk 60 Z.1.1 with
  | some v =>
    refine Or.inl ⟨nI v, fun M hC _ => ?_, fun M hM _ => ?_, fun M => rfl⟩
    · obtain ⟨M2, ⟨e, er⟩, q1, -⟩ := hc M hC
      exact ⟨M2, q1 v hb, e.sub fun a k p => by omega, fun a k _ => er a k⟩
    · obtain ⟨M3, M4, x, st, m2, c3, c4, q1, -⟩ := hm M hM
      obtain ⟨q2, rfl⟩ := q1 v hb
      obtain ⟨s1, s2⟩ := backF hM m2 c3 c4
      refine ⟨M4, ?_, by rw [c3 _ _ (by decide) (by decide), mI_same], s1, s2⟩
      rw [st, q2, if_neg (nI_ge (by omega) (by omega))]
  | none =>
    refine Or.inr ⟨"java/util/NoSuchElementException", 1, 0, fun M hC _ => ?_, fun M hM _ => ?_, by decide, fun _ => rfl⟩
    · obtain ⟨M2, ⟨e, er⟩, -, q1⟩ := hc M hC
      exact ⟨M2, q1 hb, e.sub fun a k p => by omega, fun a k _ => er a k⟩
    · obtain ⟨M3, M4, x, st, m2, c3, c4, -, q1⟩ := hm M hM
      obtain ⟨s1, s2⟩ := backF hM m2 c3 c4
      have e4 := Same.sI M4 204 0 1
      refine ⟨sI M4 204 0 1, ?_, mI_same _ _ _ _, s1.trans (e4.sub fun a k p => by omega), fun a k p => s2 a k p⟩
      rw [st, q1 hb, if_pos (nI_le (Nat.le_refl _) (by omega))]
end RK
