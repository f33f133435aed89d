/-! PURE LEVEL: sections asked; renderScore, renderMask, type -/
section PRES
variable {B : Nat} {M : Mem} {Z : ZS}
theorem C_presN (hC : CI M Z) (hB : BI B Z) {p : Int32} (hp : outR p (Z.1.1 0)) : F_X8_presentSection 1 p M = some (.inr "java/lang/IndexOutOfBoundsException", M) := by
  unfold F_X8_presentSection
  rw [hC.1.1.1, C_hasI hC.2.1.1 hB.r0, ob_s, if_pos hp, if_pos rfl]
theorem C_pres (hC : CI M Z) (hB : BI B Z) {s : Nat} (hs : s < Z.1.1 0) : F_X8_presentSection 1 (nI s) M = some (.inl (mR M 3 s), M) := by
  have h5 := hB.r0
  unfold F_X8_presentSection
  rw [hC.1.1.1, C_hasI hC.2.1.1 hB.r0, ob_s, if_neg (not_out hs (by omega)), if_neg (by decide), chk_t (inb_n (by omega) (by decide)), nI_clamp (by omega), hC.2.1.1.refs]
theorem C_secTy (hC : CI M Z) {s : Nat} (hs : s < 5) : Nat.beq (tyT (mR M 3 s)) 4 = true ∧ 6 ≤ mR M 3 s ∧ mR M 3 s < 15 ∧ mR M (mR M 3 s) 3 = mR M 3 s + 1 := by
  obtain ⟨j, hj, e, e3⟩ := hC.2.1.1.sec hs
  change mR M 3 s = 2 + 4 + 2 * j at e
  have h : ∀ j : Fin 5, Nat.beq (tyT (2 + 4 + 2 * j.val)) 4 = true := by decide +kernel
  exact ⟨by rw [e]; exact h ⟨j, hj⟩, by omega, by omega, e3⟩
theorem CI.sec (hC : CI M Z) {s : Nat} (hs : s < Z.1.1 0) : SecR M (mR M 3 s) Z.1.1 (bs s) := hC.2.1.1.2.2.2.1 s hs
theorem BI.sec (hB : BI B Z) {s : Nat} (hs : s < Z.1.1 0) : SecOK Z.1.1 (bs s) := hB.1.1.sec hs
end PRES
/-- what a change of the output may touch -/
theorem CI.out {Z : ZS} {M M' : Mem} {O : TS} {B : Nat} (h : CI M Z) (hB : BI B Z) (e : Same (fun a _ => a ≠ 202 ∧ a ≠ 203) M M') (er : ∀ a k, mR M' a k = mR M a k) (hO : TX M' 202 1 203 O) : CI M' (Z.1, Z.2.1, O, Z.2.2.2) := by
  obtain ⟨g1, g2, g3, g4, g5, g6⟩ := h
  exact ⟨g1.r (fun a k p => er a k), g2.s hB.r0 (e.sub fun a k p => by omega), g3.s hB.r1 (e.sub fun a k p => by omega), hO, g5.s (e.sub fun a k p => by omega), g6.s (e.sub fun a k p => by omega)⟩
theorem MI.out {Z : ZS} {M M' : Mem} {O : TS} (h : MI M Z) (e : Same (fun a k => a ≠ 210 ∧ ¬ (a = 204 ∧ (k = 0 ∨ k = 10))) M M') (er : ∀ a k, mR M' a k = mR M a k) (hO : TX M' 204 10 210 O) : MI M' (Z.1, Z.2.1, O, Z.2.2.2) := by
  obtain ⟨g1, g2, g3, g4, g5, g6⟩ := h
  exact ⟨g1.r (fun a k p => er a k), g2.s (e.sub fun a k p => by omega), g3.s (e.sub fun a k p => by omega), hO, g5.s (e.sub fun a k p => by omega), g6.s (e.sub fun a k p => by omega)⟩
theorem BI.out {Z : ZS} {O : TS} {B : Nat} (h : BI B Z) (hO : OB O) : BI B (Z.1, Z.2.1, O, Z.2.2.2) := ⟨h.1, h.2.1, hO, h.2.2.2⟩
theorem TX.none (M : Mem) (a k c : Nat) : TX (sI M a k 0) a k c (fun _ => 0, 0) := ⟨by rw [mI_same]; rfl, fun j hj => absurd hj (Nat.not_lt_zero _)⟩
theorem OB.none : OB (fun _ => 0, 0) := ⟨Nat.zero_le _, fun k hk => absurd hk (Nat.not_lt_zero _)⟩
theorem outI_len (f : Nat → Nat) (c : Nat) : ∀ (d i : Nat) (O : TS), (outI f c O i d).2 ≤ O.2 + (c + 1) * d
  | 0, _, _ => Nat.le_add_right _ _
  | d+1, i, O => by
    have := outI_len f c d (i + 1) (outJ f i (if i = 0 then O else appT O 47) 0 c)
    rw [outJ_len] at this
    show (outI f c (outJ f i (if i = 0 then O else appT O 47) 0 c) (i + 1) d).2 ≤ _
    have h1 : (if i = 0 then O else appT O 47).2 ≤ O.2 + 1 := by
      split
      · omega
      · exact Nat.le_refl _
    rw [Nat.mul_succ]
    omega
section RENDER
variable {B : Nat} {M : Mem}
theorem call_renderScore (h : GI B M) (p : Int32) : Call B M (F_L_renderScore 1 p 213) (F_X9_renderScore 204 p) := by
  obtain ⟨Z, hB, hC, hM⟩ := h
  have r5 := hB.r0
  by_cases hp : outR p (Z.1.1 0)
  · refine callT (fc := F_X8_renderScore 1 p) (kp := keepI) (Z := Z) (Z' := Z) (M1 := M) (E := "java/lang/IndexOutOfBoundsException") (c := 1) (b := 0) hB ?_ hC hM (by decide) (fun M => rfl) (fun M hC hM => ?_)
    · unfold F_X8_renderScore
      rw [C_presN hC hB hp, bx_r]
    · refine ⟨sI M 204 0 1, ?_, mI_same _ _ _ _, hC.t hB.r0 hB.r1 1, hM.t 1⟩
      have hM0 := hM.t 0
      unfold F_X9_renderScore
      rw [lt_v, F_isSecI hM0.1 hM0.2.1.1 (by omega), ob_s, if_pos hp, if_pos rfl, F_failsT, b1_s, sI_sI]
  · obtain ⟨s, hs, rfl⟩ := in_of hp (by omega)
    have ok := hB.sec hs
    have hk := ok.1
    have h1 := ok.2.1
    have h2 := ok.2.2.1
    obtain ⟨t4, q6, q15, -⟩ := C_secTy hC (s := s) (by omega)
    have lk : lett (Z.1.1 (bs s)) < 128 := by unfold lett; split <;> (try split) <;> omega
    have e0 := Same.sI M 202 1 0
    have hS0 : OS Z.1.1 (bs s) (mR M 3 s) (sI M 202 1 0) (fun _ => 0, 0) := ⟨(hC.sec hs).same (e0.sub fun a k p => by omega), hC.1.1.2.2.2.2.2.2, hC.1.2.2.2.2.1.2.2.2.2, TX.none _ _ _ _⟩
    obtain ⟨M1, a1, a2, a3, a4, a5⟩ := C_appO (by omega) hS0 OB.none lk (by decide)
    obtain ⟨M2, b1', b2, b3, b4, b5⟩ := C_appO (by omega) a2 a3 (x := 58) (by omega) (by show 0 + 1 < 60; omega)
    obtain ⟨M3, x, c1, c2, c3, c4, c5⟩ := C_outI (by omega) ok (fun (x62 : Int32) (M63 : Mem) =>
  some (.inl (mI M63 (mR M63 1 7) 1), M63)) (Z.1.1 (bs s + 1)) 0 3000 M2 _ b2 b3 (by omega) (by show 0 + 1 + 1 + _ ≤ 60; omega) (by omega)
    have tot : Same (fun a _ => a ≠ 202 ∧ a ≠ 203) M M3 := (((e0.sub fun a k p => by omega).trans a4).trans b4).trans c4
    have totR : ∀ a k, mR M3 a k = mR M a k := fun a k => by unfold mR; rw [c5, b5, a5]; rfl
    have hB' := hB.out c3
    refine callA (fc := F_X8_renderScore 1 (nI s)) (kp := keepI) (Z := Z) (Z' := (Z.1, Z.2.1, outI (notesOf Z.1.1 (bs s)) (Z.1.1 (bs s + 2)) (appT (appT (fun _ => 0, 0) (lett (Z.1.1 (bs s)))) 58) 0 (Z.1.1 (bs s + 1)), Z.2.2.2)) (v := nI (outI (notesOf Z.1.1 (bs s)) (Z.1.1 (bs s + 2)) (appT (appT (fun _ => 0, 0) (lett (Z.1.1 (bs s)))) 58) 0 (Z.1.1 (bs s + 1))).2) (M1 := M3) hB hB' ?_ (hC.out hB tot totR c2.2.2.2) (hM.s (tot.sub fun a k p => by omega) (fun a k _ => totR a k)) (fun M => rfl) (fun M hC hM => ?_)
    · unfold F_X8_renderScore F_X6_clear
      rw [C_pres hC hB hs, bx_l, chk_t t4, hC.1.1.2.2.2.2.2.2, lt_v, b1_s, mI_diff _ (Or.inl (by omega)), (hC.sec hs).1, a1, b1_s, show (58 : Int32) = nI 58 from rfl, b1', b1_s, show (0 : Int32) = nI 0 from rfl, c1, c2.2.1, c2.2.2.2.1]
    · have hM0 := hM.t 0
      have hC0 := hC.t hB'.r0 hB'.r1 0
      have f0 := Same.sI (sI M 204 0 0) 204 10 0
      have hw0 : WA (sI (sI M 204 0 0) 204 10 0) 205 260 Z.1.1 := fun k hk => by rw [mI_diff _ (Or.inl (by decide))]; exact hM0.2.1.1 k hk
      have L0 : LM (sI (sI M 204 0 0) 204 10 0) := hM0.1.r fun a k _ => rfl
      obtain ⟨M1, a1, a2, a3, a4, a5⟩ := F_wrO (w := Z.1.1) ⟨L0, hw0, TX.none _ _ _ _⟩ OB.none lk (by decide)
      obtain ⟨M2, b1', b2, b3, b4, b5⟩ := F_wrO a2 a3 (x := 58) (by omega) (by show 0 + 1 < 60; omega)
      obtain ⟨M3, x, c1, c2, c4, c5⟩ := F_outI (s := s) (by omega) ok (fun (x59 : Int32) (M60 : Mem) =>
    some (mI M60 204 10, M60)) (Z.1.1 (bs s + 1)) 0 3000 M2 _ b2 b3 (by omega) (by show 0 + 1 + 1 + _ ≤ 60; omega) (by omega)
      have t2 : Same KpO (sI M 204 0 0) M3 := (((f0.sub fun a k p => by omega).trans a4).trans b4).trans c4
      have t2R : ∀ a k, mR M3 a k = mR M a k := fun a k => by unfold mR; rw [c5, b5, a5]; rfl
      refine ⟨M3, ?_, ?_, (t2 213 0 (by omega)).2.1, hC0.s hB'.r0 hB'.r1 (t2.sub fun a k p => by omega) (fun a k _ => t2R a k), hM0.out (t2.sub fun a k p => by omega) t2R c2.2.2⟩
      · unfold F_X9_renderScore
        rw [lt_v, F_isSecI hM0.1 hM0.2.1.1 (by omega), ob_s, if_neg hp, if_neg (by decide), lt_v, show F_X9_of 204 (nI s) 0 (sI (sI M 204 0 0) 204 10 0) = some (nI (Z.1.1 (45 + 43 * s + 0))) from F_of L0 hw0 (k := 0) (by omega), ob_s, Nat.add_zero, F_letter hk, ob_s, a1, b1_s, show (58 : Int32) = nI 58 from rfl, b1', b1_s, show (0 : Int32) = nI 0 from rfl, c1, c2.2.2.1]
      · rw [(t2 204 0 (by omega)).1, mI_same]
def outM (m : Nat) : TS → Nat → Nat → TS
  | O, _, 0 => O
  | O, j, d+1 => outM m (appT O (if bit m j = 0 then 46 else 120)) (j + 1) d
theorem outM_len (m : Nat) : ∀ (d j : Nat) (O : TS), (outM m O j d).2 = O.2 + d
  | 0, _, _ => rfl
  | d+1, j, O => by
    show (outM m (appT O _) (j + 1) d).2 = _
    rw [outM_len m d]
    show O.2 + 1 + d = O.2 + (d + 1)
    omega
theorem bch_lt (x : Nat) : (if x = 0 then 46 else 120) < 128 := by split <;> omega
theorem C_outM {w : Row} {b q : Nat} (hq : q + 1 < 202) (h : SecOK w b) (K : Int32 → Mem → Option ((Int32 ⊕ String) × Mem)) : ∀ (d j n : Nat) (M : Mem) (O : TS), OS w b q M O → OB O → j + d = w (b + 2) → O.2 + d ≤ 60 → d < n →
    ∃ M' x, F_X8_renderMask_L1 1 q K n (nI j) M = K x M' ∧ OS w b q M' (outM (w (b + 3)) O j d) ∧ OB (outM (w (b + 3)) O j d) ∧ Same (fun b _ => b ≠ 202 ∧ b ≠ 203) M M' ∧ M'.2 = M.2 := by
  have h2 := h.2.2.1
  intro d
  induction d with
  | zero =>
    intro j n M O hS hO e e6 hn
    obtain ⟨n, rfl⟩ : ∃ m, n = m + 1 := ⟨n - 1, by omega⟩
    refine ⟨M, nI j, ?_, hS, hO, Same.refl _ _, rfl⟩
    rw [F_X8_renderMask_L1, hS.1.2.2.1, if_pos (nI_le (by omega) (by omega))]
  | succ d ih =>
    intro j n M O hS hO e e6 hn
    obtain ⟨n, rfl⟩ : ∃ m, n = m + 1 := ⟨n - 1, by omega⟩
    obtain ⟨M1, g1, g2, g3, g4, g5⟩ := C_appO hq hS hO (bch_lt (bit (w (b + 3)) j)) (by omega)
    obtain ⟨M2, x, k1, k2, k3, k4, k5⟩ := ih (j + 1) n M1 _ g2 g3 (by omega) (by show O.2 + 1 + d ≤ 60; omega) (by omega)
    refine ⟨M2, x, ?_, k2, k3, g4.trans k4, k5.trans g5⟩
    rw [F_X8_renderMask_L1, hS.1.2.2.1, if_neg (nI_ge (by omega) (by omega)), C_masks hS.1 h (by omega), ob_s]
    rcases bit_01 (w (b + 3)) j with z | z
    · rw [z] at g1
      rw [z, if_pos nI_0, show (46 : Int32) = nI (if 0 = 0 then 46 else 120) from rfl, g1, b1_s, lt_v, nI_1, k1]
    · rw [z] at g1
      rw [z, if_neg (by decide), show (120 : Int32) = nI (if 1 = 0 then 46 else 120) from rfl, g1, b1_s, lt_v, nI_1, k1]
theorem F_outM {w : Row} {s : Nat} (hs : s < 5) (h : SecOK w (bs s)) (K : Int32 → Mem → Option (Int32 × Mem)) : ∀ (d j n : Nat) (M : Mem) (O : TS), OW w M O → OB O → j + d = w (bs s + 2) → O.2 + d ≤ 60 → d < n →
    ∃ M' x, F_X9_renderMask_L1 204 (nI s) K n (nI j) M = K x M' ∧ OW w M' (outM (w (bs s + 3)) O j d) ∧ Same KpO M M' ∧ M'.2 = M.2 := by
  have h2 := h.2.2.1
  intro d
  induction d with
  | zero =>
    intro j n M O hS hO e e6 hn
    obtain ⟨n, rfl⟩ : ∃ m, n = m + 1 := ⟨n - 1, by omega⟩
    refine ⟨M, nI j, ?_, hS, Same.refl _ _, rfl⟩
    rw [F_X9_renderMask_L1, show (2 : Int32) = nI 2 from rfl, F_of hS.1 hS.2.1 (by omega), ob_s, if_pos (nI_le (by simp only [bs] at *; omega) (by omega))]
  | succ d ih =>
    intro j n M O hS hO e e6 hn
    obtain ⟨n, rfl⟩ : ∃ m, n = m + 1 := ⟨n - 1, by omega⟩
    obtain ⟨M1, g1, g2, g3, g4, g5⟩ := F_wrO hS hO (bch_lt (bit (w (bs s + 3)) j)) (by omega)
    obtain ⟨M2, x, k1, k2, k4, k5⟩ := ih (j + 1) n M1 _ g2 g3 (by omega) (by show O.2 + 1 + d ≤ 60; omega) (by omega)
    refine ⟨M2, x, ?_, k2, g4.trans k4, k5.trans g5⟩
    rw [F_X9_renderMask_L1, show (2 : Int32) = nI 2 from rfl, F_of hS.1 hS.2.1 (by omega), ob_s, if_neg (nI_ge (by simp only [bs] at *; omega) (by simp only [bs] at *; omega)), F_masked hS.1 hS.2.1 hs h (by omega), ob_s]
    rcases bit_01 (w (bs s + 3)) j with z | z
    · rw [z] at g1
      rw [z, if_pos nI_0, show (46 : Int32) = nI (if 0 = 0 then 46 else 120) from rfl, g1, b1_s, lt_v, nI_1, k1]
    · rw [z] at g1
      rw [z, if_neg (by decide), show (120 : Int32) = nI (if 1 = 0 then 46 else 120) from rfl, g1, b1_s, lt_v, nI_1, k1]
theorem call_renderMask (h : GI B M) (p : Int32) : Call B M (F_L_renderMask 1 p 213) (F_X9_renderMask 204 p) := by
  obtain ⟨Z, hB, hC, hM⟩ := h
  have r5 := hB.r0
  by_cases hp : outR p (Z.1.1 0)
  · refine callT (fc := F_X8_renderMask 1 p) (kp := keepI) (Z := Z) (Z' := Z) (M1 := M) (E := "java/lang/IndexOutOfBoundsException") (c := 1) (b := 0) hB ?_ hC hM (by decide) (fun M => rfl) (fun M hC hM => ?_)
    · unfold F_X8_renderMask
      rw [C_presN hC hB hp, bx_r]
    · refine ⟨sI M 204 0 1, ?_, mI_same _ _ _ _, hC.t hB.r0 hB.r1 1, hM.t 1⟩
      have hM0 := hM.t 0
      unfold F_X9_renderMask
      rw [lt_v, F_isSecI hM0.1 hM0.2.1.1 (by omega), ob_s, if_pos hp, if_pos rfl, F_failsT, b1_s, sI_sI]
  · obtain ⟨s, hs, rfl⟩ := in_of hp (by omega)
    have ok := hB.sec hs
    have h2 := ok.2.2.1
    have h4 := ok.2.2.2.2.1
    have h5 := ok.2.2.2.2.2.1
    obtain ⟨t4, q6, q15, -⟩ := C_secTy hC (s := s) (by omega)
    have e0 := Same.sI M 202 1 0
    have hS0 : OS Z.1.1 (bs s) (mR M 3 s) (sI M 202 1 0) (fun _ => 0, 0) := ⟨(hC.sec hs).same (e0.sub fun a k p => by omega), hC.1.1.2.2.2.2.2.2, hC.1.2.2.2.2.1.2.2.2.2, TX.none _ _ _ _⟩
    obtain ⟨M1, x, a1, a2, a3, a4, a5⟩ := C_outM (by omega) ok (fun (x27 : Int32) (M28 : Mem) =>
  b1 (F_X6_append (mR M28 1 7) 102 M28) (fun u31 M32 =>
  Option.bind (F_X8_digitSign (mI M32 (mR M 3 s) 5)) (fun v35 =>
  b1 (F_X6_append (mR M32 1 7) v35 M32) (fun u37 M38 =>
  if (mI M38 (mR M 3 s) 6) ≤ 0 then
    some (.inl (mI M38 (mR M38 1 7) 1), M38)
  else
    b1 (F_X6_append (mR M38 1 7) 114 M38) (fun u43 M44 =>
    Option.bind (F_X8_digitSign (mI M44 (mR M 3 s) 6)) (fun v47 =>
    b1 (F_X6_append (mR M44 1 7) v47 M44) (fun u49 M50 =>
    some (.inl (mI M50 (mR M50 1 7) 1), M50)))))))) (Z.1.1 (bs s + 2)) 0 3000 _ _ hS0 OB.none (by omega) (by show 0 + _ ≤ 60; omega) (by omega)
    have ln := outM_len (Z.1.1 (bs s + 3)) (Z.1.1 (bs s + 2)) 0 (fun _ => 0, 0)
    change _ = 0 + Z.1.1 (bs s + 2) at ln
    obtain ⟨M2, b1', b2, b3, b4, b5⟩ := C_appO (by omega) a2 a3 (x := 102) (by omega) (by omega)
    obtain ⟨M3, c1, c2, c3, c4, c5⟩ := C_appO (by omega) b2 b3 (x := 48 + Z.1.1 (bs s + 4)) (by omega) (by show _ + 1 < 60; omega)
    have tot : Same (fun a _ => a ≠ 202 ∧ a ≠ 203) M M3 := (((e0.sub fun a k p => by omega).trans a4).trans b4).trans c4
    have totR : ∀ a k, mR M3 a k = mR M a k := fun a k => by unfold mR; rw [c5, b5, a5]; rfl
    have st : F_X8_renderMask 1 (nI s) M = (if (mI M3 (mR M 3 s) 6) ≤ 0 then
    some (.inl (mI M3 (mR M3 1 7) 1), M3)
  else
    b1 (F_X6_append (mR M3 1 7) 114 M3) (fun u43 M44 =>
    Option.bind (F_X8_digitSign (mI M44 (mR M 3 s) 6)) (fun v47 =>
    b1 (F_X6_append (mR M44 1 7) v47 M44) (fun u49 M50 =>
    some (.inl (mI M50 (mR M50 1 7) 1), M50))))) := by
      unfold F_X8_renderMask F_X6_clear
      rw [C_pres hC hB hs, bx_l, chk_t t4, hC.1.1.2.2.2.2.2.2, lt_v, b1_s]
      rw [show (0 : Int32) = nI 0 from rfl] at a1 ⊢
      rw [a1, show (102 : Int32) = nI 102 from rfl, b1', b1_s, b2.1.2.2.2.2.1, digit_s (by omega), ob_s, c1, b1_s]
    have mst : ∀ M, MI M Z → ∃ M4, (F_X9_renderMask 204 (nI s) M = (if nI (Z.1.1 (bs s + 5)) ≤ 0 then
      some (mI M4 204 10, M4)
    else
      b1 (F_X9_writes 204 114 M4) (fun u38 M39 =>
      Option.bind (F_X9_of 204 (nI s) 5 M39) (fun v41 =>
      b1 (F_X9_writes 204 (48 + v41) M39) (fun u43 M44 =>
      some (mI M44 204 10, M44)))))) ∧ OW Z.1.1 M4 (appT (appT (outM (Z.1.1 (bs s + 3)) (fun _ => 0, 0) 0 (Z.1.1 (bs s + 2))) 102) (48 + Z.1.1 (bs s + 4))) ∧ OB (appT (appT (outM (Z.1.1 (bs s + 3)) (fun _ => 0, 0) 0 (Z.1.1 (bs s + 2))) 102) (48 + Z.1.1 (bs s + 4))) ∧ Same KpO (sI M 204 0 0) M4 ∧ M4.2 = M.2 := by
      intro M hM
      have hM0 := hM.t 0
      have f0 := Same.sI (sI M 204 0 0) 204 10 0
      have hw0 : WA (sI (sI M 204 0 0) 204 10 0) 205 260 Z.1.1 := fun k hk => by rw [mI_diff _ (Or.inl (by decide))]; exact hM0.2.1.1 k hk
      have L0 : LM (sI (sI M 204 0 0) 204 10 0) := hM0.1.r fun a k _ => rfl
      obtain ⟨M1, x, a1, a2, a4, a5⟩ := F_outM (w := Z.1.1) (s := s) (by omega) ok (fun (x24 : Int32) (M25 : Mem) =>
    b1 (F_X9_writes 204 102 M25) (fun u27 M28 =>
    Option.bind (F_X9_of 204 (nI s) 4 M28) (fun v30 =>
    b1 (F_X9_writes 204 (48 + v30) M28) (fun u32 M33 =>
    Option.bind (F_X9_of 204 (nI s) 5 M33) (fun v35 =>
    if v35 ≤ 0 then
      some (mI M33 204 10, M33)
    else
      b1 (F_X9_writes 204 114 M33) (fun u38 M39 =>
      Option.bind (F_X9_of 204 (nI s) 5 M39) (fun v41 =>
      b1 (F_X9_writes 204 (48 + v41) M39) (fun u43 M44 =>
      some (mI M44 204 10, M44))))))))) (Z.1.1 (bs s + 2)) 0 3000 _ _ ⟨L0, hw0, TX.none _ _ _ _⟩ OB.none (by omega) (by show 0 + _ ≤ 60; omega) (by omega)
      obtain ⟨M2, b1', b2, b3, b4, b5⟩ := F_wrO a2 a3 (x := 102) (by omega) (by omega)
      obtain ⟨M3, c1, c2, c3, c4, c5⟩ := F_wrO b2 b3 (x := 48 + Z.1.1 (bs s + 4)) (by omega) (by show _ + 1 < 60; omega)
      refine ⟨M3, ?_, c2, c3, (((f0.sub fun a k p => by omega).trans a4).trans b4).trans c4, by rw [c5, b5, a5]; rfl⟩
      unfold F_X9_renderMask
      rw [lt_v, F_isSecI hM0.1 hM0.2.1.1 (by omega), ob_s, if_neg hp, if_neg (by decide), lt_v]
      rw [show (0 : Int32) = nI 0 from rfl] at a1 ⊢
      rw [a1, show (102 : Int32) = nI 102 from rfl, b1', b1_s, show (4 : Int32) = nI 4 from rfl, F_of b2.1 b2.2.1 (by omega), ob_s, show (48 : Int32) = nI 48 from rfl, nI_add, c1, b1_s, show (5 : Int32) = nI 5 from rfl, F_of c2.1 c2.2.1 (by omega), ob_s]
    rcases Nat.eq_zero_or_pos (Z.1.1 (bs s + 5)) with z | z
    · have hB' := hB.out c3
      refine callA (fc := F_X8_renderMask 1 (nI s)) (kp := keepI) (Z := Z) (v := nI (Z.1.1 (bs s + 2) + 2)) (M1 := M3) hB hB' ?_ (hC.out hB tot totR c2.2.2.2) (hM.s (tot.sub fun a k p => by omega) (fun a k _ => totR a k)) (fun M => rfl) (fun M hC hM => ?_)
      · rw [st, c2.1.2.2.2.2.2.1, z, if_pos (by decide), c2.2.1, c2.2.2.2.1]
        congr 4
        show _ + 1 + 1 = _
        omega
      · obtain ⟨M4, m1, m2, m3, m4, m5⟩ := mst M hM
        have t2R : ∀ a k, mR M4 a k = mR M a k := fun a k => by unfold mR; rw [m5]
        refine ⟨M4, ?_, ?_, (m4 213 0 (by omega)).2.1, (hC.t hB'.r0 hB'.r1 0).s hB'.r0 hB'.r1 (m4.sub fun a k p => by omega) (fun a k _ => t2R a k), (hM.t 0).out (m4.sub fun a k p => by omega) t2R m2.2.2⟩
        · rw [m1, z, if_pos (by decide), m2.2.2.1]
          congr 3
          show _ + 1 + 1 = _
          omega
        · rw [(m4 204 0 (by omega)).1, mI_same]
    · obtain ⟨M5, d1, d2, d3, d4, d5⟩ := C_appO (by omega) c2 c3 (x := 114) (by omega) (by show _ + 1 + 1 < 60; omega)
      obtain ⟨M6, f1, f2, f3, f4, f5⟩ := C_appO (by omega) d2 d3 (x := 48 + Z.1.1 (bs s + 5)) (by omega) (by show _ + 1 + 1 + 1 < 60; omega)
      have hB' := hB.out f3
      have tot6 : Same (fun a _ => a ≠ 202 ∧ a ≠ 203) M M6 := (tot.trans d4).trans f4
      have tot6R : ∀ a k, mR M6 a k = mR M a k := fun a k => by unfold mR; rw [f5, d5, c5, b5, a5]; rfl
      refine callA (fc := F_X8_renderMask 1 (nI s)) (kp := keepI) (Z := Z) (v := nI (Z.1.1 (bs s + 2) + 4)) (M1 := M6) hB hB' ?_ (hC.out hB tot6 tot6R f2.2.2.2) (hM.s (tot6.sub fun a k p => by omega) (fun a k _ => tot6R a k)) (fun M => rfl) (fun M hC hM => ?_)
      · rw [st, c2.1.2.2.2.2.2.1, if_neg (nI_nle z (by omega)), show (114 : Int32) = nI 114 from rfl, d1, b1_s, d2.1.2.2.2.2.2.1, digit_s (by omega), ob_s, f1, b1_s, f2.2.1, f2.2.2.2.1]
        congr 4
        show _ + 1 + 1 + 1 + 1 = _
        omega
      · obtain ⟨M4, m1, m2, m3, m4, m5⟩ := mst M hM
        obtain ⟨M5, d1, d2, d3, d4, d5⟩ := F_wrO m2 m3 (x := 114) (by omega) (by show _ + 1 + 1 < 60; omega)
        obtain ⟨M6, f1, f2, f3, f4, f5⟩ := F_wrO d2 d3 (x := 48 + Z.1.1 (bs s + 5)) (by omega) (by show _ + 1 + 1 + 1 < 60; omega)
        have t2 : Same KpO (sI M 204 0 0) M6 := (m4.trans d4).trans f4
        have t2R : ∀ a k, mR M6 a k = mR M a k := fun a k => by unfold mR; rw [f5, d5, m5]
        refine ⟨M6, ?_, ?_, (t2 213 0 (by omega)).2.1, (hC.t hB'.r0 hB'.r1 0).s hB'.r0 hB'.r1 (t2.sub fun a k p => by omega) (fun a k _ => t2R a k), (hM.t 0).out (t2.sub fun a k p => by omega) t2R f2.2.2⟩
        · rw [m1, if_neg (nI_nle z (by omega)), show (114 : Int32) = nI 114 from rfl, d1, b1_s, show (5 : Int32) = nI 5 from rfl, F_of d2.1 d2.2.1 (by omega), ob_s, show (48 : Int32) = nI 48 from rfl, nI_add, f1, b1_s, f2.2.2.1]
          congr 3
          show _ + 1 + 1 + 1 + 1 = _
          omega
        · rw [(t2 204 0 (by omega)).1, mI_same]
theorem call_type (h : GI B M) (p : Int32) : Call B M (F_L_type 1 p 213) (F_X9_type 204 p) := by
  obtain ⟨Z, hB, hC, hM⟩ := h
  obtain ⟨l60, hch⟩ := hB.2.2.2.1
  by_cases hp : p < 32 ∨ 126 < p
  · refine callT (fc := F_X8_type 1 p) (kp := keepI) (Z := Z) (Z' := Z) (M1 := M) (E := "java/lang/IllegalArgumentException") (c := 1) (b := 0) hB ?_ hC hM (by decide) (fun M => rfl) (fun M hC hM => ?_)
    · unfold F_X8_type
      by_cases p1 : p < 32
      · rw [if_pos p1]
      · rw [if_neg p1, if_neg (fun z => hp.elim p1 (fun y => (fa_of_lt y).2.1 z))]
    · refine ⟨sI M 204 0 1, ?_, mI_same _ _ _ _, hC.t hB.r0 hB.r1 1, hM.t 1⟩
      unfold F_X9_type
      rw [lt_v, F_bet, ob_s, if_pos hp, if_pos rfl, F_failsT, b1_s, sI_sI]
  have p1 : ¬ p < 32 := fun z => hp (Or.inl z)
  have p2 := fa_of_nlt (fun z => hp (Or.inr z))
  obtain ⟨x, hx, rfl⟩ := nI_of (x := p) (fun z => p1 (fa_trans z (by decide)))
  have x1 : 32 ≤ x := by
    rw [show (32 : Int32) = nI 32 from rfl, nI_ltI hx (by decide)] at p1; omega
  have x2 : x ≤ 126 := by
    rwa [show (126 : Int32) = nI 126 from rfl, nI_leI hx (by decide)] at p2
  have rT : mR M (mR M 1 6) 0 = 175 := by rw [hC.1.1.2.2.2.2.2.1]; exact hC.1.2.2.2.2.1.2.1
  rcases (show Z.2.2.2.1.2 = 60 ∨ Z.2.2.2.1.2 < 60 by omega) with z | z
  · refine callT (fc := F_X8_type 1 (nI x)) (kp := keepI) (Z := Z) (Z' := Z) (M1 := M) (E := "java/lang/IllegalStateException") (c := 2) (b := 0) hB ?_ hC hM (by decide) (fun M => rfl) (fun M hC hM => ?_)
    · unfold F_X8_type F_X6_isFull
      rw [if_neg p1, if_pos p2, rT, hC.2.2.2.2.1.1, z, if_neg (by decide), ob_s, if_neg (by decide)]
    · refine ⟨sI M 204 0 2, ?_, mI_same _ _ _ _, hC.t hB.r0 hB.r1 2, hM.t 2⟩
      unfold F_X9_type
      rw [lt_v, F_bet, ob_s, if_neg hp, if_neg (by decide), mI_diff _ (Or.inr (by decide)), hM.2.2.2.2.1.1, z, if_pos (by decide), F_failsT, b1_s, sI_sI]
  · have hTO : OB Z.2.2.2.1 := ⟨l60, fun k hk => by have := hch k hk; omega⟩
    obtain ⟨M1, g1, g2, g3, g4⟩ := C_app (M := M) (a := 175) (c := 176) (x := x) hC.1.2.2.2.2.1.2.2.2.1 (by decide) hC.2.2.2.2.1 hTO (by omega) z
    have totR : ∀ a k, mR M1 a k = mR M a k := fun a k => by unfold mR; rw [g4]
    have hB' : BI B (Z.1, Z.2.1, Z.2.2.1, appT Z.2.2.2.1 x, Z.2.2.2.2) := ⟨hB.1, hB.2.1, hB.2.2.1, ⟨z, fun k hk => by
      show 32 ≤ upR _ _ x k ∧ upR _ _ x k < 127
      unfold upR
      split
      · omega
      · exact hch k (by change k < Z.2.2.2.1.2 + 1 at hk; omega)⟩, hB.2.2.2.2⟩
    refine callA (fc := F_X8_type 1 (nI x)) (kp := keepI) (Z := Z) (Z' := (Z.1, Z.2.1, Z.2.2.1, appT Z.2.2.2.1 x, Z.2.2.2.2)) (v := nI (Z.2.2.2.1.2 + 1)) (M1 := M1) hB hB' ?_ ⟨hC.1.r fun a k _ => totR a k, hC.2.1.s hB.r0 (g3.sub fun a k p => by omega), hC.2.2.1.s hB.r1 (g3.sub fun a k p => by omega), hC.2.2.2.1.s (g3.sub fun a k p => by omega), g2, hC.2.2.2.2.2.s (g3.sub fun a k p => by omega)⟩ (hM.s (g3.sub fun a k p => by omega) (fun a k _ => totR a k)) (fun M => rfl) (fun M hC hM => ?_)
    · unfold F_X8_type F_X6_isFull
      rw [if_neg p1, if_pos p2, rT, hC.2.2.2.2.1.1, show (60 : Int32) = nI 60 from rfl, if_pos (nI_lt z (by omega)), ob_s, if_pos rfl, g1, b1_s, totR, totR, rT, g2.1]
      rfl
    · have hM0 := hM.t 0
      have hC0 := hC.t hB'.r0 hB'.r1 0
      have q := (show TX (sI M 204 0 0) 204 12 211 Z.2.2.2.1 from hM0.2.2.2.2.1).app (by decide) x
      have t2 : Same (fun a k => a ≠ 211 ∧ ¬ (a = 204 ∧ k = 12)) (sI M 204 0 0) (sI (sI (sI M 204 0 0) 211 Z.2.2.2.1.2 (nI x)) 204 12 (nI (Z.2.2.2.1.2 + 1))) := ((Same.sI _ _ _ _).sub fun b k p => by omega).trans ((Same.sI _ _ _ _).sub fun b k p => by omega)
      refine ⟨sI (sI (sI M 204 0 0) 211 Z.2.2.2.1.2 (nI x)) 204 12 (nI (Z.2.2.2.1.2 + 1)), ?_, ?_, (t2 213 0 (by omega)).2.1, hC0.s hB'.r0 hB'.r1 (t2.sub fun a k p => by omega) (fun a k _ => rfl), hM0.1.r fun a k _ => rfl, hM0.2.1.s (t2.sub fun a k p => by omega), hM0.2.2.1.s (t2.sub fun a k p => by omega), hM0.2.2.2.1.s (t2.sub fun a k p => by omega), q, hM0.2.2.2.2.2.s (t2.sub fun a k p => by omega)⟩
      · have e12 : mI (sI M 204 0 0) 204 12 = nI Z.2.2.2.1.2 := hM0.2.2.2.2.1.1
        unfold F_X9_type
        rw [lt_v, F_bet, ob_s, if_neg hp, if_neg (by decide), e12, show (60 : Int32) = nI 60 from rfl, if_neg (fun y => by have := (nI_eq (by omega) (by omega)).mp y; omega), chk_t (inb_n z (by decide)), nI_clamp (by omega), mR_sI, hM.1.2.2.2.2.2.2.1, nar_c (by omega), lt_v, mI_diff _ (Or.inl (by decide)), e12, nI_1, lt_v, mI_same]
      · rw [(t2 204 0 (by omega)).1, mI_same]
end RENDER
