/-! PURE LEVEL: undo, save, restore; output and errors read; signs typed -/
section CALLS2
variable {B : Nat} {M : Mem}
theorem call_undo (h : GI B M) : Call B M (F_L_undo 1 213) (F_X9_undo 204) := by
  obtain ⟨Z, hB, hC, hM⟩ := h
  obtain ⟨hS, nx, hH⟩ := hC.2.1
  have en : mI M (mR M 1 4) 2 = nI Z.1.2.2 := by rw [hC.1.1.2.2.2.1]; exact hH.2.2.2.1
  have n8 := hH.1
  rcases Nat.eq_zero_or_pos Z.1.2.2 with z | z
  · refine callT (fc := F_X8_undo 1) (kp := keepI) (Z := Z) (Z' := Z) (E := "java/lang/IllegalStateException") (c := 1) (b := 0) hB ?_ hC hM (by decide) (fun M => rfl) (fun M hC hM => ?_)
    · unfold F_X8_undo
      rw [en, z, if_pos nI_0]
    · obtain ⟨fc, q1, q2, q3, -⟩ := hM.2.1.2
      refine ⟨sI M 204 0 1, ?_, mI_same _ _ _ _, hC.t hB.r0 hB.r1 1, hM.t 1⟩
      unfold F_X9_undo
      rw [lt_v, mI_diff _ (Or.inr (by decide)), q3, z, if_pos nI_0, F_failsT, b1_s, sI_sI]
  · obtain ⟨n, hn⟩ : ∃ n, Z.1.2.2 = n + 1 := ⟨Z.1.2.2 - 1, by omega⟩
    rw [hn] at hH en
    obtain ⟨M1, nx', g1, g2, g3, g4, g5⟩ := C_stepBack hC.1.2.2.2.1 hH hS.shape
    have eR : ∀ a k, mR M1 a k = mR M a k := fun a k => by unfold mR; rw [g5]
    have eS : Same (fun a k => ¬ (2 ≤ a ∧ a < 16) ∧ a ≠ 44) M M1 := fun a k p => ⟨(g4 a k p.1 p.2).1, (g4 a k p.1 p.2).2, eR a k⟩
    have hB' : BI B ((Z.1.2.1 n, Z.1.2.1, n), Z.2) := ⟨⟨hB.1.2 n (by omega), fun j hj => hB.1.2 j (by change j < n at hj; omega)⟩, hB.2⟩
    refine callA (fc := F_X8_undo 1) (kp := keepI) (Z := Z) (Z' := ((Z.1.2.1 n, Z.1.2.1, n), Z.2)) (v := nI n) (M1 := M1) hB hB' ?_ (hC.chg hB.r1 (eS.sub fun a k p => by omega) (fun a k _ => eR a k) ⟨g3, nx', g2⟩) (hM.s (eS.sub fun a k p => by omega) (fun a k _ => eR a k)) (fun M => rfl) (fun M hC hM => ?_)
    · unfold F_X8_undo
      rw [en, if_neg (nI_ne0 (by omega) (by omega)), hC.1.1.2.2.2.1, hC.1.1.1, g1, b1_s, eR, hC.1.1.2.2.2.1, g2.2.2.2.1]
    · obtain ⟨hw, fc, q1, q2, q3, q4, q5⟩ := hM.2.1
      rw [hn] at q1 q3 q5
      have e0 : Same (fun a k => ¬ (a = 204 ∧ (k = 0 ∨ k = 6))) M (sI (sI M 204 0 0) 204 6 (nI n)) := ((Same.sI M 204 0 0).sub fun a k p => by omega).trans ((Same.sI _ 204 6 _).sub fun a k p => by omega)
      have L0 : LM (sI (sI M 204 0 0) 204 6 (nI n)) := hM.1.r fun a k _ => rfl
      obtain ⟨M2, k1, k2, k3⟩ := F_undo_L1 ((fc + n) % 8) (by omega) (fun (x16 : Int32) (M17 : Mem) =>
    some (mI M17 204 6, M17)) 260 0 3000 (sI (sI M 204 0 0) 204 6 (nI n)) L0 (by omega) (by omega)
      have e1 := Same.only k3
      have tot : Same (fun a k => a ≠ 205 ∧ ¬ (a = 204 ∧ (k = 0 ∨ k = 6))) M M2 := (e0.sub fun a k p => by omega).trans (e1.sub fun a k p => by omega)
      have totR : ∀ a k, mR M2 a k = mR M a k := fun a k => only_r k3 a k
      have m6 : mI M2 204 6 = nI n := by rw [k3.1 _ _ (by decide), mI_same]
      refine ⟨M2, ?_, ?_, (tot 213 0 (by omega)).2.1, hC.s hB'.r0 hB'.r1 (tot.sub fun a k p => by omega) (fun a k _ => totR a k), hM.1.r fun a k _ => totR a k, ⟨fun k hk => ?_, fc, by show n ≤ 8; omega, q2, m6, ?_, fun j hj k hk => ?_⟩, hM.2.2.1.s (tot.sub fun a k p => by omega), hM.2.2.2.1.s (tot.sub fun a k p => by omega), hM.2.2.2.2.1.s (tot.sub fun a k p => by omega), hM.2.2.2.2.2.s (tot.sub fun a k p => by omega)⟩
      · unfold F_X9_undo
        rw [lt_v, mI_diff _ (Or.inr (by decide)), q3, if_neg (nI_ne0 (by omega) (by omega)), nI_pred, lt_v, mI_same, mI_diff _ (Or.inr (by decide)), mI_diff _ (Or.inr (by decide)), q4, show (8 : Int32) = nI 8 from rfl, nI_add, nI_rem (by omega) (by decide) (by decide), lt_v, show (0 : Int32) = nI 0 from rfl]
        rw [show (0 : Int32) = nI 0 from rfl] at k1
        rw [k1, m6]
      · rw [k3.1 _ _ (by decide), mI_diff _ (Or.inr (by decide)), mI_same]
      · rw [k2, if_pos (by omega), mI_diff _ (Or.inl (by decide)), mI_diff _ (Or.inl (by decide))]
        show mI M 206 (260 * ((fc + n) % 8) + k) = _
        exact q5 n (by omega) k hk
      · rw [(tot 204 7 (by omega)).1]; exact q4
      · rw [(tot 206 _ (by omega)).1]; exact q5 j (by change j < n at hj; omega) k hk
theorem call_save (h : GI B M) : ∃ v M1 M2, F_X8_save 1 M = some (v, M1) ∧ F_X9_save 204 M1 = some (v, M2) ∧ GI B M2 := by
  obtain ⟨Z, hB, hC, hM⟩ := h
  have hS := hC.2.1.1
  obtain ⟨M1, g1, g2, g3⟩ := C_copy (x := 30) (y := 2) (by omega) hC.1.2.2.1 hS hB.r0
  have e0 := Same.blk g3
  have e1 := Same.sI M1 1 3 1
  have tot : Same (fun a k => ¬ (30 ≤ a ∧ a < 44) ∧ ¬ (a = 1 ∧ k = 3)) M (sI M1 1 3 1) := (e0.sub fun a k p => by omega).trans (e1.sub fun a k p => by omega)
  have totR : ∀ a k, mR (sI M1 1 3 1) a k = mR M a k := fun a k => by rw [mR_sI]; exact blk_r g3 a k
  have hB' : BI B (Z.1, (Z.1.1, 1), Z.2.2) := ⟨hB.1, ⟨by show 1 < 2; omega, fun _ => hB.1.1⟩, hB.2.2⟩
  have hC' : CI (sI M1 1 3 1) (Z.1, (Z.1.1, 1), Z.2.2) := ⟨hC.1.r fun a k _ => totR a k, hC.2.1.s hB.r0 (tot.sub fun a k p => by omega), ⟨mI_same _ _ _ _, fun _ => g2.s hB.r0 (e1.sub fun a k p => by omega)⟩, hC.2.2.2.1.s (tot.sub fun a k p => by omega), hC.2.2.2.2.1.s (tot.sub fun a k p => by omega), hC.2.2.2.2.2.s (tot.sub fun a k p => by omega)⟩
  have hM' : MI (sI M1 1 3 1) Z := hM.s (tot.sub fun a k p => by omega) (fun a k _ => totR a k)
  have hM0 := hM'.t 0
  have hC0 := hC'.t hB'.r0 hB'.r1 0
  obtain ⟨M2, k1, k2, k3⟩ := F_save_L1 (fun (x13 : Int32) (M14 : Mem) =>
  lt (sI M14 204 8 1) (fun (M15 : Mem) =>
  chk (inb 0 260) (
  some (mI M15 (mR M15 204 1) 0, M15)))) 260 0 3000 _ hM0.1 (by omega) (by omega)
  have e2 := Same.only k3
  have e3 := Same.sI M2 204 8 1
  have t2 : Same (fun a k => a ≠ 207 ∧ ¬ (a = 204 ∧ k = 8)) (sI (sI M1 1 3 1) 204 0 0) (sI M2 204 8 1) := (e2.sub fun a k p => by omega).trans (e3.sub fun a k p => by omega)
  have t2R : ∀ a k, mR (sI M2 204 8 1) a k = mR (sI (sI M1 1 3 1) 204 0 0) a k := fun a k => by rw [mR_sI]; exact only_r k3 a k
  refine ⟨nI (Z.1.1 0), sI M1 1 3 1, sI M2 204 8 1, ?_, ?_, (Z.1, (Z.1.1, 1), Z.2.2), hB', hC0.s hB'.r0 hB'.r1 (t2.sub fun a k p => by omega) (fun a k _ => t2R a k), hM0.1.r fun a k _ => t2R a k, hM0.2.1.s (t2.sub fun a k p => by omega), ⟨mI_same _ _ _ _, fun _ k hk => ?_⟩, hM0.2.2.2.1.s (t2.sub fun a k p => by omega), hM0.2.2.2.2.1.s (t2.sub fun a k p => by omega), hM0.2.2.2.2.2.s (t2.sub fun a k p => by omega)⟩
  · unfold F_X8_save
    rw [hC.1.1.2.2.1, hC.1.1.1, g1, b1_s, lt_v, show mR (sI M1 1 3 1) 1 0 = 2 from (totR 1 0).trans hC.1.1.1, show mI (sI M1 1 3 1) 2 1 = nI (Z.1.1 0) from (tot 2 1 (by omega)).1.trans hS.2.1.1]
  · unfold F_X9_save
    rw [show (0 : Int32) = nI 0 from rfl] at k1 ⊢
    rw [lt_v, k1, lt_v, chk_t (by decide), t2R, hM0.1.1, show mI (sI M2 204 8 1) 205 0 = nI (Z.1.1 0) from (t2 205 0 (by omega)).1.trans (hM0.2.1.1 0 (by decide))]
  · rw [mI_diff _ (Or.inl (by decide)), k2, if_pos (by omega)]
    exact hM0.2.1.1 k hk
theorem call_restore (h : GI B M) : Call B M (F_L_restore 1 213) (F_X9_restore 204) := by
  obtain ⟨Z, hB, hC, hM⟩ := h
  have b2 := hB.2.1.1
  have eb : mI M 1 3 = nI Z.2.1.2 := hC.2.2.1.1
  rcases (show Z.2.1.2 = 0 ∨ Z.2.1.2 = 1 by omega) with z | z
  · refine callT (fc := F_X8_restore 1) (kp := keepI) (Z := Z) (Z' := Z) (E := "java/lang/IllegalStateException") (c := 1) (b := 0) hB ?_ hC hM (by decide) (fun M => rfl) (fun M hC hM => ?_)
    · unfold F_X8_restore
      rw [eb, z, if_pos nI_0]
    · refine ⟨sI M 204 0 1, ?_, mI_same _ _ _ _, hC.t hB.r0 hB.r1 1, hM.t 1⟩
      unfold F_X9_restore
      rw [lt_v, mI_diff _ (Or.inr (by decide)), hM.2.2.1.1, z, if_pos nI_0, F_failsT, b1_s, sI_sI]
  · have hS := hC.2.2.1.2 z
    have r0 := hB.r1 z
    obtain ⟨M1, g1, g2, g3⟩ := C_copy (x := 2) (y := 30) (by omega) hC.2.1.1.shape hS r0
    obtain ⟨-, nx, hH⟩ := hC.2.1
    have e0 := Same.blk g3
    have e1 := Same.sI M1 44 2 0
    have tot : Same (fun a k => ¬ (2 ≤ a ∧ a < 16) ∧ ¬ (a = 44 ∧ k = 2)) M (sI M1 44 2 0) := (e0.sub fun a k p => by omega).trans (e1.sub fun a k p => by omega)
    have totR : ∀ a k, mR (sI M1 44 2 0) a k = mR M a k := fun a k => by rw [mR_sI]; exact blk_r g3 a k
    have hB' : BI B ((Z.2.1.1, Z.1.2.1, 0), Z.2) := ⟨⟨hB.2.1.2 z, fun j hj => absurd hj (Nat.not_lt_zero _)⟩, hB.2⟩
    refine callA (fc := F_X8_restore 1) (kp := keepI) (Z := Z) (Z' := ((Z.2.1.1, Z.1.2.1, 0), Z.2)) (v := nI (Z.2.1.1 0)) (M1 := sI M1 44 2 0) hB hB' ?_ (hC.chg hB.r1 (tot.sub fun a k p => by omega) (fun a k _ => totR a k) ⟨g2.s r0 (e1.sub fun a k p => by omega), nx, Nat.zero_le _, hH.2.1, ?_, mI_same _ _ _ _, fun j hj => absurd hj (Nat.not_lt_zero _)⟩) (hM.s (tot.sub fun a k p => by omega) (fun a k _ => totR a k)) (fun M => rfl) (fun M hC hM => ?_)
    · unfold F_X8_restore F_X2_forget
      rw [eb, z, if_neg (by decide), hC.1.1.1, hC.1.1.2.2.1, g1, b1_s, blk_r g3, hC.1.1.2.2.2.1, lt_v, b1_s, totR, hC.1.1.1, mI_diff _ (Or.inl (by decide)), g2.2.1.1]
    · rw [(tot 44 1 (by omega)).1]; exact hH.2.2.1
    · have hM0 := hM.t 0
      have hC0 := hC.t hB'.r0 hB'.r1 0
      obtain ⟨M2, k1, k2, k3⟩ := F_restore_L1 (fun (x14 : Int32) (M15 : Mem) =>
    lt (sI M15 204 6 0) (fun (M16 : Mem) =>
    lt (sI M16 204 7 0) (fun (M17 : Mem) =>
    chk (inb 0 260) (
    some (mI M17 (mR M17 204 1) 0, M17))))) 260 0 3000 _ hM0.1 (by omega) (by omega)
      have e2 := Same.only k3
      have e3 := Same.sI M2 204 6 0
      have e4 := Same.sI (sI M2 204 6 0) 204 7 0
      have t2 : Same (fun a k => a ≠ 205 ∧ ¬ (a = 204 ∧ (k = 6 ∨ k = 7))) (sI M 204 0 0) (sI (sI M2 204 6 0) 204 7 0) := ((e2.sub fun a k p => by omega).trans (e3.sub fun a k p => by omega)).trans (e4.sub fun a k p => by omega)
      have t2R : ∀ a k, mR (sI (sI M2 204 6 0) 204 7 0) a k = mR (sI M 204 0 0) a k := fun a k => only_r k3 a k
      have hw : WA (sI (sI M2 204 6 0) 204 7 0) 205 260 Z.2.1.1 := fun k hk => by
        rw [mI_diff _ (Or.inl (by decide)), mI_diff _ (Or.inl (by decide)), k2, if_pos (by omega)]
        exact hM0.2.2.1.2 z k hk
      refine ⟨sI (sI M2 204 6 0) 204 7 0, ?_, ?_, (t2 213 0 (by omega)).2.1, hC0.s hB'.r0 hB'.r1 (t2.sub fun a k p => by omega) (fun a k _ => t2R a k), hM0.1.r fun a k _ => t2R a k, ⟨hw, 0, Nat.zero_le _, by decide, ?_, mI_same _ _ _ _, fun j hj => absurd hj (Nat.not_lt_zero _)⟩, hM0.2.2.1.s (t2.sub fun a k p => by omega), hM0.2.2.2.1.s (t2.sub fun a k p => by omega), hM0.2.2.2.2.1.s (t2.sub fun a k p => by omega), hM0.2.2.2.2.2.s (t2.sub fun a k p => by omega)⟩
      · unfold F_X9_restore
        rw [show (0 : Int32) = nI 0 from rfl] at k1
        rw [lt_v, mI_diff _ (Or.inr (by decide)), hM.2.2.1.1, show Z.2.1.2 = 1 from z, if_neg (by decide), show (0 : Int32) = nI 0 from rfl, k1, lt_v, lt_v, chk_t (by decide), show mR (sI (sI M2 204 6 (nI 0)) 204 7 (nI 0)) 204 1 = 205 from (t2R 204 1).trans hM0.1.1, show mI (sI (sI M2 204 6 (nI 0)) 204 7 (nI 0)) 205 0 = nI (Z.2.1.1 0) from hw 0 (by decide)]
      · rw [(t2 204 0 (by omega)).1, mI_same]
      · rw [mI_diff _ (Or.inr (by decide)), mI_same]; rfl
theorem call_errorPosition (h : GI B M) : Call B M (F_L_errorPosition 1 213) (F_X9_errorPosition 204) := by
  refine callQ (fc := F_X8_errorPosition 1) (kp := keepI) h fun Z hB => ?_
  rcases hB.2.2.2.2.1 with e | ⟨n, hn, e⟩
  · refine Or.inr ⟨"java/util/NoSuchElementException", 1, 0, .pure fun M hC _ => ?_, .thrown fun M hM _ => ⟨sI M 204 0 1, ?_, mI_same _ _ _ _, Same.sI _ _ _ _, rfl⟩, by decide, fun M => rfl⟩
    · unfold F_X8_errorPosition
      rw [hC.2.2.2.2.2.1, e, if_pos rfl]
    · unfold F_X9_errorPosition
      rw [lt_v, mI_diff _ (Or.inr (by decide)), hM.2.2.2.2.2.1, e, if_neg (by decide), F_failsT, b1_s, sI_sI]
  · refine Or.inl ⟨nI n, .pure fun M hC _ => ?_, .thrown fun M hM _ => ⟨sI M 204 0 0, ?_, mI_same _ _ _ _, Same.sI _ _ _ _, rfl⟩, fun M => rfl⟩
    · unfold F_X8_errorPosition
      rw [hC.2.2.2.2.2.1, e, if_neg (nI_nneg (by omega)).1]
    · unfold F_X9_errorPosition
      rw [lt_v, mI_diff _ (Or.inr (by decide)), hM.2.2.2.2.2.1, e, if_pos (nI_pos' (by omega))]
theorem call_failedCommand (h : GI B M) : Call B M (F_L_failedCommand 1 213) (F_X9_failedCommand 204) := by
  refine callQ (fc := F_X8_failedCommand 1) (kp := keepI) h fun Z hB => ?_
  rcases hB.2.2.2.2.2 with e | ⟨n, hn, e⟩
  · refine Or.inr ⟨"java/util/NoSuchElementException", 1, 0, .pure fun M hC _ => ?_, .thrown fun M hM _ => ⟨sI M 204 0 1, ?_, mI_same _ _ _ _, Same.sI _ _ _ _, rfl⟩, by decide, fun M => rfl⟩
    · unfold F_X8_failedCommand
      rw [hC.2.2.2.2.2.2, e, if_pos rfl]
    · unfold F_X9_failedCommand
      rw [lt_v, mI_diff _ (Or.inr (by decide)), hM.2.2.2.2.2.2, e, if_neg (by decide), F_failsT, b1_s, sI_sI]
  · refine Or.inl ⟨nI n, .pure fun M hC _ => ?_, .thrown fun M hM _ => ⟨sI M 204 0 0, ?_, mI_same _ _ _ _, Same.sI _ _ _ _, rfl⟩, fun M => rfl⟩
    · unfold F_X8_failedCommand
      rw [hC.2.2.2.2.2.2, e, if_neg (nI_nneg (by omega)).1]
    · unfold F_X9_failedCommand
      rw [lt_v, mI_diff _ (Or.inr (by decide)), hM.2.2.2.2.2.2, e, if_pos (nI_pos' (by omega))]
theorem cast16 {n : Nat} (h : n < 65536) : ((nI n).toUInt32 % 65536).toInt32 = nI n := by
  show ((UInt32.ofNat n) % 65536).toInt32 = (UInt32.ofNat n).toInt32
  apply congrArg
  apply UInt32.toNat_inj.mp
  rw [UInt32.toNat_mod, UInt32.toNat_ofNat']
  show n % 2 ^ 32 % 65536 = n % 2 ^ 32
  omega
theorem call_outputAt (h : GI B M) (p : Int32) : Call B M (F_L_outputAt 1 p 213) (F_X9_outputAt 204 p) := by
  refine callQ (fc := F_X8_outputAt 1 p) (kp := keepI) h fun Z hB => ?_
  obtain ⟨o60, oc⟩ := hB.2.2.1
  by_cases hp : outR p Z.2.2.1.2
  · refine Or.inr ⟨"java/lang/IndexOutOfBoundsException", 1, 0, .pure fun M hC _ => ?_, .thrown fun M hM _ => ⟨sI M 204 0 1, ?_, mI_same _ _ _ _, Same.sI _ _ _ _, rfl⟩, by decide, fun M => rfl⟩
    · unfold F_X8_outputAt F_X6_has
      rw [hC.1.1.2.2.2.2.2.2, hC.2.2.2.1.1]
      by_cases p0 : p < 0
      · rw [if_pos p0, ob_s, if_pos rfl]
      · rw [if_neg p0, if_pos (hp.elim (fun z => absurd z p0) id), ob_s, if_pos rfl]
    · unfold F_X9_outputAt
      rw [lt_v, mI_diff _ (Or.inr (by decide)), hM.2.2.2.1.1]
      have e : F_X9_isBetween p 0 (nI Z.2.2.1.2 - 1) = some 0 := by
        rcases Nat.eq_zero_or_pos Z.2.2.1.2 with z | z
        · rw [z, F_bet]
          rw [z] at hp
          congr 1
          refine if_pos ?_
          rcases hp with hp | hp
          · exact Or.inl hp
          · exact Or.inr (fa_trans (b := nI 0) (by decide) hp)
        · rw [F_bet0 p z (by omega), if_pos hp]
      rw [e, ob_s, if_pos rfl, F_failsT, b1_s, chk_t (by decide), sI_sI]; rfl
  · obtain ⟨k, hk, rfl⟩ := in_of hp (by omega)
    have hc := oc k hk
    refine Or.inl ⟨nI (Z.2.2.1.1 k), .pure fun M hC _ => ?_, .thrown fun M hM _ => ⟨sI M 204 0 0, ?_, mI_same _ _ _ _, Same.sI _ _ _ _, rfl⟩, fun M => rfl⟩
    · unfold F_X8_outputAt F_X6_has F_X6_signAt
      rw [hC.1.1.2.2.2.2.2.2, hC.2.2.2.1.1, if_neg (nI_pos (by omega)), if_neg (nI_ge hk (by omega)), show (60 : Int32) = nI 60 from rfl, if_neg (nI_ge (by omega) (by omega)), ob_s, if_neg (by decide), if_neg (nI_pos (by omega)), if_neg (nI_ge hk (by omega)), if_neg (nI_ge (by omega) (by omega)), chk_t (inb_n (by omega) (by decide)), nI_clamp (by omega), hC.1.2.2.2.2.1.2.2.2.2, hC.2.2.2.1.2 k hk, chk_t (nokC_nI (by omega)), ob_s, chk_t (nokC_nI (by omega))]
    · unfold F_X9_outputAt
      rw [lt_v, mI_diff _ (Or.inr (by decide)), hM.2.2.2.1.1, F_bet0 _ (by omega) (by omega), ob_s, if_neg hp, if_neg (by decide), chk_t (inb_n (by omega) (by decide)), nI_clamp (by omega), mR_sI, hM.1.2.2.2.2.2.1, mI_diff _ (Or.inl (by decide)), hM.2.2.2.1.2 k hk, chk_t (nokC_nI (by omega))]
end CALLS2
