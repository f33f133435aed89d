/-! PURE LEVEL: means and shares -/
theorem nn64_of {r : UInt64} (h : FP.dIsNaN r = false) : nn64 r = true := by
  have h1 : ¬ FP.Core.dIsNaN r = true := by rw [show FP.Core.dIsNaN r = false from h]; decide
  rw [FP.Core.isNaN_bits] at h1
  unfold nn64
  rw [decide_eq_true_eq, UInt64.le_iff_toNat_le, UInt64.toNat_and]
  show r.toNat &&& (2 ^ 63 - 1) ≤ 9218868437227405312
  rw [Nat.and_two_pow_sub_one_eq_mod]
  omega
theorem nn32_of {r : UInt32} (h : FP.fIsNaN r = false) : nn32 r = true := by
  have h1 : ¬ FP.Core.fIsNaN r = true := by rw [show FP.Core.fIsNaN r = false from h]; decide
  rw [FP.Core.isNaN_bits32] at h1
  unfold nn32
  rw [decide_eq_true_eq, UInt32.le_iff_toNat_le, UInt32.toNat_and]
  show r.toNat &&& (2 ^ 31 - 1) ≤ 2139095040
  rw [Nat.and_two_pow_sub_one_eq_mod]
  omega
theorem nI_nz {n : Nat} (h0 : 0 < n) (h : n < 2 ^ 31) : nI n ≠ 0 := nI_ne0 h0 h
theorem mean_ok (a : Int32) {b : Int32} (hb : b ≠ 0) : nn64 (FP.ddiv (FP.i2d a) (FP.i2d b)) = true :=
  nn64_of (FP.Core.ddiv_out (FP.Core.i2d_fin a).notNaN (FP.Core.i2d_fin b) (fun z => FP.Core.i2d_ne_zero hb ((FP.Core.zero_bits2 _).mp z)))
theorem share_nan (a : Int32) {b : Int32} (hb : b ≠ 0) : FP.fIsNaN (FP.fdiv (FP.i2f a) (FP.i2f b)) = false :=
  FP.Core.fdiv_out (FP.Core.i2f_fin a).notNaN (FP.Core.i2f_fin b) (fun z => FP.Core.i2f_ne_zero hb ((FP.Core.zero_bits232 _).mp z))
theorem share_ok (a : Int32) {b : Int32} (hb : b ≠ 0) : nn32 (FP.fdiv (FP.i2f a) (FP.i2f b)) = true := nn32_of (share_nan a hb)
theorem share_ok2 (a : Int32) {b : Int32} (hb : b ≠ 0) : nn64 (FP.f2d (FP.fdiv (FP.i2f a) (FP.i2f b))) = true := nn64_of (by rw [FP.f2d_nan]; exact share_nan a hb)
theorem l2d_i {n : Nat} (h : n < 2 ^ 31) : FP.l2d (lN n) = FP.i2d (nI n) := by
  rw [← nI_l h]
  exact (FP.Core.i2d_l2d (nI n)).symm
/-- a call that answers a double, or throws -/
def CallD (B : Nat) (M : Mem) (fl : Mem → Option (Int32 × Mem)) (fm : Mem → Option (UInt64 × Mem)) : Prop :=
  ∃ k M1 b M2, fl M = some (k, M1) ∧ fm M1 = some (b, M2) ∧ mI M2 204 0 = k ∧ (k = 0 → mD M2 214 0 = b ∧ nn64 b = true) ∧ GI B M2
def CallF (B : Nat) (M : Mem) (fl : Mem → Option (Int32 × Mem)) (fm : Mem → Option (UInt32 × Mem)) : Prop :=
  ∃ k M1 b M2, fl M = some (k, M1) ∧ fm M1 = some (b, M2) ∧ mI M2 204 0 = k ∧ (k = 0 → mD M2 214 0 = FP.f2d b ∧ nn64 (FP.f2d b) = true) ∧ GI B M2
theorem CI.d {M : Mem} {Z : ZS} {B : Nat} (h : CI M Z) (hB : BI B Z) (x : UInt64) : CI (sD M 214 0 x) Z := h.s hB.r0 hB.r1 ((Same.sD M 214 0 x).sub fun a k p => trivial) (fun a k _ => rfl)
theorem MI.d {M : Mem} {Z : ZS} (h : MI M Z) (x : UInt64) : MI (sD M 214 0 x) Z := h.s ((Same.sD M 214 0 x).sub fun a k p => trivial) (fun a k _ => rfl)
section MEAN
variable {B : Nat} {M : Mem}
theorem call_meanTotal (h : GI B M) (hB0 : B ≤ 2 ^ 20) : CallD B M (F_L_meanTotal 1 214) (F_X9_meanTotal 204) := by
  obtain ⟨Z, hB, hC, hM⟩ := h
  have b1 := hB.1.1.2.1
  have b5 := hB.1.1.2.2.2.2.2.1
  rcases Nat.eq_zero_or_pos (Z.1.1 1) with z | z
  · have hM0 := hM.t 1
    refine ⟨1, M, FP.i2d 0, sI M 204 0 1, ?_, ?_, mI_same _ _ _ _, fun y => absurd y (by decide), .q (hC.t hB.r0 hB.r1 1) hM0 hB⟩
    · have e : F_X8_meanTotal 1 M = some (.inr "java/lang/ArithmeticException", M) := by
        unfold F_X8_meanTotal
        rw [hC.1.1.1, hC.2.1.1.2.1.2.2.2.1, z, if_pos nI_0]
      unfold F_L_meanTotal
      rw [e, bw_r, if_pos rfl]
    · have hM0 := hM.t 0
      unfold F_X9_meanTotal
      rw [lt_v, chk_t (by decide), hM0.1.1, hM0.2.1.1 1 (by decide), z, if_pos nI_0, F_failsT, b1_s, sI_sI]
  · have nz : nI (Z.1.1 1) ≠ 0 := nI_ne0 z (by omega)
    have ok := mean_ok (nI (Z.1.1 5)) nz
    have hC1 := hC.d hB (FP.ddiv (FP.i2d (nI (Z.1.1 5))) (FP.i2d (nI (Z.1.1 1))))
    have hM1 := hM.d (FP.ddiv (FP.i2d (nI (Z.1.1 5))) (FP.i2d (nI (Z.1.1 1))))
    refine ⟨0, sD M 214 0 (FP.ddiv (FP.i2d (nI (Z.1.1 5))) (FP.i2d (nI (Z.1.1 1)))), FP.ddiv (FP.i2d (nI (Z.1.1 5))) (FP.i2d (nI (Z.1.1 1))), sI (sD M 214 0 (FP.ddiv (FP.i2d (nI (Z.1.1 5))) (FP.i2d (nI (Z.1.1 1))))) 204 0 0, ?_, ?_, mI_same _ _ _ _, fun _ => ⟨?_, ok⟩, .q (hC1.t hB.r0 hB.r1 0) (hM1.t 0) hB⟩
    · have e : F_X8_meanTotal 1 M = some (.inl (FP.ddiv (FP.i2d (nI (Z.1.1 5))) (FP.i2d (nI (Z.1.1 1)))), M) := by
        unfold F_X8_meanTotal
        rw [hC.1.1.1, hC.2.1.1.2.1.2.2.2.1, if_neg nz, hC.2.1.1.2.1.2.2.2.2.2.2, l2d_i (by omega), chk_t ok]
      unfold F_L_meanTotal
      rw [e, bw_l, chk_t (by decide), lt_v]
    · have hM0 := hM1.t 0
      unfold F_X9_meanTotal
      rw [lt_v, chk_t (by decide), hM0.1.1, hM0.2.1.1 1 (by decide), if_neg nz, chk_t (by decide), chk_t (by decide), hM0.2.1.1 5 (by decide), chk_t ok]
    · rw [mD_sI, mD_sD, if_pos ⟨rfl, rfl⟩]
theorem F_msL {w : Row} (hL : LM M) (hw : WA M 205 260 w) {s : Nat} (hs : s < 5) (ok : SecOK w (bs s)) (K : Int32 → Int32 → Option (UInt32 × Mem)) : ∀ (d j t n : Nat), j + d = w (bs s + 2) → d < n → ∃ x, F_X9_maskedShare_L1 204 (nI s) M K n (nI t) (nI j) = K (nI (t + isum (bit (w (bs s + 3))) j d)) x := by
  have h2 := ok.2.2.1
  intro d
  induction d with
  | zero =>
    intro j t n e hn
    obtain ⟨n, rfl⟩ : ∃ m, n = m + 1 := ⟨n - 1, by omega⟩
    refine ⟨nI j, ?_⟩
    rw [F_X9_maskedShare_L1, show F_X9_of 204 (nI s) 2 M = some (nI (w (bs s + 2))) from F_of hL hw (k := 2) (by omega), ob_s, if_pos (nI_le (by omega) (by omega))]; rfl
  | succ d ih =>
    intro j t n e hn
    obtain ⟨n, rfl⟩ : ∃ m, n = m + 1 := ⟨n - 1, by omega⟩
    obtain ⟨x, hx⟩ := ih (j + 1) (t + bit (w (bs s + 3)) j) n (by omega) (by omega)
    refine ⟨x, ?_⟩
    rw [F_X9_maskedShare_L1, show F_X9_of 204 (nI s) 2 M = some (nI (w (bs s + 2))) from F_of hL hw (k := 2) (by omega), ob_s, if_neg (nI_ge (by omega) (by omega)), F_masked hL hw hs ok (by omega), ob_s]
    show _ = K (nI (t + (bit (w (bs s + 3)) j + isum _ (j + 1) d))) x
    rw [← Nat.add_assoc, ← hx]
    rcases bit_01 (w (bs s + 3)) j with z | z
    · rw [z, if_pos nI_0, lt_v, lt_v, show (0 : Int32) = nI 0 from rfl, nI_add, nI_1]
    · rw [z, if_neg (by decide), lt_v, lt_v, nI_1, nI_1]
theorem C_msL {w : Row} {a b : Nat} (hR : SecR M a w b) (ok : SecOK w b) (K : Int32 → Int32 → Option Int32) : ∀ (d j t n : Nat), j + d = w (b + 2) → d < n → ∃ x, F_X4_maskedColumns_L1 a M K n (nI t) (nI j) = K (nI (t + isum (bit (w (b + 3))) j d)) x := by
  have h2 := ok.2.2.1
  intro d
  induction d with
  | zero =>
    intro j t n e hn
    obtain ⟨n, rfl⟩ : ∃ m, n = m + 1 := ⟨n - 1, by omega⟩
    refine ⟨nI j, ?_⟩
    rw [F_X4_maskedColumns_L1, hR.2.2.1, if_pos (nI_le (by omega) (by omega))]; rfl
  | succ d ih =>
    intro j t n e hn
    obtain ⟨n, rfl⟩ : ∃ m, n = m + 1 := ⟨n - 1, by omega⟩
    obtain ⟨x, hx⟩ := ih (j + 1) (t + bit (w (b + 3)) j) n (by omega) (by omega)
    refine ⟨x, ?_⟩
    rw [F_X4_maskedColumns_L1, hR.2.2.1, if_neg (nI_ge (by omega) (by omega)), C_masks hR ok (by omega), ob_s]
    show _ = K (nI (t + (bit (w (b + 3)) j + isum _ (j + 1) d))) x
    rw [← Nat.add_assoc, ← hx]
    rcases bit_01 (w (b + 3)) j with z | z
    · rw [z, if_pos nI_0, lt_v, nI_1, Nat.add_zero t]
    · rw [z, if_neg (by decide), lt_v, lt_v, nI_1, nI_1]
theorem call_maskedShare (h : GI B M) (p : Int32) : CallF B M (F_L_maskedShare 1 p 214) (F_X9_maskedShare 204 p) := by
  obtain ⟨Z, hB, hC, hM⟩ := h
  have r5 := hB.r0
  by_cases hp : outR p (Z.1.1 0)
  · have hM0 := hM.t 0
    refine ⟨1, M, FP.i2f 0, sI M 204 0 1, ?_, ?_, mI_same _ _ _ _, fun y => absurd y (by decide), .q (hC.t hB.r0 hB.r1 1) (hM.t 1) hB⟩
    · have e : F_X8_maskedShare 1 p M = some (.inr "java/lang/IndexOutOfBoundsException", M) := by
        unfold F_X8_maskedShare
        rw [C_presN hC hB hp, bx_r]
      unfold F_L_maskedShare
      rw [e, bw_r, if_pos rfl]
    · unfold F_X9_maskedShare
      rw [lt_v, F_isSecI hM0.1 hM0.2.1.1 (by omega), ob_s, if_pos hp, if_pos rfl, F_failsT, b1_s, sI_sI]
  · obtain ⟨s, hs, rfl⟩ := in_of hp (by omega)
    have ok := hB.sec hs
    have h2 := ok.2.2.1
    have nz : nI (Z.1.1 (bs s + 2)) ≠ 0 := nI_ne0 h2.1 (by omega)
    have c0 := isum (bit (Z.1.1 (bs s + 3))) 0 (Z.1.1 (bs s + 2))
    have q1 := share_ok (nI (0 + isum (bit (Z.1.1 (bs s + 3))) 0 (Z.1.1 (bs s + 2)))) nz
    have q2 := share_ok2 (nI (0 + isum (bit (Z.1.1 (bs s + 3))) 0 (Z.1.1 (bs s + 2)))) nz
    have hC1 := hC.d hB (FP.f2d (FP.fdiv (FP.i2f (nI (0 + isum (bit (Z.1.1 (bs s + 3))) 0 (Z.1.1 (bs s + 2))))) (FP.i2f (nI (Z.1.1 (bs s + 2))))))
    have hM1 := hM.d (FP.f2d (FP.fdiv (FP.i2f (nI (0 + isum (bit (Z.1.1 (bs s + 3))) 0 (Z.1.1 (bs s + 2))))) (FP.i2f (nI (Z.1.1 (bs s + 2))))))
    refine ⟨0, sD M 214 0 (FP.f2d (FP.fdiv (FP.i2f (nI (0 + isum (bit (Z.1.1 (bs s + 3))) 0 (Z.1.1 (bs s + 2))))) (FP.i2f (nI (Z.1.1 (bs s + 2)))))), FP.fdiv (FP.i2f (nI (0 + isum (bit (Z.1.1 (bs s + 3))) 0 (Z.1.1 (bs s + 2))))) (FP.i2f (nI (Z.1.1 (bs s + 2)))), sI (sD M 214 0 (FP.f2d (FP.fdiv (FP.i2f (nI (0 + isum (bit (Z.1.1 (bs s + 3))) 0 (Z.1.1 (bs s + 2))))) (FP.i2f (nI (Z.1.1 (bs s + 2))))))) 204 0 0, ?_, ?_, ?_, fun _ => ⟨?_, q2⟩, .q (hC1.t hB.r0 hB.r1 0) (hM1.t 0) hB⟩
    · have e : F_X8_maskedShare 1 (nI s) M = some (.inl (FP.fdiv (FP.i2f (nI (0 + isum (bit (Z.1.1 (bs s + 3))) 0 (Z.1.1 (bs s + 2))))) (FP.i2f (nI (Z.1.1 (bs s + 2))))), M) := by
        obtain ⟨x, hx⟩ := C_msL (hC.sec hs) ok (fun (x12 : Int32) (x13 : Int32) => some x12) (Z.1.1 (bs s + 2)) 0 0 3000 (by omega) (by omega)
        unfold F_X8_maskedShare F_X4_maskedColumns
        rw [C_pres hC hB hs, bx_l, chk_t (C_secTy hC (by omega)).1, (hC.sec hs).2.2.1, if_neg nz, show (0 : Int32) = nI 0 from rfl, hx, ob_s, chk_t q1]
      unfold F_L_maskedShare
      rw [e, bw_l, chk_t q2, chk_t (by decide), lt_v]
    · have hM0 := hM1.t 0
      obtain ⟨x, hx⟩ := F_msL hM0.1 hM0.2.1.1 (s := s) (by omega) ok (fun (x19 : Int32) (x20 : Int32) =>
    Option.bind (F_X9_of 204 (nI s) 2 (sI (sD M 214 0 (FP.f2d (FP.fdiv (FP.i2f (nI (0 + isum (bit (Z.1.1 (bs s + 3))) 0 (Z.1.1 (bs s + 2))))) (FP.i2f (nI (Z.1.1 (bs s + 2))))))) 204 0 0)) (fun v22 =>
    chk (nn32 (FP.fdiv (FP.i2f x19) (FP.i2f v22))) (
    some (FP.fdiv (FP.i2f x19) (FP.i2f v22), sI (sD M 214 0 (FP.f2d (FP.fdiv (FP.i2f (nI (0 + isum (bit (Z.1.1 (bs s + 3))) 0 (Z.1.1 (bs s + 2))))) (FP.i2f (nI (Z.1.1 (bs s + 2))))))) 204 0 0)))) (Z.1.1 (bs s + 2)) 0 0 3000 (by omega) (by omega)
      unfold F_X9_maskedShare
      rw [lt_v, F_isSecI hM0.1 hM0.2.1.1 (by omega), ob_s, if_neg hp, if_neg (by decide)]
      refine hx.trans ?_
      rw [show F_X9_of 204 (nI s) 2 _ = some (nI (Z.1.1 (bs s + 2))) from F_of hM0.1 hM0.2.1.1 (k := 2) (by omega), ob_s, chk_t q1]
    · exact mI_same _ _ _ _
    · rw [mD_sI, mD_sD, if_pos ⟨rfl, rfl⟩]
end MEAN
