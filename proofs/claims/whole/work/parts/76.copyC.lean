/-! PURE LEVEL: our sections copied -/
theorem C_copyS {M : Mem} {a q : Nat} (h1 : a ≠ q) (h2 : a ≠ q + 1) (h3 : a + 1 ≠ q) (ra : mR M a 3 = a + 1) (rq : mR M q 3 = q + 1) (hk : nokC (mI M q 0) = true) :
    ∃ M', F_X4_copyFrom a q M = some ((), M') ∧ (mI M' a 0 = mI M q 0 ∧ mI M' a 1 = mI M q 1 ∧ mI M' a 2 = mI M q 2 ∧ mI M' a 4 = mI M q 4 ∧ mI M' a 5 = mI M q 5 ∧ mI M' a 6 = mI M q 6 ∧ mI M' a 7 = mI M q 7) ∧ (∀ k, k < 36 → mI M' (a + 1) k = mI M (q + 1) k) ∧ (∀ o k, o ≠ a → o ≠ a + 1 → mI M' o k = mI M o k) ∧ M'.2 = M.2 := by
  have h4 : ¬ q = a := fun z => h1 z.symm
  have h5 : ¬ q = a + 1 := fun z => h3 z.symm
  have h6 : ¬ q + 1 = a := fun z => h2 z.symm
  have h7 : ¬ a = a + 1 := by omega
  have h8 : ¬ a + 1 = a := by omega
  unfold F_X4_copyFrom
  rw [chk_t hk]
  simp only [lt_v, F_X8_copyNumbers_20, b1_s]
  refine ⟨_, rfl, ?_, fun k hk9 => ?_, fun o k ho ho1 => ?_, rfl⟩
  · simp [mI_sI, mI_cpI, mR_sI, ra, rq, h4, h5, h7]
  · have z : ∀ {p : Prop}, ¬ (a + 1 = a ∧ p) := fun y => h8 y.1
    simp only [mI_sI, mI_cpI, mR_sI, ra, rq, if_neg h8, h8, false_and, if_false, if_true, true_and]
    rw [if_pos (by omega)]
    simp [h6, Nat.sub_zero]
  · simp [mI_sI, mI_cpI, mR_sI, ra, ho, ho1]
