/-! THE START: the memory behind the constructors -/
def MZ : Mem := (fun _ _ => 0, fun _ _ => 0, fun _ _ => 0, fun _ _ => 0)
def MF : Mem := KX9 (KX8 MZ)
def wtS (a k : Nat) : Bool := (kd (tyT a) k != 2 || (Nat.ble 1 (mR MF a k) && Nat.ble (mR MF a k) NN && tyT (mR MF a k) == rt (tyT a) k)) && (kd (tyT a) k != 3 || (Nat.ble 1 (mR MF a k) && Nat.ble (mR MF a k) 11))
theorem wtS_ok : ∀ a, a < 215 → 1 ≤ a → ∀ k, k < slotsOf (tyT a) → wtS a k = true := by decide +kernel
theorem MF_wt : WT MF := fun a k h1 h2 hk => by
  have h := wtS_ok a (Nat.lt_succ_of_le h2) h1 k hk
  unfold wtS at h
  simp only [Bool.and_eq_true, Bool.or_eq_true, bne_iff_ne, Nat.ble_eq, beq_iff_eq] at h
  exact ⟨fun e => h.1.elim (fun z => absurd e z) fun z => ⟨z.1.1, z.1.2, z.2⟩, fun e => h.2.elim (fun z => absurd e z) fun z => z⟩
def w0 : Row := fun k => if k = 2 then 2 else if k = 3 then 30 else 0
theorem MF_lm : LM MF := by unfold LM; decide +kernel
theorem MF_perm (x : Nat) (h1 : ∀ i, i < 5 → mR MF (x + 1) i = x + 4 + 2 * i) (h3 : ∀ j, j < 5 → mR MF (x + 4 + 2 * j) 3 = x + 4 + 2 * j + 1) : PermS MF x := by
  refine ⟨fun i hi => ⟨i, hi, h1 i hi⟩, fun i j hi hj e => ?_, h3⟩
  rw [h1 i hi, h1 j hj] at e
  omega
def shS (x : Nat) : Bool := (mR MF x 0 == x + 1 && mR MF x 8 == x + 2 && mR MF x 9 == x + 3) && ((List.range 5).all fun i => mR MF (x + 1) i == x + 4 + 2 * i && mR MF (x + 4 + 2 * i) 3 == x + 4 + 2 * i + 1)
theorem shS_ok {x : Nat} (h : shS x = true) : ShR MF x := by
  unfold shS at h
  simp only [Bool.and_eq_true, beq_iff_eq, List.all_eq_true, List.mem_range] at h
  exact ⟨⟨h.1.1.1, h.1.1.2, h.1.2⟩, MF_perm x (fun i hi => (h.2 i hi).1) (fun i hi => (h.2 i hi).2)⟩
theorem MF_sh : ∀ i, i < 12 → shS (if i < 3 then 2 + 14 * i else 46 + 14 * (i - 3)) = true := by decide +kernel
theorem MF_lc : LC MF := by
  refine ⟨by decide +kernel, shS_ok (MF_sh 1 (by decide)), shS_ok (MF_sh 2 (by decide)), ⟨by decide +kernel, fun i hi => ⟨?_, ?_⟩⟩, by decide +kernel, by decide +kernel⟩
  · have h : ∀ i, i < 9 → mR MF 45 i = 46 + 14 * i := by decide +kernel
    exact h i hi
  · have h := MF_sh (i + 3) (by omega)
    rw [if_neg (by omega), Nat.add_sub_cancel] at h
    exact shS_ok h
theorem MF_st : StR MF 2 w0 := by
  have hs := shS_ok (MF_sh 0 (by decide))
  refine ⟨hs.1, by decide +kernel, hs.2, fun i hi => absurd hi (by show ¬ i < w0 0; rw [show w0 0 = 0 from rfl]; omega), fun k n hk hn => ?_, ⟨rfl, fun r hr => absurd hr (by show ¬ r < w0 7; rw [show w0 7 = 0 from rfl]; omega)⟩, fun j hj => ?_⟩
  · have h : ∀ k, k < 3 → ∀ n, n < 9 → mI MF (2 + 2) (10 * k + (n + 1)) = nI (w0 (18 + 9 * k + n)) := by decide +kernel
    exact h k hk n hn
  · have h : ∀ j, j < 5 → nokC (mI MF (2 + 4 + 2 * j) 0) = true := by decide +kernel
    exact h j hj
theorem MF_wa : WA MF 205 260 w0 := by
  have h : ∀ k, k < 260 → mI MF 205 k = nI (w0 k) := by decide +kernel
  exact h
theorem w0_inv : Inv 0 w0 := by
  refine ⟨⟨by decide, by decide, fun s hs => absurd hs (by rw [show w0 0 = 0 from rfl]; omega)⟩, by decide, by decide, by decide, by decide, by decide, by decide, by decide, fun s hs => absurd hs (by rw [show w0 0 = 0 from rfl]; omega), by decide +kernel⟩
def Z0 : ZS := ((w0, fun _ => w0, 0), (w0, 0), (fun _ => 0, 0), (fun _ => 0, 0), (-1, -1))
theorem MF_gi : GI 0 MF := by
  refine ⟨Z0, ⟨⟨w0_inv, fun j hj => absurd hj (Nat.not_lt_zero j)⟩, ⟨by decide, fun h => absurd h (by decide)⟩, ⟨by decide, fun k hk => absurd hk (Nat.not_lt_zero k)⟩, ⟨by decide, fun k hk => absurd hk (Nat.not_lt_zero k)⟩, ⟨Or.inl rfl, Or.inl rfl⟩⟩, ⟨MF_lc, ⟨MF_st, 0, by decide, by decide, by decide +kernel, by decide +kernel, fun j hj => absurd hj (Nat.not_lt_zero j)⟩, ⟨by decide +kernel, fun h => absurd h (by decide)⟩, ⟨by decide +kernel, fun k hk => absurd hk (Nat.not_lt_zero k)⟩, ⟨by decide +kernel, fun k hk => absurd hk (Nat.not_lt_zero k)⟩, ⟨by decide +kernel, by decide +kernel⟩⟩,
    ⟨MF_lm, ⟨MF_wa, 0, by decide, by decide, by decide +kernel, by decide +kernel, fun j hj => absurd hj (Nat.not_lt_zero j)⟩, ⟨by decide +kernel, fun h => absurd h (by decide)⟩, ⟨by decide +kernel, fun k hk => absurd hk (Nat.not_lt_zero k)⟩, ⟨by decide +kernel, fun k hk => absurd hk (Nat.not_lt_zero k)⟩, ⟨by decide +kernel, by decide +kernel⟩⟩⟩
