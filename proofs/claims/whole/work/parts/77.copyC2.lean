/-! PURE LEVEL: our state copied, the loop over the sections -/
theorem C_copyL {x y : Nat} (hxy : x + 14 ≤ y ∨ y + 14 ≤ x) (K : Int32 → Mem → Option (Unit × Mem)) : ∀ (d i n : Nat) (M : Mem), PermS M x → PermS M y → mR M x 0 = x + 1 → mR M y 0 = y + 1 → KO M y → i + d = 5 → d < n →
    ∃ M', F_X5_copyFrom_L1 x y K n (nI i) M = K (nI 5) M' ∧ M'.2 = M.2 ∧ (∀ o k, (o < x + 4 ∨ x + 14 ≤ o) → mI M' o k = mI M o k) ∧
      (∀ j, i ≤ j → j < 5 → (mI M' (mR M (x + 1) j) 0 = mI M (mR M (y + 1) j) 0 ∧ mI M' (mR M (x + 1) j) 1 = mI M (mR M (y + 1) j) 1 ∧ mI M' (mR M (x + 1) j) 2 = mI M (mR M (y + 1) j) 2 ∧ mI M' (mR M (x + 1) j) 4 = mI M (mR M (y + 1) j) 4 ∧ mI M' (mR M (x + 1) j) 5 = mI M (mR M (y + 1) j) 5 ∧ mI M' (mR M (x + 1) j) 6 = mI M (mR M (y + 1) j) 6 ∧ mI M' (mR M (x + 1) j) 7 = mI M (mR M (y + 1) j) 7) ∧ (∀ k, k < 36 → mI M' (mR M (x + 1) j + 1) k = mI M (mR M (y + 1) j + 1) k)) ∧
      (∀ j k, j < i → (mI M' (mR M (x + 1) j) k = mI M (mR M (x + 1) j) k ∧ mI M' (mR M (x + 1) j + 1) k = mI M (mR M (x + 1) j + 1) k)) := by
  intro d
  induction d with
  | zero =>
    intro i n M px py rx ry hk e hn
    obtain ⟨n, rfl⟩ : ∃ m, n = m + 1 := ⟨n - 1, by omega⟩
    refine ⟨M, ?_, rfl, fun _ _ _ => rfl, fun j h1 h2 => by omega, fun _ _ _ => ⟨rfl, rfl⟩⟩
    rw [F_X5_copyFrom_L1, show (5 : Int32) = nI 5 from rfl, if_pos (nI_le (by omega) (by omega)), show i = 5 by omega]
  | succ d ih =>
    intro i n M px py rx ry hk e hn
    obtain ⟨n, rfl⟩ : ∃ m, n = m + 1 := ⟨n - 1, by omega⟩
    obtain ⟨jx, hjx, ex⟩ := px.1 i (by omega)
    obtain ⟨jy, hjy, ey⟩ := py.1 i (by omega)
    obtain ⟨M1, a1, a2, a3, a4, a5⟩ := C_copyS (M := M) (a := mR M (x + 1) i) (q := mR M (y + 1) i) (by omega) (by omega) (by omega) (by rw [ex]; exact px.2.2 jx hjx) (by rw [ey]; exact py.2.2 jy hjy) (by rw [ey]; exact hk jy hjy)
    have hR : ∀ a k, mR M1 a k = mR M a k := fun a k => by unfold mR; rw [a5]
    obtain ⟨M', g1, g2, g3, g4, g5⟩ := ih (i + 1) n M1 (px.of hR) (py.of hR) (by rw [hR]; exact rx) (by rw [hR]; exact ry) (fun j hj => by rw [a4 _ _ (by omega) (by omega)]; exact hk j hj) (by omega) (by omega)
    simp only [hR] at g4 g5
    refine ⟨M', ?_, g2.trans a5, fun o k ho => ?_, fun j h1 h2 => ?_, fun j k hj => ?_⟩
    · rw [F_X5_copyFrom_L1, show (5 : Int32) = nI 5 from rfl, if_neg (nI_ge (by omega) (by omega)), if_neg (nI_ge (by omega) (by omega)), chk_t (inb_n (by omega) (by decide)), chk_t (inb_n (by omega) (by decide)), nI_clamp (by omega), rx, ry, a1, b1_s, lt_v, show (1 : Int32) = nI 1 from rfl, nI_add]
      exact g1
    · rw [g3 o k ho, a4 _ _ (by omega) (by omega)]
    · by_cases ej : j = i
      · subst ej
        obtain ⟨s1, s2⟩ : (∀ k, mI M' (mR M (x + 1) j) k = mI M1 (mR M (x + 1) j) k) ∧ ∀ k, mI M' (mR M (x + 1) j + 1) k = mI M1 (mR M (x + 1) j + 1) k := ⟨fun k => (g5 j k (by omega)).1, fun k => (g5 j k (by omega)).2⟩
        simp only [s1, s2]
        exact ⟨a2, a3⟩
      · obtain ⟨jz, hjz, ez⟩ := py.1 j (by omega)
        obtain ⟨t1, t2⟩ := g4 j (by omega) h2
        rw [a4 (mR M (y + 1) j) 0 (by omega) (by omega), a4 (mR M (y + 1) j) 1 (by omega) (by omega), a4 (mR M (y + 1) j) 2 (by omega) (by omega), a4 (mR M (y + 1) j) 4 (by omega) (by omega), a4 (mR M (y + 1) j) 5 (by omega) (by omega), a4 (mR M (y + 1) j) 6 (by omega) (by omega), a4 (mR M (y + 1) j) 7 (by omega) (by omega)] at t1
        exact ⟨t1, fun k hk9 => by rw [t2 k hk9, a4 _ _ (by omega) (by omega)]⟩
    · obtain ⟨jz, hjz, ez⟩ := px.1 j (by omega)
      have ne : mR M (x + 1) j ≠ mR M (x + 1) i := fun z => by have := px.2.1 j i (by omega) (by omega) z; omega
      obtain ⟨t1, t2⟩ := g5 j k (by omega)
      exact ⟨by rw [t1, a4 _ _ (by omega) (by omega)], by rw [t2, a4 _ _ (by omega) (by omega)]⟩
