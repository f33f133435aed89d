/-! PURE LEVEL: many beats -/
def ticks : Nat → Row → Row
  | 0, r => r
  | n+1, r => ticks n (tick r)
def tsum : Nat → Row → Nat
  | 0, _ => 0
  | n+1, r => (tick1 r).2.1 + tsum n (tick r)
theorem tick2_lo {r : Row} (h : RowOK r) {k : Nat} (hk : k < 18) (h4 : k ≠ 4) : tick2 r k = r k := by
  obtain ⟨-, k2, -⟩ := tick1_ok h
  unfold tick2
  split
  · rw [tireRow_lo (by simp only [bs]; omega) (by omega), upR_n _ _ h4, k2 k hk]
  · exact k2 k hk
theorem tick_lo {r : Row} (h : RowOK r) {k : Nat} (hk : k < 4) (h1 : k ≠ 1) : tick r k = r k := by
  have e : tick r k = tick3 r k := by
    unfold tick logRow
    rw [if_neg (by omega), if_neg (by omega), if_neg (by omega), if_neg (by omega)]
  rw [e]
  unfold tick3
  rw [upR_n _ _ (by omega), upR_n _ _ h1, tick2_lo h (by omega) (by omega)]
theorem tick_1 {r : Row} (h : RowOK r) : tick r 1 = r 1 + 1 := by
  have e : tick r 1 = tick3 r 1 := rfl
  rw [e]
  unfold tick3
  rw [upR_n _ _ (by omega), upR_s, tick2_lo h (by omega) (by omega)]
theorem tick_7 {r : Row} (h : RowOK r) : tick r 7 = min (r 7 + 1) 10 := by
  have e : tick r 7 = min (tick3 r 7 + 1) 10 := rfl
  rw [e]
  unfold tick3
  rw [upR_n _ _ (by omega), upR_n _ _ (by omega), tick2_lo h (by omega) (by omega)]
theorem tick_6 {r : Row} (h : RowOK r) : tick r 6 = max (r 6) (tick1 r).2.1 := by
  have e : tick r 6 = max (tick3 r 6) (tick1 r).2.1 := rfl
  rw [e]
  unfold tick3
  rw [upR_n _ _ (by omega), upR_n _ _ (by omega), tick2_lo h (by omega) (by omega)]
theorem tick_5 {r : Row} (h : RowOK r) : tick r 5 = r 5 + (tick1 r).2.1 := by
  have e : tick r 5 = tick3 r 5 := rfl
  rw [e]
  unfold tick3
  rw [upR_s, tick2_lo h (by omega) (by omega)]
theorem tick_hi (r : Row) {k : Nat} (hk : 18 ≤ k) : tick r k = tick2 r k := by
  unfold tick logRow
  rw [if_neg (by omega), if_neg (by omega), if_neg (by omega), if_neg (by omega)]
  unfold tick3
  rw [upR_n _ _ (by omega), upR_n _ _ (by omega)]
theorem tire_ok {r : Row} {b : Nat} (h : SecOK r b) {b' : Nat} (hb : b' = b ∨ b + 43 ≤ b' ∨ b' + 43 ≤ b) (h' : SecOK r b') : SecOK (tireRow r b) b' := by
  have hx : ∀ k, k < 43 → k ≠ 4 → k ≠ 5 → tireRow r b (b' + k) = r (b' + k) := fun k hk h4 h5 => tireRow_hi (by omega) (by omega)
  have e0 := hx 0 (by decide) (by decide) (by decide)
  rw [Nat.add_zero] at e0
  have e4 : tireRow r b (b' + 4) < 3 := by
    rcases hb with rfl | hb
    · unfold tireRow
      split
      · rw [upR_s]; omega
      · rw [upR_n _ _ (by omega), upR_s]; omega
    · rw [tireRow_hi (by omega) (by omega)]; exact h'.2.2.2.2.1
  have e5 : tireRow r b (b' + 5) < 3 := by
    rcases hb with rfl | hb
    · unfold tireRow
      split
      · rw [upR_n _ _ (by omega)]; exact h'.2.2.2.2.2.1
      · rw [upR_s]; omega
    · rw [tireRow_hi (by omega) (by omega)]; exact h'.2.2.2.2.2.1
  unfold SecOK at h' ⊢
  rw [e0, hx 1 (by decide) (by decide) (by decide), hx 2 (by decide) (by decide) (by decide), hx 3 (by decide) (by decide) (by decide)]
  refine ⟨h'.1, h'.2.1, h'.2.2.1, h'.2.2.2.1, e4, e5, Nat.zero_le _, fun i j hi hj => ?_⟩
  rw [hx (7 + 6 * i + j) (by omega) (by omega) (by omega)]
  exact h'.2.2.2.2.2.2.2 i j hi hj
theorem tick_ok {r : Row} (h : RowOK2 r) (h1 : r 1 + 1 < 2 ^ 30) : RowOK2 (tick r) := by
  obtain ⟨hok, h7, h6, h3⟩ := h
  obtain ⟨k1, k2, k3, k4, k5⟩ := tick1_ok hok
  refine ⟨⟨by rw [tick_lo hok (by omega) (by omega)]; exact hok.1, by rw [tick_1 hok]; exact h1, fun s hs => ?_⟩, by rw [tick_7 hok]; omega, by rw [tick_6 hok]; omega, by rw [tick_lo hok (by omega) (by omega)]; exact h3⟩
  rw [tick_lo hok (by omega) (by omega)] at hs
  have h0 : (tick1 r).1 0 = r 0 := k2 0 (by decide)
  have hsec := k1.2.2 s (by omega)
  have h2 : SecOK (tick2 r) (bs s) := by
    unfold tick2
    split
    · rename_i hc
      have hl := k5 (by omega)
      have hl2 := k1.2.2 (tick1 r).2.2.1 (by omega)
      refine tire_ok (hl2.cong (by simp only [bs]; omega) (fun k hk => upR_n _ _ (by omega))) ?_ (hsec.cong (by simp only [bs]; omega) (fun k hk => upR_n _ _ (by omega)))
      by_cases e : s = (tick1 r).2.2.1
      · exact Or.inl (by rw [e])
      · rcases Nat.lt_or_ge s (tick1 r).2.2.1 with g | g
        · exact Or.inr (Or.inr (by simp only [bs]; omega))
        · exact Or.inr (Or.inl (by simp only [bs]; omega))
    · exact hsec
  exact h2.cong (by simp only [bs]; omega) (fun k hk => tick_hi r (by omega))
