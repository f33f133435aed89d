/-! PURE LEVEL: one beat, the model, whole -/
theorem beatIt_ok : ∀ (d s : Nat) (r : Row) (t q m : Nat), RowOK r → s + d = r 0 → RowOK (beatIt r t q m s d).1 ∧ (∀ k, k < 18 → (beatIt r t q m s d).1 k = r k) ∧ (beatIt r t q m s d).2.1 ≤ t + 72 * d ∧ ((beatIt r t q m s d).2.2.1 = q ∨ (beatIt r t q m s d).2.2.1 < r 0) := by
  intro d
  induction d with
  | zero => intro s r t q m h e; exact ⟨h, fun _ _ => rfl, Nat.le_refl _, Or.inl rfl⟩
  | succ d ih =>
    intro s r t q m h e
    have hsec := h.2.2 s (by omega)
    have h45 : 45 ≤ bs s := by simp only [bs]; omega
    have hv := volN_le hsec
    have h0 := playRow_lo hsec h45 (k := 0) (by decide)
    obtain ⟨g1, g2, g3, g4⟩ := ih (s + 1) (playRow r (bs s)) (t + volN r (bs s)) (if volN r (bs s) < m then q else s) (if volN r (bs s) < m then m else volN r (bs s) + 1) (h.play (by omega)) (by rw [h0]; omega)
    rw [beatIt]
    refine ⟨g1, fun k hk => ?_, by omega, ?_⟩
    · rw [g2 k hk, playRow_lo hsec h45 hk]
    · rw [h0] at g4
      rcases g4 with g4 | g4
      · by_cases hc : volN r (bs s) < m
        · rw [if_pos hc] at g4 ⊢; exact Or.inl g4
        · rw [if_neg hc] at g4 ⊢; exact Or.inr (by omega)
      · exact Or.inr g4
theorem tick1_ok {r : Row} (h : RowOK r) : RowOK (tick1 r).1 ∧ (∀ k, k < 18 → (tick1 r).1 k = r k) ∧ (tick1 r).2.1 ≤ 360 ∧ (tick1 r).2.2.1 < 5 ∧ (0 < (tick1 r).2.1 → (tick1 r).2.2.1 < r 0) := by
  have h5 := h.1
  obtain ⟨g1, g2, g3, g4⟩ := beatIt_ok (r 0) 0 r 0 0 0 h (by omega)
  have h3 : (tick1 r).2.1 ≤ 72 * r 0 := by unfold tick1; omega
  refine ⟨g1, g2, by omega, ?_, fun hp => ?_⟩
  · show (beatIt r 0 0 0 0 (r 0)).2.2.1 < 5
    rcases g4 with g4 | g4 <;> omega
  · show (beatIt r 0 0 0 0 (r 0)).2.2.1 < r 0
    rcases g4 with g4 | g4
    · rcases Nat.eq_zero_or_pos (r 0) with z | z
      · rw [z] at h3; omega
      · omega
    · exact g4
theorem tireRow_lo {r : Row} {b k : Nat} (hb : 45 ≤ b) (hk : k < 45) : tireRow r b k = r k := by
  unfold tireRow
  split
  · exact upR_n _ _ (by omega)
  · rw [upR_n _ _ (by omega), upR_n _ _ (by omega)]
/-- what the model's row also keeps -/
def RowOK2 (r : Row) : Prop := RowOK r ∧ r 7 ≤ 10 ∧ r 6 < 2 ^ 30 ∧ r 3 < 2 ^ 30
theorem F_beat {M : Mem} {r : Row} (hL : LM M) (hw : WA M 205 260 r) (h : RowOK2 r) : ∃ M', F_X9_beats 204 M = some (nI (tick1 r).2.1, M') ∧ WA M' 205 260 (tick r) ∧ Only M M' 205 := by
  obtain ⟨hok, h7, h6, h3⟩ := h
  obtain ⟨k1, k2, k3, k4, k5⟩ := tick1_ok hok
  unfold F_X9_beats
  obtain ⟨M1, g1, g2, g3⟩ := F_beatsL (fun (x73 : Int32) (x74 : Int32) (x75 : Int32) (x76 : Int32) (M77 : Mem) =>
  chk (inb 3 260) (
  if x73 ≤ (mI M77 (mR M77 204 1) 3) then
    chk (inb 1 260) (
    chk (inb 1 260) (
    lt (sI M77 (mR M77 204 1) (1) ((mI M77 (mR M77 204 1) 1) + 1)) (fun (M84 : Mem) =>
    chk (inb 5 260) (
    chk (inb 5 260) (
    lt (sI M84 (mR M84 204 1) (5) ((mI M84 (mR M84 204 1) 5) + x73)) (fun (M88 : Mem) =>
    b1 (F_X9_logs 204 x73 M88) (fun u90 M91 =>
    some (x73, M91))))))))
  else
    chk (inb 4 260) (
    chk (inb 4 260) (
    lt (sI M77 (mR M77 204 1) (4) ((mI M77 (mR M77 204 1) 4) + 1)) (fun (M95 : Mem) =>
    b1 (F_X9_tires 204 x74 M95) (fun u97 M98 =>
    chk (inb 1 260) (
    chk (inb 1 260) (
    lt (sI M98 (mR M98 204 1) (1) ((mI M98 (mR M98 204 1) 1) + 1)) (fun (M102 : Mem) =>
    chk (inb 5 260) (
    chk (inb 5 260) (
    lt (sI M102 (mR M102 204 1) (5) ((mI M102 (mR M102 204 1) 5) + x73)) (fun (M106 : Mem) =>
    b1 (F_X9_logs 204 x73 M106) (fun u108 M109 =>
    some (x73, M109))))))))))))))  (r 0) 0 3000 M r 0 0 0 hL hw hok (by omega) (by have := hok.1; omega) (by omega)
  rw [show (0 : Int32) = nI 0 from rfl, show (-1 : Int32) = mm 0 from rfl] at *
  rw [g1]
  have hL1 := hL.of g3.2
  have ends : ∀ (M2 : Mem), WA M2 205 260 (tick2 r) → Only M M2 205 → ∃ M',
      (chk (inb 1 260) (chk (inb 1 260) (lt (sI M2 (mR M2 204 1) (1) ((mI M2 (mR M2 204 1) 1) + 1)) (fun (M84 : Mem) => chk (inb 5 260) (chk (inb 5 260) (lt (sI M84 (mR M84 204 1) (5) ((mI M84 (mR M84 204 1) 5) + nI (tick1 r).2.1)) (fun (M88 : Mem) => b1 (F_X9_logs 204 (nI (tick1 r).2.1) M88) (fun u90 M91 => some (nI (tick1 r).2.1, M91)))))))) : Option (Int32 × Mem))
        = some (nI (tick1 r).2.1, M') ∧ WA M' 205 260 (tick r) ∧ Only M M' 205 := by
    intro M2 hw2 hO
    have hL2 := hL.of hO.2
    have t7 : tick3 r 7 = r 7 := by
      unfold tick3 tick2
      rw [upR_n _ _ (by omega), upR_n _ _ (by omega)]
      split
      · rw [tireRow_lo (by simp only [bs]; omega) (by omega), upR_n _ _ (by omega), k2 7 (by omega)]
      · exact k2 7 (by omega)
    have t6 : tick3 r 6 = r 6 := by
      unfold tick3 tick2
      rw [upR_n _ _ (by omega), upR_n _ _ (by omega)]
      split
      · rw [tireRow_lo (by simp only [bs]; omega) (by omega), upR_n _ _ (by omega), k2 6 (by omega)]
      · exact k2 6 (by omega)
    have hw3 := hw2.put 1 (tick2 r 1 + 1)
    have hL3 : LM (sI M2 205 1 (nI (tick2 r 1 + 1))) := hL2.of rfl
    have hw4 : WA (sI (sI M2 205 1 (nI (tick2 r 1 + 1))) 205 5 (nI (tick2 r 5 + (tick1 r).2.1))) 205 260 (tick3 r) := hw3.put 5 _
    have hL4 : LM (sI (sI M2 205 1 (nI (tick2 r 1 + 1))) 205 5 (nI (tick2 r 5 + (tick1 r).2.1))) := hL2.of rfl
    rw [chk_t (by decide), chk_t (by decide), lt_v, hL2.1, hw2.at (k := 1) (by decide), show (1 : Int32) = nI 1 from rfl, nI_add, chk_t (by decide), chk_t (by decide), lt_v, hL3.1, hw3.at (k := 5) (by decide), upR_n _ _ (by omega), nI_add]
    obtain ⟨M', a1, a2, a3⟩ := F_logs hL4 hw4 (by rw [t7]; exact h7) (by rw [t6]; omega) (t := (tick1 r).2.1) (by omega)
    rw [a1, b1_s]
    exact ⟨M', rfl, a2, ((hO.trans (Only.put _ _ _ _)).trans (Only.put _ _ _ _)).trans a3⟩
  have e3 : mI M1 205 3 = nI (r 3) := by rw [g2.at (k := 3) (by decide)]; exact congrArg nI (k2 3 (by omega))
  show ∃ M', chk (inb 3 260) _ = _ ∧ _
  rw [chk_t (by decide), hL1.1, e3]
  simp only [nI_leI (show (beatIt r 0 0 0 0 (r 0)).2.1 < 2 ^ 31 by have := k3; unfold tick1 at this; omega) (show r 3 < 2 ^ 31 by omega)]
  by_cases hc : (tick1 r).2.1 ≤ r 3
  · rw [if_pos (show (beatIt r 0 0 0 0 (r 0)).2.1 ≤ r 3 from hc)]
    have e2 : tick2 r = (tick1 r).1 := by unfold tick2; rw [if_neg (by omega)]
    have E := ends M1 (by rw [e2]; exact g2) g3
    rw [hL1.1] at E
    exact E
  · rw [if_neg (show ¬ (beatIt r 0 0 0 0 (r 0)).2.1 ≤ r 3 from hc), chk_t (by decide), chk_t (by decide), lt_v, g2.at (k := 4) (by decide), show (1 : Int32) = nI 1 from rfl, nI_add]
    have hw2 := g2.put 4 ((beatIt r 0 0 0 0 (r 0)).1 4 + 1)
    have hL2 : LM (sI M1 205 4 (nI ((beatIt r 0 0 0 0 (r 0)).1 4 + 1))) := hL1.of rfl
    have hl := k5 (by omega)
    have hr0 : (tick1 r).1 0 = r 0 := k2 0 (by decide)
    have hsec := k1.2.2 (tick1 r).2.2.1 (by omega)
    obtain ⟨M2, a1, a2, a3⟩ := F_tires hL2 hw2 (s := (tick1 r).2.2.1) k4 (by rw [upR_n _ _ (by simp only [bs]; omega)]; have := hsec.2.2.2.2.1; show (tick1 r).1 _ < 100; omega)
    have e2 : tick2 r = tireRow (upR (tick1 r).1 4 ((tick1 r).1 4 + 1)) (bs (tick1 r).2.2.1) := by unfold tick2; rw [if_pos (by omega)]
    have a1' : F_X9_tires 204 (nI (beatIt r 0 0 0 0 (r 0)).2.2.1) (sI M1 205 4 (nI ((beatIt r 0 0 0 0 (r 0)).1 4 + 1))) = some ((), M2) := a1
    rw [a1', b1_s]
    exact ends M2 (by rw [e2]; exact a2) ((g3.trans (Only.put _ _ _ _)).trans a3)
