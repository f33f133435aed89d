/-! PURE LEVEL: our history, a ring of nine states -/
def ShH (M : Mem) : Prop := mR M 44 0 = 45 ∧ ∀ i, i < 9 → mR M 45 i = 46 + 14 * i ∧ ShR M (46 + 14 * i)
/-- n states before the place nx -/
def HC (M : Mem) (u : Nat → Row) (n nx : Nat) : Prop :=
  n ≤ 8 ∧ nx < 9 ∧ mI M 44 1 = nI nx ∧ mI M 44 2 = nI n ∧ ∀ j, j < n → u j 0 ≤ 5 ∧ StR M (46 + 14 * ((nx + 9 - n + j) % 9)) (u j)
theorem ShH.mv {M M' : Mem} (h : ShH M) (e : ∀ a k, 44 ≤ a → a < 172 → mR M' a k = mR M a k) : ShH M' :=
  ⟨(e _ _ (by decide) (by decide)).trans h.1, fun i hi => ⟨(e _ _ (by decide) (by decide)).trans (h.2 i hi).1, (h.2 i hi).2.mv fun a k h1 h2 => e a k (by omega) (by omega)⟩⟩
theorem HC.mv {M M' : Mem} {u : Nat → Row} {n nx : Nat} (h : HC M u n nx) (e1 : mI M' 44 1 = mI M 44 1) (e2 : mI M' 44 2 = mI M 44 2) (e : ∀ a k, 46 ≤ a → a < 172 → (a < 46 + 14 * nx ∨ 60 + 14 * nx ≤ a) → mI M' a k = mI M a k ∧ mJ M' a k = mJ M a k ∧ mR M' a k = mR M a k) : HC M' u n nx := by
  obtain ⟨h1, h2, h3, h4, h5⟩ := h
  refine ⟨h1, h2, e1.trans h3, e2.trans h4, fun j hj => ⟨(h5 j hj).1, (h5 j hj).2.mv (h5 j hj).1 fun a k g1 g2 => ?_⟩⟩
  have : (nx + 9 - n + j) % 9 ≠ nx := by omega
  exact e a k (by omega) (by omega) (by omega)
theorem C_prep {M : Mem} {u : Nat → Row} {n nx : Nat} {w : Row} (hH : ShH M) (h : HC M u n nx) (hS : StR M 2 w) (h0 : w 0 ≤ 5) :
    ∃ M', F_X2_prepare 44 2 M = some ((), M') ∧ HC M' u n nx ∧ StR M' (46 + 14 * nx) w ∧ StR M' 2 w ∧ Blk M M' (46 + 14 * nx) 14 := by
  obtain ⟨h1, h2, h3, h4, h5⟩ := h
  unfold F_X2_prepare
  obtain ⟨M1, g1, g2, g3⟩ := C_copy (x := 46 + 14 * nx) (y := 2) (by omega) (hH.2 nx h2).2 hS h0
  rw [h3, if_neg (nI_pos (by omega)), show (9 : Int32) = nI 9 from rfl, if_neg (nI_ge (by omega) (by omega)), chk_t (inb_n h2 (by decide)), nI_clamp (by omega), hH.1, (hH.2 nx h2).1, g1, b1_s]
  refine ⟨M1, rfl, HC.mv ⟨h1, h2, h3, h4, h5⟩ (g3.1 _ _ (by omega)).1 (g3.1 _ _ (by omega)).1 (fun a k q1 q2 q3 => ⟨(g3.1 a k (by omega)).1, (g3.1 a k (by omega)).2, blk_r g3 a k⟩), g2, hS.far h0 g3 (by omega), g3⟩
theorem C_keep {M : Mem} {u : Nat → Row} {n nx : Nat} {w : Row} (h : HC M u n nx) (hS : StR M (46 + 14 * nx) w) (h0 : w 0 ≤ 5) :
    ∃ M' nx', F_X2_keep 44 M = some ((), M') ∧ HC M' (push u n w) (min (n + 1) 8) nx' ∧ Only M M' 44 := by
  obtain ⟨h1, h2, h3, h4, h5⟩ := h
  have cnt : ∀ x : Nat, (if (8 : Int32) < nI n + 1 then (8 : Int32) else nI n + 1) = nI (min (n + 1) 8) := by
    intro _
    rw [show (1 : Int32) = nI 1 from rfl, show (8 : Int32) = nI 8 from rfl, nI_add]
    by_cases h8 : 8 < n + 1
    · rw [if_pos (nI_lt h8 (by omega)), Nat.min_eq_right (by omega)]
    · rw [if_neg (nI_nlt (by omega) (by omega)), Nat.min_eq_left (by omega)]
  have fin : ∀ (M' : Mem) (nx' : Nat), nx' = (nx + 1) % 9 → mI M' 44 1 = nI nx' → mI M' 44 2 = nI (min (n + 1) 8) → Only M M' 44 → HC M' (push u n w) (min (n + 1) 8) nx' := by
    intro M' nx' e e1 e2 ho
    have mv : ∀ (x : Nat) (r : Row), 46 ≤ x → r 0 ≤ 5 → StR M x r → StR M' x r := fun x r hx hr hs => hs.mv hr fun a k g1 g2 => ⟨ho.1 a k (by omega), only_j ho a k, only_r ho a k⟩
    refine ⟨by omega, by omega, e1, e2, fun j hj => ?_⟩
    unfold push
    by_cases h8 : n = 8
    · rw [if_pos h8]
      by_cases h7 : j = 7
      · simp only [h7, if_true]
        refine ⟨h0, ?_⟩
        rw [show (nx' + 9 - min (n + 1) 8 + 7) % 9 = nx by omega]
        exact mv _ _ (by omega) h0 hS
      · simp only [h7, if_false]
        have := h5 (j + 1) (by omega)
        refine ⟨this.1, ?_⟩
        rw [show (nx' + 9 - min (n + 1) 8 + j) % 9 = (nx + 9 - n + (j + 1)) % 9 by omega]
        exact mv _ _ (by omega) this.1 this.2
    · rw [if_neg h8]
      by_cases h7 : j = n
      · simp only [h7, if_true]
        refine ⟨h0, ?_⟩
        rw [show (nx' + 9 - min (n + 1) 8 + n) % 9 = nx by omega]
        exact mv _ _ (by omega) h0 hS
      · simp only [h7, if_false]
        have := h5 j (by omega)
        refine ⟨this.1, ?_⟩
        rw [show (nx' + 9 - min (n + 1) 8 + j) % 9 = (nx + 9 - n + j) % 9 by omega]
        exact mv _ _ (by omega) this.1 this.2
  have d2 : ∀ v : Int32, mI (sI M 44 1 v) 44 2 = nI n := fun v => by rw [mI_sI, if_neg (by omega)]; exact h4
  unfold F_X2_keep
  rw [h3]
  by_cases h9 : 9 ≤ nx + 1
  · rw [if_pos (show (9 : Int32) ≤ nI nx + 1 by rw [show (1 : Int32) = nI 1 from rfl, show (9 : Int32) = nI 9 from rfl, nI_add]; exact nI_le h9 (by omega)), lt_v, lt_v, d2, cnt 0]
    refine ⟨_, 0, rfl, fin _ 0 (by omega) ?_ ?_ ?_, ?_⟩
    · rw [mI_sI, if_neg (by omega), mI_sI, if_pos ⟨rfl, rfl⟩]; rfl
    · rw [mI_sI, if_pos ⟨rfl, rfl⟩]
    · exact (Only.put M 44 1 _).trans (Only.put _ 44 2 _)
    · exact (Only.put M 44 1 _).trans (Only.put _ 44 2 _)
  · rw [if_neg (show ¬ (9 : Int32) ≤ nI nx + 1 by rw [show (1 : Int32) = nI 1 from rfl, show (9 : Int32) = nI 9 from rfl, nI_add]; exact nI_ge (by omega) (by omega)), lt_v, lt_v, d2, cnt 0]
    refine ⟨_, nx + 1, rfl, fin _ (nx + 1) (by omega) ?_ ?_ ?_, ?_⟩
    · rw [mI_sI, if_neg (by omega), mI_sI, if_pos ⟨rfl, rfl⟩, nI_1]
    · rw [mI_sI, if_pos ⟨rfl, rfl⟩]
    · exact (Only.put M 44 1 _).trans (Only.put _ 44 2 _)
    · exact (Only.put M 44 1 _).trans (Only.put _ 44 2 _)
theorem C_putBack {M : Mem} {nx : Nat} {w : Row} (hH : ShH M) (h2 : nx < 9) (h3 : mI M 44 1 = nI nx) (hS : StR M (46 + 14 * nx) w) (h0 : w 0 ≤ 5) (h : ShR M 2) :
    ∃ M', F_X2_putBack 44 2 M = some ((), M') ∧ StR M' 2 w ∧ Blk M M' 2 14 := by
  unfold F_X2_putBack
  obtain ⟨M1, g1, g2, g3⟩ := C_copy (x := 2) (y := 46 + 14 * nx) (by omega) h hS h0
  rw [h3, if_neg (nI_pos (by omega)), show (9 : Int32) = nI 9 from rfl, if_neg (nI_ge (by omega) (by omega)), chk_t (inb_n h2 (by decide)), nI_clamp (by omega), hH.1, (hH.2 nx h2).1, g1, b1_s]
  exact ⟨M1, rfl, g2, g3⟩
/-- only the numbers of our state and of our history change -/
def OnlyN (M M' : Mem) : Prop := (∀ a k, ¬ (2 ≤ a ∧ a < 16) → a ≠ 44 → mI M' a k = mI M a k ∧ mJ M' a k = mJ M a k) ∧ M'.2.2 = M.2.2
theorem C_stepBack {M : Mem} {u : Nat → Row} {n nx : Nat} (hH : ShH M) (h : HC M u (n + 1) nx) (hS : ShR M 2) :
    ∃ M' nx', F_X2_stepBack 44 2 M = some ((), M') ∧ HC M' u n nx' ∧ StR M' 2 (u n) ∧ OnlyN M M' := by
  obtain ⟨h1, h2, h3, h4, h5⟩ := h
  have hn1 : ∀ x : Int32, nI (n + 1) - 1 = nI n := fun _ => nI_pred n
  have fin : ∀ (M1 : Mem) (nx' : Nat), nx' = (nx + 8) % 9 → mI M1 44 1 = nI nx' → mI M1 44 2 = nI n → Only M M1 44 → ∃ M', F_X2_putBack 44 2 M1 = some ((), M') ∧ HC M' u n nx' ∧ StR M' 2 (u n) ∧ OnlyN M M' := by
    intro M1 nx' e e1 e2 ho
    have mv : ∀ (x : Nat) (r : Row), 46 ≤ x → r 0 ≤ 5 → StR M x r → StR M1 x r := fun x r hx hr hs => hs.mv hr fun a k g1 g2 => ⟨ho.1 a k (by omega), only_j ho a k, only_r ho a k⟩
    have hl := h5 n (by omega)
    rw [show (nx + 9 - (n + 1) + n) % 9 = nx' by omega] at hl
    obtain ⟨M2, g1, g2, g3⟩ := C_putBack (M := M1) (nx := nx') (w := u n) (hH.mv fun a k _ _ => only_r ho a k) (by omega) e1 (mv _ _ (by omega) hl.1 hl.2) hl.1 (hS.mv fun a k _ _ => only_r ho a k)
    refine ⟨M2, g1, ⟨by omega, by omega, (g3.1 _ _ (by omega)).1.trans e1, (g3.1 _ _ (by omega)).1.trans e2, fun j hj => ?_⟩, g2, ⟨fun a k q1 q2 => ⟨(g3.1 a k (by omega)).1.trans (ho.1 a k q2), (g3.1 a k (by omega)).2.trans (only_j ho a k)⟩, by rw [g3.2, ho.2]⟩⟩
    have hj5 := h5 j (by omega)
    refine ⟨hj5.1, ?_⟩
    rw [show (nx + 9 - (n + 1) + j) % 9 = (nx' + 9 - n + j) % 9 by omega] at hj5
    exact (mv _ _ (by omega) hj5.1 hj5.2).far hj5.1 g3 (by omega)
  unfold F_X2_stepBack
  rw [h3]
  by_cases h9 : nx = 0
  · subst h9
    rw [if_pos (by decide), lt_v, lt_v, mI_sI, if_neg (by omega), h4, nI_pred]
    obtain ⟨M', k1, k2, k3, k4⟩ := fin (sI (sI M 44 1 (9 - 1)) 44 2 (nI n)) 8 (by omega) (by rw [mI_sI, if_neg (by omega), mI_sI, if_pos ⟨rfl, rfl⟩]; rfl) (by rw [mI_sI, if_pos ⟨rfl, rfl⟩]) ((Only.put M 44 1 _).trans (Only.put _ 44 2 _))
    rw [k1, b1_s]
    exact ⟨M', 8, rfl, k2, k3, k4⟩
  · obtain ⟨m, rfl⟩ : ∃ m, nx = m + 1 := ⟨nx - 1, by omega⟩
    rw [if_neg (nI_nle (by omega) (by omega)), lt_v, lt_v, mI_sI, if_neg (by omega), h4, nI_pred, nI_pred]
    obtain ⟨M', k1, k2, k3, k4⟩ := fin (sI (sI M 44 1 (nI m)) 44 2 (nI n)) m (by omega) (by rw [mI_sI, if_neg (by omega), mI_sI, if_pos ⟨rfl, rfl⟩]) (by rw [mI_sI, if_pos ⟨rfl, rfl⟩]) ((Only.put M 44 1 _).trans (Only.put _ 44 2 _))
    rw [k1, b1_s]
    exact ⟨M', m, rfl, k2, k3, k4⟩
