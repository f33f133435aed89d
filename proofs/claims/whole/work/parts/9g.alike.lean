/-! PURE LEVEL: scripts read, both sides alike -/
theorem sl_0 : sLen 0 = 4 := rfl
theorem cw_0_0 : chW 0 0 = 97 := by decide +kernel
theorem cw_0_1 : chW 0 1 = 100 := by decide +kernel
theorem cw_0_2 : chW 0 2 = 100 := by decide +kernel
theorem cw_0_3 : chW 0 3 = 32 := by decide +kernel
theorem sl_1 : sLen 1 = 3 := rfl
theorem cw_1_0 : chW 1 0 = 107 := by decide +kernel
theorem cw_1_1 : chW 1 1 = 100 := by decide +kernel
theorem cw_1_2 : chW 1 2 = 100 := by decide +kernel
theorem sl_2 : sLen 2 = 5 := rfl
theorem cw_2_0 : chW 2 0 = 100 := by decide +kernel
theorem cw_2_1 : chW 2 1 = 114 := by decide +kernel
theorem cw_2_2 : chW 2 2 = 111 := by decide +kernel
theorem cw_2_3 : chW 2 3 = 112 := by decide +kernel
theorem cw_2_4 : chW 2 4 = 32 := by decide +kernel
theorem sl_3 : sLen 3 = 1 := rfl
theorem cw_3_0 : chW 3 0 = 100 := by decide +kernel
theorem sl_4 : sLen 4 = 5 := rfl
theorem cw_4_0 : chW 4 0 = 110 := by decide +kernel
theorem cw_4_1 : chW 4 1 = 111 := by decide +kernel
theorem cw_4_2 : chW 4 2 = 116 := by decide +kernel
theorem cw_4_3 : chW 4 3 = 101 := by decide +kernel
theorem cw_4_4 : chW 4 4 = 32 := by decide +kernel
theorem sl_5 : sLen 5 = 6 := rfl
theorem cw_5_0 : chW 5 0 = 100 := by decide +kernel
theorem cw_5_1 : chW 5 1 = 32 := by decide +kernel
theorem cw_5_2 : chW 5 2 = 100 := by decide +kernel
theorem cw_5_3 : chW 5 3 = 100 := by decide +kernel
theorem cw_5_4 : chW 5 4 = 61 := by decide +kernel
theorem cw_5_5 : chW 5 5 = 100 := by decide +kernel
theorem sl_6 : sLen 6 = 5 := rfl
theorem cw_6_0 : chW 6 0 = 109 := by decide +kernel
theorem cw_6_1 : chW 6 1 = 97 := by decide +kernel
theorem cw_6_2 : chW 6 2 = 115 := by decide +kernel
theorem cw_6_3 : chW 6 3 = 107 := by decide +kernel
theorem cw_6_4 : chW 6 4 = 32 := by decide +kernel
theorem sl_7 : sLen 7 = 4 := rfl
theorem cw_7_0 : chW 7 0 = 100 := by decide +kernel
theorem cw_7_1 : chW 7 1 = 32 := by decide +kernel
theorem cw_7_2 : chW 7 2 = 100 := by decide +kernel
theorem cw_7_3 : chW 7 3 = 43 := by decide +kernel
theorem sl_8 : sLen 8 = 5 := rfl
theorem cw_8_0 : chW 8 0 = 102 := by decide +kernel
theorem cw_8_1 : chW 8 1 = 108 := by decide +kernel
theorem cw_8_2 : chW 8 2 = 105 := by decide +kernel
theorem cw_8_3 : chW 8 3 = 112 := by decide +kernel
theorem cw_8_4 : chW 8 4 = 32 := by decide +kernel
theorem sl_9 : sLen 9 = 1 := rfl
theorem cw_9_0 : chW 9 0 = 100 := by decide +kernel
theorem sl_10 : sLen 10 = 5 := rfl
theorem cw_10_0 : chW 10 0 = 116 := by decide +kernel
theorem cw_10_1 : chW 10 1 = 117 := by decide +kernel
theorem cw_10_2 : chW 10 2 = 114 := by decide +kernel
theorem cw_10_3 : chW 10 3 = 110 := by decide +kernel
theorem cw_10_4 : chW 10 4 = 32 := by decide +kernel
theorem sl_11 : sLen 11 = 1 := rfl
theorem cw_11_0 : chW 11 0 = 100 := by decide +kernel
theorem sl_12 : sLen 12 = 6 := rfl
theorem cw_12_0 : chW 12 0 = 114 := by decide +kernel
theorem cw_12_1 : chW 12 1 = 97 := by decide +kernel
theorem cw_12_2 : chW 12 2 = 105 := by decide +kernel
theorem cw_12_3 : chW 12 3 = 115 := by decide +kernel
theorem cw_12_4 : chW 12 4 = 101 := by decide +kernel
theorem cw_12_5 : chW 12 5 = 32 := by decide +kernel
theorem sl_13 : sLen 13 = 4 := rfl
theorem cw_13_0 : chW 13 0 = 100 := by decide +kernel
theorem cw_13_1 : chW 13 1 = 32 := by decide +kernel
theorem cw_13_2 : chW 13 2 = 43 := by decide +kernel
theorem cw_13_3 : chW 13 3 = 100 := by decide +kernel
theorem sl_14 : sLen 14 = 6 := rfl
theorem cw_14_0 : chW 14 0 = 116 := by decide +kernel
theorem cw_14_1 : chW 14 1 = 101 := by decide +kernel
theorem cw_14_2 : chW 14 2 = 109 := by decide +kernel
theorem cw_14_3 : chW 14 3 = 112 := by decide +kernel
theorem cw_14_4 : chW 14 4 = 111 := by decide +kernel
theorem cw_14_5 : chW 14 5 = 32 := by decide +kernel
theorem sl_15 : sLen 15 = 1 := rfl
theorem cw_15_0 : chW 15 0 = 100 := by decide +kernel
theorem sl_16 : sLen 16 = 6 := rfl
theorem cw_16_0 : chW 16 0 = 108 := by decide +kernel
theorem cw_16_1 : chW 16 1 = 105 := by decide +kernel
theorem cw_16_2 : chW 16 2 = 109 := by decide +kernel
theorem cw_16_3 : chW 16 3 = 105 := by decide +kernel
theorem cw_16_4 : chW 16 4 = 116 := by decide +kernel
theorem cw_16_5 : chW 16 5 = 32 := by decide +kernel
theorem sl_17 : sLen 17 = 1 := rfl
theorem cw_17_0 : chW 17 0 = 110 := by decide +kernel
theorem sl_18 : sLen 18 = 4 := rfl
theorem cw_18_0 : chW 18 0 = 119 := by decide +kernel
theorem cw_18_1 : chW 18 1 = 97 := by decide +kernel
theorem cw_18_2 : chW 18 2 = 118 := by decide +kernel
theorem cw_18_3 : chW 18 3 = 101 := by decide +kernel
theorem sl_19 : sLen 19 = 0 := rfl
theorem sl_20 : sLen 20 = 4 := rfl
theorem cw_20_0 : chW 20 0 = 98 := by decide +kernel
theorem cw_20_1 : chW 20 1 = 101 := by decide +kernel
theorem cw_20_2 : chW 20 2 = 97 := by decide +kernel
theorem cw_20_3 : chW 20 3 = 116 := by decide +kernel
theorem sl_21 : sLen 21 = 1 := rfl
theorem cw_21_0 : chW 21 0 = 98 := by decide +kernel
theorem pS_43 (s : Nat → Nat) (p : Nat) (xs : List Int32) : pS s 43 p xs = if s p = 43 then (true, p + 1, xs ++ [1]) else if s p = 45 then (true, p + 1, xs ++ [-1]) else (false, p, xs) := rfl
theorem pS_98 (s : Nat → Nat) (p : Nat) (xs : List Int32) : pS s 98 p xs = if s p = 32 then numS s (p + 1) xs else (true, p, xs ++ [1]) := rfl
theorem pS_100 (s : Nat → Nat) (p : Nat) (xs : List Int32) : pS s 100 p xs = if digS (s p) then (true, p + 1, xs ++ [nI (s p - 48)]) else (false, p, xs) := rfl
theorem pS_107 (s : Nat → Nat) (p : Nat) (xs : List Int32) : pS s 107 p xs = if s p = 115 ∨ s p = 119 ∨ s p = 100 then (true, p + 1, xs ++ [nI (s p)]) else (false, p, xs) := rfl
theorem pS_110 (s : Nat → Nat) (p : Nat) (xs : List Int32) : pS s 110 p xs = numS s p xs := rfl
theorem pS_32 (s : Nat → Nat) (p : Nat) (xs : List Int32) : pS s 32 p xs = if s p = 32 then (true, p + 1, xs) else (false, p, xs) := rfl
theorem pS_61 (s : Nat → Nat) (p : Nat) (xs : List Int32) : pS s 61 p xs = if s p = 61 then (true, p + 1, xs) else (false, p, xs) := rfl
/-- the values of verb v, and the model's numbers -/
def Norm (v : Nat) (xs : List Int32) (nb : Nat → Int32) : Prop := match v with
  | 0 => xs = [nb 0, nb 1, nb 2] ∧ ∃ k, k < 3 ∧ nb 0 = nI (lett k)
  | 2 => xs = [nb 0, nb 1, nb 2, nb 3]
  | 3 => ∃ o, o < 2 ∧ nb 2 = nI o ∧ xs = [nb 0, nb 1, if o = 1 then 1 else -1]
  | 6 => ∃ d, (xs = [nb 0, 1, d] ∧ nb 1 = d) ∨ (xs = [nb 0, -1, d] ∧ nb 1 = -d)
  | 9 => xs = []
  | _ => xs = [nb 0]
def Mt (v : Nat) (so : Int32) (r : Bool × St) (f : PR) : Prop := r.1 = f.1 ∧ r.2.1 = f.2.1 ∧ (f.1 = true → Norm v f.2.2 r.2.2.1 ∧ r.2.2.2 = so)
section FM
variable (s : Nat → Nat) (p : Nat) (nb : Nat → Int32) (so : Int32)
theorem fm_d {v : Nat} (hv : v = 1 ∨ v = 4 ∨ v = 5 ∨ v = 7) : Mt v so (andS (rdDS s 0) yesS (p, nb, so)) (fS s (2 * v + 1) 0 p [] (sLen (2 * v + 1))) := by
  have e : fS s (2 * v + 1) 0 p [] (sLen (2 * v + 1)) = if digS (s p) then (true, p + 1, [nI (s p - 48)]) else (false, p, []) := by
    have h : chW (2 * v + 1) 0 = 100 ∧ sLen (2 * v + 1) = 1 := by rcases hv with rfl | rfl | rfl | rfl <;> exact ⟨by decide +kernel, rfl⟩
    rw [h.2, fS, h.1, pS_100]
    by_cases d : digS (s p)
    · simp only [if_pos d, if_true, fS, List.nil_append]
    · simp only [if_neg d]; rfl
  rw [e]
  unfold andS ifS rdDS yesS noS
  by_cases d : digS (s p)
  · simp only [if_pos d, if_true]
    refine ⟨rfl, rfl, fun _ => ⟨?_, rfl⟩⟩
    rcases hv with rfl | rfl | rfl | rfl <;> rfl
  · simp only [if_neg d]
    exact ⟨rfl, rfl, fun h => (by cases h)⟩
theorem num_eq {k : Nat} (xs : List Int32) : (numS s p xs).1 = (rdNS s k (p, nb, so)).1 ∧ (numS s p xs).2.1 = (rdNS s k (p, nb, so)).2.1 ∧ ((numS s p xs).1 = true → (numS s p xs).2.2 = xs ++ [(rdNS s k (p, nb, so)).2.2.1 k] ∧ (rdNS s k (p, nb, so)).2.2.2 = so) := by
  have sk : ∀ x, setN nb k x k = x := fun x => by unfold setN; rw [if_pos rfl]
  by_cases d : digS (s p)
  · by_cases d2 : digS (s (p + 1))
    · have e1 : numS s p xs = (true, p + 2, xs ++ [nI (10 * (s p - 48) + (s (p + 1) - 48))]) := by unfold numS; rw [if_pos d, if_pos d2]
      have e2 : rdNS s k (p, nb, so) = (true, (p + 2, setN nb k (nI (10 * (s p - 48) + (s (p + 1) - 48))), so)) := by unfold rdNS; rw [if_pos d, if_pos d2]
      rw [e1, e2]
      exact ⟨rfl, rfl, fun _ => ⟨by show _ = xs ++ [setN nb k _ k]; rw [sk], rfl⟩⟩
    · have e1 : numS s p xs = (true, p + 1, xs ++ [nI (s p - 48)]) := by unfold numS; rw [if_pos d, if_neg d2]
      have e2 : rdNS s k (p, nb, so) = (true, (p + 1, setN nb k (nI (s p - 48)), so)) := by unfold rdNS; rw [if_pos d, if_neg d2]
      rw [e1, e2]
      exact ⟨rfl, rfl, fun _ => ⟨by show _ = xs ++ [setN nb k _ k]; rw [sk], rfl⟩⟩
  · have e1 : numS s p xs = (false, p, xs) := by unfold numS; rw [if_neg d]
    have e2 : rdNS s k (p, nb, so) = (false, (p, nb, so)) := by unfold rdNS; rw [if_neg d]
    rw [e1, e2]
    exact ⟨rfl, rfl, fun h => (by cases h)⟩
theorem fm_n : Mt 8 so (andS (rdNS s 0) yesS (p, nb, so)) (fS s 17 0 p [] (sLen 17)) := by
  obtain ⟨h1, h2, h3⟩ := num_eq s p nb so (k := 0) []
  have e : fS s 17 0 p [] (sLen 17) = (numS s p []) := by
    rw [sl_17, fS, cw_17_0, pS_110]
    cases hb : (numS s p []).1 with
    | true => rw [if_pos rfl, fS, ← hb]
    | false => rw [if_neg (by decide), ← hb]
  rw [e]
  unfold andS ifS yesS noS
  cases hb : (numS s p []).1 with
  | true =>
    rw [hb] at h1 h3
    rw [if_pos h1.symm]
    exact ⟨hb.symm, h2.symm, fun _ => ⟨(h3 rfl).1, (h3 rfl).2⟩⟩
  | false =>
    rw [hb] at h1
    rw [if_neg (by rw [← h1]; decide)]
    exact ⟨hb.symm, h2.symm, fun h => (by rw [hb] at h; cases h)⟩
theorem fm_b : Mt 10 so (oneS (ifS (rdS s 32) (andS (rdNS s 0) yesS) yesS) (p, nb, so)) (fS s 21 0 p [] (sLen 21)) := by
  have e : fS s 21 0 p [] (sLen 21) = (pS s 98 p []) := by
    rw [sl_21, fS, cw_21_0]
    cases hb : (pS s 98 p []).1 with
    | true => rw [if_pos rfl, fS, ← hb]
    | false => rw [if_neg (by decide), ← hb]
  rw [e, pS_98]
  unfold oneS ifS rdS
  by_cases z : s p = 32
  · simp only [if_pos z, if_true]
    obtain ⟨h1, h2, h3⟩ := num_eq s (p + 1) (setN nb 0 1) so (k := 0) []
    unfold andS ifS yesS noS
    cases hb : (numS s (p + 1) []).1 with
    | true =>
      rw [hb] at h1 h3
      rw [if_pos h1.symm]
      exact ⟨hb.symm, h2.symm, fun _ => ⟨(h3 rfl).1, (h3 rfl).2⟩⟩
    | false =>
      rw [hb] at h1
      rw [if_neg (by rw [← h1]; decide)]
      exact ⟨hb.symm, h2.symm, fun h => (by rw [hb] at h; cases h)⟩
  · simp only [if_neg z]
    exact ⟨rfl, rfl, fun _ => ⟨rfl, rfl⟩⟩
theorem fm_w : Mt 9 so (yesS (p, nb, so)) (fS s 19 0 p [] (sLen 19)) := ⟨rfl, rfl, fun _ => ⟨rfl, rfl⟩⟩
theorem fm_add (T : TS) (hT : TB T) : Mt 0 so (setK T (ifS (rdS (sg T) 115) (andS (rdDS (sg T) 1) (andS (rdDS (sg T) 2) yesS)) (ifS (rdS (sg T) 119) (andS (rdDS (sg T) 1) (andS (rdDS (sg T) 2) yesS)) (andS (rdS (sg T) 100) (andS (rdDS (sg T) 1) (andS (rdDS (sg T) 2) yesS))))) (p, nb, so)) (fS (sg T) 1 0 p [] (sLen 1)) := by
  have dd : ∀ (k : Nat), k < 3 → sg T p = lett k → Mt 0 so (andS (rdDS (sg T) 1) (andS (rdDS (sg T) 2) yesS) (p + 1, setN nb 0 (nxS T p), so)) (fS (sg T) 1 1 (p + 1) [nI (sg T p)] 2) := fun k hk hl => by
    have hin : p < T.2 := sg_in (by rw [hl]; unfold lett; split <;> (try split) <;> omega)
    rw [nx_in hin]
    simp only [fS, Nat.zero_add, Nat.reduceAdd, cw_1_1, cw_1_2, pS_100]
    unfold andS ifS rdDS yesS noS
    by_cases d1 : digS (sg T (p + 1))
    · simp only [if_pos d1, if_true]
      by_cases d2 : digS (sg T (p + 1 + 1))
      · simp only [if_pos d2, if_true]
        exact ⟨rfl, rfl, fun _ => ⟨⟨rfl, k, hk, by show nI (sg T p) = _; rw [hl]⟩, rfl⟩⟩
      · simp only [if_neg d2]
        exact ⟨rfl, rfl, fun h => (by cases h)⟩
    · simp only [if_neg d1]
      exact ⟨rfl, rfl, fun h => (by cases h)⟩
  have st : fS (sg T) 1 0 p [] (sLen 1) = if sg T p = 115 ∨ sg T p = 119 ∨ sg T p = 100 then fS (sg T) 1 1 (p + 1) [nI (sg T p)] 2 else (false, p, []) := by
    rw [sl_1, fS, cw_1_0, pS_107]
    by_cases z : sg T p = 115 ∨ sg T p = 119 ∨ sg T p = 100
    · simp only [if_pos z, if_true, List.nil_append]
    · simp only [if_neg z]; rfl
  rw [st]
  show Mt 0 so (ifS (rdS (sg T) 115) _ _ (p, setN nb 0 (nxS T p), so)) _
  unfold ifS rdS
  by_cases z1 : sg T p = 115
  · simp only [if_pos z1, if_true, if_pos (Or.inl z1 : sg T p = 115 ∨ sg T p = 119 ∨ sg T p = 100)]
    exact dd 0 (by decide) z1
  · by_cases z2 : sg T p = 119
    · simp only [if_neg z1, if_pos z2, if_true, if_pos (Or.inr (Or.inl z2) : sg T p = 115 ∨ sg T p = 119 ∨ sg T p = 100)]
      exact dd 1 (by decide) z2
    · by_cases z3 : sg T p = 100
      · have := dd 2 (by decide) z3
        simp only [if_neg z1, if_neg z2, if_pos z3, if_true, if_pos (Or.inr (Or.inr z3) : sg T p = 115 ∨ sg T p = 119 ∨ sg T p = 100), andS, ifS, rdS, noS, yesS, rdDS] at this ⊢
        exact this
      · simp only [if_neg z1, if_neg z2, if_neg z3, if_neg (fun h : sg T p = 115 ∨ sg T p = 119 ∨ sg T p = 100 => h.elim z1 (fun y => y.elim z2 z3)), andS, ifS, rdS, noS]
        exact ⟨rfl, rfl, fun h => (by cases h)⟩
theorem fm_note : Mt 2 so (andS (rdDS s 0) (andS (rdS s 32) (andS (rdDS s 1) (andS (rdDS s 2) (andS (rdS s 61) (andS (rdDS s 3) yesS))))) (p, nb, so)) (fS s 5 0 p [] (sLen 5)) := by
  simp only [sl_5, fS, Nat.zero_add, Nat.reduceAdd, cw_5_0, cw_5_1, cw_5_2, cw_5_3, cw_5_4, cw_5_5, pS_100, pS_32, pS_61]
  unfold andS ifS rdDS rdS yesS noS
  by_cases d1 : digS (s p)
  · simp only [if_pos d1, if_true]
    by_cases d2 : s (p + 1) = 32
    · simp only [if_pos d2, if_true]
      by_cases d3 : digS (s (p + 1 + 1))
      · simp only [if_pos d3, if_true]
        by_cases d4 : digS (s (p + 1 + 1 + 1))
        · simp only [if_pos d4, if_true]
          by_cases d5 : s (p + 1 + 1 + 1 + 1) = 61
          · simp only [if_pos d5, if_true]
            by_cases d6 : digS (s (p + 1 + 1 + 1 + 1 + 1))
            · simp only [if_pos d6, if_true]
              exact ⟨rfl, rfl, fun _ => ⟨rfl, rfl⟩⟩
            · simp only [if_neg d6]
              exact ⟨rfl, rfl, fun h => (by cases h)⟩
          · simp only [if_neg d5]
            exact ⟨rfl, rfl, fun h => (by cases h)⟩
        · simp only [if_neg d4]
          exact ⟨rfl, rfl, fun h => (by cases h)⟩
      · simp only [if_neg d3]
        exact ⟨rfl, rfl, fun h => (by cases h)⟩
    · simp only [if_neg d2]
      exact ⟨rfl, rfl, fun h => (by cases h)⟩
  · simp only [if_neg d1]
    exact ⟨rfl, rfl, fun h => (by cases h)⟩
theorem fm_mask : Mt 3 so (andS (rdDS s 0) (andS (rdS s 32) (andS (rdDS s 1) (andS (rdGS s 2) yesS))) (p, nb, so)) (fS s 7 0 p [] (sLen 7)) := by
  simp only [sl_7, fS, Nat.zero_add, Nat.reduceAdd, cw_7_0, cw_7_1, cw_7_2, cw_7_3, pS_100, pS_32, pS_43]
  unfold andS ifS rdDS rdS rdGS yesS noS
  by_cases d1 : digS (s p)
  · simp only [if_pos d1, if_true]
    by_cases d2 : s (p + 1) = 32
    · simp only [if_pos d2, if_true]
      by_cases d3 : digS (s (p + 1 + 1))
      · simp only [if_pos d3, if_true]
        by_cases d4 : s (p + 1 + 1 + 1) = 43
        · simp only [if_pos d4, if_true]
          exact ⟨rfl, rfl, fun _ => ⟨⟨1, by decide, rfl, rfl⟩, rfl⟩⟩
        · simp only [if_neg d4]
          by_cases d5 : s (p + 1 + 1 + 1) = 45
          · simp only [if_pos d5, if_true]
            exact ⟨rfl, rfl, fun _ => ⟨⟨0, by decide, rfl, rfl⟩, rfl⟩⟩
          · simp only [if_neg d5]
            exact ⟨rfl, rfl, fun h => (by cases h)⟩
      · simp only [if_neg d3]
        exact ⟨rfl, rfl, fun h => (by cases h)⟩
    · simp only [if_neg d2]
      exact ⟨rfl, rfl, fun h => (by cases h)⟩
  · simp only [if_neg d1]
    exact ⟨rfl, rfl, fun h => (by cases h)⟩
theorem fm_raise : Mt 6 so (andS (rdDS s 0) (andS (rdS s 32) (andS (rdGS s 2) (andS (rdDS s 1) negS))) (p, nb, so)) (fS s 13 0 p [] (sLen 13)) := by
  simp only [sl_13, fS, Nat.zero_add, Nat.reduceAdd, cw_13_0, cw_13_1, cw_13_2, cw_13_3, pS_100, pS_32, pS_43]
  unfold andS ifS rdDS rdS rdGS negS noS
  by_cases d1 : digS (s p)
  · simp only [if_pos d1, if_true]
    by_cases d2 : s (p + 1) = 32
    · simp only [if_pos d2, if_true]
      by_cases d4 : s (p + 1 + 1) = 43
      · simp only [if_pos d4, if_true]
        by_cases d3 : digS (s (p + 1 + 1 + 1))
        · simp only [if_pos d3, if_true]
          have e : ¬ setN (setN (setN nb 0 (nI (s p - 48))) 2 1) 1 (nI (s (p + 1 + 1 + 1) - 48)) 2 = 0 := by show ¬ (1 : Int32) = 0; decide
          simp only [if_neg e]
          exact ⟨rfl, rfl, fun _ => ⟨⟨nI (s (p + 1 + 1 + 1) - 48), Or.inl ⟨rfl, rfl⟩⟩, rfl⟩⟩
        · simp only [if_neg d3]
          exact ⟨rfl, rfl, fun h => (by cases h)⟩
      · simp only [if_neg d4]
        by_cases d5 : s (p + 1 + 1) = 45
        · simp only [if_pos d5, if_true]
          by_cases d3 : digS (s (p + 1 + 1 + 1))
          · simp only [if_pos d3, if_true]
            have e : setN (setN (setN nb 0 (nI (s p - 48))) 2 0) 1 (nI (s (p + 1 + 1 + 1) - 48)) 2 = 0 := rfl
            simp only [if_pos e]
            exact ⟨rfl, rfl, fun _ => ⟨⟨nI (s (p + 1 + 1 + 1) - 48), Or.inr ⟨rfl, rfl⟩⟩, rfl⟩⟩
          · simp only [if_neg d3]
            exact ⟨rfl, rfl, fun h => (by cases h)⟩
        · simp only [if_neg d5]
          exact ⟨rfl, rfl, fun h => (by cases h)⟩
    · simp only [if_neg d2]
      exact ⟨rfl, rfl, fun h => (by cases h)⟩
  · simp only [if_neg d1]
    exact ⟨rfl, rfl, fun h => (by cases h)⟩
end FM
/-! words -/
theorem chS_cm (s : Nat → Nat) (q p : Nat) (k : SP) : ∀ (L : List Nat) (i : Nat) (z : Nat × (Nat → Int32) × Int32), (∀ j (h : j < L.length), chW q (i + j) = L[j]) → z.1 = p + i → chS s L k z = if cmnF s q p i L.length = i + L.length then k (p + (i + L.length), z.2) else (false, (p + cmnF s q p i L.length, z.2))
  | [], i, z, _, hz => by
    show k z = if i = i then k (p + i, z.2) else (false, (p + i, z.2))
    rw [if_pos rfl, ← hz]
  | c :: L, i, z, h, hz => by
    have h0 := h 0 (Nat.succ_pos _)
    change chW q i = c at h0
    show ifS (rdS s c) (chS s L k) noS z = _
    unfold ifS rdS
    show _ = if cmnF s q p i (L.length + 1) = i + (L.length + 1) then k (p + (i + (L.length + 1)), z.2) else (false, (p + cmnF s q p i (L.length + 1), z.2))
    unfold cmnF
    rw [hz, h0]
    by_cases e : s (p + i) = c
    · simp only [if_pos e, if_true]
      have := chS_cm s q p k L (i + 1) (p + i + 1, z.2) (fun j hj => by
        have := h (j + 1) (Nat.succ_lt_succ hj)
        rw [show i + 1 + j = i + (j + 1) by omega]
        exact this) (by show p + i + 1 = p + (i + 1); omega)
      rw [this, show i + 1 + L.length = i + (L.length + 1) by omega]
    · simp only [if_neg e]
      rw [if_neg (show ¬ i = i + (L.length + 1) by omega)]
      refine Prod.ext rfl (Prod.ext hz rfl)
theorem cmn_ge (s : Nat → Nat) (q p : Nat) : ∀ (d i : Nat), i ≤ cmnF s q p i d
  | 0, _ => Nat.le_refl _
  | d+1, i => by
    unfold cmnF
    split
    · have := cmn_ge s q p d (i + 1); omega
    · exact Nat.le_refl _
/-- the first letters -/
def flW (i : Nat) : Nat := chW (2 * i) 0
theorem len_pos {i : Nat} (hi : i < 11) : 0 < sLen (2 * i) := by
  have h : ∀ i : Fin 11, 0 < sLen (2 * i.val) := by decide +kernel
  exact h ⟨i, hi⟩
theorem cm_first (s : Nat → Nat) (p : Nat) {i : Nat} (hi : i < 11) : cmnW s (2 * i) p = if s p = flW i then cmnF s (2 * i) p 1 (sLen (2 * i) - 1) else 0 := by
  have h := len_pos hi
  obtain ⟨m, hm⟩ : ∃ m, sLen (2 * i) = m + 1 := ⟨sLen (2 * i) - 1, by omega⟩
  unfold cmnW
  rw [hm, cmnF, Nat.add_sub_cancel]; rfl
theorem wd_skip (s : Nat → Nat) (p : Nat) : ∀ (n i f : Nat), i + n ≤ 11 → (∀ t, i ≤ t → t < i + n → cmnW s (2 * t) p = 0) → wdF s p i f (11 - i) = wdF s p (i + n) f (11 - (i + n))
  | 0, _, _, _, _ => rfl
  | n+1, i, f, h, hc => by
    have l := len_pos (i := i) (by omega)
    rw [show 11 - i = (11 - (i + 1)) + 1 by omega, wdF, hc i (Nat.le_refl _) (by omega), if_neg (by omega), Nat.max_eq_left (Nat.zero_le _), wd_skip s p n (i + 1) f (by omega) (fun t h1 h2 => hc t (by omega) (by omega)), show i + 1 + n = i + (n + 1) by omega]
theorem wd_one (s : Nat → Nat) (p : Nat) {v : Nat} (hv : v < 11) (h : ∀ t, t < 11 → t ≠ v → cmnW s (2 * t) p = 0) : wdF s p 0 0 11 = if cmnW s (2 * v) p = sLen (2 * v) then (v, sLen (2 * v)) else (11, cmnW s (2 * v) p) := by
  have a := wd_skip s p v 0 0 (by omega) (fun t _ h2 => h t (by omega) (by omega))
  rw [Nat.zero_add] at a
  rw [show (11 : Nat) = 11 - 0 from rfl, a, show 11 - v = (11 - (v + 1)) + 1 by omega, wdF]
  by_cases e : cmnW s (2 * v) p = sLen (2 * v)
  · rw [if_pos e, if_pos e]
  · have b := wd_skip s p (11 - (v + 1)) (v + 1) (max 0 (cmnW s (2 * v) p)) (by omega) (fun t h1 h2 => h t (by omega) (by omega))
    rw [if_neg e, if_neg e, b, show v + 1 + (11 - (v + 1)) = 11 by omega, Nat.max_eq_right (Nat.zero_le _)]; rfl
theorem wd_none (s : Nat → Nat) (p : Nat) (h : ∀ t, t < 11 → cmnW s (2 * t) p = 0) : wdF s p 0 0 11 = (11, 0) := by
  have a := wd_skip s p 11 0 0 (by omega) (fun t _ h2 => h t (by omega))
  rw [show (11 : Nat) = 11 - 0 from rfl, a]; rfl
theorem wd_two (s : Nat → Nat) (p : Nat) (h : ∀ t, t < 11 → t ≠ 5 → t ≠ 7 → cmnW s (2 * t) p = 0) : wdF s p 0 0 11 = if cmnW s 10 p = sLen 10 then (5, sLen 10) else if cmnW s 14 p = sLen 14 then (7, sLen 14) else (11, max (cmnW s 10 p) (cmnW s 14 p)) := by
  have a := wd_skip s p 5 0 0 (by omega) (fun t _ h2 => h t (by omega) (by omega) (by omega))
  rw [show (11 : Nat) = 11 - 0 from rfl, a, show 11 - (0 + 5) = 5 + 1 by rfl, show 0 + 5 = 5 from rfl, wdF, show 2 * 5 = 10 from rfl]
  by_cases e : cmnW s 10 p = sLen 10
  · rw [if_pos e, if_pos e]
  · rw [if_neg e, if_neg e, show (5 : Nat) = 4 + 1 from rfl, wdF, show 2 * (4 + 1 + 1) = 2 * 6 from rfl, h 6 (by decide) (by decide) (by decide), if_neg (by decide +kernel), show (4 : Nat) = 3 + 1 from rfl, wdF, show 2 * (3 + 1 + 1 + 1 + 1) = 14 from rfl]
    by_cases e2 : cmnW s 14 p = sLen 14
    · rw [if_pos e2, if_pos e2]
    · have b := wd_skip s p 3 8 (max (max (max 0 (cmnW s 10 p)) 0) (cmnW s 14 p)) (by omega) (fun t h1 h2 => h t (by omega) (by omega) (by omega))
      rw [if_neg e2, if_neg e2]
      refine b.trans ?_
      show (11, max (max (max 0 (cmnW s 10 p)) 0) (cmnW s 14 p)) = _
      rw [Nat.max_eq_right (Nat.zero_le (cmnW s 10 p)), Nat.max_eq_left (Nat.zero_le (cmnW s 10 p))]
theorem cmd_one (s : Nat → Nat) (p : Nat) {v : Nat} (hv : v < 11) {L : List Nat} {k : SP} {so : Int32} {nb : Nat → Int32} (hL : ∀ j (h : j < L.length), chW (2 * v) (1 + j) = L[j]) (hl : sLen (2 * v) = 1 + L.length) (h0 : s p = flW v) (hw : wdF s p 0 0 11 = if cmnW s (2 * v) p = sLen (2 * v) then (v, sLen (2 * v)) else (11, cmnW s (2 * v) p))
    (hk : Mt v so (k (p + sLen (2 * v), nb, so)) (fS s (2 * v + 1) 0 (p + sLen (2 * v)) [] (sLen (2 * v + 1)))) : (chS s L k (p + 1, nb, so)).1 = (cmdS s p).1 ∧ (chS s L k (p + 1, nb, so)).2.1 = (cmdS s p).2.1 ∧ ((cmdS s p).1 = true → (cmdS s p).2.2.1 = v ∧ Norm v (cmdS s p).2.2.2 (chS s L k (p + 1, nb, so)).2.2.1 ∧ (chS s L k (p + 1, nb, so)).2.2.2 = so) := by
  have c1 := cm_first s p hv
  rw [if_pos h0, hl, Nat.add_sub_cancel_left] at c1
  rw [chS_cm s (2 * v) p k L 1 (p + 1, nb, so) hL rfl]
  have hle := cmnF_le s (2 * v) p L.length 1
  by_cases e : cmnF s (2 * v) p 1 L.length = 1 + L.length
  · have w1 : wdF s p 0 0 11 = (v, sLen (2 * v)) := by rw [hw, if_pos (by rw [c1, e, hl])]
    have cS : cmdS s p = ((fS s (2 * v + 1) 0 (p + sLen (2 * v)) [] (sLen (2 * v + 1))).1, (fS s (2 * v + 1) 0 (p + sLen (2 * v)) [] (sLen (2 * v + 1))).2.1, v, (fS s (2 * v + 1) 0 (p + sLen (2 * v)) [] (sLen (2 * v + 1))).2.2) := by
      unfold cmdS
      rw [w1, if_pos hv]
    rw [if_pos e, cS, ← hl]
    exact ⟨hk.1, hk.2.1, fun h => ⟨rfl, (hk.2.2 h).1, (hk.2.2 h).2⟩⟩
  · have w1 : wdF s p 0 0 11 = (11, cmnW s (2 * v) p) := by rw [hw, if_neg (by rw [c1, hl]; exact e)]
    have cS : cmdS s p = (false, p + cmnW s (2 * v) p, 11, []) := by
      unfold cmdS
      rw [w1, if_neg (Nat.lt_irrefl 11)]
    rw [if_neg e, cS, c1]
    exact ⟨rfl, rfl, fun h => (by cases h)⟩
/-- the sort that the model keeps for verb v -/
def soW (v : Nat) : Int32 := nI (if v = 7 then 101 else flW v)
theorem fl_tab : flW 0 = 97 ∧ flW 1 = 100 ∧ flW 2 = 110 ∧ flW 3 = 109 ∧ flW 4 = 102 ∧ flW 5 = 116 ∧ flW 6 = 114 ∧ flW 7 = 116 ∧ flW 8 = 108 ∧ flW 9 = 119 ∧ flW 10 = 98 := by decide +kernel
theorem fl_in (x : Nat) {t : Nat} (ht : t < 11) (h : x = flW t) : (x = 97 ∧ t = 0) ∨ (x = 100 ∧ t = 1) ∨ (x = 110 ∧ t = 2) ∨ (x = 109 ∧ t = 3) ∨ (x = 102 ∧ t = 4) ∨ (x = 116 ∧ (t = 5 ∨ t = 7)) ∨ (x = 114 ∧ t = 6) ∨ (x = 108 ∧ t = 8) ∨ (x = 119 ∧ t = 9) ∨ (x = 98 ∧ t = 10) := by
  obtain ⟨f0, f1, f2, f3, f4, f5, f6, f7, f8, f9, f10⟩ := fl_tab
  rcases (show t = 0 ∨ t = 1 ∨ t = 2 ∨ t = 3 ∨ t = 4 ∨ t = 5 ∨ t = 6 ∨ t = 7 ∨ t = 8 ∨ t = 9 ∨ t = 10 by omega) with rfl | rfl | rfl | rfl | rfl | rfl | rfl | rfl | rfl | rfl | rfl <;> omega
theorem cm_0 (s : Nat → Nat) (p : Nat) {t : Nat} (ht : t < 11) (h : s p ≠ flW t) : cmnW s (2 * t) p = 0 := by rw [cm_first s p ht, if_neg h]
/-- both sides read a command alike -/
def CmdEq (T : TS) (z : Nat × (Nat → Int32) × Int32) : Prop := (cmdM T z).1 = (cmdS (sg T) z.1).1 ∧ (cmdM T z).2.1 = (cmdS (sg T) z.1).2.1 ∧ ((cmdS (sg T) z.1).1 = true → (cmdS (sg T) z.1).2.2.1 < 11 ∧ Norm (cmdS (sg T) z.1).2.2.1 (cmdS (sg T) z.1).2.2.2 (cmdM T z).2.2.1 ∧ (cmdM T z).2.2.2 = soW (cmdS (sg T) z.1).2.2.1)
theorem cmd_eq1 {T : TS} {z : Nat × (Nat → Int32) × Int32} {v : Nat} (hv : v < 11) (h5 : v ≠ 5) (h7 : v ≠ 7) {L : List Nat} {k : SP} (hM : cmdM T z = chS (sg T) L k (z.1 + 1, z.2.1, nxS T z.1)) (h0 : sg T z.1 = flW v) (hL : ∀ j (h : j < L.length), chW (2 * v) (1 + j) = L[j]) (hl : sLen (2 * v) = 1 + L.length)
    (hk : ∀ so, Mt v so (k (z.1 + sLen (2 * v), z.2.1, so)) (fS (sg T) (2 * v + 1) 0 (z.1 + sLen (2 * v)) [] (sLen (2 * v + 1)))) : CmdEq T z := by
  have hw := wd_one (sg T) z.1 hv (fun t ht hn => cm_0 _ _ ht (fun y => by
    have a := fl_in _ ht y
    have b := fl_in _ hv h0
    omega))
  have hin : z.1 < T.2 := sg_in (by have := fl_in _ hv h0; omega)
  obtain ⟨g1, g2, g3⟩ := cmd_one (sg T) z.1 hv hL hl h0 hw (hk (nxS T z.1))
  unfold CmdEq
  rw [hM]
  refine ⟨g1, g2, fun h => ?_⟩
  obtain ⟨q1, q2, q3⟩ := g3 h
  rw [q1]
  refine ⟨hv, q2, q3.trans ?_⟩
  unfold soW
  rw [if_neg h7, nx_in hin, h0]
theorem cmd_eq (T : TS) (hT : TB T) (z : Nat × (Nat → Int32) × Int32) : CmdEq T z := by
  obtain ⟨f0, f1, f2, f3, f4, f5, f6, f7, f8, f9, f10⟩ := fl_tab
  have casc : cmdM T z = ifS (rdS (sg T) 97) (addM T) (ifS (rdS (sg T) 100) (chS (sg T) [114, 111, 112, 32] (andS (rdDS (sg T) 0) yesS)) (ifS (rdS (sg T) 110) (noteM T) (ifS (rdS (sg T) 109) (maskM T) (ifS (rdS (sg T) 102) (chS (sg T) [108, 105, 112, 32] (andS (rdDS (sg T) 0) yesS)) (ifS (rdS (sg T) 116) (tM T) (ifS (rdS (sg T) 114) (raiseM T) (ifS (rdS (sg T) 108) (chS (sg T) [105, 109, 105, 116, 32] (andS (rdNS (sg T) 0) yesS)) (ifS (rdS (sg T) 119) (chS (sg T) [97, 118, 101] yesS) (andS (rdS (sg T) 98) (andS (beatM T) yesS)))))))))) (z.1, z.2.1, nxS T z.1) := rfl
  have yes : ∀ (c : Nat) (b d : SP), sg T z.1 = c → ifS (rdS (sg T) c) b d (z.1, z.2.1, nxS T z.1) = b (z.1 + 1, z.2.1, nxS T z.1) := fun c b d h => by
    unfold ifS rdS
    simp only [if_pos h, if_true]
  have nop : ∀ (c : Nat) (b d : SP), sg T z.1 ≠ c → ifS (rdS (sg T) c) b d (z.1, z.2.1, nxS T z.1) = d (z.1, z.2.1, nxS T z.1) := fun c b d h => by
    unfold ifS rdS
    simp only [if_neg h]
    rfl
  have tk : ∀ (L : List Nat) (n q : Nat), n = L.length → (∀ j : Fin 6, j.val < n → chW q (1 + j.val) = L.getD j.val 0) → n ≤ 6 → ∀ j (h : j < L.length), chW q (1 + j) = L[j] := fun L n q hn hh h6 j hj => by
    have := hh ⟨j, by omega⟩ (by show j < n; omega)
    rw [this, List.getD_eq_getElem?_getD, List.getElem?_eq_getElem hj]; rfl
  by_cases c0 : sg T z.1 = 97
  · exact cmd_eq1 (v := 0) (by decide) (by decide) (by decide) (casc.trans (yes _ _ _ c0)) (c0.trans f0.symm) (tk [100, 100, 32] 3 0 rfl (by decide +kernel) (by decide)) (by decide +kernel) (fun so => fm_add _ _ so T hT)
  by_cases c1 : sg T z.1 = 100
  · exact cmd_eq1 (v := 1) (by decide) (by decide) (by decide) (casc.trans ((nop _ _ _ c0).trans (yes _ _ _ c1))) (c1.trans f1.symm) (tk [114, 111, 112, 32] 4 2 rfl (by decide +kernel) (by decide)) (by decide +kernel) (fun so => fm_d _ _ _ so (by omega))
  by_cases c2 : sg T z.1 = 110
  · exact cmd_eq1 (v := 2) (by decide) (by decide) (by decide) (casc.trans ((nop _ _ _ c0).trans ((nop _ _ _ c1).trans (yes _ _ _ c2)))) (c2.trans f2.symm) (tk [111, 116, 101, 32] 4 4 rfl (by decide +kernel) (by decide)) (by decide +kernel) (fun so => fm_note _ _ _ so)
  by_cases c3 : sg T z.1 = 109
  · exact cmd_eq1 (v := 3) (by decide) (by decide) (by decide) (casc.trans ((nop _ _ _ c0).trans ((nop _ _ _ c1).trans ((nop _ _ _ c2).trans (yes _ _ _ c3))))) (c3.trans f3.symm) (tk [97, 115, 107, 32] 4 6 rfl (by decide +kernel) (by decide)) (by decide +kernel) (fun so => fm_mask _ _ _ so)
  by_cases c4 : sg T z.1 = 102
  · exact cmd_eq1 (v := 4) (by decide) (by decide) (by decide) (casc.trans ((nop _ _ _ c0).trans ((nop _ _ _ c1).trans ((nop _ _ _ c2).trans ((nop _ _ _ c3).trans (yes _ _ _ c4)))))) (c4.trans f4.symm) (tk [108, 105, 112, 32] 4 8 rfl (by decide +kernel) (by decide)) (by decide +kernel) (fun so => fm_d _ _ _ so (by omega))
  have n4 := casc.trans ((nop _ _ _ c0).trans ((nop _ _ _ c1).trans ((nop _ _ _ c2).trans ((nop _ _ _ c3).trans (nop _ _ _ c4)))))
  by_cases c5 : sg T z.1 = 116
  · have hin : z.1 < T.2 := sg_in (by omega)
    have w2 := wd_two (sg T) z.1 (fun t ht h5 h7 => cm_0 _ _ ht (fun y => by have a := fl_in _ ht y; omega))
    have m1 := n4.trans (yes _ _ _ c5)
    have cm5 := cm_first (sg T) z.1 (i := 5) (by decide)
    have cm7 := cm_first (sg T) z.1 (i := 7) (by decide)
    rw [if_pos (c5.trans f5.symm)] at cm5
    rw [if_pos (c5.trans f7.symm)] at cm7
    change cmnW (sg T) 10 z.1 = cmnF (sg T) 10 z.1 1 4 at cm5
    change cmnW (sg T) 14 z.1 = cmnF (sg T) 14 z.1 1 5 at cm7
    by_cases u : sg T (z.1 + 1) = 117
    · have e7 : cmnW (sg T) 14 z.1 = 1 := by
        rw [cm7, cmnF, if_neg (by rw [u]; decide +kernel)]
      have g5 : 2 ≤ cmnW (sg T) 10 z.1 := by
        rw [cm5, cmnF, if_pos (by rw [u]; decide +kernel)]
        exact cmn_ge _ _ _ _ _
      have hw : wdF (sg T) z.1 0 0 11 = if cmnW (sg T) (2 * 5) z.1 = sLen (2 * 5) then (5, sLen (2 * 5)) else (11, cmnW (sg T) (2 * 5) z.1) := by
        rw [w2]
        show (if cmnW (sg T) 10 z.1 = sLen 10 then _ else _) = if cmnW (sg T) 10 z.1 = sLen 10 then _ else _
        by_cases e : cmnW (sg T) 10 z.1 = sLen 10
        · rw [if_pos e, if_pos e]
        · rw [if_neg e, if_neg e, if_neg (by rw [e7]; decide +kernel), e7, Nat.max_eq_left (by omega)]
      have mt : tM T (z.1 + 1, z.2.1, nxS T z.1) = chS (sg T) [117, 114, 110, 32] (andS (rdDS (sg T) 0) yesS) (z.1 + 1, z.2.1, nxS T z.1) := by
        show ifS _ _ _ _ = ifS _ _ _ _
        unfold ifS rdS
        simp only [if_pos u, if_true]
      obtain ⟨g1, g2, g3⟩ := cmd_one (sg T) z.1 (v := 5) (by decide) (tk [117, 114, 110, 32] 4 10 rfl (by decide +kernel) (by decide)) (by decide +kernel) (c5.trans f5.symm) hw (fm_d (sg T) _ z.2.1 (nxS T z.1) (v := 5) (by omega))
      unfold CmdEq
      rw [m1, mt]
      refine ⟨g1, g2, fun h => ?_⟩
      obtain ⟨q1, q2, q3⟩ := g3 h
      rw [q1]
      refine ⟨by decide, q2, q3.trans ?_⟩
      unfold soW
      rw [if_neg (by decide), nx_in hin, c5, f5]
    · have e5 : cmnW (sg T) 10 z.1 = 1 := by
        rw [cm5, cmnF, if_neg (by rw [show chW 10 1 = 117 by decide +kernel]; exact u)]
      have g7 : 1 ≤ cmnW (sg T) 14 z.1 := by rw [cm7]; exact cmn_ge _ _ _ _ _
      have hw : wdF (sg T) z.1 0 0 11 = if cmnW (sg T) (2 * 7) z.1 = sLen (2 * 7) then (7, sLen (2 * 7)) else (11, cmnW (sg T) (2 * 7) z.1) := by
        rw [w2, if_neg (by rw [e5]; decide +kernel), e5, Nat.max_eq_right g7]
      have mt : tM T (z.1 + 1, z.2.1, nxS T z.1) = chS (sg T) [101, 109, 112, 111, 32] (andS (rdDS (sg T) 0) yesS) (z.1 + 1, z.2.1, 101) := by
        show ifS (rdS (sg T) 117) _ _ _ = _
        unfold ifS rdS
        simp only [if_neg u]
        rfl
      obtain ⟨g1, g2, g3⟩ := cmd_one (sg T) z.1 (v := 7) (by decide) (tk [101, 109, 112, 111, 32] 5 14 rfl (by decide +kernel) (by decide)) (by decide +kernel) (c5.trans f7.symm) hw (fm_d (sg T) _ z.2.1 101 (v := 7) (by omega))
      unfold CmdEq
      rw [m1, mt]
      refine ⟨g1, g2, fun h => ?_⟩
      obtain ⟨q1, q2, q3⟩ := g3 h
      rw [q1]
      exact ⟨by decide, q2, q3⟩
  have n5 := n4.trans (nop _ _ _ c5)
  by_cases c6 : sg T z.1 = 114
  · exact cmd_eq1 (v := 6) (by decide) (by decide) (by decide) (n5.trans (yes _ _ _ c6)) (c6.trans f6.symm) (tk [97, 105, 115, 101, 32] 5 12 rfl (by decide +kernel) (by decide)) (by decide +kernel) (fun so => fm_raise _ _ _ so)
  by_cases c8 : sg T z.1 = 108
  · exact cmd_eq1 (v := 8) (by decide) (by decide) (by decide) (n5.trans ((nop _ _ _ c6).trans (yes _ _ _ c8))) (c8.trans f8.symm) (tk [105, 109, 105, 116, 32] 5 16 rfl (by decide +kernel) (by decide)) (by decide +kernel) (fun so => fm_n _ _ _ so)
  by_cases c9 : sg T z.1 = 119
  · exact cmd_eq1 (v := 9) (by decide) (by decide) (by decide) (n5.trans ((nop _ _ _ c6).trans ((nop _ _ _ c8).trans (yes _ _ _ c9)))) (c9.trans f9.symm) (tk [97, 118, 101] 3 18 rfl (by decide +kernel) (by decide)) (by decide +kernel) (fun so => fm_w _ _ _ so)
  have n9 := n5.trans ((nop _ _ _ c6).trans ((nop _ _ _ c8).trans (nop _ _ _ c9)))
  by_cases c10 : sg T z.1 = 98
  · have aa : ∀ (a : SP) (y : Nat × (Nat → Int32) × Int32), andS a yesS y = a y := fun a y => by
      unfold andS ifS yesS noS
      cases h : (a y).1 with
      | true => rw [if_pos rfl]; exact Prod.ext h.symm rfl
      | false => rw [if_neg (by decide)]; exact Prod.ext h.symm rfl
    exact cmd_eq1 (v := 10) (by decide) (by decide) (by decide) (n9.trans ((yes _ _ _ c10).trans (aa _ _))) (c10.trans f10.symm) (tk [101, 97, 116] 3 20 rfl (by decide +kernel) (by decide)) (by decide +kernel) (fun so => fm_b _ _ _ so)
  · have wn := wd_none (sg T) z.1 (fun t ht => cm_0 _ _ ht (fun y => by have a := fl_in _ ht y; omega))
    have cS : cmdS (sg T) z.1 = (false, z.1 + 0, 11, []) := by
      unfold cmdS
      rw [wn, if_neg (by decide)]
    unfold CmdEq
    rw [n9.trans (nop _ _ _ c10), cS]
    exact ⟨rfl, rfl, fun h => (by cases h)⟩
