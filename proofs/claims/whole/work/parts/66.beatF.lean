/-! PURE LEVEL: the sections of a beat, the model's loop -/
theorem F_beatsL (K : Int32 → Int32 → Int32 → Int32 → Mem → Option (Int32 × Mem)) : ∀ (d s n : Nat) (M : Mem) (r : Row) (t q m : Nat), LM M → WA M 205 260 r → RowOK r → s + d = r 0 → d < n → m < 1000 →
    ∃ M', F_X9_beats_L1 204 K n (nI t) (nI q) (mm m) (nI s) M = K (nI (beatIt r t q m s d).2.1) (nI (beatIt r t q m s d).2.2.1) (mm (beatIt r t q m s d).2.2.2) (nI (r 0)) M' ∧ WA M' 205 260 (beatIt r t q m s d).1 ∧ Only M M' 205 := by
  intro d
  induction d with
  | zero =>
    intro s n M r t q m hL hw h e hn0 hm
    obtain ⟨n, rfl⟩ : ∃ m, n = m + 1 := ⟨n - 1, by omega⟩
    have h5 := h.1
    refine ⟨M, ?_, hw, Only.refl _ _⟩
    rw [F_X9_beats_L1, chk_t (by decide), hL.1, hw.at (k := 0) (by decide), if_pos (nI_le (by omega) (by omega)), show s = r 0 by omega]
    rfl
  | succ d ih =>
    intro s n M r t q m hL hw h e hn0 hm
    obtain ⟨n, rfl⟩ : ∃ m, n = m + 1 := ⟨n - 1, by omega⟩
    have h5 := h.1
    have hs : s < 5 := by omega
    have hsec := h.2.2 s (by omega)
    have hb : r 1 < 2 ^ 31 := by have := h.2.1; omega
    have hv := volN_le hsec
    have h45 : 45 ≤ bs s := by simp only [bs]; omega
    have h0 := playRow_lo hsec h45 (k := 0) (by decide)
    have hok := h.play (s := s) (by omega)
    -- the end of the body
    have tail : ∀ M2, WA M2 205 260 (playRow r (bs s)) → Only M M2 205 → ∃ M',
        lt (nI t + nI (volN r (bs s))) (fun (v23 : Int32) => if nI (volN r (bs s)) ≤ mm m then lt (nI s + 1) (fun (v25 : Int32) => F_X9_beats_L1 204 K n v23 (nI q) (mm m) v25 M2) else lt (nI s + 1) (fun (v26 : Int32) => F_X9_beats_L1 204 K n v23 (nI s) (nI (volN r (bs s))) v26 M2))
          = K (nI (beatIt r t q m s (d + 1)).2.1) (nI (beatIt r t q m s (d + 1)).2.2.1) (mm (beatIt r t q m s (d + 1)).2.2.2) (nI (r 0)) M' ∧ WA M' 205 260 (beatIt r t q m s (d + 1)).1 ∧ Only M M' 205 := by
      intro M2 hw2 hO
      rw [lt_v, nI_add, show (1 : Int32) = nI 1 from rfl, nI_add]
      simp only [mm_le (show volN r (bs s) < 1000 by omega) hm]
      by_cases hc : volN r (bs s) < m
      · rw [if_pos hc, lt_v]
        obtain ⟨M', g1, g2, g3⟩ := ih (s + 1) n M2 (playRow r (bs s)) (t + volN r (bs s)) q m (hL.of hO.2) hw2 hok (by rw [h0]; omega) (by omega) hm
        rw [h0] at g1
        refine ⟨M', ?_, ?_, hO.trans g3⟩
        · rw [g1, beatIt, if_pos hc, if_pos hc]
        · rw [beatIt, if_pos hc, if_pos hc]; exact g2
      · rw [if_neg hc, lt_v]
        obtain ⟨M', g1, g2, g3⟩ := ih (s + 1) n M2 (playRow r (bs s)) (t + volN r (bs s)) s (volN r (bs s) + 1) (hL.of hO.2) hw2 hok (by rw [h0]; omega) (by omega) (by omega)
        rw [h0] at g1
        have e3 : mm (volN r (bs s) + 1) = nI (volN r (bs s)) := by unfold mm; rw [if_neg (by omega)]; rfl
        rw [e3] at g1
        refine ⟨M', ?_, ?_, hO.trans g3⟩
        · rw [g1, beatIt, if_neg hc, if_neg hc]
        · rw [beatIt, if_neg hc, if_neg hc]; exact g2
    rw [F_X9_beats_L1, chk_t (by decide), hL.1, hw.at (k := 0) (by decide), if_neg (nI_ge (by omega) (by omega)), F_volNow hL hw hb hs hsec, ob_s]
    have n0 : nI 0 ≤ 0 := by decide
    have n1 : ¬ nI 1 = 0 := by decide
    have e5 : (5 : Int32) = nI 5 := rfl
    have e6 : (6 : Int32) = nI 6 := rfl
    by_cases hr0 : r (bs s + 5) = 0
    · by_cases hbit : bit (r (bs s + 3)) (colN r (bs s)) = 0
      · -- it plays
        have hpl : F_X9_plays 204 (nI s) M = some (nI 1) := by rw [F_plays hL hw hb hs hsec, if_pos ⟨hr0, hbit⟩]
        rw [hpl, ob_s, if_neg n1, F_colNow hL hw hb hs hsec, ob_s]
        obtain ⟨M1, a1, a2, a3⟩ := F_snd hL hw hs (colN_lt hsec) hsec
        rw [a1, b1_s]
        have hL1 := hL.of a3.2
        have r5 : sndIt (bs s) (colN r (bs s)) r 0 6 (bs s + 5) = 0 := by rw [sndIt_ge h45 (colN_lt hsec) hsec (by omega) _ (by omega), hr0]
        obtain ⟨p1, p2⟩ := F_puts hL1 a2 (s := s) (k := 6) (sndIt (bs s) (colN r (bs s)) r 0 6 (bs s + 6) + volN r (bs s)) (by omega)
        rw [e5, F_of hL1 a2 (by omega), ob_s, r5, if_pos n0, e6, F_of hL1 a2 (by omega), ob_s, nI_add, p1, b1_s]
        have hp : playRow r (bs s) = upR (sndIt (bs s) (colN r (bs s)) r 0 6) (bs s + 6) (sndIt (bs s) (colN r (bs s)) r 0 6 (bs s + 6) + volN r (bs s)) := by unfold playRow; rw [if_pos hr0, if_pos hbit]
        exact tail _ (by rw [hp]; exact p2) (a3.trans (Only.put _ _ _ _))
      · have hv0 : volN r (bs s) = 0 := by unfold volN; rw [if_neg (fun z => hbit z.2)]
        obtain ⟨p1, p2⟩ := F_puts hL hw (s := s) (k := 6) (r (bs s + 6) + volN r (bs s)) (by omega)
        have hpl : F_X9_plays 204 (nI s) M = some (nI 0) := by rw [F_plays hL hw hb hs hsec, if_neg (fun z => hbit z.2)]
        rw [hpl, ob_s, if_pos nI_0, e5, F_of hL hw (by omega), ob_s, hr0, if_pos n0, e6, F_of hL hw (by omega), ob_s, nI_add, p1, b1_s]
        have hp : playRow r (bs s) = upR r (bs s + 6) (r (bs s + 6) + volN r (bs s)) := by unfold playRow; rw [if_pos hr0, if_neg hbit, hv0]; exact (upR_id _ _).symm
        exact tail _ (by rw [hp]; exact p2) (Only.put _ _ _ _)
    · have hv0 : volN r (bs s) = 0 := by unfold volN; rw [if_neg (fun z => hr0 z.1)]
      have hr3 := hsec.2.2.2.2.2.1
      obtain ⟨p1, p2⟩ := F_puts hL hw (s := s) (k := 5) (r (bs s + 5) - 1) (by omega)
      have hL1 : LM (sI M 205 (45 + 43 * s + 5) (nI (r (bs s + 5) - 1))) := hL.of rfl
      obtain ⟨p3, p4⟩ := F_puts hL1 p2 (s := s) (k := 6) (upR r (45 + 43 * s + 5) (r (bs s + 5) - 1) (bs s + 6) + volN r (bs s)) (by omega)
      have hpl : F_X9_plays 204 (nI s) M = some (nI 0) := by rw [F_plays hL hw hb hs hsec, if_neg (fun z => hr0 z.1)]
      rw [hpl, ob_s, if_pos nI_0, e5, F_of hL hw (by omega), ob_s, if_neg (nI_nle (Nat.pos_of_ne_zero hr0) (by omega)), ob_s, show (1 : Int32) = nI 1 from rfl, nI_sub (Nat.pos_of_ne_zero hr0), p1, b1_s, e6, F_of hL1 p2 (by omega), ob_s, nI_add, p3, b1_s]
      have hp : playRow r (bs s) = upR (upR r (45 + 43 * s + 5) (r (bs s + 5) - 1)) (45 + 43 * s + 6) (upR r (45 + 43 * s + 5) (r (bs s + 5) - 1) (bs s + 6) + volN r (bs s)) := by unfold playRow; rw [if_neg hr0, hv0]; exact (upR_id _ _).symm
      exact tail _ (by rw [hp]; exact p4) ((Only.put _ _ _ _).trans (Only.put _ _ _ _))
