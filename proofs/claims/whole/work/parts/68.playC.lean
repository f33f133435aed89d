/-! PURE LEVEL: one section played, the sections of a beat: ours -/
theorem C_play {M : Mem} {x s : Nat} {r : Row} (h : StR M x r) (hok : RowOK r) (hs : s < r 0) :
    ∃ M', F_X5_playSection x (mR M (x + 1) s) M = some (nI (volN r (bs s)), M') ∧ StR M' x (playRow r (bs s)) ∧ Blk M M' x 14 := by
  have h5 := hok.1
  have hsec := hok.2.2 s hs
  have h45 : 45 ≤ bs s := by simp only [bs]; omega
  have hb : r 1 < 2 ^ 31 := by have := hok.2.1; omega
  have hR := h.2.2.2.1 s hs
  obtain ⟨j, hj, ea, -⟩ := h.sec (s := s) (by omega)
  have hSn := h.2.2.2.2.1
  have q5 := hR.2.2.2.2.2.1
  have q6 := hR.2.2.2.2.2.2.1
  have hlo : ∀ k, k < 18 → playRow r (bs s) k = r k := fun k hk => playRow_lo hsec h45 hk
  have hhi : ∀ k, 45 ≤ k → k ≠ bs s + 5 → k ≠ bs s + 6 → playRow r (bs s) k = r k := fun k h1 h2 h3 => playRow_hi hsec h45 h1 h2 h3
  have h4 := h.2.1.2.2.2.1
  have r3 := hsec.2.2.2.2.2.1
  unfold F_X5_playSection
  rw [q5]
  by_cases hr0 : r (bs s + 5) = 0
  · rw [hr0, if_pos (show nI 0 ≤ 0 by decide), h4, C_colIn hR hsec hb, ob_s, C_masks hR hsec (colN_lt hsec), ob_s]
    by_cases hbit : bit (r (bs s + 3)) (colN r (bs s)) = 0
    · rw [hbit, if_pos nI_0]
      obtain ⟨M1, a1, a2, a3⟩ := C_snd (x := x) (q := x + 2) h45 (colN_lt hsec) (by omega) (by omega) hR hsec hSn h.1.2.1
      have hR1 : SecR M1 (mR M (x + 1) s) r (bs s) := hR.mv (fun k => a3.1 _ k (by omega)) (fun k => a3.1 _ k (by omega)) (only_r a3 _ _) h45 (fun _ _ => rfl)
      rw [a1, b1_s, C_col hR1 hsec (colN_lt hsec), ob_s, lt_v, hR1.2.2.2.2.2.2.1, nI_add]
      have hv : colV r (bs s) (colN r (bs s)) = volN r (bs s) := by unfold volN; rw [if_pos ⟨hr0, hbit⟩]
      rw [hv]
      refine ⟨_, rfl, ?_, (Blk.of a3 (by omega) (by omega)).trans (Blk.put _ _ _ (by omega) (by omega))⟩
      refine h.play h5 hs (fun o k h1 h2 => ?_) (fun o k => only_j a3 o k) (by show M1.2.2 = M.2.2; rw [a3.2]) ?_ ?_ (fun k n hk hn => ?_) hlo hhi
      · rw [mI_sI, if_neg (fun z => h2 ⟨z.1, Or.inr z.2⟩), a3.1 o k h1]
      · rw [mI_sI, if_neg (by omega), a3.1 _ _ (by omega), q5, playRow_5 hsec h45, hr0]
      · rw [mI_sI, if_pos ⟨rfl, rfl⟩, playRow_6 hsec h45]
      · rw [mI_sI, if_neg (by omega), a2 k n hk hn]
        have hp : playRow r (bs s) = upR (sndIt (bs s) (colN r (bs s)) r 0 6) (bs s + 6) (sndIt (bs s) (colN r (bs s)) r 0 6 (bs s + 6) + volN r (bs s)) := by unfold playRow; rw [if_pos hr0, if_pos hbit]
        rw [hp, upR_n _ _ (by omega)]
    · have hb1 : bit (r (bs s + 3)) (colN r (bs s)) = 1 := by have := bit_01 (r (bs s + 3)) (colN r (bs s)); omega
      have hv : volN r (bs s) = 0 := by unfold volN; rw [if_neg (fun z => hbit z.2)]
      have hp : playRow r (bs s) = r := by unfold playRow; rw [if_pos hr0, if_neg hbit]
      rw [hb1, if_neg (by decide), hv, hp]
      exact ⟨M, rfl, h, Blk.refl _ _ _⟩
  · have hv : volN r (bs s) = 0 := by unfold volN; rw [if_neg (fun z => hr0 z.1)]
    have hp : playRow r (bs s) = upR r (bs s + 5) (r (bs s + 5) - 1) := by unfold playRow; rw [if_neg hr0]
    rw [if_neg (nI_nle (Nat.pos_of_ne_zero hr0) (by omega)), lt_v, show (1 : Int32) = nI 1 from rfl, nI_sub (Nat.pos_of_ne_zero hr0), hv]
    refine ⟨_, rfl, ?_, Blk.put _ _ _ (by omega) (by omega)⟩
    refine h.play h5 hs (fun o k h1 h2 => ?_) (fun o k => rfl) rfl ?_ ?_ (fun k n hk hn => ?_) hlo hhi
    · rw [mI_sI, if_neg (fun z => h2 ⟨z.1, Or.inl z.2⟩)]
    · rw [mI_sI, if_pos ⟨rfl, rfl⟩, playRow_5 hsec h45]
    · rw [mI_sI, if_neg (by omega), q6, playRow_6 hsec h45, hv]; rfl
    · rw [mI_sI, if_neg (by omega), hSn k n hk hn, hp, upR_n _ _ (by omega)]
theorem beatIt_m : ∀ (d s : Nat) (r : Row) (t q m : Nat), m ≤ (beatIt r t q m s d).2.2.2 := by
  intro d
  induction d with
  | zero => intro s r t q m; exact Nat.le_refl _
  | succ d ih =>
    intro s r t q m
    rw [beatIt]
    by_cases hc : volN r (bs s) < m
    · rw [if_pos hc, if_pos hc]; exact ih _ _ _ _ _
    · rw [if_neg hc, if_neg hc]; exact Nat.le_trans (by omega) (ih _ _ _ _ _)
/-- where no section was louder than 0, the total is 0 -/
theorem beatIt_z : ∀ (d s : Nat) (r : Row) (t q m : Nat), (beatIt r t q m s d).2.2.2 ≤ 1 → (beatIt r t q m s d).2.1 = t := by
  intro d
  induction d with
  | zero => intro s r t q m _; rfl
  | succ d ih =>
    intro s r t q m h
    rw [beatIt] at h ⊢
    by_cases hc : volN r (bs s) < m
    · rw [if_pos hc, if_pos hc] at h ⊢
      have h1 := beatIt_m d (s + 1) (playRow r (bs s)) (t + volN r (bs s)) q m
      rw [ih _ _ _ _ _ h]
      omega
    · rw [if_neg hc, if_neg hc] at h ⊢
      have h1 := beatIt_m d (s + 1) (playRow r (bs s)) (t + volN r (bs s)) s (volN r (bs s) + 1)
      rw [ih _ _ _ _ _ h]
      omega
/-- the greatest volume of ours: m - 1, 0 where there is none yet; the loudest: null where none is louder than 0 -/
theorem C_beatsL {x : Nat} (K : Int32 → Nat → Int32 → Int32 → Mem → Option (Int32 × Mem)) : ∀ (d s n : Nat) (M : Mem) (r : Row) (t q m : Nat), StR M x r → RowOK r → s + d = r 0 → d < n → m < 1000 →
    ∃ M', F_X5_playBeat_L1 x K n (nI t) (if m ≤ 1 then 0 else mR M (x + 1) q) (nI (m - 1)) (nI s) M = K (nI (beatIt r t q m s d).2.1) (if (beatIt r t q m s d).2.2.2 ≤ 1 then 0 else mR M' (x + 1) (beatIt r t q m s d).2.2.1) (nI ((beatIt r t q m s d).2.2.2 - 1)) (nI (r 0)) M' ∧ StR M' x (beatIt r t q m s d).1 ∧ Blk M M' x 14 := by
  intro d
  induction d with
  | zero =>
    intro s n M r t q m h hok e hn0 hm
    obtain ⟨n, rfl⟩ : ∃ m, n = m + 1 := ⟨n - 1, by omega⟩
    have h5 := hok.1
    refine ⟨M, ?_, h, Blk.refl _ _ _⟩
    rw [F_X5_playBeat_L1, h.2.1.1, if_pos (nI_le (by omega) (by omega)), show s = r 0 by omega]
    rfl
  | succ d ih =>
    intro s n M r t q m h hok e hn0 hm
    obtain ⟨n, rfl⟩ : ∃ m, n = m + 1 := ⟨n - 1, by omega⟩
    have h5 := hok.1
    have hsec := hok.2.2 s (by omega)
    have hv := volN_le hsec
    have h45 : 45 ≤ bs s := by simp only [bs]; omega
    have h0 := playRow_lo hsec h45 (k := 0) (by decide)
    have hok2 := hok.play (s := s) (by omega)
    obtain ⟨M1, a1, a2, a3⟩ := C_play h hok (s := s) (by omega)
    have hR1 := blk_r a3
    rw [F_X5_playBeat_L1, h.2.1.1, if_neg (nI_ge (by omega) (by omega)), show (5 : Int32) = nI 5 from rfl, if_neg (nI_ge (by omega) (by omega)), chk_t (inb_n (by omega) (by decide)), h.1.1, nI_clamp (by omega), a1, b1_s, lt_v, nI_add, show (1 : Int32) = nI 1 from rfl, nI_add]
    simp only [nI_leI (show volN r (bs s) < 2 ^ 31 by omega) (show m - 1 < 2 ^ 31 by omega)]
    by_cases hc : volN r (bs s) < m
    · rw [if_pos (show volN r (bs s) ≤ m - 1 by omega), lt_v]
      obtain ⟨M', g1, g2, g3⟩ := ih (s + 1) n M1 (playRow r (bs s)) (t + volN r (bs s)) q m a2 hok2 (by rw [h0]; omega) (by omega) hm
      rw [h0, hR1] at g1
      refine ⟨M', ?_, ?_, a3.trans g3⟩
      · rw [g1, beatIt, if_pos hc, if_pos hc]
      · rw [beatIt, if_pos hc, if_pos hc]; exact g2
    · obtain ⟨M', g1, g2, g3⟩ := ih (s + 1) n M1 (playRow r (bs s)) (t + volN r (bs s)) s (volN r (bs s) + 1) a2 hok2 (by rw [h0]; omega) (by omega) (by omega)
      rw [h0] at g1
      have eb : beatIt r t q m s (d + 1) = beatIt (playRow r (bs s)) (t + volN r (bs s)) s (volN r (bs s) + 1) (s + 1) d := by rw [beatIt, if_neg hc, if_neg hc]
      refine ⟨M', ?_, by rw [eb]; exact g2, a3.trans g3⟩
      rw [eb, ← g1]
      by_cases hz : volN r (bs s) ≤ m - 1
      · rw [if_pos hz, lt_v, if_pos (show m ≤ 1 by omega), if_pos (show volN r (bs s) + 1 ≤ 1 by omega), show m - 1 = 0 by omega, show volN r (bs s) + 1 - 1 = 0 by omega]
      · rw [if_neg hz, chk_t (inb_n (by omega) (by decide)), lt_v, lt_v, if_neg (show ¬ volN r (bs s) + 1 ≤ 1 by omega), Nat.add_sub_cancel, a2.1.1]
