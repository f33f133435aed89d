/-! PURE LEVEL: a beat keeps what holds of rows; beats conducted -/
theorem isum_up {f g : Nat → Nat} {j x : Nat} (hg : g j = f j + x) (ho : ∀ k, k ≠ j → g k = f k) : ∀ {d i : Nat}, i ≤ j → j < i + d → isum g i d = isum f i d + x
  | 0, i, h1, h2 => by omega
  | d+1, i, h1, h2 => by
    show g i + isum g (i + 1) d = f i + isum f (i + 1) d + x
    by_cases e : i = j
    · subst e
      rw [hg, isum_cong (f := g) (g := f) (d := d) (i := i + 1) (fun k q1 q2 => ho k (by omega))]; omega
    · rw [ho i e, isum_up hg ho (d := d) (i := i + 1) (by omega) (by omega)]; omega
theorem sndT_up (r : Row) {k n : Nat} (hk : k < 3) (hn : n < 9) : sndT (upR r (18 + 9 * k + n) (r (18 + 9 * k + n) + 1)) = sndT r + vol k (n + 1) := by
  refine isum_up (j := k) (d := 3) (i := 0) (isum_up (j := n) (d := 9) (i := 0) ?_ (fun q hq => ?_) (by omega) (by omega)) (fun q hq => isum_cong fun z _ hz => ?_) (by omega) (by omega)
  · show upR r _ _ (18 + 9 * k + n) * _ = _
    rw [upR_s, Nat.add_mul, Nat.one_mul]
  · show upR r _ _ (18 + 9 * k + q) * _ = _
    rw [upR_n _ _ (by omega)]
  · show upR r _ _ (18 + 9 * q + z) * _ = _
    rw [upR_n _ _ (by omega)]
theorem sndT_step {r : Row} {b c j : Nat} (hk : r b < 3) (hn : r (b + (7 + 6 * j + c)) < 10) : sndT (sndStep r b c j) = sndT r + cvf r b c j := by
  unfold sndStep cvf
  by_cases z : r (b + (7 + 6 * j + c)) = 0
  · rw [if_pos z, z]; rfl
  · rw [if_neg z]
    obtain ⟨m, hm⟩ : ∃ m, r (b + (7 + 6 * j + c)) = m + 1 := ⟨r (b + (7 + 6 * j + c)) - 1, by omega⟩
    rw [hm, show 18 + 9 * r b + (m + 1) - 1 = 18 + 9 * r b + m by omega]
    exact sndT_up r hk (by omega)
theorem sndT_it {b c : Nat} (hb : 45 ≤ b) (hc : c < 6) : ∀ {d i : Nat} {r : Row}, SecOK r b → i + d ≤ 6 → sndT (sndIt b c r i d) = sndT r + isum (cvf r b c) i d
  | 0, _, _, _, _ => rfl
  | d+1, i, r, h, e => by
    have hn := h.2.2.2.2.2.2.2 i c (by omega) hc
    show sndT (sndIt b c (sndStep r b c i) (i + 1) d) = sndT r + (cvf r b c i + isum (cvf r b c) (i + 1) d)
    rw [sndT_it hb hc (h.step hb hc (by omega)) (by omega), sndT_step h.1 hn.1, isum_cong (f := cvf (sndStep r b c i) b c) (g := cvf r b c) (fun j _ _ => ?_), Nat.add_assoc]
    unfold cvf
    rw [sndStep_ge h.1 hn.1 hb, sndStep_ge h.1 hn.1 (by omega)]
theorem sndT_play {r : Row} {b : Nat} (h : SecOK r b) (hb : 45 ≤ b) : sndT (playRow r b) = sndT r + volN r b := by
  unfold playRow volN
  by_cases h5 : r (b + 5) = 0
  · rw [if_pos h5]
    by_cases hm : bit (r (b + 3)) (colN r b) = 0
    · rw [if_pos hm, if_pos ⟨h5, hm⟩, sndT_cong (w := sndIt b (colN r b) r 0 6) (fun k h1 h2 => upR_n _ _ (by omega)), sndT_it hb (colN_lt h) h (by omega)]
      rfl
    · rw [if_neg hm, if_neg (fun z => hm z.2)]; rfl
  · rw [if_neg h5, if_neg (fun z => h5 z.1), sndT_cong (w := r) (fun k h1 h2 => upR_n _ _ (by omega))]; rfl
theorem beat_snd : ∀ (d s : Nat) (r : Row) (t q m : Nat), RowOK r → s + d = r 0 → sndT (beatIt r t q m s d).1 + t = sndT r + (beatIt r t q m s d).2.1
  | 0, _, _, _, _, _, _, _ => rfl
  | d+1, s, r, t, q, m, h, e => by
    have hs : s < r 0 := by omega
    have h2 := h.play hs
    have e0 := playRow_lo (h.2.2 s hs) (by simp only [bs]; omega) (k := 0) (by decide)
    have := beat_snd d (s + 1) (playRow r (bs s)) (t + volN r (bs s)) (if volN r (bs s) < m then q else s) (if volN r (bs s) < m then m else volN r (bs s) + 1) h2 (by omega)
    rw [sndT_play (h.2.2 s hs) (by simp only [bs]; omega)] at this
    show sndT (beatIt _ _ _ _ (s + 1) d).1 + t = sndT r + (beatIt _ _ _ _ (s + 1) d).2.1
    omega
theorem beat_played : ∀ (d s : Nat) (r : Row) (t q m : Nat), RowOK r → s + d = r 0 → ∀ z, z < r 0 → (beatIt r t q m s d).1 (bs z + 6) ≤ r (bs z + 6) + (if s ≤ z then 72 else 0)
  | 0, _, _, _, _, _, _, _, z, _ => Nat.le_add_right _ _
  | d+1, s, r, t, q, m, h, e, z, hz => by
    have hs : s < r 0 := by omega
    have h2 := h.play hs
    have hb : 45 ≤ bs s := by simp only [bs]; omega
    have e0 := playRow_lo (h.2.2 s hs) hb (k := 0) (by decide)
    have := beat_played d (s + 1) (playRow r (bs s)) (t + volN r (bs s)) (if volN r (bs s) < m then q else s) (if volN r (bs s) < m then m else volN r (bs s) + 1) h2 (by omega) z (by omega)
    show (beatIt _ _ _ _ (s + 1) d).1 (bs z + 6) ≤ _
    by_cases ez : z = s
    · subst ez
      have c0 : (if z + 1 ≤ z then 72 else 0) = 0 := if_neg (by omega)
      have c1 : (if z ≤ z then 72 else 0) = 72 := if_pos (Nat.le_refl _)
      rw [playRow_6 (h.2.2 z hs) hb, c0] at this
      have v := volN_le (h.2.2 z hs)
      rw [c1]; omega
    · rw [playRow_hi (h.2.2 s hs) hb (k := bs z + 6) (by simp only [bs]; omega) (by simp only [bs]; omega) (by simp only [bs]; omega)] at this
      refine Nat.le_trans this (Nat.add_le_add_left ?_ _)
      by_cases c : s ≤ z
      · rw [if_pos (show s + 1 ≤ z by omega), if_pos c]; exact Nat.le_refl _
      · rw [if_neg (show ¬ s + 1 ≤ z by omega)]; exact Nat.zero_le _
theorem tick_4 {r : Row} (h : RowOK r) : tick r 4 ≤ r 4 + 1 := by
  have e := (tick1_ok h).2.1 4 (by decide)
  show tick2 r 4 ≤ r 4 + 1
  unfold tick2
  split
  · rw [tireRow_lo (by simp only [bs]; omega) (by decide), upR_s, e]; exact Nat.le_refl _
  · rw [e]; omega
theorem tick2_hi {r : Row} {k : Nat} (h4 : k ≠ 4) (hn : ∀ s, k ≠ bs s + 4 ∧ k ≠ bs s + 5) : tick2 r k = (tick1 r).1 k := by
  unfold tick2
  split
  · rw [tireRow_hi (hn _).1 (hn _).2, upR_n _ _ h4]
  · rfl
theorem tick_p6 {r : Row} {s : Nat} : tick r (bs s + 6) = (tick1 r).1 (bs s + 6) := by
  rw [tick_hi r (by simp only [bs]; omega), tick2_hi (by simp only [bs]; omega) (fun z => by simp only [bs]; omega)]
theorem Inv.tick {B : Nat} {r : Row} (h : Inv B r) (hB : B < 2 ^ 20) : Inv (B + 1) (tick r) := by
  have ok2 := h.ok2
  obtain ⟨hok, k1, k2, k3, k4, k5, k6, k7, k8, k9⟩ := h
  have t1 := tick1_ok hok
  have o1 := tick_1 hok
  have o4 := tick_4 hok
  have o5 := tick_5 hok
  have o6 := tick_6 hok
  have o7 := tick_7 hok
  have o0 := tick_lo hok (k := 0) (by decide) (by decide)
  have o2 := tick_lo hok (k := 2) (by decide) (by decide)
  have o3 := tick_lo hok (k := 3) (by decide) (by decide)
  refine ⟨(tick_ok ok2 (by omega)).1, by omega, by omega, by omega, by omega, by omega, by omega, by omega, fun s hs => ?_, ?_⟩
  · rw [o0] at hs
    have := beat_played (r 0) 0 r 0 0 0 hok (by omega) s hs
    rw [if_pos (by omega)] at this
    have q := k8 s hs
    rw [tick_p6, o1]
    exact Nat.le_trans this (by omega)
  · rw [o5, sndT_cong (w := (tick1 r).1) (fun k h1 h2 => ?_)]
    · have := beat_snd (r 0) 0 r 0 0 0 hok (by omega)
      show _ = sndT (beatIt r 0 0 0 0 (r 0)).1
      show r 5 + (beatIt r 0 0 0 0 (r 0)).2.1 = _
      omega
    · rw [tick_hi r h1, tick2_hi (by omega) (fun z => by simp only [bs]; omega)]
theorem Inv.ticks : ∀ (n : Nat) {B : Nat} {r : Row}, Inv B r → B + n ≤ 2 ^ 20 → Inv (B + n) (ticks n r)
  | 0, _, _, h, _ => h
  | n+1, B, r, h, hB => by
    have := Inv.ticks n (h.tick (by omega)) (by omega)
    rw [show B + (n + 1) = B + 1 + n by omega]
    exact this
theorem ch_beats {B : Nat} (hB : B + 40 ≤ 2 ^ 20) (w : Row) (hI : Inv B w) (p : Int32) : CH 1 (2 ^ 31) (B + 40) w (fun _ => F_X9_notBeats p) (F_X9_beatsTimes 204 p) (fun M => Option.bind (F_X8_isBeats p) (fun v => if v = 0 then some (-2, M) else F_X5_play 2 p M)) (fun _ => -2) := by
  have h1 := hI.2.1
  by_cases hp : p < 1 ∨ 40 < p
  · refine CH.bad (c := 1) (by decide) (fun M hL hw => ?_) (fun M hS => ?_)
    · unfold F_X9_notBeats
      rw [F_bet, ob_s, if_pos hp, if_pos rfl]; rfl
    · unfold F_X8_isBeats
      by_cases h1 : p < 1
      · simp only [if_pos h1, ob_s, if_true]
      · simp only [if_neg h1, if_pos (hp.elim (fun z => absurd z h1) id), ob_s, if_true]
  · have hp1 : ¬ p < 1 := fun z => hp (Or.inl z)
    have hp2 : ¬ 40 < p := fun z => hp (Or.inr z)
    have hp0 : ¬ p < 0 := fun z => hp1 (fa_trans z (by decide))
    obtain ⟨n, hn, rfl⟩ := nI_of hp0
    have hn40 : n ≤ 40 := by
      have := fa_of_nlt hp2
      rwa [show (40 : Int32) = nI 40 from rfl, nI_leI hn (by decide)] at this
    have hle := tsum_le n hI.ok2 (by omega)
    refine CH.good (v := tsum n w) (w' := ticks n w) (by omega) ((hI.ticks n (by omega)).mono (by omega)) (fun M hL hw => ⟨?_, ?_⟩) (fun M hS => ?_)
    · unfold F_X9_notBeats
      rw [F_bet, ob_s, if_neg hp, if_neg (by decide)]; rfl
    · exact F_times (by omega) hL hw hI.ok2 (by omega)
    · obtain ⟨M', g1, g2, g3⟩ := C_plays (N := n) (x := 2) (by omega) hS hI.ok2 (by omega)
      refine ⟨M', ?_, g2, FrS.blk g3⟩
      show Option.bind (F_X8_isBeats (nI n)) (fun v => if v = 0 then some (-2, M) else F_X5_play 2 (nI n) M) = _
      unfold F_X8_isBeats
      rw [if_neg hp1, if_neg hp2, ob_s, if_neg (by decide), g1]
theorem ch_wave {B : Nat} (hB : B + 40 ≤ 2 ^ 20) (w : Row) (hI : Inv B w) : CH 0 (2 ^ 31) (B + 40) w (fun _ => some 0) (fun M => F_X9_beatsTimes 204 (mI M 205 2) M) (fun M => F_X5_play 2 (mI M 2 2) M) (fun _ => -2) := by
  have h1 := hI.2.1
  have h2 := hI.2.2.1
  have hle := tsum_le (w 2) hI.ok2 (by omega)
  refine CH.good (v := tsum (w 2) w) (w' := ticks (w 2) w) (by omega) ((hI.ticks (w 2) (by omega)).mono (by omega)) (fun M hL hw => ⟨rfl, ?_⟩) (fun M hS => ?_)
  · show ∃ M', F_X9_beatsTimes 204 (mI M 205 2) M = _ ∧ _
    rw [hw.at (by decide)]
    exact F_times (by omega) hL hw hI.ok2 (by omega)
  · obtain ⟨M', g1, g2, g3⟩ := C_plays (N := w 2) (x := 2) (by omega) hS hI.ok2 (by omega)
    refine ⟨M', ?_, g2, FrS.blk g3⟩
    show F_X5_play 2 (mI M 2 2) M = _
    rw [hS.2.1.2.1, g1]
