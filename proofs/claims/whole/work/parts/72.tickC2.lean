/-! PURE LEVEL: one beat, ours, whole -/
theorem SecR.cong3 {M M' : Mem} {a b : Nat} {w w' : Row} (h : SecR M a w b) (hI : ∀ k, k ≠ 5 → k ≠ 6 → mI M' a k = mI M a k) (hN : ∀ k, mI M' (a + 1) k = mI M (a + 1) k) (hr : mR M' a 3 = mR M a 3) (e : ∀ k, k < 43 → k ≠ 4 → k ≠ 5 → w' (b + k) = w (b + k)) (h5 : mI M' a 5 = nI (w' (b + 4))) (h6 : mI M' a 6 = nI (w' (b + 5))) : SecR M' a w' b := by
  have e0 := e 0 (by decide) (by decide) (by decide)
  rw [Nat.add_zero] at e0
  unfold SecR at h ⊢
  rw [hI 0 (by decide) (by decide), hI 1 (by decide) (by decide), hI 2 (by decide) (by decide), hI 4 (by decide) (by decide), hI 7 (by decide) (by decide), hr, e0, e 1 (by decide) (by decide) (by decide), e 2 (by decide) (by decide) (by decide), e 3 (by decide) (by decide) (by decide), e 6 (by decide) (by decide) (by decide)]
  refine ⟨h.1, h.2.1, h.2.2.1, h.2.2.2.1, h5, h6, h.2.2.2.2.2.2.1, h.2.2.2.2.2.2.2.1, fun k hk => ?_⟩
  rw [hN, e (7 + k) (by omega) (by omega) (by omega)]
  exact h.2.2.2.2.2.2.2.2 k hk
theorem tireRow_hi {r : Row} {b k : Nat} (h4 : k ≠ b + 4) (h5 : k ≠ b + 5) : tireRow r b k = r k := by
  unfold tireRow
  split
  · exact upR_n _ _ h4
  · rw [upR_n _ _ h5, upR_n _ _ h4]
theorem C_tire {M : Mem} {x s : Nat} {r : Row} (h : StR M x r) (h5 : r 0 ≤ 5) (hs : s < r 0) (hsec : SecOK r (bs s)) : ∃ M', F_X4_tire (mR M (x + 1) s) M = some ((), M') ∧ StR M' x (tireRow r (bs s)) ∧ Blk M M' x 14 := by
  have f3 := hsec.2.2.2.2.1
  have h45 : 45 ≤ bs s := by simp only [bs]; omega
  obtain ⟨j, hj, ea, -⟩ := h.sec (s := s) (by omega)
  have hR := h.2.2.2.1 s hs
  have hlo : ∀ k, k < 45 → tireRow r (bs s) k = r k := fun k hk => tireRow_lo h45 hk
  -- the state behind it, from the two cells
  have fin : ∀ M', (∀ o k, ¬ (o = mR M (x + 1) s ∧ (k = 5 ∨ k = 6)) → mI M' o k = mI M o k) → M'.2 = M.2 → mI M' (mR M (x + 1) s) 5 = nI (tireRow r (bs s) (bs s + 4)) → mI M' (mR M (x + 1) s) 6 = nI (tireRow r (bs s) (bs s + 5)) → StR M' x (tireRow r (bs s)) := by
    intro M' hI hRf q5 q6
    have hRR : ∀ a k, mR M' a k = mR M a k := fun a k => by unfold mR; rw [hRf]
    have hJ : ∀ a k, mJ M' a k = mJ M a k := fun a k => by unfold mJ; rw [hRf]
    obtain ⟨hr, hn, hp, hse, hS, hlog, hko⟩ := h
    refine ⟨by rw [hRR, hRR, hRR]; exact hr, ?_, hp.of hRR, fun i hi2 => ?_, fun k n hk hn2 => ?_, ?_, fun j hj => by rw [hI _ _ (by omega)]; exact hko j hj⟩
    · rw [hI x 1 (by omega), hI x 2 (by omega), hI x 3 (by omega), hI x 4 (by omega), hI x 5 (by omega), hI x 6 (by omega), hJ, hlo 0 (by decide), hlo 1 (by decide), hlo 2 (by decide), hlo 3 (by decide), hlo 4 (by decide), hlo 5 (by decide), hlo 6 (by decide)]
      exact hn
    · rw [hlo 0 (by decide)] at hi2
      rw [hRR]
      obtain ⟨j2, hj2, e2⟩ := hp.1 i (by omega)
      by_cases ei : i = s
      · subst ei
        exact (hse i hi2).cong3 (fun k h1 h2 => hI _ _ (by omega)) (fun k => hI _ _ (by omega)) (hRR _ _) (fun k _ h1 h2 => tireRow_hi (by omega) (by omega)) q5 q6
      · have ne : mR M (x + 1) i ≠ mR M (x + 1) s := fun z => ei (hp.2.1 i s (by omega) (by omega) z)
        have r5 := (hse i hi2).2.2.2.2.1
        have r6 := (hse i hi2).2.2.2.2.2.1
        refine (hse i hi2).cong3 (fun k h1 h2 => hI _ _ (by omega)) (fun k => hI _ _ (by omega)) (hRR _ _) (fun k hk h1 h2 => tireRow_hi (by simp only [bs]; omega) (by simp only [bs]; omega)) ?_ ?_
        · rw [hI _ _ (by omega), tireRow_hi (by simp only [bs]; omega) (by simp only [bs]; omega)]; exact r5
        · rw [hI _ _ (by omega), tireRow_hi (by simp only [bs]; omega) (by simp only [bs]; omega)]; exact r6
    · rw [hI _ _ (by omega), hlo _ (by omega)]; exact hS k n hk hn2
    · refine ⟨by rw [hlo 7 (by decide), hlo 1 (by decide)]; exact hlog.1, fun q hq => ?_⟩
      have h7b := hlog.1
      rw [hlo 7 (by decide)] at hq
      rw [hlo 1 (by decide), hlo (8 + q) (by omega), hI _ _ (by omega)]
      exact hlog.2 q hq
  have q5 := hR.2.2.2.2.1
  have q6 := hR.2.2.2.2.2.1
  have i5 : mI (sI M (mR M (x + 1) s) 5 (nI (r (bs s + 4) + 1))) (mR M (x + 1) s) 5 = nI (r (bs s + 4) + 1) := by rw [mI_sI, if_pos ⟨rfl, rfl⟩]
  unfold F_X4_tire
  rw [lt_v, q5, show (1 : Int32) = nI 1 from rfl, nI_add, i5, show (3 : Int32) = nI 3 from rfl]
  simp only [nI_eq (show r (bs s + 4) + 1 < 2 ^ 31 by omega) (show 3 < 2 ^ 31 by decide)]
  by_cases hc : r (bs s + 4) + 1 = 3
  · rw [if_pos hc, lt_v, lt_v]
    refine ⟨_, rfl, fin _ (fun o k hz => ?_) rfl ?_ ?_, ((Blk.put _ _ _ (by omega) (by omega)).trans (Blk.put _ _ _ (by omega) (by omega))).trans (Blk.put _ _ _ (by omega) (by omega))⟩
    · rw [mI_sI, if_neg (fun z => hz ⟨z.1, Or.inr z.2⟩), mI_sI, if_neg (fun z => hz ⟨z.1, Or.inl z.2⟩), mI_sI, if_neg (fun z => hz ⟨z.1, Or.inl z.2⟩)]
    · rw [mI_sI, if_neg (by omega), mI_sI, if_pos ⟨rfl, rfl⟩]
      unfold tireRow; rw [if_neg (by omega), upR_n _ _ (by omega), upR_s]; rfl
    · rw [mI_sI, if_pos ⟨rfl, rfl⟩]
      unfold tireRow; rw [if_neg (by omega), upR_s]; rfl
  · rw [if_neg hc]
    refine ⟨_, rfl, fin _ (fun o k hz => ?_) rfl ?_ ?_, Blk.put _ _ _ (by omega) (by omega)⟩
    · rw [mI_sI, if_neg (fun z => hz ⟨z.1, Or.inl z.2⟩)]
    · rw [i5]; unfold tireRow; rw [if_pos (by omega), upR_s]
    · rw [mI_sI, if_neg (by omega), q6]
      unfold tireRow; rw [if_pos (by omega), upR_n _ _ (by omega)]
theorem C_beat {M : Mem} {x : Nat} {r : Row} (h : StR M x r) (hk : RowOK2 r) : ∃ M', F_X5_playBeat x M = some (nI (tick1 r).2.1, M') ∧ StR M' x (tick r) ∧ Blk M M' x 14 := by
  obtain ⟨hok, h7, h6, h3⟩ := hk
  obtain ⟨k1, k2, k3, k4, k5⟩ := tick1_ok hok
  have h0 : (tick1 r).1 0 = r 0 := k2 0 (by decide)
  have h5 := hok.1
  unfold F_X5_playBeat
  obtain ⟨M1, g1, g2, g3⟩ := C_beatsL (x := x) (fun (x25 : Int32) (q26 : Nat) (x27 : Int32) (x28 : Int32) (M29 : Mem) =>
  if x25 ≤ (mI M29 x 3) then
    b1 (F_X5_logTotal x x25 M29) (fun u32 M33 =>
    some (x25, M33))
  else
    if q26 = 0 then
      b1 (F_X5_logTotal x x25 M29) (fun u36 M37 =>
      some (x25, M37))
    else
      lt (sI M29 x 5 ((mI M29 x 5) + 1)) (fun (M39 : Mem) =>
      b1 (F_X4_tire q26 M39) (fun u41 M42 =>
      b1 (F_X5_logTotal x x25 M42) (fun u44 M45 =>
      some (x25, M45)))))  (r 0) 0 3000 M r 0 0 0 h hok (by omega) (by omega) (by omega)
  rw [show (0 : Int32) = nI 0 from rfl]
  have g1' := g1
  rw [show (0 - 1 : Nat) = 0 from rfl, if_pos (show (0 : Nat) ≤ 1 by decide)] at g1'
  rw [g1']
  have n3 : mI M1 x 3 = nI (r 3) := by rw [g2.2.1.2.2.1]; exact congrArg nI (k2 3 (by omega))
  have n5 := g2.2.1.2.2.2.2.1
  rw [n3]
  simp only [nI_leI (show (beatIt r 0 0 0 0 (r 0)).2.1 < 2 ^ 31 by have := k3; unfold tick1 at this; omega) (show r 3 < 2 ^ 31 by omega)]
  by_cases hc : (tick1 r).2.1 ≤ r 3
  · rw [if_pos (show (beatIt r 0 0 0 0 (r 0)).2.1 ≤ r 3 from hc)]
    have e2 : tick2 r = (tick1 r).1 := by unfold tick2; rw [if_neg (by omega)]
    obtain ⟨M2, a1, a2, a3⟩ := C_log (t := (tick1 r).2.1) g2 (by show (tick1 r).1 0 ≤ 5; omega) (by show (tick1 r).1 1 < _; rw [k2 1 (by decide)]; exact hok.2.1) (by show (tick1 r).1 6 < _; rw [k2 6 (by decide)]; exact h6) (by omega)
    have a1' : F_X5_logTotal x (nI (beatIt r 0 0 0 0 (r 0)).2.1) M1 = some ((), M2) := a1
    rw [a1', b1_s]
    refine ⟨M2, rfl, ?_, g3.trans a3⟩
    unfold tick tick3
    rw [e2]; exact a2
  · have hm1 : ¬ (beatIt r 0 0 0 0 (r 0)).2.2.2 ≤ 1 := fun z => by
      have e0 : (tick1 r).2.1 = 0 := beatIt_z (r 0) 0 r 0 0 0 z
      omega
    have hl := k5 (by omega)
    obtain ⟨jq, -, eq9, -⟩ := g2.sec (s := (beatIt r 0 0 0 0 (r 0)).2.2.1) (by have : (beatIt r 0 0 0 0 (r 0)).2.2.1 < r 0 := hl; omega)
    rw [if_neg (show ¬ (beatIt r 0 0 0 0 (r 0)).2.1 ≤ r 3 from hc), if_neg hm1, if_neg (show ¬ mR M1 (x + 1) (beatIt r 0 0 0 0 (r 0)).2.2.1 = 0 by omega), lt_v]
    have g2' : StR M1 x (tick1 r).1 := g2
    have hb : StR (sI M1 x 5 (mI M1 x 5 + 1)) x (upR (tick1 r).1 4 ((tick1 r).1 4 + 1)) := by
      obtain ⟨m1, m2, m3, m4, m5, m6, m7⟩ := g2'.2.1
      refine g2'.upd (by omega) (fun o k ho _ => by rw [mI_sI, if_neg (fun z => ho z.1)]) rfl ⟨?_, ?_, ?_, ?_, ?_, ?_, ?_⟩ (fun k hk9 => upR_n _ _ (by omega)) (upR_n _ _ (by omega)) ⟨?_, fun q hq => ?_⟩
      · rw [mI_sI, if_neg (by omega), m1, upR_n _ _ (by omega)]
      · rw [mI_sI, if_neg (by omega), m2, upR_n _ _ (by omega)]
      · rw [mI_sI, if_neg (by omega), m3, upR_n _ _ (by omega)]
      · rw [mI_sI, if_neg (by omega), m4, upR_n _ _ (by omega)]
      · rw [mI_sI, if_pos ⟨rfl, rfl⟩, m5, upR_s]; exact nI_add _ 1
      · rw [mI_sI, if_neg (by omega), m6, upR_n _ _ (by omega)]
      · rw [mJ_sI, m7, upR_n _ _ (by omega)]
      · rw [upR_n _ _ (by omega), upR_n _ _ (by omega)]; exact g2'.2.2.2.2.2.1.1
      · have hq9 := g2'.2.2.2.2.2.1.1
        rw [upR_n _ _ (by omega)] at hq
        rw [upR_n _ _ (by omega), upR_n _ _ (by omega), mI_sI, if_neg (by omega)]
        exact g2'.2.2.2.2.2.1.2 q hq
    have hsec := k1.2.2 (tick1 r).2.2.1 (by omega)
    have hsec2 : SecOK (upR (tick1 r).1 4 ((tick1 r).1 4 + 1)) (bs (tick1 r).2.2.1) := hsec.cong (by simp only [bs]; omega) (fun k hk9 => upR_n _ _ (by omega))
    have l0 : upR (tick1 r).1 4 ((tick1 r).1 4 + 1) 0 = r 0 := by rw [upR_n _ _ (by omega), h0]
    obtain ⟨M2, a1, a2, a3⟩ := C_tire hb (s := (tick1 r).2.2.1) (by omega) (by omega) hsec2
    have e2 : tick2 r = tireRow (upR (tick1 r).1 4 ((tick1 r).1 4 + 1)) (bs (tick1 r).2.2.1) := by unfold tick2; rw [if_pos (by omega)]
    have tl : ∀ k, k < 45 → k ≠ 4 → tick2 r k = (tick1 r).1 k := fun k hk9 h4 => by rw [e2, tireRow_lo (by simp only [bs]; omega) hk9, upR_n _ _ h4]
    rw [← e2] at a2
    obtain ⟨M3, b1', b2, b3⟩ := C_log (t := (tick1 r).2.1) a2 (by rw [tl 0 (by decide) (by decide)]; omega) (by rw [tl 1 (by decide) (by decide), k2 1 (by decide)]; exact hok.2.1) (by rw [tl 6 (by decide) (by decide), k2 6 (by decide)]; exact h6) (by omega)
    have a1' : F_X4_tire (mR M1 (x + 1) (beatIt r 0 0 0 0 (r 0)).2.2.1) (sI M1 x 5 (mI M1 x 5 + 1)) = some ((), M2) := a1
    have b1'' : F_X5_logTotal x (nI (beatIt r 0 0 0 0 (r 0)).2.1) M2 = some ((), M3) := b1'
    rw [a1', b1_s, b1'', b1_s]
    exact ⟨M3, rfl, b2, ((g3.trans (Blk.put _ _ _ (by omega) (by omega))).trans a3).trans b3⟩
