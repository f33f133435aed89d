/-! PURE LEVEL: one beat, ours -/
theorem StR.upd {M M' : Mem} {x : Nat} {r r' : Row} (h : StR M x r) (h5 : r 0 ≤ 5) (hI : ∀ o k, o ≠ x → o ≠ x + 3 → mI M' o k = mI M o k) (hRf : M'.2.2 = M.2.2)
    (hn : mI M' x 1 = nI (r' 0) ∧ mI M' x 2 = nI (r' 2) ∧ mI M' x 3 = nI (r' 3) ∧ mI M' x 4 = nI (r' 1) ∧ mI M' x 5 = nI (r' 4) ∧ mI M' x 6 = nI (r' 6) ∧ mJ M' x 7 = lN (r' 5)) (hi : ∀ k, 18 ≤ k → r' k = r k) (h0 : r' 0 = r 0) (hlog : LogR M' (x + 3) r') : StR M' x r' := by
  have hR : ∀ a k, mR M' a k = mR M a k := fun a k => by unfold mR; rw [hRf]
  obtain ⟨hr, -, hp, hsec, hS, -, hko⟩ := h
  refine ⟨by rw [hR, hR, hR]; exact hr, hn, hp.of hR, fun i hi2 => ?_, fun k n hk hn2 => ?_, hlog, fun j hj => by rw [hI _ _ (by omega) (by omega)]; exact hko j hj⟩
  · rw [h0] at hi2
    rw [hR]
    obtain ⟨j, hj, e⟩ := hp.1 i (by omega)
    exact (hsec i hi2).mv (fun k => hI _ _ (by omega) (by omega)) (fun k => hI _ _ (by omega) (by omega)) (hR _ _) (by simp only [bs]; omega) (fun k hk => hi k (by omega))
  · rw [hI _ _ (by omega) (by omega), hi _ (by omega)]
    exact hS k n hk hn2
theorem C_log {M : Mem} {x t : Nat} {r : Row} (h : StR M x r) (h0 : r 0 ≤ 5) (h1 : r 1 < 2 ^ 30) (h6 : r 6 < 2 ^ 30) (ht : t < 2 ^ 30) : ∃ M', F_X5_logTotal x (nI t) M = some ((), M') ∧ StR M' x (logRow (upR (upR r 1 (r 1 + 1)) 5 (r 5 + t)) t) ∧ Blk M M' x 14 := by
  obtain ⟨n1, n2, n3, n4, n5, n6, n7⟩ := h.2.1
  obtain ⟨l7, lq⟩ := h.2.2.2.2.2.1
  have hm : r 1 % 10 < 10 := Nat.mod_lt _ (by decide)
  unfold F_X5_logTotal
  rw [lt_v, n4, show (10 : Int32) = nI 10 from rfl, nI_rem (by omega) (by decide) (by decide), if_neg (nI_pos (by omega)), if_neg (nI_ge hm (by decide)), chk_t (inb_n hm (by decide)), lt_v, lt_v, lt_v, lt_v, h.1.2.2, nI_clamp (by omega)]
  refine ⟨_, rfl, ?_, (((Blk.put _ _ _ (by omega) (by omega)).trans (Blk.put _ _ _ (by omega) (by omega))).trans (Blk.putJ _ _ _ (by omega) (by omega))).trans (Blk.put _ _ _ (by omega) (by omega))⟩
  have e0 : logRow (upR (upR r 1 (r 1 + 1)) 5 (r 5 + t)) t 0 = r 0 := rfl
  have e1 : logRow (upR (upR r 1 (r 1 + 1)) 5 (r 5 + t)) t 1 = r 1 + 1 := rfl
  have e2 : logRow (upR (upR r 1 (r 1 + 1)) 5 (r 5 + t)) t 2 = r 2 := rfl
  have e3 : logRow (upR (upR r 1 (r 1 + 1)) 5 (r 5 + t)) t 3 = r 3 := rfl
  have e4 : logRow (upR (upR r 1 (r 1 + 1)) 5 (r 5 + t)) t 4 = r 4 := rfl
  have e5 : logRow (upR (upR r 1 (r 1 + 1)) 5 (r 5 + t)) t 5 = r 5 + t := rfl
  have e6 : logRow (upR (upR r 1 (r 1 + 1)) 5 (r 5 + t)) t 6 = max (r 6) t := rfl
  have e7 : logRow (upR (upR r 1 (r 1 + 1)) 5 (r 5 + t)) t 7 = min (r 7 + 1) 10 := rfl
  refine h.upd h0 (fun o k ho ho3 => ?_) rfl ⟨?_, ?_, ?_, ?_, ?_, ?_, ?_⟩ (fun k hk => ?_) e0 ⟨by rw [e7, e1]; omega, fun q hq => ?_⟩
  · rw [mI_sI, if_neg (fun z => ho z.1), mI_sJ, mI_sI, if_neg (fun z => ho z.1), mI_sI, if_neg (fun z => ho3 z.1)]
  · rw [e0, mI_sI, if_neg (by omega), mI_sJ, mI_sI, if_neg (by omega), mI_sI, if_neg (by omega), n1]
  · rw [e2, mI_sI, if_neg (by omega), mI_sJ, mI_sI, if_neg (by omega), mI_sI, if_neg (by omega), n2]
  · rw [e3, mI_sI, if_neg (by omega), mI_sJ, mI_sI, if_neg (by omega), mI_sI, if_neg (by omega), n3]
  · rw [e1, mI_sI, if_pos ⟨rfl, rfl⟩, mI_sJ, mI_sI, if_neg (by omega), mI_sI, if_neg (by omega), n4]; exact nI_add _ 1
  · rw [e4, mI_sI, if_neg (by omega), mI_sJ, mI_sI, if_neg (by omega), mI_sI, if_neg (by omega), n5]
  · have i6 : mI (sI M (x + 3) (r 1 % 10) (nI t)) x 6 = nI (r 6) := by rw [mI_sI, if_neg (by omega), n6]
    rw [e6, mI_sI, if_neg (by omega), mI_sJ, mI_sI, if_pos ⟨rfl, rfl⟩, i6]; exact imax (a := r 6) (b := t) (by omega) (by omega)
  · rw [e5, mJ_sI, mJ_sJ, if_pos ⟨rfl, rfl⟩, mJ_sI, mJ_sI, n7, nI_l (by omega)]; exact lN_add _ _
  · unfold logRow
    rw [if_neg (by omega), if_neg (by omega), if_neg (by omega), if_neg (by omega), upR_n _ _ (by omega), upR_n _ _ (by omega)]
  · rw [e7] at hq
    rw [e1, mI_sI, if_neg (by omega), mI_sJ, mI_sI, if_neg (by omega), mI_sI]
    rcases Nat.eq_zero_or_pos q with z | z
    · subst z
      rw [if_pos ⟨rfl, by rw [Nat.add_sub_cancel]; rfl⟩]
      rfl
    · have hq7 := lq (q - 1) (by omega)
      rw [if_neg (by omega), show r 1 + 1 - 1 - q = r 1 - 1 - (q - 1) by omega, hq7]
      unfold logRow
      have e77 : upR (upR r 1 (r 1 + 1)) 5 (r 5 + t) 7 = r 7 := rfl
      rw [e77, if_neg (by omega), if_neg (by omega), if_pos (by omega), upR_n _ _ (by omega), upR_n _ _ (by omega), show 8 + (q - 1) = 8 + q - 1 by omega]
