/-! PURE LEVEL: blocks carried along; the model's history -/
theorem PermS.mv {M M' : Mem} {x : Nat} (h : PermS M x) (e : ∀ a k, x ≤ a → a < x + 14 → mR M' a k = mR M a k) : PermS M' x := by
  refine ⟨fun i hi => ?_, fun i j hi hj z => ?_, fun j hj => ?_⟩
  · obtain ⟨j, hj, ej⟩ := h.1 i hi
    exact ⟨j, hj, by rw [e _ _ (by omega) (by omega)]; exact ej⟩
  · rw [e _ _ (by omega) (by omega), e _ _ (by omega) (by omega)] at z
    exact h.2.1 i j hi hj z
  · rw [e _ _ (by omega) (by omega)]
    exact h.2.2 j hj
theorem ShR.mv {M M' : Mem} {x : Nat} (h : ShR M x) (e : ∀ a k, x ≤ a → a < x + 14 → mR M' a k = mR M a k) : ShR M' x :=
  ⟨⟨(e _ _ (by omega) (by omega)).trans h.1.1, (e _ _ (by omega) (by omega)).trans h.1.2.1, (e _ _ (by omega) (by omega)).trans h.1.2.2⟩, h.2.mv e⟩
theorem StR.shape {M : Mem} {x : Nat} {w : Row} (h : StR M x w) : ShR M x := ⟨h.1, h.2.2.1⟩
theorem StR.mv {M M' : Mem} {x : Nat} {w : Row} (h : StR M x w) (h0 : w 0 ≤ 5) (e : ∀ a k, x ≤ a → a < x + 14 → mI M' a k = mI M a k ∧ mJ M' a k = mJ M a k ∧ mR M' a k = mR M a k) : StR M' x w := by
  have hs := h.shape.mv (M' := M') fun a k h1 h2 => (e a k h1 h2).2.2
  obtain ⟨-, ⟨n1, n2, n3, n4, n5, n6, n7⟩, py, hsec, hS, hlog, hko⟩ := h
  have eI := fun a k h1 h2 => (e a k h1 h2).1
  have eR := fun a k h1 h2 => (e a k h1 h2).2.2
  refine ⟨hs.1, ⟨(eI _ _ (by omega) (by omega)).trans n1, (eI _ _ (by omega) (by omega)).trans n2, (eI _ _ (by omega) (by omega)).trans n3, (eI _ _ (by omega) (by omega)).trans n4, (eI _ _ (by omega) (by omega)).trans n5, (eI _ _ (by omega) (by omega)).trans n6, ((e _ _ (by omega) (by omega)).2.1).trans n7⟩, hs.2, fun i hi => ?_, fun k n hk hn => ?_, ⟨hlog.1, fun q hq => ?_⟩, fun j hj => ?_⟩
  · obtain ⟨j, hj, ej⟩ := py.1 i (by omega)
    rw [eR (x + 1) i (by omega) (by omega)]
    refine ⟨?_, ?_, ?_, ?_, ?_, ?_, ?_, ?_, fun k hk => ?_⟩
    all_goals first | rw [eI _ _ (by omega) (by omega)] | rw [eR _ _ (by omega) (by omega)]
    · exact (hsec i hi).1
    · exact (hsec i hi).2.1
    · exact (hsec i hi).2.2.1
    · exact (hsec i hi).2.2.2.1
    · exact (hsec i hi).2.2.2.2.1
    · exact (hsec i hi).2.2.2.2.2.1
    · exact (hsec i hi).2.2.2.2.2.2.1
    · exact (hsec i hi).2.2.2.2.2.2.2.1
    · exact (hsec i hi).2.2.2.2.2.2.2.2 k hk
  · rw [eI _ _ (by omega) (by omega)]; exact hS k n hk hn
  · rw [eI _ _ (by omega) (by omega)]; exact hlog.2 q hq
  · rw [eI _ _ (by omega) (by omega)]; exact hko j hj
/-- a block that only changes elsewhere -/
theorem StR.far {M M' : Mem} {x y n : Nat} {w : Row} (h : StR M x w) (h0 : w 0 ≤ 5) (hb : Blk M M' y n) (hd : x + 14 ≤ y ∨ y + n ≤ x) : StR M' x w :=
  h.mv h0 fun a k h1 h2 => ⟨(hb.1 a k (by omega)).1, (hb.1 a k (by omega)).2, blk_r hb a k⟩
theorem ShR.far {M M' : Mem} {x y n : Nat} (h : ShR M x) (hb : Blk M M' y n) : ShR M' x := h.mv fun a k _ _ => blk_r hb a k
/-- what the model remembers: n rows, the first in place fc -/
def HM (M : Mem) (u : Nat → Row) (n fc : Nat) : Prop :=
  n ≤ 8 ∧ fc < 8 ∧ mI M 204 6 = nI n ∧ mI M 204 7 = nI fc ∧ ∀ j, j < n → ∀ k, k < 260 → mI M 206 (260 * ((fc + j) % 8) + k) = nI (u j k)
def push (u : Nat → Row) (n : Nat) (b : Row) : Nat → Row := if n = 8 then (fun j => if j = 7 then b else u (j + 1)) else (fun j => if j = n then b else u j)
/-- only the rows remembered, and their numbers, change -/
def OnlyH (M M' : Mem) : Prop := (∀ a k, a ≠ 206 → a ≠ 208 → ¬ (a = 204 ∧ (k = 6 ∨ k = 7)) → mI M' a k = mI M a k) ∧ M'.2 = M.2
theorem onlyH_r {M M' : Mem} (h : OnlyH M M') (a k : Nat) : mR M' a k = mR M a k := by unfold mR; rw [h.2]
theorem F_keepsT {M : Mem} {u : Nat → Row} {n fc : Nat} {b : Row} (hL : LM M) (h : HM M u n fc) (hb : WA M 208 260 b) :
    ∃ M' fc', F_X9_keeps 204 M = some ((), M') ∧ HM M' (push u n b) (min (n + 1) 8) fc' ∧ OnlyH M M' := by
  obtain ⟨hn, hf, e6, e7, hu⟩ := h
  unfold F_X9_keeps
  by_cases h8 : n = 8
  · subst h8
    have v1 : mI M 204 7 + 1 - (mI M 204 7 + 1) / 8 * 8 = nI ((fc + 1) % 8) := by
      rw [e7, show (1 : Int32) = nI 1 from rfl, show (8 : Int32) = nI 8 from rfl, nI_add, nI_rem (by omega) (by decide) (by decide)]
    have v2 : mI M 204 6 - 1 = nI 7 := by rw [e6]; rfl
    have v3 : nI ((fc + 1) % 8) + nI 7 - (nI ((fc + 1) % 8) + nI 7) / 8 * 8 = nI fc := by
      rw [show (8 : Int32) = nI 8 from rfl, nI_add, nI_rem (by omega) (by decide) (by decide)]
      congr 1; omega
    rw [if_pos (show mI M 204 6 = 8 from e6), v1, lt_v, mI_sI, if_neg (by omega), v2, lt_v, mI_sI, if_neg (by omega), mI_sI, if_pos ⟨rfl, rfl⟩, mI_sI, if_pos ⟨rfl, rfl⟩, v3, lt_v]
    obtain ⟨M1, g1, g2, g3⟩ := F_keeps_L2 fc hf (fun (x31 : Int32) (M32 : Mem) =>
    lt (sI M32 204 6 ((mI M32 204 6) + 1)) (fun (M33 : Mem) =>
    some ((), M33))) 260 0 3000 (sI (sI M 204 7 (nI ((fc + 1) % 8))) 204 6 (nI 7)) hL (by omega) (by omega)
    rw [show (0 : Int32) = nI 0 from rfl, g1, lt_v]
    have m6 : mI M1 204 6 = nI 7 := by rw [g3.1 _ _ (by decide)]; rfl
    refine ⟨_, (fc + 1) % 8, rfl, ⟨by omega, by omega, ?_, ?_, fun j hj k hk => ?_⟩, fun a k h1 h2 h3 => ?_, ?_⟩
    · rw [mI_sI, if_pos ⟨rfl, rfl⟩, m6]; rfl
    · rw [mI_sI, if_neg (by omega), g3.1 _ _ (by decide), mI_sI, if_neg (by omega), mI_sI, if_pos ⟨rfl, rfl⟩]
    · rw [mI_sI, if_neg (by omega), g2]
      unfold push
      rw [if_pos rfl]
      by_cases h7 : j = 7
      · subst h7
        rw [if_pos (by omega), show 260 * (((fc + 1) % 8 + 7) % 8) + k - 260 * fc = k by omega]
        rw [mI_sI, if_neg (by omega), mI_sI, if_neg (by omega)]
        exact hb k hk
      · rw [if_neg (by omega), mI_sI, if_neg (by omega), mI_sI, if_neg (by omega)]
        rw [show ((fc + 1) % 8 + j) % 8 = (fc + (j + 1)) % 8 by omega, hu (j + 1) (by omega) k hk]
        show nI (u (j + 1) k) = nI ((if j = 7 then b else u (j + 1)) k)
        rw [if_neg h7]
    · rw [mI_sI, if_neg (by omega), g3.1 _ _ h1, mI_sI, if_neg (by omega), mI_sI, if_neg (by omega)]
    · show M1.2 = M.2
      rw [g3.2]; rfl
  · have v3 : mI M 204 7 + mI M 204 6 - (mI M 204 7 + mI M 204 6) / 8 * 8 = nI ((fc + n) % 8) := by
      rw [e6, e7, show (8 : Int32) = nI 8 from rfl, nI_add, nI_rem (by omega) (by decide) (by decide)]
    rw [if_neg (by rw [e6, show (8 : Int32) = nI 8 from rfl, nI_eq (by omega) (by omega)]; exact h8), v3, lt_v]
    obtain ⟨M1, g1, g2, g3⟩ := F_keeps_L1 ((fc + n) % 8) (by omega) (fun (x14 : Int32) (M15 : Mem) =>
    lt (sI M15 204 6 ((mI M15 204 6) + 1)) (fun (M16 : Mem) =>
    some ((), M16))) 260 0 3000 M hL (by omega) (by omega)
    rw [show (0 : Int32) = nI 0 from rfl, g1, lt_v]
    have m6 : mI M1 204 6 = nI n := by rw [g3.1 _ _ (by decide), e6]
    refine ⟨_, fc, rfl, ⟨by omega, hf, ?_, ?_, fun j hj k hk => ?_⟩, fun a k h1 h2 h3 => ?_, ?_⟩
    · rw [mI_sI, if_pos ⟨rfl, rfl⟩, m6, show (1 : Int32) = nI 1 from rfl, nI_add, Nat.min_eq_left (by omega)]
    · rw [mI_sI, if_neg (by omega), g3.1 _ _ (by decide), e7]
    · rw [mI_sI, if_neg (by omega), g2]
      unfold push
      rw [if_neg h8]
      by_cases h7 : j = n
      · subst h7
        rw [if_pos (by omega), show 260 * ((fc + j) % 8) + k - 260 * ((fc + j) % 8) = k by omega, hb k hk]
        show _ = nI ((if j = j then b else u j) k)
        rw [if_pos rfl]
      · rw [if_neg (by omega), hu j (by omega) k hk]
        show nI (u j k) = nI ((if j = n then b else u j) k)
        rw [if_neg h7]
    · rw [mI_sI, if_neg (by omega), g3.1 _ _ h1]
    · show M1.2 = M.2
      rw [g3.2]
theorem F_copiesT {M : Mem} {w : Row} (hL : LM M) (hw : WA M 205 260 w) : ∃ M', F_X9_copies 204 M = some ((), M') ∧ WA M' 208 260 w ∧ Only M M' 208 := by
  unfold F_X9_copies
  obtain ⟨M1, g1, g2, g3⟩ := F_copies_L1 (fun (x12 : Int32) (M13 : Mem) => some ((), M13)) 260 0 3000 M hL (by omega) (by omega)
  rw [show (0 : Int32) = nI 0 from rfl, g1]
  exact ⟨M1, rfl, fun k hk => by rw [g2, if_pos (by omega)]; exact hw k hk, g3⟩
theorem F_rem {M : Mem} {u : Nat → Row} {n fc : Nat} {w : Row} (hL : LM M) (h : HM M u n fc) (hw : WA M 205 260 w) :
    ∃ M' fc', F_X9_remembers 204 M = some ((), M') ∧ HM M' (push u n w) (min (n + 1) 8) fc' ∧ OnlyH M M' := by
  unfold F_X9_remembers
  obtain ⟨M1, g1, g2, g3⟩ := F_copiesT hL hw
  obtain ⟨hn, hf, e6, e7, hu⟩ := h
  obtain ⟨M2, fc', k1, k2, k3⟩ := F_keepsT (M := M1) (u := u) (n := n) (fc := fc) (hL.of g3.2) ⟨hn, hf, (g3.1 _ _ (by decide)).trans e6, (g3.1 _ _ (by decide)).trans e7, fun j hj k hk => (g3.1 _ _ (by decide)).trans (hu j hj k hk)⟩ g2
  rw [g1, b1_s, k1, b1_s]
  exact ⟨M2, fc', rfl, k2, fun a k h1 h2 h3 => (k3.1 a k h1 h2 h3).trans (g3.1 a k h2), k3.2.trans g3.2⟩
theorem F_goesT {M : Mem} {b : Row} (hL : LM M) (hb : WA M 208 260 b) : ∃ M', F_X9_goesBack 204 M = some ((), M') ∧ WA M' 205 260 b ∧ Only M M' 205 := by
  unfold F_X9_goesBack
  obtain ⟨M1, g1, g2, g3⟩ := F_goesBack_L1 (fun (x12 : Int32) (M13 : Mem) => some ((), M13)) 260 0 3000 M hL (by omega) (by omega)
  rw [show (0 : Int32) = nI 0 from rfl, g1]
  exact ⟨M1, rfl, fun k hk => by rw [g2, if_pos (by omega)]; exact hb k hk, g3⟩
theorem F_aheadT {M : Mem} {w : Row} (hL : LM M) (hw : WA M 205 260 w) : ∃ M', F_X9_looksAhead 204 M = some ((), M') ∧ WA M' 209 260 w ∧ Only M M' 209 := by
  unfold F_X9_looksAhead
  obtain ⟨M1, g1, g2, g3⟩ := F_looksAhead_L1 (fun (x12 : Int32) (M13 : Mem) => some ((), M13)) 260 0 3000 M hL (by omega) (by omega)
  rw [show (0 : Int32) = nI 0 from rfl, g1]
  exact ⟨M1, rfl, fun k hk => by rw [g2, if_pos (by omega)]; exact hw k hk, g3⟩
theorem F_backT {M : Mem} {b : Row} (hL : LM M) (hb : WA M 209 260 b) : ∃ M', F_X9_looksBack 204 M = some ((), M') ∧ WA M' 205 260 b ∧ Only M M' 205 := by
  unfold F_X9_looksBack
  obtain ⟨M1, g1, g2, g3⟩ := F_looksBack_L1 (fun (x12 : Int32) (M13 : Mem) => some ((), M13)) 260 0 3000 M hL (by omega) (by omega)
  rw [show (0 : Int32) = nI 0 from rfl, g1]
  exact ⟨M1, rfl, fun k hk => by rw [g2, if_pos (by omega)]; exact hb k hk, g3⟩
