/-! PURE LEVEL: our state pictures a row; one section played, ours -/
def LogR (M : Mem) (q : Nat) (w : Row) : Prop := w 7 = min (w 1) 10 ∧ ∀ r, r < w 7 → mI M q ((w 1 - 1 - r) % 10) = nI (w (8 + r))
def PermS (M : Mem) (x : Nat) : Prop := (∀ i, i < 5 → ∃ j, j < 5 ∧ mR M (x + 1) i = x + 4 + 2 * j) ∧ (∀ i j, i < 5 → j < 5 → mR M (x + 1) i = mR M (x + 1) j → i = j) ∧ ∀ j, j < 5 → mR M (x + 4 + 2 * j) 3 = x + 4 + 2 * j + 1
/-- every section's kind is a char -/
def KO (M : Mem) (x : Nat) : Prop := ∀ j, j < 5 → nokC (mI M (x + 4 + 2 * j) 0) = true
def StR (M : Mem) (x : Nat) (w : Row) : Prop :=
  (mR M x 0 = x + 1 ∧ mR M x 8 = x + 2 ∧ mR M x 9 = x + 3) ∧
  (mI M x 1 = nI (w 0) ∧ mI M x 2 = nI (w 2) ∧ mI M x 3 = nI (w 3) ∧ mI M x 4 = nI (w 1) ∧ mI M x 5 = nI (w 4) ∧ mI M x 6 = nI (w 6) ∧ mJ M x 7 = lN (w 5)) ∧
  PermS M x ∧ (∀ i, i < w 0 → SecR M (mR M (x + 1) i) w (bs i)) ∧ SndR M (x + 2) w ∧ LogR M (x + 3) w ∧ KO M x
/-- only the numbers of objects x .. x + n - 1 change -/
def Blk (M M' : Mem) (x n : Nat) : Prop := (∀ a k, (a < x ∨ x + n ≤ a) → mI M' a k = mI M a k ∧ mJ M' a k = mJ M a k) ∧ M'.2.2 = M.2.2
theorem Blk.refl (M : Mem) (x n : Nat) : Blk M M x n := ⟨fun _ _ _ => ⟨rfl, rfl⟩, rfl⟩
theorem Blk.trans {M M1 M2 : Mem} {x n : Nat} (h : Blk M M1 x n) (h2 : Blk M1 M2 x n) : Blk M M2 x n := ⟨fun a k ha => ⟨((h2.1 a k ha).1).trans (h.1 a k ha).1, ((h2.1 a k ha).2).trans (h.1 a k ha).2⟩, h2.2.trans h.2⟩
theorem Blk.of {M M' : Mem} {x n q : Nat} (h : Only M M' q) (h1 : x ≤ q) (h2 : q < x + n) : Blk M M' x n := ⟨fun a k ha => ⟨h.1 a k (by omega), only_j h a k⟩, by rw [h.2]⟩
theorem Blk.put (M : Mem) {x n q : Nat} (k : Nat) (v : Int32) (h1 : x ≤ q) (h2 : q < x + n) : Blk M (sI M q k v) x n := Blk.of (Only.put M q k v) h1 h2
theorem Blk.putJ (M : Mem) {x n q : Nat} (k : Nat) (v : Int64) (h1 : x ≤ q) (h2 : q < x + n) : Blk M (sJ M q k v) x n := ⟨fun a j ha => ⟨rfl, by rw [mJ_sJ, if_neg (by omega)]⟩, rfl⟩
theorem blk_r {M M' : Mem} {x n : Nat} (h : Blk M M' x n) (a k : Nat) : mR M' a k = mR M a k := by unfold mR; rw [h.2]
theorem PermS.of {M M' : Mem} {x : Nat} (h : PermS M x) (e : ∀ a k, mR M' a k = mR M a k) : PermS M' x := by
  unfold PermS at h ⊢
  simp only [e]
  exact h
theorem StR.sec {M : Mem} {x : Nat} {w : Row} (h : StR M x w) {s : Nat} (hs : s < 5) : ∃ j, j < 5 ∧ mR M (x + 1) s = x + 4 + 2 * j ∧ mR M (mR M (x + 1) s) 3 = mR M (x + 1) s + 1 := by
  obtain ⟨j, hj, e⟩ := h.2.2.1.1 s hs
  exact ⟨j, hj, e, by rw [e]; exact h.2.2.1.2.2 j hj⟩
theorem SecR.cong2 {M M' : Mem} {a b : Nat} {w w' : Row} (h : SecR M a w b) (hI : ∀ k, k ≠ 6 → k ≠ 7 → mI M' a k = mI M a k) (hN : ∀ k, mI M' (a + 1) k = mI M (a + 1) k) (hr : mR M' a 3 = mR M a 3) (e : ∀ k, k < 43 → k ≠ 5 → k ≠ 6 → w' (b + k) = w (b + k)) (h6 : mI M' a 6 = nI (w' (b + 5))) (h7 : mI M' a 7 = nI (w' (b + 6))) : SecR M' a w' b := by
  have e0 := e 0 (by decide) (by decide) (by decide)
  rw [Nat.add_zero] at e0
  unfold SecR at h ⊢
  rw [hI 0 (by decide) (by decide), hI 1 (by decide) (by decide), hI 2 (by decide) (by decide), hI 4 (by decide) (by decide), hI 5 (by decide) (by decide), hr, e0, e 1 (by decide) (by decide) (by decide), e 2 (by decide) (by decide) (by decide), e 3 (by decide) (by decide) (by decide), e 4 (by decide) (by decide) (by decide)]
  refine ⟨h.1, h.2.1, h.2.2.1, h.2.2.2.1, h.2.2.2.2.1, h6, h7, h.2.2.2.2.2.2.2.1, fun k hk => ?_⟩
  rw [hN, e (7 + k) (by omega) (by omega) (by omega)]
  exact h.2.2.2.2.2.2.2.2 k hk
theorem StR.play {M M' : Mem} {x s : Nat} {r r' : Row} (h : StR M x r) (h5 : r 0 ≤ 5) (hs : s < r 0) (hI : ∀ o k, o ≠ x + 2 → ¬ (o = mR M (x + 1) s ∧ (k = 6 ∨ k = 7)) → mI M' o k = mI M o k) (hJ : ∀ o k, mJ M' o k = mJ M o k) (hRf : M'.2.2 = M.2.2)
    (h6 : mI M' (mR M (x + 1) s) 6 = nI (r' (bs s + 5))) (h7 : mI M' (mR M (x + 1) s) 7 = nI (r' (bs s + 6))) (hS : SndR M' (x + 2) r') (lo : ∀ k, k < 18 → r' k = r k) (hi : ∀ k, 45 ≤ k → k ≠ bs s + 5 → k ≠ bs s + 6 → r' k = r k) : StR M' x r' := by
  have hR : ∀ a k, mR M' a k = mR M a k := fun a k => by unfold mR; rw [hRf]
  obtain ⟨js, hjs, es, -⟩ := h.sec (s := s) (by omega)
  obtain ⟨hr, hn, hp, hsec, -, hlog, hko⟩ := h
  refine ⟨by rw [hR, hR, hR]; exact hr, ?_, hp.of hR, fun i hi2 => ?_, hS, ?_, fun j hj => by rw [hI _ _ (by omega) (by omega)]; exact hko j hj⟩
  · rw [hI x 1 (by omega) (by omega), hI x 2 (by omega) (by omega), hI x 3 (by omega) (by omega), hI x 4 (by omega) (by omega), hI x 5 (by omega) (by omega), hI x 6 (by omega) (by omega), hJ, lo 0 (by decide), lo 1 (by decide), lo 2 (by decide), lo 3 (by decide), lo 4 (by decide), lo 5 (by decide), lo 6 (by decide)]
    exact hn
  · rw [lo 0 (by decide)] at hi2
    rw [hR]
    obtain ⟨j, hj, e⟩ := hp.1 i (by omega)
    by_cases ei : i = s
    · subst ei
      refine (hsec i hi2).cong2 (fun k h1 h2 => hI _ _ (by omega) (by omega)) (fun k => hI _ _ (by omega) (by omega)) (hR _ _) (fun k _ h1 h2 => hi _ (by simp only [bs]; omega) (by omega) (by omega)) h6 h7
    · have ne : mR M (x + 1) i ≠ mR M (x + 1) s := fun z => ei (hp.2.1 i s (by omega) (by omega) z)
      have q6 := (hsec i hi2).2.2.2.2.2.1
      have q7 := (hsec i hi2).2.2.2.2.2.2.1
      refine (hsec i hi2).cong2 (fun k h1 h2 => hI _ _ (by omega) (by omega)) (fun k => hI _ _ (by omega) (by omega)) (hR _ _) (fun k hk h1 h2 => hi _ (by simp only [bs]; omega) (by simp only [bs]; omega) (by simp only [bs]; omega)) ?_ ?_
      · rw [hI _ _ (by omega) (by omega), hi (bs i + 5) (by simp only [bs]; omega) (by simp only [bs]; omega) (by simp only [bs]; omega)]; exact q6
      · rw [hI _ _ (by omega) (by omega), hi (bs i + 6) (by simp only [bs]; omega) (by simp only [bs]; omega) (by simp only [bs]; omega)]; exact q7
  · refine ⟨by rw [lo 7 (by decide), lo 1 (by decide)]; exact hlog.1, fun q hq => ?_⟩
    have h7b := hlog.1
    rw [lo 7 (by decide)] at hq
    rw [lo 1 (by decide), lo (8 + q) (by omega), hI _ _ (by omega) (by omega)]
    exact hlog.2 q hq
