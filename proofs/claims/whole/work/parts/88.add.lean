/-! PURE LEVEL: a section added -/
theorem kind_or (p : Int32) : (F_X9_kindOf p = some (-1) ∧ F_X8_kindIndex p = some (-1)) ∨ ∃ k, k < 3 ∧ p = nI (lett k) := by
  by_cases h1 : p = 115
  · exact Or.inr ⟨0, by decide, h1⟩
  · by_cases h2 : p = 119
    · exact Or.inr ⟨1, by decide, h2⟩
    · by_cases h3 : p = 100
      · exact Or.inr ⟨2, by decide, h3⟩
      · refine Or.inl ⟨?_, ?_⟩
        · unfold F_X9_kindOf
          simp only [h1, h2, h3, if_false]
        · unfold F_X8_kindIndex
          simp only [h1, h2, h3, if_false]
theorem side_bet (p : Int32) : F_X8_isSide p = some (if p < 1 ∨ 6 < p then 0 else 1) := by
  unfold F_X8_isSide
  by_cases h1 : p < 1
  · rw [if_pos h1, if_pos (Or.inl h1)]
  · rw [if_neg h1]
    by_cases h2 : 6 < p
    · rw [if_pos h2, if_pos (Or.inr h2)]
    · rw [if_neg h2, if_neg (fun z => z.elim h1 h2)]
theorem side_in {p : Int32} (h : ¬ (p < 1 ∨ 6 < p)) : ∃ n, 1 ≤ n ∧ n ≤ 6 ∧ p = nI n := by
  have h1 : ¬ p < 1 := fun z => h (Or.inl z)
  have h2 := fa_of_nlt (fun z => h (Or.inr z))
  obtain ⟨n, hn, rfl⟩ := nI_of (x := p) (fun z => h1 (fa_trans z (by decide)))
  rw [show (1 : Int32) = nI 1 from rfl, nI_ltI hn (by decide)] at h1
  rw [show (6 : Int32) = nI 6 from rfl, nI_leI hn (by decide)] at h2
  exact ⟨n, by omega, h2, rfl⟩
def zeroR (w : Row) (b i : Nat) : Row := fun j => if b ≤ j ∧ j < b + i then 0 else w j
theorem zeroR_s (w : Row) (b i : Nat) : upR (zeroR w b i) (b + i) 0 = zeroR w b (i + 1) := funext fun j => by
  unfold upR zeroR
  by_cases e : j = b + i
  · rw [if_pos e, if_pos (by omega)]
  · rw [if_neg e]
    by_cases h : b ≤ j ∧ j < b + i
    · rw [if_pos h, if_pos (by omega)]
    · rw [if_neg h, if_neg (by omega)]
theorem zeroR_0 (w : Row) (b : Nat) : zeroR w b 0 = w := funext fun j => if_neg (by omega)
theorem F_addL {s : Nat} (hs : s < 5) (w : Row) (K : Int32 → Mem → Option (Int32 × Mem)) : ∀ (d i n : Nat) (M : Mem), LM M → WA M 205 260 (zeroR w (bs s) i) → i + d = 43 → d < n →
    ∃ M', F_X9_addsSection_L1 204 (nI s) K n (nI i) M = K (nI 43) M' ∧ WA M' 205 260 (zeroR w (bs s) 43) ∧ Only M M' 205 := by
  intro d
  induction d with
  | zero =>
    intro i n M hL hw e hn
    obtain ⟨n, rfl⟩ : ∃ m, n = m + 1 := ⟨n - 1, by omega⟩
    obtain rfl : i = 43 := by omega
    refine ⟨M, ?_, hw, Only.refl _ _⟩
    rw [F_X9_addsSection_L1, show (43 : Int32) = nI 43 from rfl, if_pos (nI_le (by omega) (by omega))]
  | succ d ih =>
    intro i n M hL hw e hn
    obtain ⟨n, rfl⟩ : ∃ m, n = m + 1 := ⟨n - 1, by omega⟩
    obtain ⟨k1, k2⟩ := F_puts hL hw (s := s) (k := i) 0 (by omega)
    rw [show upR (zeroR w (bs s) i) (45 + 43 * s + i) 0 = zeroR w (bs s) (i + 1) from zeroR_s w (bs s) i] at k2
    obtain ⟨M1, g1, g2, g3⟩ := ih (i + 1) n (sI M 205 (45 + 43 * s + i) (nI 0)) (hL.of rfl) k2 (by omega) (by omega)
    refine ⟨M1, ?_, g2, (Only.put _ _ _ _).trans g3⟩
    rw [F_X9_addsSection_L1, show (43 : Int32) = nI 43 from rfl, if_neg (nI_ge (by omega) (by omega)), show (0 : Int32) = nI 0 from rfl, k1, b1_s, lt_v, nI_1, g1]
/-- section s laid anew, the row's count c -/
def addRow (w : Row) (k r c : Nat) : Row := upR (upR (upR (zeroR (upR w 0 (w 0 + 1)) (bs (w 0)) 43) (bs (w 0) + 0) k) (bs (w 0) + 1) r) (bs (w 0) + 2) c
theorem addRow_lo (w : Row) (k r c : Nat) {j : Nat} (h : j < bs (w 0) ∨ bs (w 0) + 43 ≤ j) (h0 : j ≠ 0) : addRow w k r c j = w j := by
  unfold addRow
  rw [upR_n _ _ (by omega), upR_n _ _ (by omega), upR_n _ _ (by omega)]
  unfold zeroR
  rw [if_neg (by omega), upR_n _ _ h0]
theorem addRow_c (w : Row) (k r c : Nat) : addRow w k r c 0 = w 0 + 1 := by
  unfold addRow
  rw [upR_n _ _ (by simp only [bs]; omega), upR_n _ _ (by simp only [bs]; omega), upR_n _ _ (by simp only [bs]; omega)]
  unfold zeroR
  rw [if_neg (by simp only [bs]; omega), upR_s]
theorem addRow_0 (w : Row) (k r c : Nat) : addRow w k r c (bs (w 0)) = k := by
  unfold addRow
  rw [upR_n _ _ (by omega), upR_n _ _ (by omega)]
  exact upR_s _ _ _
theorem addRow_1 (w : Row) (k r c : Nat) : addRow w k r c (bs (w 0) + 1) = r := by
  unfold addRow
  rw [upR_n _ _ (by omega), upR_s]
theorem addRow_2 (w : Row) (k r c : Nat) : addRow w k r c (bs (w 0) + 2) = c := by
  unfold addRow
  rw [upR_s]
theorem addRow_z (w : Row) (k r c : Nat) {j : Nat} (h : 3 ≤ j) (h2 : j < 43) : addRow w k r c (bs (w 0) + j) = 0 := by
  unfold addRow
  rw [upR_n _ _ (by omega), upR_n _ _ (by omega), upR_n _ _ (by omega)]
  exact if_pos (by omega)
theorem C_beginL {a : Nat} (K : Int32 → Mem → Option (Unit × Mem)) : ∀ (d i n : Nat) (M : Mem), mR M a 3 = a + 1 → (∀ k, k < i → mI M (a + 1) k = nI 0) → i + d = 36 → d < n →
    ∃ M', F_X4_begin_L1 a K n (nI i) M = K (nI 36) M' ∧ (∀ k, k < 36 → mI M' (a + 1) k = nI 0) ∧ Only M M' (a + 1) := by
  intro d
  induction d with
  | zero =>
    intro i n M hr hN e hn
    obtain ⟨n, rfl⟩ : ∃ m, n = m + 1 := ⟨n - 1, by omega⟩
    obtain rfl : i = 36 := by omega
    refine ⟨M, ?_, hN, Only.refl _ _⟩
    rw [F_X4_begin_L1, show (36 : Int32) = nI 36 from rfl, if_pos (nI_le (by omega) (by omega))]
  | succ d ih =>
    intro i n M hr hN e hn
    obtain ⟨n, rfl⟩ : ∃ m, n = m + 1 := ⟨n - 1, by omega⟩
    obtain ⟨M1, g1, g2, g3⟩ := ih (i + 1) n (sI M (a + 1) i (nI 0)) hr (fun k hk => by
      by_cases z : k = i
      · rw [z, mI_same]
      · rw [mI_diff _ (Or.inr z)]; exact hN k (by omega)) (by omega) (by omega)
    refine ⟨M1, ?_, g2, (Only.put _ _ _ _).trans g3⟩
    rw [F_X4_begin_L1, show (36 : Int32) = nI 36 from rfl, if_neg (nI_ge (by omega) (by omega)), chk_t (inb_n (by omega) (by decide)), nI_clamp (by omega), hr, lt_v, lt_v, nI_1]
    exact g1
theorem C_begin {M : Mem} {a k r c : Nat} (hk : k < 3) (hr : mR M a 3 = a + 1) : ∃ M', F_X4_begin a (nI (lett k)) (nI r) (nI c) M = some ((), M') ∧ (mI M' a 0 = nI (lett k) ∧ mI M' a 1 = nI r ∧ mI M' a 2 = nI c ∧ mI M' a 4 = nI 0 ∧ mI M' a 5 = nI 0 ∧ mI M' a 6 = nI 0 ∧ mI M' a 7 = nI 0) ∧ (∀ k, k < 36 → mI M' (a + 1) k = nI 0) ∧ (∀ o j, o ≠ a → o ≠ a + 1 → mI M' o j = mI M o j) ∧ M'.2 = M.2 := by
  have hn : nokC (nI (lett k)) = true := nokC_nI (by unfold lett; split <;> (try split) <;> omega)
  unfold F_X4_begin
  rw [chk_t hn, lt_v, lt_v, lt_v]
  obtain ⟨M1, g1, g2, g3⟩ := C_beginL (a := a) (fun (x15 : Int32) (M16 : Mem) =>
  lt (sI M16 a 4 0) (fun (M17 : Mem) =>
  lt (sI M17 a 5 0) (fun (M18 : Mem) =>
  lt (sI M18 a 6 0) (fun (M19 : Mem) =>
  lt (sI M19 a 7 0) (fun (M20 : Mem) =>
  some ((), M20)))))) 36 0 3000 (sI (sI (sI M a 0 (nI (lett k))) a 1 (nI r)) a 2 (nI c)) hr (fun k hk => by omega) (by omega) (by omega)
  rw [show (0 : Int32) = nI 0 from rfl] at g1 ⊢
  rw [g1, lt_v, lt_v, lt_v, lt_v]
  refine ⟨_, rfl, ⟨?_, ?_, ?_, ?_, ?_, ?_, ?_⟩, fun k hk => ?_, fun o j h1 h2 => ?_, g3.2⟩
  · rw [mI_diff _ (Or.inr (by decide)), mI_diff _ (Or.inr (by decide)), mI_diff _ (Or.inr (by decide)), mI_diff _ (Or.inr (by decide)), g3.1 _ _ (by omega), mI_diff _ (Or.inr (by decide)), mI_diff _ (Or.inr (by decide)), mI_same]
  · rw [mI_diff _ (Or.inr (by decide)), mI_diff _ (Or.inr (by decide)), mI_diff _ (Or.inr (by decide)), mI_diff _ (Or.inr (by decide)), g3.1 _ _ (by omega), mI_diff _ (Or.inr (by decide)), mI_same]
  · rw [mI_diff _ (Or.inr (by decide)), mI_diff _ (Or.inr (by decide)), mI_diff _ (Or.inr (by decide)), mI_diff _ (Or.inr (by decide)), g3.1 _ _ (by omega), mI_same]
  · rw [mI_diff _ (Or.inr (by decide)), mI_diff _ (Or.inr (by decide)), mI_diff _ (Or.inr (by decide)), mI_same]
  · rw [mI_diff _ (Or.inr (by decide)), mI_diff _ (Or.inr (by decide)), mI_same]
  · rw [mI_diff _ (Or.inr (by decide)), mI_same]
  · rw [mI_same]
  · rw [mI_diff _ (Or.inl (by omega)), mI_diff _ (Or.inl (by omega)), mI_diff _ (Or.inl (by omega)), mI_diff _ (Or.inl (by omega))]; exact g2 k hk
  · rw [mI_diff _ (Or.inl h1), mI_diff _ (Or.inl h1), mI_diff _ (Or.inl h1), mI_diff _ (Or.inl h1), g3.1 _ _ h2, mI_diff _ (Or.inl h1), mI_diff _ (Or.inl h1), mI_diff _ (Or.inl h1)]
theorem StR.addUpd {M M' : Mem} {x : Nat} {w w' : Row} (h : StR M x w) (h5 : w 0 < 5) (hI : ∀ o k, o ≠ mR M (x + 1) (w 0) → o ≠ mR M (x + 1) (w 0) + 1 → ¬ (o = x ∧ k = 1) → mI M' o k = mI M o k) (hc : mI M' x 1 = nI (w' 0)) (hRf : M'.2 = M.2)
    (hsec : SecR M' (mR M (x + 1) (w 0)) w' (bs (w 0))) (hk : nokC (mI M' (mR M (x + 1) (w 0)) 0) = true) (h0 : w' 0 = w 0 + 1) (lo : ∀ k, k < bs (w 0) → k ≠ 0 → w' k = w k) : StR M' x w' ∧ Blk M M' x 14 := by
  have hR : ∀ a k, mR M' a k = mR M a k := fun a k => by unfold mR; rw [hRf]
  have hJ : ∀ a k, mJ M' a k = mJ M a k := fun a k => by unfold mJ; rw [hRf]
  obtain ⟨js, hjs, es, -⟩ := h.sec (s := w 0) h5
  obtain ⟨hr, hn, hp, hsec0, hS, hlog, hko⟩ := h
  have lo2 : ∀ k, k < 45 → k ≠ 0 → w' k = w k := fun k hk => lo k (by simp only [bs]; omega)
  refine ⟨⟨by rw [hR, hR, hR]; exact hr, ⟨hc, ?_⟩, hp.of hR, fun i hi2 => ?_, fun k n k3 n9 => ?_, ?_, fun j hj => ?_⟩, fun o k ho => ⟨hI o k (by omega) (by omega) (by omega), hJ o k⟩, by rw [hRf]⟩
  · rw [hI x 2 (by omega) (by omega) (by omega), hI x 3 (by omega) (by omega) (by omega), hI x 4 (by omega) (by omega) (by omega), hI x 5 (by omega) (by omega) (by omega), hI x 6 (by omega) (by omega) (by omega), hJ, lo2 1 (by decide) (by decide), lo2 2 (by decide) (by decide), lo2 3 (by decide) (by decide), lo2 4 (by decide) (by decide), lo2 5 (by decide) (by decide), lo2 6 (by decide) (by decide)]
    exact hn.2
  · rw [h0] at hi2
    rw [hR]
    obtain ⟨j, hj, e⟩ := hp.1 i (by omega)
    by_cases ei : i = w 0
    · rw [ei]; exact hsec
    · have ne : mR M (x + 1) i ≠ mR M (x + 1) (w 0) := fun z => ei (hp.2.1 i (w 0) (by omega) (by omega) z)
      have hi : ∀ k, k < 43 → w' (bs i + k) = w (bs i + k) := fun k hk => lo _ (by simp only [bs]; omega) (by simp only [bs]; omega)
      have h1 := hi 5 (by decide)
      have h2 := hi 6 (by decide)
      have q6 := (hsec0 i (by omega)).2.2.2.2.2.1
      have q7 := (hsec0 i (by omega)).2.2.2.2.2.2.1
      refine (hsec0 i (by omega)).cong2 (fun k _ _ => hI _ _ (by omega) (by omega) (by omega)) (fun k => hI _ _ (by omega) (by omega) (by omega)) (hR _ _) (fun k hk _ _ => hi k hk) ?_ ?_
      · rw [hI _ _ (by omega) (by omega) (by omega), h1]; exact q6
      · rw [hI _ _ (by omega) (by omega) (by omega), h2]; exact q7
  · rw [hI _ _ (by omega) (by omega) (by omega), lo2 _ (by omega) (by omega)]; exact hS k n k3 n9
  · refine ⟨by rw [lo2 7 (by decide) (by decide), lo2 1 (by decide) (by decide)]; exact hlog.1, fun q hq => ?_⟩
    have h7b := hlog.1
    rw [lo2 7 (by decide) (by decide)] at hq
    rw [lo2 1 (by decide) (by decide), lo2 (8 + q) (by omega) (by omega), hI _ _ (by omega) (by omega) (by omega)]
    exact hlog.2 q hq
  · by_cases e : x + 4 + 2 * j = mR M (x + 1) (w 0)
    · rw [e]; exact hk
    · rw [hI _ _ e (by omega) (by omega)]; exact hko j hj
theorem ch_add (B : Nat) (w : Row) (hI : Inv B w) (p r c : Int32) : CH 2 (2 ^ 31) B w (F_X9_notAdd 204 p r c) (F_X9_addsSection 204 p r c) (F_X5_add 2 p r c) (fun z => if z = 1 then -2 else -3) := by
  have h5 := hI.r5
  rcases kind_or p with ⟨q1, q2⟩ | ⟨k, hk, rfl⟩
  · refine CH.bad (c := 1) (by decide) (fun M hL hw => ?_) (fun M hS => ?_)
    · unfold F_X9_notAdd
      rw [q1, ob_s, if_pos (by decide)]; rfl
    · unfold F_X5_add
      rw [q2, ob_s, if_pos (by decide)]; rfl
  by_cases hr : r < 1 ∨ 6 < r
  · refine CH.bad (c := 1) (by decide) (fun M hL hw => ?_) (fun M hS => ?_)
    · unfold F_X9_notAdd
      rw [F_kindOf hk, ob_s, if_neg (nI_pos (by omega)), F_bet, ob_s, if_pos hr, if_pos rfl]; rfl
    · unfold F_X5_add
      rw [C_kind hk, ob_s, if_neg (nI_pos (by omega)), side_bet, ob_s, if_pos hr, if_pos rfl]; rfl
  by_cases hc : c < 1 ∨ 6 < c
  · refine CH.bad (c := 1) (by decide) (fun M hL hw => ?_) (fun M hS => ?_)
    · unfold F_X9_notAdd
      rw [F_kindOf hk, ob_s, if_neg (nI_pos (by omega)), F_bet, ob_s, if_neg hr, if_neg (by decide), F_bet, ob_s, if_pos hc, if_pos rfl]; rfl
    · unfold F_X5_add
      rw [C_kind hk, ob_s, if_neg (nI_pos (by omega)), side_bet, ob_s, if_neg hr, if_neg (by decide), side_bet, ob_s, if_pos hc, if_pos rfl]; rfl
  have e1 : ∀ M, F_X9_notAdd 204 (nI (lett k)) r c M = chk (inb 0 260) (if (mI M (mR M 204 1) 0) = 5 then some 2 else some 0) := fun M => by
    unfold F_X9_notAdd
    rw [F_kindOf hk, ob_s, if_neg (nI_pos (by omega)), F_bet, ob_s, if_neg hr, if_neg (by decide), F_bet, ob_s, if_neg hc, if_neg (by decide)]
  by_cases h50 : w 0 = 5
  · refine CH.bad (c := 2) (by decide) (fun M hL hw => ?_) (fun M hS => ?_)
    · rw [e1, chk_t (by decide), hL.1, hw.at (by decide), h50, if_pos (by decide)]; rfl
    · unfold F_X5_add
      rw [C_kind hk, ob_s, if_neg (nI_pos (by omega)), side_bet, ob_s, if_neg hr, if_neg (by decide), side_bet, ob_s, if_neg hc, if_neg (by decide), hS.2.1.1, h50, if_neg (by decide), if_neg (by decide)]; rfl
  obtain ⟨r, hr1, hr6, rfl⟩ := side_in hr
  obtain ⟨c, hc1, hc6, rfl⟩ := side_in hc
  have okN : SecOK (addRow w k r c) (bs (w 0)) := by
    refine ⟨by rw [addRow_0]; exact hk, by rw [addRow_1]; omega, by rw [addRow_2]; omega, by rw [addRow_z _ _ _ _ (by decide) (by decide)]; omega, by rw [addRow_z _ _ _ _ (by decide) (by decide)]; omega, by rw [addRow_z _ _ _ _ (by decide) (by decide)]; omega, Nat.zero_le _, fun i j hi hj => ?_⟩
    rw [addRow_z _ _ _ _ (by omega) (by omega)]
    exact ⟨by omega, fun _ => rfl⟩
  have far : ∀ t, t < w 0 → ∀ j, j < 43 → addRow w k r c (bs t + j) = w (bs t + j) := fun t ht j hj => addRow_lo w k r c (by simp only [bs]; omega) (by simp only [bs]; omega)
  refine CH.good (v := w 0) (w' := addRow w k r c) (by omega) (hI.upd (fun j h1 h2 _ _ => addRow_lo w k r c (by simp only [bs]; omega) h2) ?_ ?_ (by rw [addRow_c]; omega) (fun s hs => ?_)) (fun M hL hw => ⟨?_, ?_⟩) (fun M hS => ?_)
  · rw [addRow_lo w k r c (by simp only [bs]; omega) (by decide)]; exact hI.2.2.1
  · rw [addRow_lo w k r c (by simp only [bs]; omega) (by decide)]; exact hI.2.2.2.1
  · rw [addRow_c] at hs
    by_cases e : s = w 0
    · rw [e]
      exact ⟨okN, by rw [addRow_z _ _ _ _ (by decide) (by decide)]; omega⟩
    · have hs2 : s < w 0 := by omega
      refine ⟨(hI.sec hs2).cong2 (fun j hj _ _ => far s hs2 j hj) ?_, by rw [far s hs2 6 (by decide)]; exact hI.played hs2⟩
      rw [far s hs2 5 (by decide)]
      exact (hI.sec hs2).2.2.2.2.2.1
  · rw [e1, chk_t (by decide), hL.1, hw.at (by decide), show (5 : Int32) = nI 5 from rfl, if_neg (fun z => h50 ((nI_eq (by omega) (by decide)).mp z))]; rfl
  · unfold F_X9_addsSection
    have hw0 := hw.put 0 (w 0 + 1)
    rw [← zeroR_0 (upR w 0 (w 0 + 1)) (bs (w 0))] at hw0
    obtain ⟨M1, g1, g2, g3⟩ := F_addL (s := w 0) (by omega) (upR w 0 (w 0 + 1)) (fun (x17 : Int32) (M18 : Mem) =>
  Option.bind (F_X9_kindOf (nI (lett k))) (fun v20 =>
  b1 (F_X9_puts 204 (nI (w 0)) 0 v20 M18) (fun u22 M23 =>
  b1 (F_X9_puts 204 (nI (w 0)) 1 (nI r) M23) (fun u25 M26 =>
  b1 (F_X9_puts 204 (nI (w 0)) 2 (nI c) M26) (fun u28 M29 =>
  some (nI (w 0), M29)))))) 43 0 3000 (sI M 205 0 (nI (w 0 + 1))) (hL.of rfl) hw0 (by omega) (by omega)
    have L1 := (hL.of (M' := sI M 205 0 (nI (w 0 + 1))) rfl).of g3.2
    obtain ⟨a1, a2⟩ := F_puts L1 g2 (s := w 0) (k := 0) k (by omega)
    obtain ⟨b1', b2⟩ := F_puts (M := sI M1 205 (45 + 43 * w 0 + 0) (nI k)) (L1.of rfl) a2 (s := w 0) (k := 1) r (by omega)
    obtain ⟨c1, c2⟩ := F_puts (M := sI (sI M1 205 (45 + 43 * w 0 + 0) (nI k)) 205 (45 + 43 * w 0 + 1) (nI r)) (L1.of rfl) b2 (s := w 0) (k := 2) c (by omega)
    rw [chk_t (by decide), hL.1, hw.at (by decide), lt_v, chk_t (by decide), chk_t (by decide), nI_1, lt_v]
    rw [show (0 : Int32) = nI 0 from rfl] at g1 ⊢
    rw [g1, F_kindOf hk, ob_s, a1, b1_s, show (1 : Int32) = nI 1 from rfl, b1', b1_s, show (2 : Int32) = nI 2 from rfl, c1, b1_s]
    exact ⟨_, rfl, c2, ((((Only.put _ _ _ _).trans g3).trans (Only.put _ _ _ _)).trans (Only.put _ _ _ _)).trans (Only.put _ _ _ _)⟩
  · obtain ⟨j, hj, ej, er⟩ := hS.sec (s := w 0) (by omega)
    obtain ⟨M1, g1, ⟨a0, a1, a2, a4, a5, a6, a7⟩, g3, g4, g5⟩ := C_begin (M := M) (a := mR M (2 + 1) (w 0)) (k := k) (r := r) (c := c) hk er
    have e2 : mI M1 2 1 = nI (w 0) := by rw [g4 _ _ (by omega) (by omega)]; exact hS.2.1.1
    have st := hS.addUpd (M' := sI M1 2 1 (nI (w 0 + 1))) (w' := addRow w k r c) (by omega) (fun o j h1 h2 h3 => by rw [mI_diff _ (by omega)]; exact g4 o j h1 h2) (by rw [mI_same, addRow_c]) g5 ?_ ?_ (addRow_c w k r c) (fun j h1 h2 => addRow_lo w k r c (Or.inl h1) h2)
    · refine ⟨_, ?_, st.1, FrS.blk st.2⟩
      unfold F_X5_add
      rw [C_kind hk, ob_s, if_neg (nI_pos (by omega)), side_bet, ob_s, if_neg hr, if_neg (by decide), side_bet, ob_s, if_neg hc, if_neg (by decide), hS.2.1.1, if_neg (nI_pos (by omega)), show (5 : Int32) = nI 5 from rfl, if_pos (nI_lt (by omega) (by omega)), chk_t (inb_n (by omega) (by decide)), nI_clamp (by omega), hS.refs, g1, b1_s, e2, lt_v, nI_1, mI_same, nI_pred]
    · unfold SecR
      have d : ∀ j, mI (sI M1 2 1 (nI (w 0 + 1))) (mR M (2 + 1) (w 0)) j = mI M1 (mR M (2 + 1) (w 0)) j := fun j => mI_diff _ (Or.inl (by omega))
      rw [d, d, d, d, d, d, d, addRow_0, addRow_1, addRow_2, addRow_z _ _ _ _ (by decide) (by decide), addRow_z _ _ _ _ (by decide) (by decide), addRow_z _ _ _ _ (by decide) (by decide), addRow_z _ _ _ _ (by decide) (by decide)]
      refine ⟨a0, a1, a2, a4, a5, a6, a7, by rw [mR_sI]; unfold mR; rw [g5]; exact er, fun q hq => ?_⟩
      rw [mI_diff _ (Or.inl (by omega)), addRow_z _ _ _ _ (by omega) (by omega)]
      exact g3 q hq
    · rw [mI_diff _ (Or.inl (by omega)), a0]
      exact nokC_nI (by unfold lett; split <;> (try split) <;> omega)
