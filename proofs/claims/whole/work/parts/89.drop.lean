/-! PURE LEVEL: a section removed -/
/-- rows from p on moved up by 43, i places of them -/
def mvR (w : Row) (p i : Nat) : Row := fun j => if p ≤ j ∧ j < p + i then w (j + 43) else w j
theorem mvR_s (w : Row) (p i : Nat) : upR (mvR w p i) (p + i) (mvR w p i (p + i + 43)) = mvR w p (i + 1) := funext fun j => by
  unfold upR mvR
  by_cases e : j = p + i
  · rw [if_pos e, if_neg (by omega), if_pos (by omega), e]
  · rw [if_neg e]
    by_cases h : p ≤ j ∧ j < p + i
    · rw [if_pos h, if_pos (by omega)]
    · rw [if_neg h, if_neg (by omega)]
theorem mvR_0 (w : Row) (p : Nat) : mvR w p 0 = w := funext fun j => if_neg (by omega)
theorem F_mvL {p N : Nat} (hN : p + N + 43 ≤ 260) (w : Row) (K : Int32 → Mem → Option (Int32 × Mem)) : ∀ (d i n : Nat) (M : Mem), LM M → WA M 205 260 (mvR w p i) → i + d = N → d < n →
    ∃ M', F_X9_removesSection_L1 204 (nI (p + N)) K n (nI (p + i)) M = K (nI (p + N)) M' ∧ WA M' 205 260 (mvR w p N) ∧ Only M M' 205 := by
  intro d
  induction d with
  | zero =>
    intro i n M hL hw e hn
    obtain ⟨n, rfl⟩ : ∃ m, n = m + 1 := ⟨n - 1, by omega⟩
    obtain rfl : i = N := by omega
    refine ⟨M, ?_, hw, Only.refl _ _⟩
    rw [F_X9_removesSection_L1, if_pos (nI_le (by omega) (by omega))]
  | succ d ih =>
    intro i n M hL hw e hn
    obtain ⟨n, rfl⟩ : ∃ m, n = m + 1 := ⟨n - 1, by omega⟩
    have k2 := hw.put (p + i) (mvR w p i (p + i + 43))
    rw [mvR_s] at k2
    obtain ⟨M1, g1, g2, g3⟩ := ih (i + 1) n (sI M 205 (p + i) (nI (mvR w p i (p + i + 43)))) (hL.of rfl) k2 (by omega) (by omega)
    refine ⟨M1, ?_, g2, (Only.put _ _ _ _).trans g3⟩
    rw [F_X9_removesSection_L1, if_neg (nI_ge (by omega) (by omega)), show (43 : Int32) = nI 43 from rfl, nI_add, chk_t (inb_n (by omega) (by decide)), chk_t (inb_n (by omega) (by decide)), nI_clamp (by omega), nI_clamp (by omega), hL.1, hw.at (by omega), lt_v, lt_v, nI_1]
    exact g1
theorem F_zrL {p : Nat} (hN : p + 43 ≤ 260) (w : Row) (K : Int32 → Mem → Option (Int32 × Mem)) : ∀ (d i n : Nat) (M : Mem), LM M → WA M 205 260 (zeroR w p i) → i + d = 43 → d < n →
    ∃ M', F_X9_removesSection_L2 204 (nI p) K n (nI i) M = K (nI 43) M' ∧ WA M' 205 260 (zeroR w p 43) ∧ Only M M' 205 := by
  intro d
  induction d with
  | zero =>
    intro i n M hL hw e hn
    obtain ⟨n, rfl⟩ : ∃ m, n = m + 1 := ⟨n - 1, by omega⟩
    obtain rfl : i = 43 := by omega
    refine ⟨M, ?_, hw, Only.refl _ _⟩
    rw [F_X9_removesSection_L2, show (43 : Int32) = nI 43 from rfl, if_pos (nI_le (by omega) (by omega))]
  | succ d ih =>
    intro i n M hL hw e hn
    obtain ⟨n, rfl⟩ : ∃ m, n = m + 1 := ⟨n - 1, by omega⟩
    have k2 := hw.put (p + i) 0
    rw [zeroR_s] at k2
    obtain ⟨M1, g1, g2, g3⟩ := ih (i + 1) n (sI M 205 (p + i) (nI 0)) (hL.of rfl) k2 (by omega) (by omega)
    refine ⟨M1, ?_, g2, (Only.put _ _ _ _).trans g3⟩
    rw [F_X9_removesSection_L2, show (43 : Int32) = nI 43 from rfl, if_neg (nI_ge (by omega) (by omega)), nI_add, chk_t (inb_n (by omega) (by decide)), nI_clamp (by omega), hL.1, lt_v, lt_v, nI_1]
    exact g1
def dropRow (w : Row) (s : Nat) : Row := zeroR (mvR (upR w 0 (w 0 - 1)) (bs s) (43 * (w 0 - 1 - s))) (bs (w 0 - 1)) 43
theorem dropRow_c (w : Row) (s : Nat) : dropRow w s 0 = w 0 - 1 := by
  unfold dropRow zeroR mvR
  rw [if_neg (by simp only [bs]; omega), if_neg (by simp only [bs]; omega), upR_s]
theorem dropRow_lo (w : Row) {s k : Nat} (hs : s < w 0) (h : k < bs s) (h0 : k ≠ 0) : dropRow w s k = w k := by
  unfold dropRow zeroR mvR
  rw [if_neg (by simp only [bs] at *; omega), if_neg (by simp only [bs] at *; omega), upR_n _ _ h0]
theorem dropRow_mv (w : Row) {s t k : Nat} (hs : s < w 0) (h : s ≤ t) (ht : t < w 0 - 1) (hk : k < 43) : dropRow w s (bs t + k) = w (bs (t + 1) + k) := by
  unfold dropRow zeroR mvR
  rw [if_neg (by simp only [bs] at *; omega), if_pos (by simp only [bs] at *; omega), upR_n _ _ (by simp only [bs]; omega)]
  congr 1
  simp only [bs]; omega
theorem SecOK.mv {w w' : Row} {b b' : Nat} (h : SecOK w b) (e : ∀ k, k < 43 → w' (b' + k) = w (b + k)) : SecOK w' b' := by
  have e0 := e 0 (by decide)
  rw [Nat.add_zero, Nat.add_zero] at e0
  unfold SecOK at h ⊢
  rw [e0, e 1 (by decide), e 2 (by decide), e 3 (by decide), e 4 (by decide), e 5 (by decide)]
  refine ⟨h.1, h.2.1, h.2.2.1, h.2.2.2.1, h.2.2.2.2.1, h.2.2.2.2.2.1, Nat.zero_le _, fun i j hi hj => ?_⟩
  rw [e (7 + 6 * i + j) (by omega)]
  exact h.2.2.2.2.2.2.2 i j hi hj
theorem SecR.mvRow {M : Mem} {a b b' : Nat} {w w' : Row} (h : SecR M a w b) (e : ∀ k, k < 43 → w' (b' + k) = w (b + k)) : SecR M a w' b' := by
  have e0 := e 0 (by decide)
  rw [Nat.add_zero, Nat.add_zero] at e0
  unfold SecR at h ⊢
  rw [e0, e 1 (by decide), e 2 (by decide), e 3 (by decide), e 4 (by decide), e 5 (by decide), e 6 (by decide)]
  refine ⟨h.1, h.2.1, h.2.2.1, h.2.2.2.1, h.2.2.2.2.1, h.2.2.2.2.2.1, h.2.2.2.2.2.2.1, h.2.2.2.2.2.2.2.1, fun k hk => ?_⟩
  rw [e (7 + k) (by omega)]
  exact h.2.2.2.2.2.2.2.2 k hk
theorem SecR.eqM {M M' : Mem} {a b : Nat} {w : Row} (h : SecR M a w b) (eI : ∀ k, mI M' a k = mI M a k) (eN : ∀ k, mI M' (a + 1) k = mI M (a + 1) k) (er : mR M' a 3 = mR M a 3) : SecR M' a w b := by
  unfold SecR at h ⊢
  simp only [eI, eN, er]
  exact h
/-- only references of object q change -/
def OnlyR (M M' : Mem) (q : Nat) : Prop := M'.1 = M.1 ∧ M'.2.1 = M.2.1 ∧ ∀ a k, a ≠ q → mR M' a k = mR M a k
theorem C_dropL {x s : Nat} (K : Int32 → Mem → Option (Int32 × Mem)) : ∀ (d i n : Nat) (M : Mem) (r : Nat → Nat), mR M x 0 = x + 1 → (∀ j, mR M (x + 1) j = if s ≤ j ∧ j < i then r (j + 1) else r j) → s ≤ i → i + d = 4 → d < n →
    ∃ M', F_X5_drop_L1 x K n (nI i) M = K (nI 4) M' ∧ (∀ j, mR M' (x + 1) j = if s ≤ j ∧ j < 4 then r (j + 1) else r j) ∧ OnlyR M M' (x + 1) := by
  intro d
  induction d with
  | zero =>
    intro i n M r hx hr hs e hn
    obtain ⟨n, rfl⟩ : ∃ m, n = m + 1 := ⟨n - 1, by omega⟩
    obtain rfl : i = 4 := by omega
    refine ⟨M, ?_, hr, rfl, rfl, fun _ _ _ => rfl⟩
    rw [F_X5_drop_L1, if_pos (by decide)]
  | succ d ih =>
    intro i n M r hx hr hs e hn
    obtain ⟨n, rfl⟩ : ∃ m, n = m + 1 := ⟨n - 1, by omega⟩
    obtain ⟨M1, g1, g2, g3⟩ := ih (i + 1) n (sR M (x + 1) i (mR M (x + 1) (i + 1))) r (by rw [mR_sR, if_neg (by omega)]; exact hx) (fun j => by
      rw [mR_sR]
      by_cases z : j = i
      · rw [if_pos ⟨rfl, z⟩, hr, if_neg (by omega), if_pos (by omega), z]
      · rw [if_neg (fun y => z y.2), hr]
        by_cases c : s ≤ j ∧ j < i
        · rw [if_pos c, if_pos (by omega)]
        · rw [if_neg c, if_neg (by omega)]) (by omega) (by omega) (by omega)
    refine ⟨M1, ?_, g2, g3.1.trans rfl, g3.2.1.trans rfl, fun a k ha => by rw [g3.2.2 a k ha, mR_sR, if_neg (fun z => ha z.1)]⟩
    rw [F_X5_drop_L1, show (5 : Int32) = nI 5 from rfl, nI_1, if_neg (nI_ge (by omega) (by omega)), chk_t (inb_n (by omega) (by decide)), chk_t (inb_n (by omega) (by decide)), nI_clamp (by omega), nI_clamp (by omega), hx, lt_v, lt_v]
    exact g1
theorem ch_drop (B : Nat) (w : Row) (hI : Inv B w) (p : Int32) : CH 1 (2 ^ 31) B w (F_X9_notSection 204 p) (F_X9_removesSection 204 p) (F_X5_drop 2 p) (fun _ => -1) := by
  have h5 := hI.r5
  by_cases hp : outR p (w 0)
  · refine CH.bad (c := 1) (by decide) (fun M hL hw => ?_) (fun M hS => ?_)
    · unfold F_X9_notSection
      rw [F_isSecI hL hw (by omega), ob_s, if_pos hp, if_pos rfl]; rfl
    · unfold F_X5_drop
      rw [C_hasI hS h5, ob_s, if_pos hp, if_pos rfl]
  obtain ⟨s, hs, rfl⟩ := in_of hp (by omega)
  have lo : ∀ k, k < 45 → k ≠ 0 → dropRow w s k = w k := fun k hk h0 => dropRow_lo w hs (by simp only [bs]; omega) h0
  have secs : ∀ t, t < w 0 - 1 → ∃ u, u < w 0 ∧ (u = if t < s then t else t + 1) ∧ ∀ k, k < 43 → dropRow w s (bs t + k) = w (bs u + k) := fun t ht => by
    by_cases c : t < s
    · exact ⟨t, by omega, by rw [if_pos c], fun k hk => dropRow_lo w hs (by simp only [bs]; omega) (by simp only [bs]; omega)⟩
    · exact ⟨t + 1, by omega, by rw [if_neg c], fun k hk => dropRow_mv w hs (by omega) ht hk⟩
  refine CH.good (v := w 0 - 1) (w' := dropRow w s) (by omega) (hI.upd (fun k h1 h2 _ _ => lo k h1 h2) (by rw [lo 2 (by decide) (by decide)]; exact hI.2.2.1) (by rw [lo 3 (by decide) (by decide)]; exact hI.2.2.2.1) (by rw [dropRow_c]; omega) (fun t ht => ?_)) (fun M hL hw => ⟨?_, ?_⟩) (fun M hS => ?_)
  · rw [dropRow_c] at ht
    obtain ⟨u, hu, -, eu⟩ := secs t ht
    exact ⟨(hI.sec hu).mv eu, by rw [eu 6 (by decide)]; exact hI.played hu⟩
  · unfold F_X9_notSection
    rw [F_isSecI hL hw (by omega), ob_s, if_neg hp, if_neg (by decide)]; rfl
  · unfold F_X9_removesSection
    have e0 : nI (w 0) - 1 = nI (w 0 - 1) := nI_sub (b := 1) (by omega)
    have hw0 := hw.put 0 (w 0 - 1)
    have hw1 := hw0
    rw [← mvR_0 (upR w 0 (w 0 - 1)) (bs s)] at hw1
    have eb : bs s + 43 * (w 0 - 1 - s) = bs (w 0 - 1) := by simp only [bs]; omega
    obtain ⟨M1, g1, g2, g3⟩ := F_mvL (p := bs s) (N := 43 * (w 0 - 1 - s)) (by simp only [bs] at *; omega) (upR w 0 (w 0 - 1)) (fun (x20 : Int32) (M21 : Mem) =>
  F_X9_removesSection_L2 204 (nI (bs (w 0 - 1))) (fun (x31 : Int32) (M32 : Mem) =>
  chk (inb 0 260) (
  some (mI M32 (mR M32 204 1) 0, M32))) 3000 0 M21) (43 * (w 0 - 1 - s)) 0 3000 (sI M 205 0 (nI (w 0 - 1))) (hL.of rfl) hw1 (by omega) (by omega)
    have L1 := (hL.of (M' := sI M 205 0 (nI (w 0 - 1))) rfl).of g3.2
    have hz := g2
    rw [← zeroR_0 (mvR (upR w 0 (w 0 - 1)) (bs s) (43 * (w 0 - 1 - s))) (bs (w 0 - 1))] at hz
    obtain ⟨M2, k1, k2, k3⟩ := F_zrL (p := bs (w 0 - 1)) (by simp only [bs]; omega) _ (fun (x31 : Int32) (M32 : Mem) =>
  chk (inb 0 260) (
  some (mI M32 (mR M32 204 1) 0, M32))) 43 0 3000 M1 L1 hz (by omega) (by omega)
    have L2 := L1.of k3.2
    have ec : zeroR (mvR (upR w 0 (w 0 - 1)) (bs s) (43 * (w 0 - 1 - s))) (bs (w 0 - 1)) 43 0 = w 0 - 1 := dropRow_c w s
    rw [eb, Nat.add_zero] at g1
    rw [chk_t (by decide), chk_t (by decide), hL.1, hw.at (by decide), e0, lt_v, chk_t (by decide), mR_sI, hL.1, mI_same, show (45 : Int32) = nI 45 from rfl, show (43 : Int32) = nI 43 from rfl, nI_mul, nI_mul, nI_add, nI_add, lt_v, lt_v, g1]
    rw [show (0 : Int32) = nI 0 from rfl] at k1 ⊢
    rw [k1, chk_t (by decide), L2.1, k2.at (by decide), ec]
    exact ⟨_, rfl, k2, ((Only.put _ _ _ _).trans g3).trans k3⟩
  · obtain ⟨⟨r1, r2, r3⟩, ⟨n1, n2, n3, n4, n5, n6, n7⟩, ⟨p1, p2, p3⟩, hsec, hS2, hlog, hko⟩ := hS
    have hS' : StR M 2 w := ⟨⟨r1, r2, r3⟩, ⟨n1, n2, n3, n4, n5, n6, n7⟩, ⟨p1, p2, p3⟩, hsec, hS2, hlog, hko⟩
    unfold F_X5_drop
    obtain ⟨M1, g1, g2, g3, g4, g5⟩ := C_dropL (x := 2) (s := s) (fun (x21 : Int32) (M22 : Mem) =>
    chk (inb ((5 : Int32) - 1) 5) (
    lt (sR M22 (mR M22 2 0) (((5 : Int32) - 1).toNatClampNeg) (mR M 3 s)) (fun (M26 : Mem) =>
    lt (sI M26 2 1 ((mI M26 2 1) - 1)) (fun (M27 : Mem) =>
    some (mI M27 2 1, M27))))) (4 - s) s 3000 M (fun j => mR M 3 j) r1 (fun j => by rw [if_neg (by omega)]) (Nat.le_refl _) (by omega) (by omega)
    have e20 : mR M1 2 0 = 3 := (g5 2 0 (by decide)).trans r1
    have e21 : mI M1 2 1 = nI (w 0) := by unfold mI; rw [g3]; exact n1
    have e4 : ((5 : Int32) - 1).toNatClampNeg = 4 := by decide +kernel
    have e0 : nI (w 0) - 1 = nI (w 0 - 1) := nI_sub (b := 1) (by omega)
    rw [C_hasI hS' h5, ob_s, if_neg hp, if_neg (by decide), chk_t (inb_n (by omega) (by decide)), nI_clamp (by omega), r1, lt_v, g1, chk_t (by decide), e20, e4, lt_v, lt_v]
    have q21 : mI (sR M1 3 4 (mR M 3 s)) 2 1 = nI (w 0) := e21
    rw [q21, e0, mI_same]
    have fI : ∀ a k, ¬ (a = 2 ∧ k = 1) → mI (sI (sR M1 3 4 (mR M 3 s)) 2 1 (nI (w 0 - 1))) a k = mI M a k := fun a k h => by
      rw [mI_sI, if_neg h, mI_sR]; unfold mI; rw [g3]
    have fJ : ∀ a k, mJ (sI (sR M1 3 4 (mR M 3 s)) 2 1 (nI (w 0 - 1))) a k = mJ M a k := fun a k => by
      rw [mJ_sI, mJ_sR]; unfold mJ; rw [g4]
    have fR : ∀ a k, a ≠ 3 → mR (sI (sR M1 3 4 (mR M 3 s)) 2 1 (nI (w 0 - 1))) a k = mR M a k := fun a k h => by
      rw [mR_sI, mR_sR, if_neg (fun z => h z.1)]; exact g5 a k h
    have fr : ∀ i, i < 5 → mR (sI (sR M1 3 4 (mR M 3 s)) 2 1 (nI (w 0 - 1))) 3 i = if i < s then mR M 3 i else if i < 4 then mR M 3 (i + 1) else mR M 3 s := fun i hi => by
      rw [mR_sI, mR_sR]
      by_cases c4 : i = 4
      · rw [if_pos ⟨rfl, c4⟩, if_neg (by omega), if_neg (by omega)]
      · rw [if_neg (fun z => c4 z.2), show mR M1 3 i = _ from g2 i]
        by_cases cs : i < s
        · rw [if_neg (by omega), if_pos cs]
        · rw [if_pos (by omega), if_neg cs, if_pos (by omega)]
    refine ⟨_, rfl, ⟨⟨(fR _ _ (by decide)).trans r1, (fR _ _ (by decide)).trans r2, (fR _ _ (by decide)).trans r3⟩, ⟨?_, ?_, ?_, ?_, ?_, ?_, ?_⟩, ⟨fun i hi => ?_, fun i j hi hj z => ?_, fun j hj => ?_⟩, fun i hi => ?_, fun k n k3 n9 => ?_, ⟨?_, fun q hq => ?_⟩, fun j hj => ?_⟩, fun a k ha => ⟨fI a k (by omega), fJ a k, fR a k (by omega)⟩⟩
    · rw [mI_same, dropRow_c]
    · rw [fI _ _ (by decide), lo 2 (by decide) (by decide)]; exact n2
    · rw [fI _ _ (by decide), lo 3 (by decide) (by decide)]; exact n3
    · rw [fI _ _ (by decide), lo 1 (by decide) (by decide)]; exact n4
    · rw [fI _ _ (by decide), lo 4 (by decide) (by decide)]; exact n5
    · rw [fI _ _ (by decide), lo 6 (by decide) (by decide)]; exact n6
    · rw [fJ, lo 5 (by decide) (by decide)]; exact n7
    · show ∃ j, j < 5 ∧ mR (sI (sR M1 3 4 (mR M 3 s)) 2 1 (nI (w 0 - 1))) 3 i = _
      rw [fr i hi]
      by_cases c1 : i < s
      · rw [if_pos c1]; exact p1 i hi
      · by_cases c2 : i < 4
        · rw [if_neg c1, if_pos c2]; exact p1 (i + 1) (by omega)
        · rw [if_neg c1, if_neg c2]; exact p1 s (by omega)
    · change mR (sI (sR M1 3 4 (mR M 3 s)) 2 1 (nI (w 0 - 1))) 3 i = mR (sI (sR M1 3 4 (mR M 3 s)) 2 1 (nI (w 0 - 1))) 3 j at z
      rw [fr i hi, fr j hj] at z
      by_cases c1 : i < s
      · rw [if_pos c1] at z
        by_cases d1 : j < s
        · rw [if_pos d1] at z; exact p2 i j hi hj z
        · rw [if_neg d1] at z
          by_cases d2 : j < 4
          · rw [if_pos d2] at z; have := p2 i (j + 1) hi (by omega) z; omega
          · rw [if_neg d2] at z; have := p2 i s hi (by omega) z; omega
      · rw [if_neg c1] at z
        by_cases c2 : i < 4
        · rw [if_pos c2] at z
          by_cases d1 : j < s
          · rw [if_pos d1] at z; have := p2 (i + 1) j (by omega) hj z; omega
          · rw [if_neg d1] at z
            by_cases d2 : j < 4
            · rw [if_pos d2] at z; have := p2 (i + 1) (j + 1) (by omega) (by omega) z; omega
            · rw [if_neg d2] at z; have := p2 (i + 1) s (by omega) (by omega) z; omega
        · rw [if_neg c2] at z
          by_cases d1 : j < s
          · rw [if_pos d1] at z; have := p2 s j (by omega) hj z; omega
          · rw [if_neg d1] at z
            by_cases d2 : j < 4
            · rw [if_pos d2] at z; have := p2 s (j + 1) (by omega) (by omega) z; omega
            · omega
    · rw [fR _ _ (by omega)]; exact p3 j hj
    · rw [dropRow_c] at hi
      obtain ⟨u, hu, eu, em⟩ := secs i hi
      have er : mR (sI (sR M1 3 4 (mR M 3 s)) 2 1 (nI (w 0 - 1))) (2 + 1) i = mR M (2 + 1) u := by
        show mR (sI (sR M1 3 4 (mR M 3 s)) 2 1 (nI (w 0 - 1))) 3 i = mR M 3 u
        rw [fr i (by omega), eu]
        by_cases c1 : i < s
        · rw [if_pos c1, if_pos c1]
        · rw [if_neg c1, if_neg c1, if_pos (by omega)]
      rw [er]
      obtain ⟨j, hj, ej⟩ := p1 u (by omega)
      exact ((hsec u hu).eqM (fun k => fI _ _ (by omega)) (fun k => fI _ _ (by omega)) (fR _ _ (by omega))).mvRow em
    · rw [fI _ _ (by omega), lo _ (by omega) (by omega)]; exact hS2 k n k3 n9
    · rw [lo 7 (by decide) (by decide), lo 1 (by decide) (by decide)]; exact hlog.1
    · have h7b := hlog.1
      rw [lo 7 (by decide) (by decide)] at hq
      rw [lo 1 (by decide) (by decide), lo (8 + q) (by omega) (by omega), fI _ _ (by omega)]
      exact hlog.2 q hq
    · rw [fI _ _ (by omega)]; exact hko j hj
