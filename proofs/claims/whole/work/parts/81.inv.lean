/-! PURE LEVEL: what holds of a row; changes in general; tempo and limit -/
theorem mI_same (M : Mem) (a k : Nat) (x : Int32) : mI (sI M a k x) a k = x := by rw [mI_sI, if_pos ⟨rfl, rfl⟩]
theorem mI_diff {M : Mem} {a k b j : Nat} (x : Int32) (h : b ≠ a ∨ j ≠ k) : mI (sI M a k x) b j = mI M b j := by rw [mI_sI, if_neg (by omega)]
theorem isum_cong {f g : Nat → Nat} : ∀ {d i : Nat}, (∀ j, i ≤ j → j < i + d → f j = g j) → isum f i d = isum g i d
  | 0, _, _ => rfl
  | d+1, i, h => by
    show f i + isum f (i + 1) d = g i + isum g (i + 1) d
    rw [h i (Nat.le_refl _) (by omega), isum_cong (d := d) (i := i + 1) (fun j h1 h2 => h j (by omega) (by omega))]
/-- the sounds by their volumes -/
def sndT (w : Row) : Nat := isum (fun k => isum (fun n => w (18 + 9 * k + n) * vol k (n + 1)) 0 9) 0 3
theorem sndT_cong {w w' : Row} (e : ∀ k, 18 ≤ k → k < 45 → w' k = w k) : sndT w' = sndT w :=
  isum_cong fun k _ hk => isum_cong fun n _ hn => by rw [e _ (by omega) (by omega)]
def Inv (B : Nat) (w : Row) : Prop :=
  RowOK w ∧ w 1 ≤ B ∧ (1 ≤ w 2 ∧ w 2 ≤ 5) ∧ (1 ≤ w 3 ∧ w 3 ≤ 99) ∧ w 4 ≤ w 1 ∧ w 5 ≤ 360 * w 1 ∧ w 6 ≤ 360 ∧ w 7 = min (w 1) 10 ∧ (∀ s, s < w 0 → w (bs s + 6) ≤ 72 * w 1) ∧ w 5 = sndT w
theorem Inv.r5 {B : Nat} {w : Row} (h : Inv B w) : w 0 ≤ 5 := h.1.1
theorem Inv.ok2 {B : Nat} {w : Row} (h : Inv B w) : RowOK2 w := by
  obtain ⟨h1, h2, h3, h4, h5, h6, h7, h8, h9⟩ := h
  exact ⟨h1, by omega, by omega, by omega⟩
theorem Inv.mono {B B' : Nat} {w : Row} (h : Inv B w) (hb : B ≤ B') : Inv B' w := ⟨h.1, Nat.le_trans h.2.1 hb, h.2.2⟩
/-- the row changed in its sections, its tempo, its limit alone -/
theorem Inv.upd {B : Nat} {w w' : Row} (h : Inv B w) (e : ∀ k, k < 45 → k ≠ 0 → k ≠ 2 → k ≠ 3 → w' k = w k) (h2 : 1 ≤ w' 2 ∧ w' 2 ≤ 5) (h3 : 1 ≤ w' 3 ∧ w' 3 ≤ 99) (h0 : w' 0 ≤ 5) (hs : ∀ s, s < w' 0 → SecOK w' (bs s) ∧ w' (bs s + 6) ≤ 72 * w 1) : Inv B w' := by
  obtain ⟨⟨g0, g1, g2⟩, k1, k2, k3, k4, k5, k6, k7, k8, k9⟩ := h
  have e1 := e 1 (by decide) (by decide) (by decide) (by decide)
  have e4 := e 4 (by decide) (by decide) (by decide) (by decide)
  have e5 := e 5 (by decide) (by decide) (by decide) (by decide)
  have e6 := e 6 (by decide) (by decide) (by decide) (by decide)
  have e7 := e 7 (by decide) (by decide) (by decide) (by decide)
  refine ⟨⟨h0, by omega, fun s z => (hs s z).1⟩, by omega, h2, h3, by omega, by omega, by omega, by rw [e7, e1]; exact k7, fun s z => by rw [e1]; exact (hs s z).2, ?_⟩
  rw [e5, k9]
  exact (sndT_cong fun k q1 q2 => e k q2 (by omega) (by omega) (by omega)).symm
/-- only the objects of our state change -/
def FrS (M M' : Mem) : Prop := ∀ a k, ¬ (2 ≤ a ∧ a < 16) → mI M' a k = mI M a k ∧ mJ M' a k = mJ M a k ∧ mR M' a k = mR M a k
theorem FrS.refl (M : Mem) : FrS M M := fun _ _ _ => ⟨rfl, rfl, rfl⟩
theorem FrS.trans {M M1 M2 : Mem} (h : FrS M M1) (h2 : FrS M1 M2) : FrS M M2 := fun a k ha => ⟨(h2 a k ha).1.trans (h a k ha).1, (h2 a k ha).2.1.trans (h a k ha).2.1, (h2 a k ha).2.2.trans (h a k ha).2.2⟩
theorem FrS.blk {M M' : Mem} (h : Blk M M' 2 14) : FrS M M' := fun a k ha => ⟨(h.1 a k (by omega)).1, (h.1 a k (by omega)).2, blk_r h a k⟩
/-- a change, on both sides: c tells why it is refused (0: it isn't), v the answer, w' the row after it -/
def CH (N V B : Nat) (w : Row) (nt : Mem → Option Int32) (dm dc : Mem → Option (Int32 × Mem)) (cd : Nat → Int32) : Prop :=
  ∃ (c v : Nat) (w' : Row), c ≤ N ∧ v < V ∧ (c = 0 → Inv B w') ∧
    (∀ M, LM M → WA M 205 260 w → nt M = some (nI c) ∧ (c = 0 → ∃ M', dm M = some (nI v, M') ∧ WA M' 205 260 w' ∧ Only M M' 205)) ∧
    (∀ M, StR M 2 w → (c = 0 → ∃ M', dc M = some (nI v, M') ∧ StR M' 2 w' ∧ FrS M M') ∧ (c ≠ 0 → dc M = some (cd c, M)))
theorem C_has {M : Mem} {x s : Nat} {w : Row} (h : StR M x w) (h0 : w 0 ≤ 5) (hs : s < 2 ^ 31) : F_X5_hasSection x (nI s) M = some (nI (if s < w 0 then 1 else 0)) := by
  unfold F_X5_hasSection
  rw [if_neg (nI_pos hs), h.2.1.1]
  by_cases h1 : s < w 0
  · rw [if_neg (nI_ge h1 (by omega)), show (5 : Int32) = nI 5 from rfl, if_neg (nI_ge (by omega) (by omega)), if_pos h1]; rfl
  · rw [if_pos (nI_le (by omega) hs), if_neg h1]; rfl
theorem C_hasN {M : Mem} {x : Nat} {p : Int32} (h : p < 0) : F_X5_hasSection x p M = some 0 := by
  unfold F_X5_hasSection
  rw [if_pos h]
theorem StR.refs {M : Mem} {x : Nat} {w : Row} (h : StR M x w) : mR M x 0 = x + 1 := h.1.1
theorem F_betNeg {p : Int32} (h : p < 0) (c : Int32) {a : Nat} (ha : a < 2 ^ 31) : F_X9_isBetween p (nI a) c = some 0 := by
  unfold F_X9_isBetween
  rw [if_pos (fa_trans h (nI_pos' ha))]
theorem neg_lt {p : Int32} (h : p < 0) {a : Nat} (ha : a < 2 ^ 31) : p < nI a := fa_trans h (nI_pos' ha)
theorem neg_nge {p : Int32} (h : p < 0) {a : Nat} (ha : a < 2 ^ 31) : ¬ nI a ≤ p := fun z => by
  have := fa_trans h (nI_pos' ha)
  exact (fa_of_lt this).2.1 z
/-- a change that sets one number of our state -/
theorem StR.num {M : Mem} {x : Nat} {w w' : Row} {k : Nat} {v : Int32} (h : StR M x w) (h5 : w 0 ≤ 5) (hk : k = 2 ∨ k = 3) (hv : v = nI (w' k)) (e : ∀ j, j ≠ k → w' j = w j) : StR (sI M x k v) x w' := by
  obtain ⟨n1, n2, n3, n4, n5, n6, n7⟩ := h.2.1
  obtain ⟨hl1, hl2⟩ := h.2.2.2.2.2.1
  have hx : ∀ j, j ≠ k → mI (sI M x k v) x j = mI M x j := fun j hj => mI_diff _ (Or.inr hj)
  have e0 := e 0 (by omega)
  have e1 := e 1 (by omega)
  refine h.upd h5 (fun o j ho _ => mI_diff _ (Or.inl ho)) rfl ⟨?_, ?_, ?_, ?_, ?_, ?_, ?_⟩ (fun j hj => e j (by omega)) e0 ⟨?_, fun r hr => ?_⟩
  · rw [hx 1 (by omega), e0]; exact n1
  · rcases hk with rfl | rfl
    · rw [mI_same]; exact hv
    · rw [hx 2 (by omega), e 2 (by omega)]; exact n2
  · rcases hk with rfl | rfl
    · rw [hx 3 (by omega), e 3 (by omega)]; exact n3
    · rw [mI_same]; exact hv
  · rw [hx 4 (by omega), e1]; exact n4
  · rw [hx 5 (by omega), e 4 (by omega)]; exact n5
  · rw [hx 6 (by omega), e 6 (by omega)]; exact n6
  · rw [mJ_sI, e 5 (by omega)]; exact n7
  · rw [e 7 (by omega), e1]; exact hl1
  · rw [mI_diff _ (Or.inl (by omega)), e1, e (8 + r) (by omega)]
    exact hl2 r (by rw [← e 7 (by omega)]; exact hr)
theorem ch_tempo (B : Nat) (w : Row) (hI : Inv B w) (p : Int32) : CH 1 (2 ^ 31) B w (fun _ => F_X9_notTempo p) (F_X9_sets 204 2 p) (F_X5_changeTempo 2 p) (fun _ => -2) := by
  by_cases hp : ¬ p < 0 ∧ nI 1 ≤ p ∧ p ≤ nI 5
  · obtain ⟨h0, h1, h2⟩ := hp
    obtain ⟨s, hs, rfl⟩ := nI_of h0
    rw [nI_leI (by omega) (by omega)] at h1 h2
    refine ⟨0, w 2, upR w 2 s, by omega, by have := hI.2.2.1; omega, fun _ => ?_, fun M hL hw => ⟨?_, fun _ => ?_⟩, fun M hS => ⟨fun _ => ?_, fun z => absurd rfl z⟩⟩
    · refine hI.upd (fun k h1 h2 h3 h4 => upR_n _ _ h3) (by rw [upR_s]; omega) (by rw [upR_n _ _ (by decide)]; exact hI.2.2.2.1) (by rw [upR_n _ _ (by decide)]; exact hI.r5) fun t ht => ?_
      rw [upR_n _ _ (by decide)] at ht
      rw [upR_n _ _ (by simp only [bs]; omega)]
      exact ⟨(hI.1.2.2 t ht).cong (by simp only [bs]; omega) (fun k hk => upR_n _ _ (by omega)), hI.2.2.2.2.2.2.2.2.1 t ht⟩
    · unfold F_X9_notTempo
      rw [show (1 : Int32) = nI 1 from rfl, show (5 : Int32) = nI 5 from rfl, F_isB (by omega) (by omega) (by omega), if_pos (by omega)]; rfl
    · unfold F_X9_sets
      rw [show (2 : Int32) = nI 2 from rfl, chk_t (inb_n (by omega) (by decide)), nI_clamp (by omega), hL.1, hw.at (by omega), lt_v, chk_t (inb_n (by omega) (by decide)), lt_v]
      exact ⟨_, rfl, hw.put 2 s, Only.put _ _ _ _⟩
    · unfold F_X5_changeTempo
      rw [show (1 : Int32) = nI 1 from rfl, show (5 : Int32) = nI 5 from rfl, if_neg (nI_nlt h1 (by omega)), if_pos (nI_le h2 (by omega)), lt_v, lt_v, hS.2.1.2.1]
      exact ⟨_, rfl, hS.num hI.r5 (Or.inl rfl) (by rw [upR_s]) (fun j hj => upR_n _ _ hj), FrS.blk (Blk.put M 2 _ (by omega) (by omega))⟩
  · refine ⟨1, 0, w, by omega, by omega, fun z => by omega, fun M hL hw => ⟨?_, fun z => by omega⟩, fun M hS => ⟨fun z => by omega, fun _ => ?_⟩⟩
    · unfold F_X9_notTempo F_X9_isBetween
      rw [show (1 : Int32) = nI 1 from rfl, show (5 : Int32) = nI 5 from rfl]
      by_cases h1 : p < nI 1
      · rw [if_pos h1]; rfl
      · rw [if_neg h1]
        by_cases h2 : nI 5 < p
        · rw [if_pos h2]; rfl
        · exact absurd ⟨fun z => h1 (fa_trans z (by decide)), fa_of_nlt h1, fa_of_nlt h2⟩ hp
    · unfold F_X5_changeTempo
      rw [show (1 : Int32) = nI 1 from rfl, show (5 : Int32) = nI 5 from rfl]
      by_cases h1 : p < nI 1
      · rw [if_pos h1]
      · rw [if_neg h1]
        by_cases h2 : p ≤ nI 5
        · exact absurd ⟨fun z => h1 (fa_trans z (by decide)), fa_of_nlt h1, h2⟩ hp
        · rw [if_neg h2]
theorem ch_limit (B : Nat) (w : Row) (hI : Inv B w) (p : Int32) : CH 1 (2 ^ 31) B w (fun _ => F_X9_notLimit p) (F_X9_sets 204 3 p) (F_X5_changeLimit 2 p) (fun _ => -2) := by
  by_cases hp : ¬ p < 0 ∧ nI 1 ≤ p ∧ p ≤ nI 99
  · obtain ⟨h0, h1, h2⟩ := hp
    obtain ⟨s, hs, rfl⟩ := nI_of h0
    rw [nI_leI (by omega) (by omega)] at h1 h2
    refine ⟨0, w 3, upR w 3 s, by omega, by have := hI.2.2.2.1; omega, fun _ => ?_, fun M hL hw => ⟨?_, fun _ => ?_⟩, fun M hS => ⟨fun _ => ?_, fun z => absurd rfl z⟩⟩
    · refine hI.upd (fun k h1 h2 h3 h4 => upR_n _ _ h4) (by rw [upR_n _ _ (by decide)]; exact hI.2.2.1) (by rw [upR_s]; omega) (by rw [upR_n _ _ (by decide)]; exact hI.r5) fun t ht => ?_
      rw [upR_n _ _ (by decide)] at ht
      rw [upR_n _ _ (by simp only [bs]; omega)]
      exact ⟨(hI.1.2.2 t ht).cong (by simp only [bs]; omega) (fun k hk => upR_n _ _ (by omega)), hI.2.2.2.2.2.2.2.2.1 t ht⟩
    · unfold F_X9_notLimit
      rw [show (1 : Int32) = nI 1 from rfl, show (99 : Int32) = nI 99 from rfl, F_isB (by omega) (by omega) (by omega), if_pos (by omega)]; rfl
    · unfold F_X9_sets
      rw [show (3 : Int32) = nI 3 from rfl, chk_t (inb_n (by omega) (by decide)), nI_clamp (by omega), hL.1, hw.at (by omega), lt_v, chk_t (inb_n (by omega) (by decide)), lt_v]
      exact ⟨_, rfl, hw.put 3 s, Only.put _ _ _ _⟩
    · unfold F_X5_changeLimit
      rw [show (1 : Int32) = nI 1 from rfl, show (99 : Int32) = nI 99 from rfl, if_neg (nI_nlt h1 (by omega)), if_pos (nI_le h2 (by omega)), lt_v, lt_v, hS.2.1.2.2.1]
      exact ⟨_, rfl, hS.num hI.r5 (Or.inr rfl) (by rw [upR_s]) (fun j hj => upR_n _ _ hj), FrS.blk (Blk.put M 3 _ (by omega) (by omega))⟩
  · refine ⟨1, 0, w, by omega, by omega, fun z => by omega, fun M hL hw => ⟨?_, fun z => by omega⟩, fun M hS => ⟨fun z => by omega, fun _ => ?_⟩⟩
    · unfold F_X9_notLimit F_X9_isBetween
      rw [show (1 : Int32) = nI 1 from rfl, show (99 : Int32) = nI 99 from rfl]
      by_cases h1 : p < nI 1
      · rw [if_pos h1]; rfl
      · rw [if_neg h1]
        by_cases h2 : nI 99 < p
        · rw [if_pos h2]; rfl
        · exact absurd ⟨fun z => h1 (fa_trans z (by decide)), fa_of_nlt h1, fa_of_nlt h2⟩ hp
    · unfold F_X5_changeLimit
      rw [show (1 : Int32) = nI 1 from rfl, show (99 : Int32) = nI 99 from rfl]
      by_cases h1 : p < nI 1
      · rw [if_pos h1]
      · rw [if_neg h1]
        by_cases h2 : p ≤ nI 99
        · exact absurd ⟨fun z => h1 (fa_trans z (by decide)), fa_of_nlt h1, h2⟩ hp
        · rw [if_neg h2]
