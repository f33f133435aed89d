/-! PURE LEVEL: sections, columns, volumes -/
def isum (f : Nat → Nat) : Nat → Nat → Nat
  | _, 0 => 0
  | i, d+1 => f i + isum f (i + 1) d
theorem isum_app (f : Nat → Nat) : ∀ (d i e : Nat), isum f i (d + e) = isum f i d + isum f (i + d) e
  | 0, i, e => by rw [Nat.zero_add, Nat.add_zero]; show _ = 0 + _; rw [Nat.zero_add]
  | d+1, i, e => by
    rw [Nat.add_right_comm]
    show f i + isum f (i + 1) (d + e) = f i + isum f (i + 1) d + isum f (i + (d + 1)) e
    have h := isum_app f d (i + 1) e
    rw [show i + 1 + d = i + (d + 1) by omega] at h
    omega
theorem isum_zero {f : Nat → Nat} : ∀ {d i : Nat}, (∀ j, i ≤ j → j < i + d → f j = 0) → isum f i d = 0
  | 0, _, _ => rfl
  | d+1, i, h => by
    show f i + isum f (i + 1) d = 0
    rw [h i (Nat.le_refl _) (by omega), isum_zero (d := d) (i := i + 1) (fun j h1 h2 => h j (by omega) (by omega))]
theorem isum_le {f : Nat → Nat} {c : Nat} : ∀ {d i : Nat}, (∀ j, i ≤ j → j < i + d → f j ≤ c) → isum f i d ≤ c * d
  | 0, _, _ => Nat.zero_le _
  | d+1, i, h => by
    show f i + isum f (i + 1) d ≤ c * (d + 1)
    have h1 := h i (Nat.le_refl _) (by omega)
    have h2 := isum_le (f := f) (c := c) (d := d) (i := i + 1) (fun j h1 h2 => h j (by omega) (by omega))
    rw [Nat.mul_succ]; omega
/-- the base of section s in the row -/
abbrev bs (s : Nat) : Nat := 45 + 43 * s
/-- what holds of a section of the row -/
def SecOK (w : Row) (b : Nat) : Prop :=
  w b < 3 ∧ (1 ≤ w (b + 1) ∧ w (b + 1) ≤ 6) ∧ (1 ≤ w (b + 2) ∧ w (b + 2) ≤ 6) ∧ w (b + 3) < 64 ∧ w (b + 4) < 3 ∧ w (b + 5) < 3 ∧ 0 ≤ w (b + 6) ∧
  ∀ i j, i < 6 → j < 6 → w (b + (7 + 6 * i + j)) < 10 ∧ ((w (b + 1) ≤ i ∨ w (b + 2) ≤ j) → w (b + (7 + 6 * i + j)) = 0)
/-- section object a of ours is the section of the row at b -/
def SecR (M : Mem) (a : Nat) (w : Row) (b : Nat) : Prop :=
  mI M a 0 = nI (lett (w b)) ∧ mI M a 1 = nI (w (b + 1)) ∧ mI M a 2 = nI (w (b + 2)) ∧ mI M a 4 = nI (w (b + 3)) ∧ mI M a 5 = nI (w (b + 4)) ∧ mI M a 6 = nI (w (b + 5)) ∧ mI M a 7 = nI (w (b + 6)) ∧
  mR M a 3 = a + 1 ∧ ∀ k, k < 36 → mI M (a + 1) k = nI (w (b + (7 + k)))
/-- the volume of column c -/
def cvf (w : Row) (b c : Nat) : Nat → Nat := fun i => vol (w b) (w (b + (7 + 6 * i + c)))
def colV (w : Row) (b c : Nat) : Nat := isum (cvf w b c) 0 6
theorem colV_rows {w : Row} {b c : Nat} (h : SecOK w b) (hc : c < 6) : colV w b c = isum (cvf w b c) 0 (w (b + 1)) := by
  obtain ⟨-, ⟨h1, h2⟩, -, -, -, -, -, hn⟩ := h
  obtain ⟨d, hd⟩ : ∃ d, 6 = w (b + 1) + d := ⟨6 - w (b + 1), by omega⟩
  unfold colV
  rw [show isum (cvf w b c) 0 6 = isum (cvf w b c) 0 (w (b + 1) + d) by rw [← hd], isum_app, isum_zero (d := d), Nat.add_zero]
  intro j h3 h4
  unfold cvf
  rw [(hn j c (by omega) hc).2 (Or.inl (by omega))]
  rfl
theorem colV_le {w : Row} {b c : Nat} (h : SecOK w b) (hc : c < 6) : colV w b c ≤ 72 := by
  refine isum_le (c := 12) (fun j _ h2 => ?_)
  exact vol_le (h.2.2.2.2.2.2.2 j c (by omega) hc).1
section COL
variable {M : Mem} {w : Row}
theorem F_colL (hL : LM M) (hw : WA M 205 260 w) {s c : Nat} (hs : s < 5) (h : SecOK w (bs s)) (hc : c < 6) (K : Int32 → Int32 → Option Int32) : ∀ (d i a n : Nat), i + d = w (bs s + 1) → d < n →
    F_X9_volumeOfColumn_L1 204 (nI s) (nI c) M K n (nI a) (nI i) = K (nI (a + isum (cvf w (bs s) c) i d)) (nI (w (bs s + 1))) := by
  obtain ⟨hk, hr, hcc, -, -, -, -, hn⟩ := h
  intro d
  induction d with
  | zero =>
    intro i a n e hn0
    obtain ⟨n, rfl⟩ : ∃ m, n = m + 1 := ⟨n - 1, by omega⟩
    rw [F_X9_volumeOfColumn_L1, show (1 : Int32) = nI 1 from rfl, F_of hL hw (by simp only [bs] at *; omega), ob_s, if_pos]
    · simp only [bs] at *
      rw [show i = w (45 + 43 * s + 1) by omega]; rfl
    · exact nI_le (by simp only [bs] at *; omega) (by simp only [bs] at *; omega)
  | succ d ih =>
    intro i a n e hn0
    obtain ⟨n, rfl⟩ : ∃ m, n = m + 1 := ⟨n - 1, by omega⟩
    have hnote := hn i c (by omega) hc
    simp only [bs] at *
    rw [F_X9_volumeOfColumn_L1, show (1 : Int32) = nI 1 from rfl, show (0 : Int32) = nI 0 from rfl, F_of hL hw (by omega), ob_s, if_neg (nI_ge (by omega) (by omega)), F_of hL hw (by omega), ob_s, F_note hL hw (by omega), ob_s, Nat.add_zero, F_vol hk hnote.1, ob_s, lt_v, lt_v, nI_add, nI_add, ih (i + 1) _ n (by omega) (by omega)]
    show K (nI (a + cvf w (45 + 43 * s) c i + _)) _ = K (nI (a + (cvf w (45 + 43 * s) c i + _))) _
    rw [Nat.add_assoc]
theorem F_col (hL : LM M) (hw : WA M 205 260 w) {s c : Nat} (hs : s < 5) (h : SecOK w (bs s)) (hc : c < 6) : F_X9_volumeOfColumn 204 (nI s) (nI c) M = some (nI (colV w (bs s) c)) := by
  have h6 := h.2.1.2
  unfold F_X9_volumeOfColumn
  rw [show (0 : Int32) = nI 0 from rfl, F_colL hL hw hs h hc _ (w (bs s + 1)) 0 0 3000 (by omega) (by omega), colV_rows h hc, Nat.zero_add]
theorem C_colL {a b : Nat} (hR : SecR M a w b) (h : SecOK w b) {c : Nat} (hc : c < 6) (K : Int32 → Int32 → Option Int32) : ∀ (d i x n : Nat), i + d = 6 → d < n →
    F_X4_volumeOfColumn_L1 a M K n (nI x) (nI (6 * i + c)) = K (nI (x + isum (cvf w b c) i d)) (nI (36 + c)) := by
  obtain ⟨hk, hr, hcc, -, -, -, -, hn⟩ := h
  obtain ⟨r0, -, -, -, -, -, -, r8, rn⟩ := hR
  intro d
  induction d with
  | zero =>
    intro i x n e hn0
    obtain ⟨n, rfl⟩ : ∃ m, n = m + 1 := ⟨n - 1, by omega⟩
    rw [F_X4_volumeOfColumn_L1, if_neg (nI_pos (by omega)), show (36 : Int32) = nI 36 from rfl, if_pos (nI_le (by omega) (by omega)), show 6 * i + c = 36 + c by omega]
    rfl
  | succ d ih =>
    intro i x n e hn0
    obtain ⟨n, rfl⟩ : ∃ m, n = m + 1 := ⟨n - 1, by omega⟩
    have hnote := (hn i c (by omega) hc).1
    have hr9 := rn (6 * i + c) (by omega)
    rw [show 7 + (6 * i + c) = 7 + 6 * i + c by omega] at hr9
    rw [F_X4_volumeOfColumn_L1, if_neg (nI_pos (by omega)), show (36 : Int32) = nI 36 from rfl, show (6 : Int32) = nI 6 from rfl, if_neg (nI_ge (by omega) (by omega)), chk_t (inb_n (by omega) (by decide)), nI_clamp (by omega), r8, r0, hr9, C_vol hk hnote, ob_s, lt_v, lt_v, nI_add, nI_add, show 6 * i + c + 6 = 6 * (i + 1) + c by omega, ih (i + 1) _ n (by omega) (by omega)]
    show K (nI (x + cvf w b c i + _)) _ = K (nI (x + (cvf w b c i + _))) _
    rw [Nat.add_assoc]
theorem C_col {a b : Nat} (hR : SecR M a w b) (h : SecOK w b) {c : Nat} (hc : c < 6) : F_X4_volumeOfColumn a (nI c) M = some (nI (colV w b c)) := by
  unfold F_X4_volumeOfColumn
  have := C_colL hR h hc (fun x14 _ => some x14) 6 0 0 3000 (by omega) (by omega)
  simp only [Nat.zero_add, Nat.mul_zero] at this
  rw [show (0 : Int32) = nI 0 from rfl, this]
  rfl
end COL
