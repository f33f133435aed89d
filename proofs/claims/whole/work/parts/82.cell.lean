/-! PURE LEVEL: places in range; the notes of a section as a function; a section changed -/
/-- out of 0 .. n - 1 -/
abbrev outR (p : Int32) (n : Nat) : Prop := p < 0 ∨ nI n ≤ p
theorem in_of {p : Int32} {n : Nat} (h : ¬ outR p n) (hn : n < 2 ^ 31) : ∃ s, s < n ∧ p = nI s := by
  obtain ⟨s, hs, rfl⟩ := nI_of (x := p) (fun z => h (Or.inl z))
  refine ⟨s, ?_, rfl⟩
  have : ¬ nI n ≤ nI s := fun z => h (Or.inr z)
  rw [nI_leI hn hs] at this
  omega
theorem not_out {s n : Nat} (h : s < n) (hn : n < 2 ^ 31) : ¬ outR (nI s) n := fun z => z.elim (nI_pos (by omega)) (nI_ge h hn)
theorem F_bet (p a c : Int32) : F_X9_isBetween p a c = some (if p < a ∨ c < p then 0 else 1) := by
  unfold F_X9_isBetween
  by_cases h1 : p < a
  · rw [if_pos h1, if_pos (Or.inl h1)]
  · rw [if_neg h1]
    by_cases h2 : c < p
    · rw [if_pos h2, if_pos (Or.inr h2)]
    · rw [if_neg h2, if_neg (fun z => z.elim h1 h2)]
theorem F_bet0 (p : Int32) {n : Nat} (h1 : 1 ≤ n) (hn : n < 2 ^ 31) : F_X9_isBetween p 0 (nI n - 1) = some (if outR p n then 0 else 1) := by
  rw [F_bet]
  congr 1
  by_cases h0 : p < 0
  · rw [if_pos (Or.inl h0), if_pos (Or.inl h0)]
  · obtain ⟨s, hs, rfl⟩ := nI_of h0
    have e : nI n - 1 = nI (n - 1) := nI_sub (b := 1) h1
    rw [e]
    by_cases h2 : n ≤ s
    · rw [if_pos (Or.inr (nI_lt (by omega) hs)), if_pos (Or.inr (nI_le h2 hs))]
    · rw [if_neg (fun z => z.elim h0 (nI_nlt (by omega) (by omega))), if_neg (not_out (by omega) hn)]
section CELL
variable {M : Mem} {w : Row}
theorem F_isSecI (hL : LM M) (hw : WA M 205 260 w) (h0 : w 0 < 2 ^ 31) (p : Int32) : F_X9_isSection 204 p M = some (if outR p (w 0) then 0 else 1) := by
  by_cases h : p < 0
  · rw [F_isSecN h hL, if_pos (Or.inl h)]
  · obtain ⟨s, hs, rfl⟩ := nI_of h
    rw [F_isSec hL hw h0 hs]
    by_cases h2 : s < w 0
    · rw [if_pos h2, if_neg (not_out h2 h0)]; rfl
    · rw [if_neg h2, if_pos (Or.inr (nI_le (by omega) hs))]; rfl
theorem C_hasI {x : Nat} (h : StR M x w) (h0 : w 0 ≤ 5) (p : Int32) : F_X5_hasSection x p M = some (if outR p (w 0) then 0 else 1) := by
  by_cases hp : p < 0
  · rw [C_hasN hp, if_pos (Or.inl hp)]
  · obtain ⟨s, hs, rfl⟩ := nI_of hp
    rw [C_has h h0 hs]
    by_cases h2 : s < w 0
    · rw [if_pos h2, if_neg (not_out h2 (by omega))]; rfl
    · rw [if_neg h2, if_pos (Or.inr (nI_le (by omega) hs))]; rfl
theorem F_cellI (hL : LM M) (hw : WA M 205 260 w) (h0 : w 0 ≤ 5) {s : Nat} (hs : s < w 0) (h : SecOK w (bs s)) (i j : Int32) : F_X9_isCell 204 (nI s) i j M = some (if outR i (w (bs s + 1)) ∨ outR j (w (bs s + 2)) then 0 else 1) := by
  have h1 := h.2.1
  have h2 := h.2.2.1
  unfold F_X9_isCell
  rw [F_isSecI hL hw (by omega), ob_s, if_neg (not_out hs (by omega)), if_neg (by decide), show (1 : Int32) = nI 1 from rfl, F_of hL hw (by omega), ob_s]
  simp only [bs] at *
  rw [show (nI 1 : Int32) = 1 from rfl, F_bet0 i h1.1 (by omega), ob_s]
  by_cases hi : outR i (w (45 + 43 * s + 1))
  · rw [if_pos hi, if_pos rfl, if_pos (Or.inl hi)]
  · rw [if_neg hi, if_neg (by decide), show (2 : Int32) = nI 2 from rfl, F_of hL hw (by omega), ob_s, F_bet0 j h2.1 (by omega), ob_s]
    by_cases hj : outR j (w (45 + 43 * s + 2))
    · rw [if_pos hj, if_pos rfl, if_pos (Or.inr hj)]
    · rw [if_neg hj, if_neg (by decide), if_neg (fun z => z.elim hi hj)]
theorem C_colI {a b : Nat} (hR : SecR M a w b) (h : SecOK w b) (j : Int32) : F_X4_hasColumn a j M = some (if outR j (w (b + 2)) then 0 else 1) := by
  have h2 := h.2.2.1
  unfold F_X4_hasColumn
  rw [hR.2.2.1]
  by_cases hj : j < 0
  · rw [if_pos hj, if_pos (Or.inl hj)]
  · rw [if_neg hj]
    by_cases hj2 : nI (w (b + 2)) ≤ j
    · rw [if_pos hj2, if_pos (Or.inr hj2)]
    · obtain ⟨s, hs, rfl⟩ := in_of (p := j) (fun z => z.elim hj hj2) (by omega)
      rw [if_neg hj2, show (6 : Int32) = nI 6 from rfl, if_neg (nI_ge (by omega) (by omega)), if_neg (fun z => z.elim hj hj2)]
theorem C_rowI {a b : Nat} (hR : SecR M a w b) (h : SecOK w b) (j : Int32) : F_X4_hasRow a j M = some (if outR j (w (b + 1)) then 0 else 1) := by
  have h2 := h.2.1
  unfold F_X4_hasRow
  rw [hR.2.1]
  by_cases hj : j < 0
  · rw [if_pos hj, if_pos (Or.inl hj)]
  · rw [if_neg hj]
    by_cases hj2 : nI (w (b + 1)) ≤ j
    · rw [if_pos hj2, if_pos (Or.inr hj2)]
    · obtain ⟨s, hs, rfl⟩ := in_of (p := j) (fun z => z.elim hj hj2) (by omega)
      rw [if_neg hj2, show (6 : Int32) = nI 6 from rfl, if_neg (nI_ge (by omega) (by omega)), if_neg (fun z => z.elim hj hj2)]
theorem C_placeI {a b : Nat} (hR : SecR M a w b) (h : SecOK w b) (i j : Int32) : F_X4_hasPlace a i j M = some (if outR i (w (b + 1)) ∨ outR j (w (b + 2)) then 0 else 1) := by
  unfold F_X4_hasPlace
  rw [C_rowI hR h, ob_s]
  by_cases hi : outR i (w (b + 1))
  · rw [if_pos hi, if_pos rfl, if_pos (Or.inl hi)]
  · rw [if_neg hi, if_neg (by decide), C_colI hR h, ob_s]
    by_cases hj : outR j (w (b + 2))
    · rw [if_pos hj, if_pos rfl, if_pos (Or.inr hj)]
    · rw [if_neg hj, if_neg (by decide), if_neg (fun z => z.elim hi hj)]
end CELL
/-- the row with other notes in the section at b -/
def nrow (w : Row) (b : Nat) (f : Nat → Nat) : Row := fun k => if b + 7 ≤ k ∧ k < b + 43 then f (k - (b + 7)) else w k
theorem nrow_out {w : Row} {b k : Nat} (f : Nat → Nat) (h : k < b + 7 ∨ b + 43 ≤ k) : nrow w b f k = w k := if_neg (by omega)
theorem nrow_in {w : Row} {b k : Nat} (f : Nat → Nat) (h : k < 36) : nrow w b f (b + (7 + k)) = f k := by
  unfold nrow
  rw [if_pos (by omega)]
  congr 1; omega
def notesOf (w : Row) (b : Nat) : Nat → Nat := fun k => w (b + (7 + k))
theorem nrow_id (w : Row) (b : Nat) : nrow w b (notesOf w b) = w := funext fun k => by
  unfold nrow notesOf
  split
  · congr 1; omega
  · rfl
theorem nrow_up (w : Row) (b : Nat) (f : Nat → Nat) {k : Nat} (h : k < 36) (x : Nat) : upR (nrow w b f) (b + (7 + k)) x = nrow w b (upR f k x) := funext fun j => by
  unfold upR nrow
  by_cases e : j = b + (7 + k)
  · subst e
    rw [if_pos rfl, if_pos (by omega)]
    exact (if_pos (by omega)).symm
  · rw [if_neg e]
    split
    · exact (if_neg (by omega)).symm
    · rfl
/-- small notes, none outside r rows and c columns -/
def NOK (r c : Nat) (f : Nat → Nat) : Prop := ∀ i j, i < 6 → j < 6 → f (6 * i + j) < 10 ∧ ((r ≤ i ∨ c ≤ j) → f (6 * i + j) = 0)
theorem NOK.of {w : Row} {b : Nat} (h : SecOK w b) : NOK (w (b + 1)) (w (b + 2)) (notesOf w b) := fun i j hi hj => by
  unfold notesOf
  rw [show 7 + (6 * i + j) = 7 + 6 * i + j by omega]
  exact h.2.2.2.2.2.2.2 i j hi hj
theorem SecOK.nrow {w w' : Row} {b : Nat} {f : Nat → Nat} (h : SecOK w b) (e : ∀ k, k < 7 → k ≠ 1 → k ≠ 2 → w' (b + k) = w (b + k)) (h1 : 1 ≤ w' (b + 1) ∧ w' (b + 1) ≤ 6) (h2 : 1 ≤ w' (b + 2) ∧ w' (b + 2) ≤ 6) (hf : ∀ k, k < 36 → w' (b + (7 + k)) = f k) (hN : NOK (w' (b + 1)) (w' (b + 2)) f) : SecOK w' b := by
  have e0 := e 0 (by decide) (by decide) (by decide)
  rw [Nat.add_zero] at e0
  refine ⟨by rw [e0]; exact h.1, h1, h2, by rw [e 3 (by decide) (by decide) (by decide)]; exact h.2.2.2.1, by rw [e 4 (by decide) (by decide) (by decide)]; exact h.2.2.2.2.1, by rw [e 5 (by decide) (by decide) (by decide)]; exact h.2.2.2.2.2.1, Nat.zero_le _, fun i j hi hj => ?_⟩
  have := hf (6 * i + j) (by omega)
  rw [show 7 + (6 * i + j) = 7 + 6 * i + j by omega] at this
  rw [this]
  exact hN i j hi hj
theorem F_putNote {M : Mem} {w : Row} {f : Nat → Nat} {s i j : Nat} (hL : LM M) (hw : WA M 205 260 (nrow w (bs s) f)) (hs : s < 5) (hi : i < 6) (hj : j < 6) (x : Nat) :
    ∃ M', F_X9_putsNote 204 (nI s) (nI i) (nI j) (nI x) M = some ((), M') ∧ WA M' 205 260 (nrow w (bs s) (upR f (6 * i + j) x)) ∧ Only M M' 205 := by
  unfold F_X9_putsNote
  obtain ⟨g1, g2⟩ := F_puts hL hw (s := s) (k := 7 + 6 * i + j) x (by omega)
  rw [show (7 : Int32) = nI 7 from rfl, show (6 : Int32) = nI 6 from rfl, nI_mul, nI_add, nI_add, g1, b1_s]
  refine ⟨_, rfl, ?_, Only.put _ _ _ _⟩
  have e := nrow_up w (bs s) f (k := 6 * i + j) (by omega) x
  rw [show bs s + (7 + (6 * i + j)) = 45 + 43 * s + (7 + 6 * i + j) by simp only [bs]; omega] at e
  rw [e] at g2
  exact g2
theorem F_noteN {M : Mem} {w : Row} {f : Nat → Nat} {s i j : Nat} (hL : LM M) (hw : WA M 205 260 (nrow w (bs s) f)) (hs : s < 5) (hi : i < 6) (hj : j < 6) : F_X9_noteAt 204 (nI s) (nI i) (nI j) M = some (nI (f (6 * i + j))) := by
  rw [F_note hL hw (by omega), show 45 + 43 * s + (7 + 6 * i + j) = bs s + (7 + (6 * i + j)) by simp only [bs]; omega, nrow_in _ (by omega)]
/-- object a holds the notes f -/
def NA (M : Mem) (a : Nat) (f : Nat → Nat) : Prop := ∀ k, k < 36 → mI M a k = nI (f k)
theorem NA.put {M : Mem} {a : Nat} {f : Nat → Nat} (h : NA M a f) (k x : Nat) : NA (sI M a k (nI x)) a (upR f k x) := fun j hj => by
  rw [mI_sI]
  unfold upR
  by_cases e : j = k
  · rw [if_pos ⟨rfl, e⟩, if_pos e]
  · rw [if_neg (fun z => e z.2), if_neg e]; exact h j hj
/-- a section of ours changed -/
theorem StR.secUpd {M M' : Mem} {x s : Nat} {w w' : Row} (h : StR M x w) (h5 : w 0 ≤ 5) (hs : s < w 0) (hI : ∀ o k, o ≠ mR M (x + 1) s → o ≠ mR M (x + 1) s + 1 → mI M' o k = mI M o k) (hRf : M'.2 = M.2)
    (hsec : SecR M' (mR M (x + 1) s) w' (bs s)) (hk : nokC (mI M' (mR M (x + 1) s) 0) = true) (lo : ∀ k, k < 45 → w' k = w k) (hi : ∀ t, t ≠ s → ∀ k, k < 43 → w' (bs t + k) = w (bs t + k)) : StR M' x w' ∧ Blk M M' x 14 := by
  have hR : ∀ a k, mR M' a k = mR M a k := fun a k => by unfold mR; rw [hRf]
  have hJ : ∀ a k, mJ M' a k = mJ M a k := fun a k => by unfold mJ; rw [hRf]
  obtain ⟨js, hjs, es, -⟩ := h.sec (s := s) (by omega)
  obtain ⟨hr, hn, hp, hsec0, hS, hlog, hko⟩ := h
  refine ⟨⟨by rw [hR, hR, hR]; exact hr, ?_, hp.of hR, fun i hi2 => ?_, fun k n k3 n9 => ?_, ?_, fun j hj => ?_⟩, fun o k ho => ⟨hI o k (by omega) (by omega), hJ o k⟩, by rw [hRf]⟩
  · rw [hI x 1 (by omega) (by omega), hI x 2 (by omega) (by omega), hI x 3 (by omega) (by omega), hI x 4 (by omega) (by omega), hI x 5 (by omega) (by omega), hI x 6 (by omega) (by omega), hJ, lo 0 (by decide), lo 1 (by decide), lo 2 (by decide), lo 3 (by decide), lo 4 (by decide), lo 5 (by decide), lo 6 (by decide)]
    exact hn
  · rw [lo 0 (by decide)] at hi2
    rw [hR]
    obtain ⟨j, hj, e⟩ := hp.1 i (by omega)
    by_cases ei : i = s
    · subst ei; exact hsec
    · have ne : mR M (x + 1) i ≠ mR M (x + 1) s := fun z => ei (hp.2.1 i s (by omega) (by omega) z)
      have h1 := hi i ei 5 (by decide)
      have h2 := hi i ei 6 (by decide)
      have q6 := (hsec0 i hi2).2.2.2.2.2.1
      have q7 := (hsec0 i hi2).2.2.2.2.2.2.1
      refine (hsec0 i hi2).cong2 (fun k _ _ => hI _ _ (by omega) (by omega)) (fun k => hI _ _ (by omega) (by omega)) (hR _ _) (fun k hk _ _ => hi i ei k hk) ?_ ?_
      · rw [hI _ _ (by omega) (by omega), h1]; exact q6
      · rw [hI _ _ (by omega) (by omega), h2]; exact q7
  · rw [hI _ _ (by omega) (by omega), lo _ (by omega)]; exact hS k n k3 n9
  · refine ⟨by rw [lo 7 (by decide), lo 1 (by decide)]; exact hlog.1, fun q hq => ?_⟩
    have h7b := hlog.1
    rw [lo 7 (by decide)] at hq
    rw [lo 1 (by decide), lo (8 + q) (by omega), hI _ _ (by omega) (by omega)]
    exact hlog.2 q hq
  · by_cases e : x + 4 + 2 * j = mR M (x + 1) s
    · rw [e]; exact hk
    · rw [hI _ _ e (by omega)]; exact hko j hj
