/-! PURE LEVEL: one section in one beat; the sections of a beat -/
theorem sndIt_lo {b c : Nat} (hb : 45 ≤ b) (hc : c < 6) : ∀ {d i : Nat} {r : Row}, SecOK r b → i + d ≤ 6 → ∀ k, k < 18 → sndIt b c r i d k = r k
  | 0, _, _, _, _ => fun _ _ => rfl
  | d+1, i, r, h, hd => fun k hk => by
    rw [sndIt, sndIt_lo hb hc (d := d) (i := i + 1) (h.step (j := i) hb hc (by omega)) (by omega) k hk]
    unfold sndStep
    split
    · rfl
    · exact upR_n _ _ (by omega)
def playRow (r : Row) (b : Nat) : Row :=
  if r (b + 5) = 0 then (if bit (r (b + 3)) (colN r b) = 0 then upR (sndIt b (colN r b) r 0 6) (b + 6) (sndIt b (colN r b) r 0 6 (b + 6) + volN r b) else r)
  else upR r (b + 5) (r (b + 5) - 1)
theorem upR_id (r : Row) (k : Nat) : upR r k (r k) = r := funext fun j => by
  unfold upR
  split
  · rename_i h; rw [h]
  · rfl
theorem playRow_lo {r : Row} {b : Nat} (h : SecOK r b) (hb : 45 ≤ b) {k : Nat} (hk : k < 18) : playRow r b k = r k := by
  unfold playRow
  split
  · split
    · rw [upR_n _ _ (by omega), sndIt_lo hb (colN_lt h) h (by omega) k hk]
    · rfl
  · exact upR_n _ _ (by omega)
theorem playRow_hi {r : Row} {b : Nat} (h : SecOK r b) (hb : 45 ≤ b) {k : Nat} (hk : 45 ≤ k) (h5 : k ≠ b + 5) (h6 : k ≠ b + 6) : playRow r b k = r k := by
  unfold playRow
  split
  · split
    · rw [upR_n _ _ h6, sndIt_ge hb (colN_lt h) h (by omega) k hk]
    · rfl
  · exact upR_n _ _ h5
theorem playRow_5 {r : Row} {b : Nat} (h : SecOK r b) (hb : 45 ≤ b) : playRow r b (b + 5) = r (b + 5) - 1 := by
  unfold playRow
  split
  · rename_i h0
    split
    · rw [upR_n _ _ (by omega), sndIt_ge hb (colN_lt h) h (by omega) _ (by omega), h0]
    · rw [h0]
  · exact upR_s _ _ _
theorem playRow_6 {r : Row} {b : Nat} (h : SecOK r b) (hb : 45 ≤ b) : playRow r b (b + 6) = r (b + 6) + volN r b := by
  unfold playRow
  split
  · rename_i h0
    split
    · rw [upR_s, sndIt_ge hb (colN_lt h) h (by omega) _ (by omega)]
    · rename_i h1
      unfold volN; rw [if_neg (fun z => h1 z.2)]; rfl
  · rename_i h0
    rw [upR_n _ _ (by omega)]
    unfold volN; rw [if_neg (fun z => h0 z.1)]; rfl
/-- a section unchanged but for its rest and what it played -/
theorem SecOK.cong2 {r r' : Row} {b : Nat} (h : SecOK r b) (e : ∀ k, k < 43 → k ≠ 5 → k ≠ 6 → r' (b + k) = r (b + k)) (h5 : r' (b + 5) < 3) : SecOK r' b := by
  unfold SecOK at h ⊢
  have e0 := e 0 (by decide) (by decide) (by decide)
  rw [Nat.add_zero] at e0
  rw [e0, e 1 (by decide) (by decide) (by decide), e 2 (by decide) (by decide) (by decide), e 3 (by decide) (by decide) (by decide), e 4 (by decide) (by decide) (by decide)]
  refine ⟨h.1, h.2.1, h.2.2.1, h.2.2.2.1, h.2.2.2.2.1, h5, Nat.zero_le _, fun i j hi hj => ?_⟩
  rw [e (7 + 6 * i + j) (by omega) (by omega) (by omega)]
  exact h.2.2.2.2.2.2.2 i j hi hj
def RowOK (r : Row) : Prop := r 0 ≤ 5 ∧ r 1 < 2 ^ 30 ∧ ∀ s, s < r 0 → SecOK r (bs s)
theorem RowOK.play {r : Row} (h : RowOK r) {s : Nat} (hs : s < r 0) : RowOK (playRow r (bs s)) := by
  have hsec := h.2.2 s hs
  have h0 := playRow_lo hsec (by simp only [bs]; omega) (k := 0) (by decide)
  have h1 := playRow_lo hsec (by simp only [bs]; omega) (k := 1) (by decide)
  refine ⟨by rw [h0]; exact h.1, by rw [h1]; exact h.2.1, fun s2 hs2 => ?_⟩
  rw [h0] at hs2
  have hsec2 := h.2.2 s2 hs2
  by_cases e : s2 = s
  · subst e
    refine hsec.cong2 (fun k _ h5 h6 => playRow_hi hsec (by simp only [bs]; omega) (by simp only [bs]; omega) (by omega) (by omega)) ?_
    rw [playRow_5 hsec (by simp only [bs]; omega)]
    have := hsec.2.2.2.2.2.1; omega
  · refine hsec2.cong2 (fun k hk h5 h6 => playRow_hi hsec (by simp only [bs]; omega) (by simp only [bs]; omega) (by simp only [bs]; omega) (by simp only [bs]; omega)) ?_
    rw [playRow_hi hsec (by simp only [bs]; omega) (by simp only [bs]; omega) (by simp only [bs]; omega) (by simp only [bs]; omega)]
    exact hsec2.2.2.2.2.2.1
/-- the greatest volume so far, and one: 0 none yet -/
def mm (m : Nat) : Int32 := if m = 0 then -1 else nI (m - 1)
theorem mm_le {v m : Nat} (hv : v < 1000) (hm : m < 1000) : nI v ≤ mm m ↔ v < m := by
  unfold mm
  split
  · rename_i h
    constructor
    · intro hh
      have := fa_trans (a := -1) (b := nI 0) (c := nI v) (by decide) (nI_le (Nat.zero_le _) (by omega))
      exact absurd hh (by rw [Int32.not_le]; exact this)
    · omega
  · rw [nI_leI (by omega) (by omega)]
    omega
def beatIt : Row → Nat → Nat → Nat → Nat → Nat → Row × Nat × Nat × Nat
  | r, t, l, m, _, 0 => (r, t, l, m)
  | r, t, l, m, s, d+1 => beatIt (playRow r (bs s)) (t + volN r (bs s)) (if volN r (bs s) < m then l else s) (if volN r (bs s) < m then m else volN r (bs s) + 1) (s + 1) d
theorem F_puts {M : Mem} {w : Row} (hL : LM M) (hw : WA M 205 260 w) {s k : Nat} (x : Nat) (h : 45 + 43 * s + k < 260) : F_X9_puts 204 (nI s) (nI k) (nI x) M = some ((), sI M 205 (45 + 43 * s + k) (nI x)) ∧ WA (sI M 205 (45 + 43 * s + k) (nI x)) 205 260 (upR w (45 + 43 * s + k) x) := by
  refine ⟨?_, hw.put _ _⟩
  unfold F_X9_puts
  rw [show (45 : Int32) = nI 45 from rfl, show (43 : Int32) = nI 43 from rfl, nI_mul, nI_add, nI_add, chk_t (inb_n h (by decide)), lt_v, hL.1, nI_clamp (by omega)]
