/-! PURE LEVEL: the column that is due, masks, what a section would play now -/
def bit (m c : Nat) : Nat := m / 2 ^ c % 2
theorem bit_lt (m c : Nat) : bit m c < 2 := Nat.mod_lt _ (by decide)
theorem mask_bit {m c : Nat} (hm : m < 64) (hc : c < 6) : ((nI m >>> (nI c &&& 31)) &&& 1) = nI (bit m c) := by
  have h : ∀ (m : Fin 64) (c : Fin 6), ((nI m.val >>> (nI c.val &&& 31)) &&& 1) = nI (bit m.val c.val) := by decide +kernel
  exact h ⟨m, hm⟩ ⟨c, hc⟩
theorem bit_01 (m c : Nat) : bit m c = 0 ∨ bit m c = 1 := by have := bit_lt m c; omega
def colN (w : Row) (b : Nat) : Nat := w 1 % w (b + 2)
theorem colN_lt {w : Row} {b : Nat} (h : SecOK w b) : colN w b < 6 := by
  obtain ⟨-, -, ⟨h1, h2⟩, -⟩ := h
  have := Nat.mod_lt (w 1) h1
  unfold colN; omega
def plN (w : Row) (b : Nat) : Prop := w (b + 5) = 0 ∧ bit (w (b + 3)) (colN w b) = 0
theorem nz_nI {n : Nat} (h0 : 0 < n) (h : n < 2 ^ 31) : nz (nI n) = true := by
  unfold nz
  simp only [bne_iff_ne, ne_eq, decide_eq_true_eq]
  exact nI_ne0 h0 h
section NOW
variable {M : Mem} {w : Row}
theorem F_masked (hL : LM M) (hw : WA M 205 260 w) {s c : Nat} (hs : s < 5) (h : SecOK w (bs s)) (hc : c < 6) : F_X9_isMaskedAt 204 (nI s) (nI c) M = some (nI (bit (w (bs s + 3)) c)) := by
  unfold F_X9_isMaskedAt
  simp only [bs] at *
  rw [show (3 : Int32) = nI 3 from rfl, F_of hL hw (by omega), ob_s, mask_bit h.2.2.2.1 hc]
  rcases bit_01 (w (45 + 43 * s + 3)) c with e | e
  · rw [e, if_neg (by decide)]; rfl
  · rw [e, if_pos (by decide)]; rfl
theorem C_masks {a b : Nat} (hR : SecR M a w b) (h : SecOK w b) {c : Nat} (hc : c < 6) : F_X4_masks a (nI c) M = some (nI (bit (w (b + 3)) c)) := by
  unfold F_X4_masks
  rw [hR.2.2.2.1, mask_bit h.2.2.2.1 hc]
  rcases bit_01 (w (b + 3)) c with e | e
  · rw [e, if_pos (by decide)]; rfl
  · rw [e, if_neg (by decide)]; rfl
theorem F_colNow (hL : LM M) (hw : WA M 205 260 w) (hb : w 1 < 2 ^ 31) {s : Nat} (hs : s < 5) (h : SecOK w (bs s)) : F_X9_columnNow 204 (nI s) M = some (nI (colN w (bs s))) := by
  obtain ⟨-, -, ⟨h1, h2⟩, -⟩ := h
  unfold F_X9_columnNow
  simp only [bs] at *
  rw [chk_t (by decide), show (2 : Int32) = nI 2 from rfl, F_of hL hw (by omega), ob_s, chk_t (nz_nI h1 (by omega)), hL.1, hw.at (k := 1) (by decide), nI_rem hb h1 (by omega)]
  rfl
theorem C_colIn {a b : Nat} (hR : SecR M a w b) (h : SecOK w b) (hb : w 1 < 2 ^ 31) : F_X4_columnIn a (nI (w 1)) M = some (nI (colN w b)) := by
  obtain ⟨-, -, ⟨h1, h2⟩, -⟩ := h
  unfold F_X4_columnIn
  rw [hR.2.2.1, if_neg (nI_nle h1 (by omega)), chk_t (nz_nI h1 (by omega)), nI_rem hb h1 (by omega)]
  rfl
end NOW
def volN (w : Row) (b : Nat) : Nat := if w (b + 5) = 0 ∧ bit (w (b + 3)) (colN w b) = 0 then colV w b (colN w b) else 0
theorem volN_le {w : Row} {b : Nat} (h : SecOK w b) : volN w b ≤ 72 := by
  unfold volN
  split
  · exact colV_le h (colN_lt h)
  · omega
section NOW2
variable {M : Mem} {w : Row}
theorem F_plays (hL : LM M) (hw : WA M 205 260 w) (hb : w 1 < 2 ^ 31) {s : Nat} (hs : s < 5) (h : SecOK w (bs s)) : F_X9_plays 204 (nI s) M = some (nI (if w (bs s + 5) = 0 ∧ bit (w (bs s + 3)) (colN w (bs s)) = 0 then 1 else 0)) := by
  have h5 := h.2.2.2.2.2.1
  unfold F_X9_plays
  rw [show (5 : Int32) = nI 5 from rfl, F_of hL hw (by omega), ob_s]
  rcases Nat.eq_zero_or_pos (w (bs s + 5)) with z | z
  · simp only [bs] at *
    rw [z, if_pos nI_0, F_colNow hL hw hb hs h, ob_s, F_masked hL hw hs h (colN_lt h), ob_s]
    rcases bit_01 (w (45 + 43 * s + 3)) (colN w (45 + 43 * s)) with e | e
    · simp only [bs]; rw [e, if_pos nI_0, if_pos ⟨trivial, rfl⟩]; rfl
    · simp only [bs]; rw [e, if_neg (by decide), if_neg (by omega)]; rfl
  · simp only [bs] at *
    rw [if_neg (nI_ne0 z (by omega)), if_neg (by omega)]; rfl
theorem F_volNow (hL : LM M) (hw : WA M 205 260 w) (hb : w 1 < 2 ^ 31) {s : Nat} (hs : s < 5) (h : SecOK w (bs s)) : F_X9_volumeNow 204 (nI s) M = some (nI (volN w (bs s))) := by
  unfold F_X9_volumeNow
  rw [F_plays hL hw hb hs h, ob_s]
  by_cases hp : w (bs s + 5) = 0 ∧ bit (w (bs s + 3)) (colN w (bs s)) = 0
  · rw [if_pos hp, if_neg (by decide), F_colNow hL hw hb hs h, ob_s, F_col hL hw hs h (colN_lt h), ob_s]
    unfold volN
    rw [if_pos hp]
  · rw [if_neg hp, if_pos nI_0]
    unfold volN
    rw [if_neg hp]; rfl
theorem C_volIn {a b : Nat} (hR : SecR M a w b) (h : SecOK w b) (hb : w 1 < 2 ^ 31) : F_X4_volumeIn a (nI (w 1)) M = some (nI (volN w b)) := by
  have h5 := h.2.2.2.2.2.1
  unfold F_X4_volumeIn
  rw [C_colIn hR h hb, ob_s, hR.2.2.2.2.2.1]
  rcases Nat.eq_zero_or_pos (w (b + 5)) with z | z
  · rw [z, if_neg (by decide), C_masks hR h (colN_lt h), ob_s]
    unfold volN
    rcases bit_01 (w (b + 3)) (colN w b) with e | e
    · rw [e, if_pos nI_0, C_col hR h (colN_lt h), ob_s, if_pos ⟨z, rfl⟩]
    · rw [e, if_neg (by decide), if_neg (by omega)]; rfl
  · rw [if_pos (show (0 : Int32) < nI (w (b + 5)) from nI_lt (a := 0) z (by omega))]
    unfold volN
    rw [if_neg (by omega)]; rfl
end NOW2
