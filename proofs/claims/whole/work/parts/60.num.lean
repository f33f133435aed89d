/-! PURE LEVEL: numbers, small steps of F -/
theorem chk_t {α : Type} {b : Bool} {f : Option α} (h : b = true) : chk b f = f := by rw [h]; rfl
theorem lt_v {α β : Type} (x : β) (k : β → α) : lt x k = k x := rfl
theorem b1_s {α β : Type} (v : β) (M : Mem) (k : β → Mem → Option α) : b1 (some (v, M)) k = k v M := rfl
theorem bx_l {τ σ : Type} (v : τ) (M : Mem) (k : τ → Mem → Option ((σ ⊕ String) × Mem)) : bx (some (.inl v, M)) k = k v M := rfl
theorem bx_r {τ σ : Type} (E : String) (M : Mem) (k : τ → Mem → Option ((σ ⊕ String) × Mem)) : bx (some (.inr E, M)) k = some (.inr E, M) := rfl
theorem bw_l {τ σ : Type} (v : τ) (M : Mem) (k : τ → Mem → Option σ) (h : String → Mem → Option σ) : bw (some (.inl v, M)) k h = k v M := rfl
theorem bw_r {τ σ : Type} (E : String) (M : Mem) (k : τ → Mem → Option σ) (h : String → Mem → Option σ) : bw (some (.inr E, M)) k h = h E M := rfl
theorem ob_s {α β : Type} (v : α) (k : α → Option β) : Option.bind (some v) k = k v := rfl
theorem inb_n {a n : Nat} (h : a < n) (hn : n < 2 ^ 31) : inb (nI a) n = true := by
  unfold inb
  rw [decide_eq_true_eq]
  exact nI_in h hn
theorem nI_mul (a b : Nat) : nI a * nI b = nI (a * b) := (Int32.ofNat_mul a b).symm
theorem nI_sub {a b : Nat} (h : b ≤ a) : nI a - nI b = nI (a - b) := by
  have e : nI a = nI (a - b) + nI b := by rw [nI_add, Nat.sub_add_cancel h]
  rw [e, Int32.add_sub_cancel]
theorem nI_rem {a k : Nat} (ha : a < 2 ^ 31) (h0 : 0 < k) (hk : k < 2 ^ 31) : nI a - nI a / nI k * nI k = nI (a % k) := pk_rem ha h0 hk
theorem nokZ_0 : nokZ (nI 0) = true := by decide +kernel
theorem nokZ_1 : nokZ (nI 1) = true := by decide +kernel
theorem nokC_nI {n : Nat} (h : n < 65536) : nokC (nI n) = true := by
  unfold nokC
  simp only [Bool.and_eq_true, decide_eq_true_eq, beq_iff_eq]
  repeat' constructor
  all_goals first
    | exact nI_pos' (by omega)
    | exact nI_le (b := 65535) (by omega) (by decide)
    | (show ((UInt32.ofNat n).toUInt16.toUInt32).toInt32 = (UInt32.ofNat n).toInt32
       apply congrArg
       apply UInt32.toNat_inj.mp
       rw [UInt16.toNat_toUInt32, UInt32.toNat_toUInt16, UInt32.toNat_ofNat']
       omega)
/-- the row that the model works on -/
abbrev Row : Type := Nat → Nat
/-- row q of the memory holds r -/
def WA (M : Mem) (q n : Nat) (r : Row) : Prop := ∀ k, k < n → mI M q k = nI (r k)
theorem WA.at {M : Mem} {q n : Nat} {r : Row} (h : WA M q n r) {k : Nat} (hk : k < n) : mI M q k = nI (r k) := h k hk
/-- the model's references -/
def LM (M : Mem) : Prop := mR M 204 1 = 205 ∧ mR M 204 2 = 206 ∧ mR M 204 3 = 207 ∧ mR M 204 4 = 208 ∧ mR M 204 5 = 209 ∧ mR M 204 9 = 210 ∧ mR M 204 11 = 211 ∧ mR M 204 16 = 212
theorem F_isB {a b c : Nat} (ha : a < 2 ^ 31) (hb : b < 2 ^ 31) (hc : c < 2 ^ 31) : F_X9_isBetween (nI a) (nI b) (nI c) = some (nI (if b ≤ a ∧ a ≤ c then 1 else 0)) := by
  unfold F_X9_isBetween
  simp only [nI_ltI ha hb, nI_ltI hc ha]
  by_cases h1 : a < b
  · rw [if_pos h1, if_neg (by omega)]; rfl
  · rw [if_neg h1]
    by_cases h2 : c < a
    · rw [if_pos h2, if_neg (by omega)]; rfl
    · rw [if_neg h2, if_pos (by omega)]; rfl
section MOD
variable {M : Mem} {w : Row}
theorem F_of (hL : LM M) (hw : WA M 205 260 w) {s k : Nat} (h : 45 + 43 * s + k < 260) : F_X9_of 204 (nI s) (nI k) M = some (nI (w (45 + 43 * s + k))) := by
  unfold F_X9_of
  simp only [fa_lit, nI_mul, nI_add, hL.1]
  rw [chk_t (inb_n h (by decide)), nI_clamp (by omega), hw.at h]
theorem F_note (hL : LM M) (hw : WA M 205 260 w) {s i j : Nat} (h : 45 + 43 * s + (7 + 6 * i + j) < 260) : F_X9_noteAt 204 (nI s) (nI i) (nI j) M = some (nI (w (45 + 43 * s + (7 + 6 * i + j)))) := by
  unfold F_X9_noteAt
  simp only [fa_lit, nI_mul, nI_add]
  rw [F_of hL hw h]; rfl
theorem F_isSec (hL : LM M) (hw : WA M 205 260 w) (h0 : w 0 < 2 ^ 31) {s : Nat} (hs : s < 2 ^ 31) : F_X9_isSection 204 (nI s) M = some (nI (if s < w 0 then 1 else 0)) := by
  unfold F_X9_isSection
  rw [hL.1, hw.at (by decide), chk_t (by decide)]
  rcases Nat.eq_zero_or_pos (w 0) with z | z
  · rw [z, if_neg (by omega)]
    have e : F_X9_isBetween (nI s) 0 (nI 0 - 1) = some 0 := by
      unfold F_X9_isBetween
      rw [if_neg (nI_pos hs), if_pos]
      exact fa_trans (b := 0) (by decide) (nI_pos' hs)
    rw [e]; rfl
  · have e2 : nI (w 0) - 1 = nI (w 0 - 1) := nI_sub (b := 1) z
    have e : F_X9_isBetween (nI s) 0 (nI (w 0 - 1)) = some (nI (if s < w 0 then 1 else 0)) := by
      have := F_isB (a := s) (b := 0) (c := w 0 - 1) hs (by decide) (by omega)
      rw [show (0 : Int32) = nI 0 from rfl, this]
      by_cases hh : s < w 0
      · rw [if_pos hh, if_pos (by omega)]
      · rw [if_neg hh, if_neg (by omega)]
    rw [e2, e, ob_s]
    by_cases hh : s < w 0
    · rw [if_pos hh, chk_t nokZ_1]
    · rw [if_neg hh, chk_t nokZ_0]
theorem F_isSecN {s : Int32} (hs : s < 0) (hL : LM M) : F_X9_isSection 204 s M = some 0 := by
  unfold F_X9_isSection
  rw [chk_t (by decide)]
  unfold F_X9_isBetween
  rw [if_pos hs]; rfl
end MOD
/-- the letters, the volumes -/
def lett (k : Nat) : Nat := if k = 0 then 115 else if k = 1 then 119 else 100
def vol (k n : Nat) : Nat := if n = 0 then 0 else if k = 0 then n else if k = 2 then (if n % 2 = 1 then 5 else 1) else if n ≤ 6 then 2 * n else 12
theorem all3 {P : Nat → Prop} (h : ∀ k : Fin 3, P k.val) {k : Nat} (hk : k < 3) : P k := h ⟨k, hk⟩
theorem F_letter {k : Nat} (hk : k < 3) : F_X9_letterOf (nI k) = some (nI (lett k)) := all3 (P := fun k => F_X9_letterOf (nI k) = some (nI (lett k))) (by decide +kernel) hk
theorem F_kindOf {k : Nat} (hk : k < 3) : F_X9_kindOf (nI (lett k)) = some (nI k) := all3 (P := fun k => F_X9_kindOf (nI (lett k)) = some (nI k)) (by decide +kernel) hk
theorem F_vol {k n : Nat} (hk : k < 3) (hn : n < 10) : F_X9_volumeOf (nI k) (nI n) = some (nI (vol k n)) := by
  have h : ∀ (k : Fin 3) (n : Fin 10), F_X9_volumeOf (nI k.val) (nI n.val) = some (nI (vol k.val n.val)) := by decide +kernel
  exact h ⟨k, hk⟩ ⟨n, hn⟩
theorem C_vol {k n : Nat} (hk : k < 3) (hn : n < 10) : F_X8_volumeOf (nI (lett k)) (nI n) = some (nI (vol k n)) := by
  have h : ∀ (k : Fin 3) (n : Fin 10), F_X8_volumeOf (nI (lett k.val)) (nI n.val) = some (nI (vol k.val n.val)) := by decide +kernel
  exact h ⟨k, hk⟩ ⟨n, hn⟩
theorem C_kind {k : Nat} (hk : k < 3) : F_X8_kindIndex (nI (lett k)) = some (nI k) := all3 (P := fun k => F_X8_kindIndex (nI (lett k)) = some (nI k)) (by decide +kernel) hk
theorem vol_le {k n : Nat} (hn : n < 10) : vol k n ≤ 12 := by unfold vol; repeat' split
                                                              all_goals omega
