/-! PURE LEVEL: a score reversed -/
def tuJ (c i : Nat) : (Nat → Nat) → Nat → Nat → Nat → (Nat → Nat) × Nat
  | f, t, _, 0 => (f, t)
  | f, t, l, d+1 => tuJ c i (swp f (6 * i + l) (6 * i + (c - 1 - l))) (if f (6 * i + l) = f (6 * i + (c - 1 - l)) then t else t + 2) (l + 1) d
def tuI (c : Nat) : (Nat → Nat) → Nat → Nat → Nat → (Nat → Nat) × Nat
  | f, t, _, 0 => (f, t)
  | f, t, i, d+1 => tuI c (tuJ c i f t 0 (c / 2)).1 (tuJ c i f t 0 (c / 2)).2 (i + 1) d
theorem NOK.swp {r c : Nat} {f : Nat → Nat} (h : NOK r c f) {i j l : Nat} (hi : i < r) (hi6 : i < 6) (hj : j < c) (hj6 : j < 6) (hl : l < c) (hl6 : l < 6) : NOK r c (swp f (6 * i + j) (6 * i + l)) := by
  rw [← swp_up]
  exact (h.up hi hj hj6 (h i l hi6 hl6).1).up hi hl hl6 (h i j hi6 hj6).1
theorem tuJ_ok {r c i : Nat} (hr : i < r) (hi : i < 6) (hc : c ≤ 6) : ∀ (d l t : Nat) (f : Nat → Nat), NOK r c f → l + d = c / 2 → NOK r c (tuJ c i f t l d).1 ∧ (tuJ c i f t l d).2 ≤ t + 2 * d
  | 0, _, _, _, h, _ => ⟨h, Nat.le_refl _⟩
  | d+1, l, t, f, h, e => by
    have := tuJ_ok hr hi hc d (l + 1) (if f (6 * i + l) = f (6 * i + (c - 1 - l)) then t else t + 2) _ (h.swp hr hi (j := l) (l := c - 1 - l) (by omega) (by omega) (by omega) (by omega)) (by omega)
    refine ⟨this.1, Nat.le_trans this.2 ?_⟩
    split <;> omega
theorem tuI_ok {r c : Nat} (hr : r ≤ 6) (hc : c ≤ 6) : ∀ (d i t : Nat) (f : Nat → Nat), NOK r c f → i + d = r → NOK r c (tuI c f t i d).1 ∧ (tuI c f t i d).2 ≤ t + 6 * d
  | 0, _, _, _, h, _ => ⟨h, Nat.le_refl _⟩
  | d+1, i, t, f, h, e => by
    have h1 := tuJ_ok (r := r) (i := i) (by omega) (by omega) hc (c / 2) 0 t f h (by omega)
    have := tuI_ok hr hc d (i + 1) (tuJ c i f t 0 (c / 2)).2 _ h1.1 (by omega)
    exact ⟨this.1, by have := this.2; show (tuI c (tuJ c i f t 0 (c / 2)).1 (tuJ c i f t 0 (c / 2)).2 (i + 1) d).2 ≤ _; omega⟩
section TU
variable {w : Row} {s : Nat}
theorem F_tuJ (hs : s < 5) {c i : Nat} (hc : c ≤ 6) (hi : i < 6) (K : Int32 → Int32 → Mem → Option (Int32 × Mem)) : ∀ (d l n t : Nat) (M : Mem) (f : Nat → Nat), LM M → WA M 205 260 (nrow w (bs s) f) → (∀ k, k < 36 → f k < 10) → l + d = c / 2 → d < n →
    ∃ M' x, F_X9_reverses_L2 204 (nI s) (nI c) (nI i) K n (nI t) (nI l) M = K (nI (tuJ c i f t l d).2) x M' ∧ WA M' 205 260 (nrow w (bs s) (tuJ c i f t l d).1) ∧ Only M M' 205 := by
  intro d
  induction d with
  | zero =>
    intro l n t M f hL hw hf e hn
    obtain ⟨n, rfl⟩ : ∃ m, n = m + 1 := ⟨n - 1, by omega⟩
    refine ⟨M, nI l, ?_, hw, Only.refl _ _⟩
    rw [F_X9_reverses_L2, show (2 : Int32) = nI 2 from rfl, show (1 : Int32) = nI 1 from rfl, nI_mul, nI_add, if_pos (nI_le (by omega) (by omega))]; rfl
  | succ d ih =>
    intro l n t M f hL hw hf e hn
    obtain ⟨n, rfl⟩ : ∃ m, n = m + 1 := ⟨n - 1, by omega⟩
    have ec : nI c - 1 - nI l = nI (c - 1 - l) := by rw [show (1 : Int32) = nI 1 from rfl, nI_sub (by omega), nI_sub (by omega)]
    obtain ⟨M1, g1, g2, g3⟩ := F_putNote hL hw hs hi (j := l) (by omega) (f (6 * i + (c - 1 - l)))
    obtain ⟨M2, k1, k2, k3⟩ := F_putNote (hL.of g3.2) g2 hs hi (j := c - 1 - l) (by omega) (f (6 * i + l))
    have hf2 : ∀ k, k < 36 → swp f (6 * i + l) (6 * i + (c - 1 - l)) k < 10 := fun k hk => by
      unfold swp
      split
      · exact hf _ (by omega)
      · split
        · exact hf _ (by omega)
        · exact hf _ hk
    obtain ⟨M3, x, m1, m2, m3⟩ := ih (l + 1) n (if f (6 * i + l) = f (6 * i + (c - 1 - l)) then t else t + 2) M2 (swp f (6 * i + l) (6 * i + (c - 1 - l))) ((hL.of g3.2).of k3.2) k2 hf2 (by omega) (by omega)
    refine ⟨M3, x, ?_, m2, (g3.trans k3).trans m3⟩
    rw [F_X9_reverses_L2, ec, show (2 : Int32) = nI 2 from rfl, show (1 : Int32) = nI 1 from rfl, nI_mul, nI_add, if_neg (nI_ge (by omega) (by omega)), F_noteN hL hw hs hi (by omega), ob_s, F_noteN hL hw hs hi (by omega), ob_s, g1, b1_s, k1, b1_s]
    have q1 := hf (6 * i + l) (by omega)
    have q2 := hf (6 * i + (c - 1 - l)) (by omega)
    by_cases z : f (6 * i + l) = f (6 * i + (c - 1 - l))
    · rw [if_pos (congrArg nI z), lt_v, lt_v, show (0 : Int32) = nI 0 from rfl, nI_add, nI_add, Nat.add_zero]
      rw [if_pos z] at m1
      rw [m1]
      show K (nI (tuJ c i _ t (l + 1) d).2) x M3 = K (nI (tuJ c i _ (if f (6 * i + l) = f (6 * i + (c - 1 - l)) then t else t + 2) (l + 1) d).2) x M3
      rw [if_pos z]
    · rw [if_neg (fun y => z ((nI_eq (by omega) (by omega)).mp y)), lt_v, lt_v, nI_add, nI_add]
      rw [if_neg z] at m1
      rw [m1]
      show K (nI (tuJ c i _ (t + 2) (l + 1) d).2) x M3 = K (nI (tuJ c i _ (if f (6 * i + l) = f (6 * i + (c - 1 - l)) then t else t + 2) (l + 1) d).2) x M3
      rw [if_neg z]
theorem F_tuI (hs : s < 5) (hsec : SecOK w (bs s)) (K : Int32 → Int32 → Mem → Option (Int32 × Mem)) : ∀ (d i n t : Nat) (M : Mem) (f : Nat → Nat), LM M → WA M 205 260 (nrow w (bs s) f) → NOK (w (bs s + 1)) (w (bs s + 2)) f → i + d = w (bs s + 1) → d < n →
    ∃ M' x, F_X9_reverses_L1 204 (nI s) (nI (w (bs s + 2))) K n (nI t) (nI i) M = K (nI (tuI (w (bs s + 2)) f t i d).2) x M' ∧ WA M' 205 260 (nrow w (bs s) (tuI (w (bs s + 2)) f t i d).1) ∧ Only M M' 205 := by
  have h1 := hsec.2.1
  have h2 := hsec.2.2.1
  intro d
  induction d with
  | zero =>
    intro i n t M f hL hw hN e hn
    obtain ⟨n, rfl⟩ : ∃ m, n = m + 1 := ⟨n - 1, by omega⟩
    refine ⟨M, nI i, ?_, hw, Only.refl _ _⟩
    rw [F_X9_reverses_L1, show (1 : Int32) = nI 1 from rfl, F_of hL hw (by omega), ob_s, nrow_out _ (by simp only [bs]; omega), if_pos (nI_le (by simp only [bs] at *; omega) (by omega))]; rfl
  | succ d ih =>
    intro i n t M f hL hw hN e hn
    obtain ⟨n, rfl⟩ : ∃ m, n = m + 1 := ⟨n - 1, by omega⟩
    obtain ⟨M1, x, g1, g2, g3⟩ := F_tuJ (w := w) hs (c := w (bs s + 2)) (i := i) h2.2 (by omega) (fun (x31 : Int32) (x32 : Int32) (M33 : Mem) =>
        lt (nI i + 1) (fun (v34 : Int32) =>
        F_X9_reverses_L1 204 (nI s) (nI (w (bs s + 2))) K n x31 v34 M33)) (w (bs s + 2) / 2) 0 3000 t M f hL hw (fun k hk => by have := (hN (k / 6) (k % 6) (by omega) (by omega)).1; rwa [show 6 * (k / 6) + k % 6 = k by omega] at this) (by omega) (by omega)
    obtain ⟨M2, x2, k1, k2, k3⟩ := ih (i + 1) n (tuJ (w (bs s + 2)) i f t 0 (w (bs s + 2) / 2)).2 M1 (tuJ (w (bs s + 2)) i f t 0 (w (bs s + 2) / 2)).1 (hL.of g3.2) g2 (tuJ_ok (by omega) (by omega) h2.2 _ _ _ _ hN (by omega)).1 (by omega) (by omega)
    refine ⟨M2, x2, ?_, k2, g3.trans k3⟩
    rw [F_X9_reverses_L1, show (1 : Int32) = nI 1 from rfl, F_of hL hw (by omega), ob_s, nrow_out _ (by simp only [bs]; omega), if_neg (nI_ge (by simp only [bs] at *; omega) (by simp only [bs] at *; omega)), show (0 : Int32) = nI 0 from rfl, show (nI 1 : Int32) = 1 from rfl, g1, lt_v, nI_1, k1]; rfl
end TU
theorem half6 {c : Nat} (hc : c ≤ 6) : nI c / 2 = nI (c / 2) := by
  have h : ∀ c : Fin 7, nI c.val / 2 = nI (c.val / 2) := by decide +kernel
  exact h ⟨c, by omega⟩
section TUC
variable {w : Row} {a b : Nat} {M0 : Mem}
theorem C_tuJ (hR : SecR M0 a w b) (hsec : SecOK w b) {i : Nat} (hi : i < w (b + 1)) (K : Int32 → Int32 → Mem → Option (Int32 × Mem)) : ∀ (d l n t : Nat) (M : Mem) (f : Nat → Nat), Only M0 M (a + 1) → NA M (a + 1) f → (∀ k, k < 36 → f k < 10) → l + d = w (b + 2) / 2 → d < n →
    ∃ M' x, F_X4_turn_L2 a (nI i) K n (nI t) (nI l) M = K (nI (tuJ (w (b + 2)) i f t l d).2) x M' ∧ NA M' (a + 1) (tuJ (w (b + 2)) i f t l d).1 ∧ Only M0 M' (a + 1) := by
  have h1 := hsec.2.1
  have h2 := hsec.2.2.1
  have hc := hR.2.2.1
  intro d
  induction d with
  | zero =>
    intro l n t M f ho hN hf e hn
    obtain ⟨n, rfl⟩ : ∃ m, n = m + 1 := ⟨n - 1, by omega⟩
    refine ⟨M, nI l, ?_, hN, ho⟩
    rw [F_X4_turn_L2, ho.1 _ _ (by omega), hc, half6 h2.2, if_pos (nI_le (by omega) (by omega))]; rfl
  | succ d ih =>
    intro l n t M f ho hN hf e hn
    obtain ⟨n, rfl⟩ : ∃ m, n = m + 1 := ⟨n - 1, by omega⟩
    have ec : nI (w (b + 2)) - 1 - nI l = nI (w (b + 2) - 1 - l) := by rw [show (1 : Int32) = nI 1 from rfl, nI_sub (by omega), nI_sub (by omega)]
    obtain ⟨M1, g1, g2, g3⟩ := C_putR hR hsec ho hN hi (j := l) (by omega) (f (6 * i + (w (b + 2) - 1 - l)))
    obtain ⟨M2, k1, k2, k3⟩ := C_putR hR hsec g3 g2 hi (j := w (b + 2) - 1 - l) (by omega) (f (6 * i + l))
    have hf2 : ∀ k, k < 36 → swp f (6 * i + l) (6 * i + (w (b + 2) - 1 - l)) k < 10 := fun k hk => by
      unfold swp
      split
      · exact hf _ (by omega)
      · split
        · exact hf _ (by omega)
        · exact hf _ hk
    obtain ⟨M3, x, m1, m2, m3⟩ := ih (l + 1) n (if f (6 * i + l) = f (6 * i + (w (b + 2) - 1 - l)) then t else t + 2) M2 (swp f (6 * i + l) (6 * i + (w (b + 2) - 1 - l))) k3 k2 hf2 (by omega) (by omega)
    have hq : F_X4_noteAt a (nI i) (nI l) M2 = some (nI (f (6 * i + (w (b + 2) - 1 - l)))) := by
      rw [C_noteR hR hsec k3 k2 hi (by omega), swp_up]
      congr 2
      unfold swp
      rw [if_neg (by omega), if_pos rfl]
    refine ⟨M3, x, ?_, m2, m3⟩
    rw [F_X4_turn_L2, ho.1 _ _ (by omega), hc, half6 h2.2, if_neg (nI_ge (by omega) (by omega)), lt_v, ec, C_noteR hR hsec ho hN hi (by omega), ob_s, C_noteR hR hsec ho hN hi (by omega), ob_s, g1, b1_s, k1, b1_s, hq, ob_s]
    have q1 := hf (6 * i + l) (by omega)
    have q2 := hf (6 * i + (w (b + 2) - 1 - l)) (by omega)
    by_cases z : f (6 * i + l) = f (6 * i + (w (b + 2) - 1 - l))
    · rw [if_pos (congrArg nI z.symm), lt_v, nI_1]
      rw [if_pos z] at m1
      rw [m1]
      show K (nI (tuJ (w (b + 2)) i _ t (l + 1) d).2) x M3 = K (nI (tuJ (w (b + 2)) i _ (if f (6 * i + l) = f (6 * i + (w (b + 2) - 1 - l)) then t else t + 2) (l + 1) d).2) x M3
      rw [if_pos z]
    · rw [if_neg (fun y => z ((nI_eq (by omega) (by omega)).mp y).symm), lt_v, lt_v, show (2 : Int32) = nI 2 from rfl, nI_1, nI_add]
      rw [if_neg z] at m1
      rw [m1]
      show K (nI (tuJ (w (b + 2)) i _ (t + 2) (l + 1) d).2) x M3 = K (nI (tuJ (w (b + 2)) i _ (if f (6 * i + l) = f (6 * i + (w (b + 2) - 1 - l)) then t else t + 2) (l + 1) d).2) x M3
      rw [if_neg z]
theorem C_tuI (hR : SecR M0 a w b) (hsec : SecOK w b) (K : Int32 → Int32 → Mem → Option (Int32 × Mem)) : ∀ (d i n t : Nat) (M : Mem) (f : Nat → Nat), Only M0 M (a + 1) → NA M (a + 1) f → NOK (w (b + 1)) (w (b + 2)) f → i + d = w (b + 1) → d < n →
    ∃ M' x, F_X4_turn_L1 a K n (nI t) (nI i) M = K (nI (tuI (w (b + 2)) f t i d).2) x M' ∧ NA M' (a + 1) (tuI (w (b + 2)) f t i d).1 ∧ Only M0 M' (a + 1) := by
  have h1 := hsec.2.1
  have h2 := hsec.2.2.1
  have hr := hR.2.1
  intro d
  induction d with
  | zero =>
    intro i n t M f ho hN hf e hn
    obtain ⟨n, rfl⟩ : ∃ m, n = m + 1 := ⟨n - 1, by omega⟩
    refine ⟨M, nI i, ?_, hN, ho⟩
    rw [F_X4_turn_L1, ho.1 _ _ (by omega), hr, if_pos (nI_le (by omega) (by omega))]; rfl
  | succ d ih =>
    intro i n t M f ho hN hf e hn
    obtain ⟨n, rfl⟩ : ∃ m, n = m + 1 := ⟨n - 1, by omega⟩
    obtain ⟨M1, x, g1, g2, g3⟩ := C_tuJ hR hsec (i := i) (by omega) (fun (x29 : Int32) (x30 : Int32) (M31 : Mem) =>
        lt (nI i + 1) (fun (v32 : Int32) =>
        F_X4_turn_L1 a K n x29 v32 M31)) (w (b + 2) / 2) 0 3000 t M f ho hN (fun k hk => by have := (hf (k / 6) (k % 6) (by omega) (by omega)).1; rwa [show 6 * (k / 6) + k % 6 = k by omega] at this) (by omega) (by omega)
    obtain ⟨M2, x2, k1, k2, k3⟩ := ih (i + 1) n (tuJ (w (b + 2)) i f t 0 (w (b + 2) / 2)).2 M1 (tuJ (w (b + 2)) i f t 0 (w (b + 2) / 2)).1 g3 g2 (tuJ_ok (by omega) (by omega) h2.2 _ _ _ _ hf (by omega)).1 (by omega) (by omega)
    refine ⟨M2, x2, ?_, k2, k3⟩
    rw [F_X4_turn_L1, ho.1 _ _ (by omega), hr, if_neg (nI_ge (by omega) (by omega)), show (0 : Int32) = nI 0 from rfl, g1, lt_v, nI_1, k1]; rfl
end TUC
theorem ch_turn (B : Nat) (w : Row) (hI : Inv B w) (p : Int32) : CH 1 (2 ^ 31) B w (F_X9_notSection 204 p) (F_X9_reverses 204 p) (F_X5_turn 2 p) (fun _ => -1) := by
  have h5 := hI.r5
  by_cases hp : outR p (w 0)
  · refine CH.bad (c := 1) (by decide) (fun M hL hw => ?_) (fun M hS => ?_)
    · unfold F_X9_notSection
      rw [F_isSecI hL hw (by omega), ob_s, if_pos hp, if_pos rfl]; rfl
    · unfold F_X5_turn
      rw [C_hasI hS h5, ob_s, if_pos hp, if_pos rfl]
  obtain ⟨s, hs, rfl⟩ := in_of hp (by omega)
  have hsec := hI.sec hs
  have h1 := hsec.2.1
  have h2 := hsec.2.2.1
  have hok := tuI_ok h1.2 h2.2 (w (bs s + 1)) 0 0 _ (NOK.of hsec) (by omega)
  refine CH.good (v := (tuI (w (bs s + 2)) (notesOf w (bs s)) 0 0 (w (bs s + 1))).2) (w' := nrow w (bs s) (tuI (w (bs s + 2)) (notesOf w (bs s)) 0 0 (w (bs s + 1))).1) (by omega) (hI.notes hs hok.1) (fun M hL hw => ⟨?_, ?_⟩) (fun M hS => ?_)
  · unfold F_X9_notSection
    rw [F_isSecI hL hw (by omega), ob_s, if_neg hp, if_neg (by decide)]; rfl
  · unfold F_X9_reverses
    have hw' := hw
    rw [← nrow_id w (bs s)] at hw'
    obtain ⟨M1, x, g1, g2, g3⟩ := F_tuI (w := w) (s := s) (by omega) hsec (fun (x36 : Int32) (x37 : Int32) (M38 : Mem) =>
  some (x36, M38)) (w (bs s + 1)) 0 3000 0 M (notesOf w (bs s)) hL hw' (NOK.of hsec) (by omega) (by omega)
    rw [show (2 : Int32) = nI 2 from rfl, F_of hL hw (by omega), ob_s, show (0 : Int32) = nI 0 from rfl, g1]
    exact ⟨_, rfl, g2, g3⟩
  · have hR := hS.2.2.2.1 s hs
    unfold F_X5_turn F_X4_turn
    obtain ⟨M1, x, g1, g2, g3⟩ := C_tuI hR hsec (fun (x34 : Int32) (x35 : Int32) (M36 : Mem) =>
  some (x34, M36)) (w (bs s + 1)) 0 3000 0 M (notesOf w (bs s)) (Only.refl _ _) hR.na (NOK.of hsec) (by omega) (by omega)
    obtain ⟨q1, q2⟩ := hS.notes h5 hs g3 g2
    rw [C_hasI hS h5, ob_s, if_neg hp, if_neg (by decide), chk_t (inb_n (by omega) (by decide)), nI_clamp (by omega), hS.refs, show (0 : Int32) = nI 0 from rfl, g1, b1_s]
    exact ⟨M1, rfl, q1, FrS.blk q2⟩
