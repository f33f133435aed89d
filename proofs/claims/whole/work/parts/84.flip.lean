/-! PURE LEVEL: a score transposed -/
def swp {α : Type} (f : Nat → α) (p q : Nat) : Nat → α := fun k => if k = q then f p else if k = p then f q else f k
theorem swp_up (f : Nat → Nat) (p q : Nat) : upR (upR f p (f q)) q (f p) = swp f p q := rfl
def flJ {α : Type} : (Nat → α) → Nat → Nat → Nat → (Nat → α)
  | f, _, _, 0 => f
  | f, i, j, d+1 => flJ (swp f (6 * i + j) (6 * j + i)) i (j + 1) d
def flI {α : Type} : (Nat → α) → Nat → Nat → (Nat → α)
  | f, _, 0 => f
  | f, i, d+1 => flI (flJ f i 0 i) (i + 1) d
theorem swp_nat {α : Type} (f : Nat → α) (g : Nat → Nat) (p q : Nat) : swp (fun k => f (g k)) p q = fun k => f (swp g p q k) := funext fun k => by
  unfold swp
  by_cases h1 : k = q
  · simp only [h1, if_true]
  · by_cases h2 : k = p
    · simp only [if_neg h1, h2, if_true]; split <;> rfl
    · simp only [if_neg h1, if_neg h2]
theorem flJ_nat {α : Type} (f : Nat → α) : ∀ (d i j : Nat) (g : Nat → Nat), flJ (fun k => f (g k)) i j d = fun k => f (flJ g i j d k)
  | 0, _, _, _ => rfl
  | d+1, i, j, g => by
    show flJ (swp (fun k => f (g k)) _ _) i (j + 1) d = _
    rw [swp_nat, flJ_nat f d]; rfl
theorem flI_nat {α : Type} (f : Nat → α) : ∀ (d i : Nat) (g : Nat → Nat), flI (fun k => f (g k)) i d = fun k => f (flI g i d k)
  | 0, _, _ => rfl
  | d+1, i, g => by
    show flI (flJ (fun k => f (g k)) i 0 i) (i + 1) d = _
    rw [flJ_nat, flI_nat f d]; rfl
theorem flI_at (f : Nat → Nat) {i j : Nat} (hi : i < 6) (hj : j < 6) : flI f 0 6 (6 * i + j) = f (6 * j + i) := by
  have h : ∀ i j : Fin 6, flI (fun k => k) 0 6 (6 * i.val + j.val) = 6 * j.val + i.val := by decide +kernel
  have e : flI f 0 6 = fun k => f (flI (fun k => k) 0 6 k) := flI_nat f 6 0 (fun k => k)
  rw [e]
  show f (flI (fun k => k) 0 6 (6 * i + j)) = _
  rw [h ⟨i, hi⟩ ⟨j, hj⟩]
theorem NOK.flip {r c : Nat} {f : Nat → Nat} (h : NOK r c f) : NOK c r (flI f 0 6) := fun i j hi hj => by
  rw [flI_at f hi hj]
  exact ⟨(h j i hj hi).1, fun z => (h j i hj hi).2 (by omega)⟩
section FL
variable {w : Row} {s : Nat}
theorem F_flJ (hs : s < 5) {i : Nat} (hi : i < 6) (K : Int32 → Mem → Option (Int32 × Mem)) : ∀ (d j n : Nat) (M : Mem) (f : Nat → Nat), LM M → WA M 205 260 (nrow w (bs s) f) → j + d = i → d < n →
    ∃ M', F_X9_transposes_L2 204 (nI s) (nI i) K n (nI j) M = K (nI i) M' ∧ WA M' 205 260 (nrow w (bs s) (flJ f i j d)) ∧ Only M M' 205 := by
  intro d
  induction d with
  | zero =>
    intro j n M f hL hw e hn
    obtain ⟨n, rfl⟩ : ∃ m, n = m + 1 := ⟨n - 1, by omega⟩
    refine ⟨M, ?_, hw, Only.refl _ _⟩
    rw [F_X9_transposes_L2, if_pos (nI_le (by omega) (by omega)), show j = i by omega]
  | succ d ih =>
    intro j n M f hL hw e hn
    obtain ⟨n, rfl⟩ : ∃ m, n = m + 1 := ⟨n - 1, by omega⟩
    obtain ⟨M1, g1, g2, g3⟩ := F_putNote hL hw hs hi (j := j) (by omega) (f (6 * j + i))
    obtain ⟨M2, k1, k2, k3⟩ := F_putNote (hL.of g3.2) g2 hs (i := j) (j := i) (by omega) hi (f (6 * i + j))
    obtain ⟨M3, m1, m2, m3⟩ := ih (j + 1) n M2 (swp f (6 * i + j) (6 * j + i)) ((hL.of g3.2).of k3.2) k2 (by omega) (by omega)
    refine ⟨M3, ?_, m2, (g3.trans k3).trans m3⟩
    rw [F_X9_transposes_L2, if_neg (nI_ge (by omega) (by omega)), F_noteN hL hw hs hi (by omega), ob_s, F_noteN hL hw hs (by omega) hi, ob_s, g1, b1_s, k1, b1_s, lt_v, nI_1, m1]
theorem F_flI (hs : s < 5) (K : Int32 → Mem → Option (Int32 × Mem)) : ∀ (d i n : Nat) (M : Mem) (f : Nat → Nat), LM M → WA M 205 260 (nrow w (bs s) f) → i + d = 6 → d < n →
    ∃ M', F_X9_transposes_L1 204 (nI s) K n (nI i) M = K (nI 6) M' ∧ WA M' 205 260 (nrow w (bs s) (flI f i d)) ∧ Only M M' 205 := by
  intro d
  induction d with
  | zero =>
    intro i n M f hL hw e hn
    obtain ⟨n, rfl⟩ : ∃ m, n = m + 1 := ⟨n - 1, by omega⟩
    refine ⟨M, ?_, hw, Only.refl _ _⟩
    rw [F_X9_transposes_L1, show (6 : Int32) = nI 6 from rfl, if_pos (nI_le (by omega) (by omega)), show i = 6 by omega]
  | succ d ih =>
    intro i n M f hL hw e hn
    obtain ⟨n, rfl⟩ : ∃ m, n = m + 1 := ⟨n - 1, by omega⟩
    obtain ⟨M1, g1, g2, g3⟩ := F_flJ hs (i := i) (by omega) (fun (x21 : Int32) (M22 : Mem) =>
        lt (nI i + 1) (fun (v23 : Int32) =>
        F_X9_transposes_L1 204 (nI s) K n v23 M22)) i 0 3000 M f hL hw (by omega) (by omega)
    obtain ⟨M2, k1, k2, k3⟩ := ih (i + 1) n M1 (flJ f i 0 i) (hL.of g3.2) g2 (by omega) (by omega)
    refine ⟨M2, ?_, k2, g3.trans k3⟩
    rw [F_X9_transposes_L1, show (6 : Int32) = nI 6 from rfl, if_neg (nI_ge (by omega) (by omega)), show (0 : Int32) = nI 0 from rfl, g1, lt_v, nI_1, k1]
end FL
theorem C_flJ {a i : Nat} (hi : i < 6) (K : Int32 → Mem → Option (Unit × Mem)) : ∀ (d j n : Nat) (M : Mem) (f : Nat → Nat), mR M a 3 = a + 1 → NA M (a + 1) f → j + d = i → d < n →
    ∃ M', F_X4_flip_L2 a (nI i) K n (nI j) M = K (nI i) M' ∧ NA M' (a + 1) (flJ f i j d) ∧ Only M M' (a + 1) := by
  intro d
  induction d with
  | zero =>
    intro j n M f hr hN e hn
    obtain ⟨n, rfl⟩ : ∃ m, n = m + 1 := ⟨n - 1, by omega⟩
    refine ⟨M, ?_, hN, Only.refl _ _⟩
    rw [F_X4_flip_L2, if_pos (nI_le (by omega) (by omega)), show j = i by omega]
  | succ d ih =>
    intro j n M f hr hN e hn
    obtain ⟨n, rfl⟩ : ∃ m, n = m + 1 := ⟨n - 1, by omega⟩
    have h2 := (hN.put (6 * i + j) (f (6 * j + i))).put (6 * j + i) (f (6 * i + j))
    obtain ⟨M3, m1, m2, m3⟩ := ih (j + 1) n (sI (sI M (a + 1) (6 * i + j) (nI (f (6 * j + i)))) (a + 1) (6 * j + i) (nI (f (6 * i + j)))) (swp f (6 * i + j) (6 * j + i)) hr h2 (by omega) (by omega)
    refine ⟨M3, ?_, m2, ((Only.put _ _ _ _).trans (Only.put _ _ _ _)).trans m3⟩
    rw [F_X4_flip_L2, if_neg (nI_ge (by omega) (by omega)), show (6 : Int32) = nI 6 from rfl, nI_mul, nI_mul, nI_add, nI_add, lt_v, lt_v, chk_t (inb_n (by omega) (by decide)), nI_clamp (by omega), nI_clamp (by omega), hr, hN _ (by omega), hN _ (by omega), lt_v, chk_t (inb_n (by omega) (by decide)), chk_t (inb_n (by omega) (by decide)), lt_v, chk_t (inb_n (by omega) (by decide)), mR_sI, hr, lt_v, lt_v, nI_1, show i * 6 + j = 6 * i + j by omega, show j * 6 + i = 6 * j + i by omega, m1]
theorem C_flI {a : Nat} (K : Int32 → Mem → Option (Unit × Mem)) : ∀ (d i n : Nat) (M : Mem) (f : Nat → Nat), mR M a 3 = a + 1 → NA M (a + 1) f → i + d = 6 → d < n →
    ∃ M', F_X4_flip_L1 a K n (nI i) M = K (nI 6) M' ∧ NA M' (a + 1) (flI f i d) ∧ Only M M' (a + 1) := by
  intro d
  induction d with
  | zero =>
    intro i n M f hr hN e hn
    obtain ⟨n, rfl⟩ : ∃ m, n = m + 1 := ⟨n - 1, by omega⟩
    refine ⟨M, ?_, hN, Only.refl _ _⟩
    rw [F_X4_flip_L1, show (6 : Int32) = nI 6 from rfl, if_pos (nI_le (by omega) (by omega)), show i = 6 by omega]
  | succ d ih =>
    intro i n M f hr hN e hn
    obtain ⟨n, rfl⟩ : ∃ m, n = m + 1 := ⟨n - 1, by omega⟩
    obtain ⟨M1, g1, g2, g3⟩ := C_flJ (a := a) (i := i) (by omega) (fun (x24 : Int32) (M25 : Mem) =>
        lt (nI i + 1) (fun (v26 : Int32) =>
        F_X4_flip_L1 a K n v26 M25)) i 0 3000 M f hr hN (by omega) (by omega)
    obtain ⟨M2, k1, k2, k3⟩ := ih (i + 1) n M1 (flJ f i 0 i) ((only_r g3 _ _).trans hr) g2 (by omega) (by omega)
    refine ⟨M2, ?_, k2, g3.trans k3⟩
    rw [F_X4_flip_L1, show (6 : Int32) = nI 6 from rfl, if_neg (nI_ge (by omega) (by omega)), show (0 : Int32) = nI 0 from rfl, g1, lt_v, nI_1, k1]
theorem C_flip {M : Mem} {a : Nat} {f : Nat → Nat} (hr : mR M a 3 = a + 1) (hN : NA M (a + 1) f) : ∃ M', F_X4_flip a M = some ((), M') ∧ NA M' (a + 1) (flI f 0 6) ∧ mI M' a 1 = mI M a 2 ∧ mI M' a 2 = mI M a 1 ∧ (∀ o k, o ≠ a + 1 → ¬ (o = a ∧ (k = 1 ∨ k = 2)) → mI M' o k = mI M o k) ∧ M'.2 = M.2 := by
  unfold F_X4_flip
  obtain ⟨M1, g1, g2, g3⟩ := C_flI (a := a) (fun (x28 : Int32) (M29 : Mem) =>
  lt (mI M29 a 1) (fun (v30 : Int32) =>
  lt (sI M29 a 1 (mI M29 a 2)) (fun (M31 : Mem) =>
  lt (sI M31 a 2 v30) (fun (M32 : Mem) =>
  some ((), M32))))) 6 0 3000 M f hr hN (by omega) (by omega)
  rw [show (0 : Int32) = nI 0 from rfl, g1, lt_v, lt_v, lt_v]
  refine ⟨_, rfl, fun k hk => ?_, ?_, ?_, fun o k h1 h2 => ?_, g3.2⟩
  · rw [mI_diff _ (Or.inl (by omega)), mI_diff _ (Or.inl (by omega))]; exact g2 k hk
  · rw [mI_diff _ (Or.inr (by decide)), mI_same]; exact g3.1 _ _ (by omega)
  · rw [mI_same]; exact g3.1 _ _ (by omega)
  · rw [mI_diff _ (by omega), mI_diff _ (by omega)]; exact g3.1 _ _ h1
/-- the section at b transposed -/
def flipRow (w : Row) (b : Nat) : Row := upR (upR (nrow w b (flI (notesOf w b) 0 6)) (b + 1) (w (b + 2))) (b + 2) (w (b + 1))
theorem flipRow_n (w : Row) (b : Nat) {k : Nat} (hk : k < 36) : flipRow w b (b + (7 + k)) = flI (notesOf w b) 0 6 k := by
  unfold flipRow
  rw [upR_n _ _ (by omega), upR_n _ _ (by omega), nrow_in _ hk]
theorem flipRow_o (w : Row) (b : Nat) {k : Nat} (h1 : k ≠ b + 1) (h2 : k ≠ b + 2) (h : k < b + 7 ∨ b + 43 ≤ k) : flipRow w b k = w k := by
  unfold flipRow
  rw [upR_n _ _ h2, upR_n _ _ h1, nrow_out _ h]
theorem flipRow_1 (w : Row) (b : Nat) : flipRow w b (b + 1) = w (b + 2) := by
  unfold flipRow
  rw [upR_n _ _ (by omega), upR_s]
theorem flipRow_2 (w : Row) (b : Nat) : flipRow w b (b + 2) = w (b + 1) := by
  unfold flipRow
  rw [upR_s]
theorem flipRow_ok {w : Row} {b : Nat} (h : SecOK w b) : SecOK (flipRow w b) b :=
  h.nrow (fun k hk h1 h2 => flipRow_o w b (by omega) (by omega) (by omega)) (by rw [flipRow_1]; exact h.2.2.1) (by rw [flipRow_2]; exact h.2.1) (fun k hk => flipRow_n w b hk) (by rw [flipRow_1, flipRow_2]; exact (NOK.of h).flip)
theorem ch_flip (B : Nat) (w : Row) (hI : Inv B w) (p : Int32) : CH 1 (2 ^ 31) B w (F_X9_notSection 204 p) (F_X9_transposes 204 p) (F_X5_flip 2 p) (fun _ => -1) := by
  have h5 := hI.r5
  by_cases hp : outR p (w 0)
  · refine CH.bad (c := 1) (by decide) (fun M hL hw => ?_) (fun M hS => ?_)
    · unfold F_X9_notSection
      rw [F_isSecI hL hw (by omega), ob_s, if_pos hp, if_pos rfl]; rfl
    · unfold F_X5_flip
      rw [C_hasI hS h5, ob_s, if_pos hp, if_pos rfl]
  obtain ⟨s, hs, rfl⟩ := in_of hp (by omega)
  have hsec := hI.sec hs
  have lo : ∀ k, k < 45 → flipRow w (bs s) k = w k := fun k hk => flipRow_o w (bs s) (by simp only [bs]; omega) (by simp only [bs]; omega) (by simp only [bs]; omega)
  have hi : ∀ t, t ≠ s → ∀ k, k < 43 → flipRow w (bs s) (bs t + k) = w (bs t + k) := fun t ht k hk => flipRow_o w (bs s) (by simp only [bs]; omega) (by simp only [bs]; omega) (by simp only [bs]; omega)
  refine CH.good (v := w (bs s + 1)) (w' := flipRow w (bs s)) (by have := hsec.2.1; omega) (hI.secUpd hs lo hi (flipRow_ok hsec) (flipRow_o w (bs s) (by omega) (by omega) (by omega))) (fun M hL hw => ⟨?_, ?_⟩) (fun M hS => ?_)
  · unfold F_X9_notSection
    rw [F_isSecI hL hw (by omega), ob_s, if_neg hp, if_neg (by decide)]; rfl
  · unfold F_X9_transposes
    have hw' := hw
    rw [← nrow_id w (bs s)] at hw'
    obtain ⟨M1, g1, g2, g3⟩ := F_flI (w := w) (s := s) (by omega) (fun (x25 : Int32) (M26 : Mem) =>
  Option.bind (F_X9_of 204 (nI s) 1 M26) (fun v28 =>
  Option.bind (F_X9_of 204 (nI s) 2 M26) (fun v30 =>
  b1 (F_X9_puts 204 (nI s) 1 v30 M26) (fun u32 M33 =>
  b1 (F_X9_puts 204 (nI s) 2 v28 M33) (fun u35 M36 =>
  some (v28, M36)))))) 6 0 3000 M (notesOf w (bs s)) hL hw' (by omega) (by omega)
    have hL1 := hL.of g3.2
    have e1 : nrow w (bs s) (flI (notesOf w (bs s)) 0 6) (45 + 43 * s + 1) = w (bs s + 1) := nrow_out _ (by simp only [bs]; omega)
    have e2 : nrow w (bs s) (flI (notesOf w (bs s)) 0 6) (45 + 43 * s + 2) = w (bs s + 2) := nrow_out _ (by simp only [bs]; omega)
    obtain ⟨k1, k2⟩ := F_puts hL1 g2 (s := s) (k := 1) (w (bs s + 2)) (by omega)
    obtain ⟨m1, m2⟩ := F_puts (hL1.of (M' := sI M1 205 (45 + 43 * s + 1) (nI (w (bs s + 2)))) rfl) k2 (s := s) (k := 2) (w (bs s + 1)) (by omega)
    rw [show (0 : Int32) = nI 0 from rfl, g1, show (1 : Int32) = nI 1 from rfl, show (2 : Int32) = nI 2 from rfl, F_of hL1 g2 (by omega), ob_s, F_of hL1 g2 (by omega), ob_s, e1, e2, k1, b1_s, m1, b1_s]
    exact ⟨_, rfl, m2, (g3.trans (Only.put _ _ _ _)).trans (Only.put _ _ _ _)⟩
  · have hR := hS.2.2.2.1 s hs
    have hR2 := hR
    obtain ⟨r0, r1, r2, r3, r4, r5, r6, r7, r8⟩ := hR2
    obtain ⟨M', g1, g2, g3, g4, g5, g6⟩ := C_flip r7 hR.na
    have st := hS.secUpd (M' := M') (w' := flipRow w (bs s)) h5 hs (fun a k h1 h2 => g5 a k h2 (by omega)) g6 ?_ (by rw [g5 _ _ (by omega) (by omega)]; exact hS.nk (by omega)) lo hi
    · refine ⟨M', ?_, st.1, FrS.blk st.2⟩
      unfold F_X5_flip
      rw [C_hasI hS h5, ob_s, if_neg hp, if_neg (by decide), chk_t (inb_n (by omega) (by decide)), nI_clamp (by omega), hS.refs, g1, b1_s, chk_t (inb_n (by omega) (by decide)), show mR M' 2 0 = 2 + 1 from st.1.refs, show mR M' (2 + 1) s = mR M (2 + 1) s by unfold mR; rw [g6], g4, r1]
    · have o : ∀ k, k < 7 → k ≠ 1 → k ≠ 2 → flipRow w (bs s) (bs s + k) = w (bs s + k) := fun k hk h1 h2 => flipRow_o w (bs s) (by omega) (by omega) (by omega)
      have o0 : flipRow w (bs s) (bs s) = w (bs s) := flipRow_o w (bs s) (by omega) (by omega) (by omega)
      have q : ∀ k, k ≠ 1 → k ≠ 2 → mI M' (mR M (2 + 1) s) k = mI M (mR M (2 + 1) s) k := fun k h1 h2 => g5 _ _ (by omega) (by omega)
      unfold SecR
      rw [q 0 (by decide) (by decide), g3, g4, q 4 (by decide) (by decide), q 5 (by decide) (by decide), q 6 (by decide) (by decide), q 7 (by decide) (by decide), o0, flipRow_1, flipRow_2, o 3 (by decide) (by decide) (by decide), o 4 (by decide) (by decide) (by decide), o 5 (by decide) (by decide) (by decide), o 6 (by decide) (by decide) (by decide)]
      exact ⟨r0, r2, r1, r3, r4, r5, r6, by unfold mR; rw [g6]; exact r7, fun k hk => by rw [flipRow_n w (bs s) hk]; exact g2 k hk⟩
