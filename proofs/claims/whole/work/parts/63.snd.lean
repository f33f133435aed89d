/-! PURE LEVEL: the sounds of a column counted -/
def upR (r : Row) (k x : Nat) : Row := fun j => if j = k then x else r j
theorem upR_s (r : Row) (k x : Nat) : upR r k x k = x := if_pos rfl
theorem upR_n (r : Row) {k j : Nat} (x : Nat) (h : j ≠ k) : upR r k x j = r j := if_neg h
theorem WA.put {M : Mem} {q n : Nat} {r : Row} (h : WA M q n r) (k x : Nat) : WA (sI M q k (nI x)) q n (upR r k x) := by
  intro j hj
  rw [mI_sI]
  unfold upR
  by_cases e : j = k
  · rw [if_pos ⟨rfl, e⟩, if_pos e]
  · rw [if_neg (fun z => e z.2), if_neg e]; exact h j hj
/-- only the ints of object q change -/
def Only (M M' : Mem) (q : Nat) : Prop := (∀ a k, a ≠ q → mI M' a k = mI M a k) ∧ M'.2 = M.2
theorem Only.refl (M : Mem) (q : Nat) : Only M M q := ⟨fun _ _ _ => rfl, rfl⟩
theorem Only.trans {M M1 M2 : Mem} {q : Nat} (h : Only M M1 q) (h2 : Only M1 M2 q) : Only M M2 q := ⟨fun a k ha => (h2.1 a k ha).trans (h.1 a k ha), h2.2.trans h.2⟩
theorem Only.put (M : Mem) (q k : Nat) (x : Int32) : Only M (sI M q k x) q := ⟨fun a j ha => by rw [mI_sI, if_neg (fun z => ha z.1)], rfl⟩
theorem LM.of {M M' : Mem} (h : LM M) (e : M'.2 = M.2) : LM M' := by
  have e2 : ∀ a k, mR M' a k = mR M a k := fun a k => by unfold mR; rw [e]
  unfold LM
  simp only [e2]
  exact h
def sndStep (r : Row) (b c j : Nat) : Row := if r (b + (7 + 6 * j + c)) = 0 then r else upR r (18 + 9 * r b + r (b + (7 + 6 * j + c)) - 1) (r (18 + 9 * r b + r (b + (7 + 6 * j + c)) - 1) + 1)
def sndIt (b c : Nat) : Row → Nat → Nat → Row
  | r, _, 0 => r
  | r, i, d+1 => sndIt b c (sndStep r b c i) (i + 1) d
theorem sndStep_ge {r : Row} {b c j k : Nat} (hk : r b < 3) (hn : r (b + (7 + 6 * j + c)) < 10) (h : 45 ≤ k) : sndStep r b c j k = r k := by
  unfold sndStep
  split
  · rfl
  · exact upR_n _ _ (by omega)
theorem SecOK.cong {r r' : Row} {b : Nat} (h : SecOK r b) (hb : 45 ≤ b) (e : ∀ k, 45 ≤ k → r' k = r k) : SecOK r' b := by
  unfold SecOK at h ⊢
  rw [e b hb, e (b + 1) (by omega), e (b + 2) (by omega), e (b + 3) (by omega), e (b + 4) (by omega), e (b + 5) (by omega), e (b + 6) (by omega)]
  refine ⟨h.1, h.2.1, h.2.2.1, h.2.2.2.1, h.2.2.2.2.1, h.2.2.2.2.2.1, h.2.2.2.2.2.2.1, fun i j hi hj => ?_⟩
  rw [e _ (by omega)]
  exact h.2.2.2.2.2.2.2 i j hi hj
theorem SecOK.step {r : Row} {b c j : Nat} (h : SecOK r b) (hb : 45 ≤ b) (hc : c < 6) (hj : j < 6) : SecOK (sndStep r b c j) b :=
  h.cong hb fun _ hk => sndStep_ge h.1 (h.2.2.2.2.2.2.2 j c hj hc).1 hk
theorem F_sndL {s c : Nat} (hs : s < 5) (hc : c < 6) (K : Int32 → Mem → Option (Unit × Mem)) : ∀ (d i n : Nat) (M : Mem) (r : Row), LM M → WA M 205 260 r → SecOK r (bs s) → i + d = r (bs s + 1) → d < n →
    ∃ M', F_X9_sounds_L1 204 (nI s) (nI c) K n (nI i) M = K (nI (r (bs s + 1))) M' ∧ WA M' 205 260 (sndIt (bs s) c r i d) ∧ Only M M' 205 := by
  intro d
  induction d with
  | zero =>
    intro i n M r hL hw h e hn0
    have hr := h.2.1
    obtain ⟨n, rfl⟩ : ∃ m, n = m + 1 := ⟨n - 1, by omega⟩
    refine ⟨M, ?_, hw, Only.refl _ _⟩
    rw [F_X9_sounds_L1, show (1 : Int32) = nI 1 from rfl, F_of hL hw (by simp only [bs] at *; omega), ob_s, if_pos (nI_le (by simp only [bs] at *; omega) (by simp only [bs] at *; omega))]
    simp only [bs] at *
    rw [show i = r (45 + 43 * s + 1) by omega]
  | succ d ih =>
    intro i n M r hL hw h e hn0
    have hr := h.2.1
    have hk := h.1
    have hnote := (h.2.2.2.2.2.2.2 i c (by omega) hc).1
    obtain ⟨n, rfl⟩ : ∃ m, n = m + 1 := ⟨n - 1, by omega⟩
    have hst := h.step (j := i) (by simp only [bs]; omega) hc (by omega)
    have e1 : sndStep r (bs s) c i (bs s + 1) = r (bs s + 1) := sndStep_ge hk hnote (by simp only [bs]; omega)
    rw [F_X9_sounds_L1, show (1 : Int32) = nI 1 from rfl, F_of hL hw (by simp only [bs] at *; omega), ob_s, if_neg (nI_ge (by simp only [bs] at *; omega) (by simp only [bs] at *; omega)), F_note hL hw (by simp only [bs] at *; omega), ob_s]
    by_cases hz : r (bs s + (7 + 6 * i + c)) = 0
    · have e2 : sndStep r (bs s) c i = r := by unfold sndStep; rw [if_pos hz]
      simp only [bs] at *
      rw [hz, if_pos (by decide), lt_v, nI_add]
      obtain ⟨M', g1, g2, g3⟩ := ih (i + 1) n M r hL hw h (by omega) (by omega)
      refine ⟨M', g1, ?_, g3⟩
      rw [sndIt, e2]; exact g2
    · simp only [bs] at *
      rw [if_neg (nI_nle (Nat.pos_of_ne_zero hz) (by omega)), show (0 : Int32) = nI 0 from rfl, F_of hL hw (by omega), ob_s, Nat.add_zero, show (18 : Int32) = nI 18 from rfl, show (9 : Int32) = nI 9 from rfl, nI_mul, nI_add, nI_add, nI_sub (by omega), chk_t (inb_n (by omega) (by decide)), chk_t (inb_n (by omega) (by decide)), lt_v, lt_v, hL.1, nI_clamp (by omega), hw.at (by omega), nI_add, nI_add]
      have e2 : sndStep r (45 + 43 * s) c i = upR r (18 + 9 * r (45 + 43 * s) + r (45 + 43 * s + (7 + 6 * i + c)) - 1) (r (18 + 9 * r (45 + 43 * s) + r (45 + 43 * s + (7 + 6 * i + c)) - 1) + 1) := by unfold sndStep; rw [if_neg hz]
      obtain ⟨M', g1, g2, g3⟩ := ih (i + 1) n (sI M 205 (18 + 9 * r (45 + 43 * s) + r (45 + 43 * s + (7 + 6 * i + c)) - 1) (nI (r (18 + 9 * r (45 + 43 * s) + r (45 + 43 * s + (7 + 6 * i + c)) - 1) + 1))) (sndStep r (45 + 43 * s) c i) (hL.of rfl) (by rw [e2]; exact hw.put _ _) hst (by omega) (by omega)
      rw [e1] at g1
      exact ⟨M', g1, g2, (Only.put _ _ _ _).trans g3⟩
