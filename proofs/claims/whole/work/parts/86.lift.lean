/-! PURE LEVEL: a score raised -/
theorem by_of {p : Int32} (h1 : ¬ p < -9) (h2 : p ≤ 9) : ∃ q, q ≤ 18 ∧ p = nI q - nI 9 := by
  rw [fa_lt, show (-9 : Int32).toInt = -9 from rfl] at h1
  rw [fa_le, show (9 : Int32).toInt = 9 from rfl] at h2
  have hq : ∀ q : Fin 19, (nI q.val - nI 9).toInt = (q.val : Int) - 9 := by decide +kernel
  refine ⟨(p.toInt + 9).toNat, by omega, ?_⟩
  rw [fa_eq, hq ⟨(p.toInt + 9).toNat, by omega⟩]
  show p.toInt = ((p.toInt + 9).toNat : Int) - 9
  omega
theorem li_bet {x q : Nat} (hx : x < 10) (hq : q ≤ 18) : F_X9_isBetween (nI x + (nI q - nI 9)) 1 9 = some (nI (if 10 ≤ x + q ∧ x + q ≤ 18 then 1 else 0)) := by
  have h : ∀ (x : Fin 10) (q : Fin 19), F_X9_isBetween (nI x.val + (nI q.val - nI 9)) 1 9 = some (nI (if 10 ≤ x.val + q.val ∧ x.val + q.val ≤ 18 then 1 else 0)) := by decide +kernel
  exact h ⟨x, hx⟩ ⟨q, by omega⟩
theorem li_lt {x q : Nat} (hx : x < 10) (hq : q ≤ 18) : (nI x + (nI q - nI 9) < 1) ↔ x + q < 10 := by
  have h : ∀ (x : Fin 10) (q : Fin 19), (nI x.val + (nI q.val - nI 9) < 1) ↔ x.val + q.val < 10 := by decide +kernel
  exact h ⟨x, hx⟩ ⟨q, by omega⟩
theorem li_le {x q : Nat} (hx : x < 10) (hq : q ≤ 18) : (nI x + (nI q - nI 9) ≤ 9) ↔ x + q ≤ 18 := by
  have h : ∀ (x : Fin 10) (q : Fin 19), (nI x.val + (nI q.val - nI 9) ≤ 9) ↔ x.val + q.val ≤ 18 := by decide +kernel
  exact h ⟨x, hx⟩ ⟨q, by omega⟩
theorem li_ad {x q : Nat} (hx : x < 10) (hq : q ≤ 18) (h : 10 ≤ x + q) : nI x + (nI q - nI 9) = nI (x + q - 9) := by
  have h : ∀ (x : Fin 10) (q : Fin 19), 10 ≤ x.val + q.val → nI x.val + (nI q.val - nI 9) = nI (x.val + q.val - 9) := by decide +kernel
  exact h ⟨x, hx⟩ ⟨q, by omega⟩ (by assumption)
def okLi (f : Nat → Nat) (q i : Nat) : Prop := f i = 0 ∨ (10 ≤ f i + q ∧ f i + q ≤ 18)
theorem okLi_dec (f : Nat → Nat) (q i : Nat) : okLi f q i ∨ (f i ≠ 0 ∧ ¬ (10 ≤ f i + q ∧ f i + q ≤ 18)) := by unfold okLi; omega
section LI
variable {M : Mem} {w : Row} {q : Nat}
theorem F_canL (hL : LM M) (hw : WA M 205 260 w) {s : Nat} (hs : s < 5) (hf : ∀ k, k < 36 → notesOf w (bs s) k < 10) (hq : q ≤ 18) (K : Int32 → Option Int32) : ∀ (d i n : Nat), i + d = 36 → d < n →
    ((∀ j, i ≤ j → j < 36 → okLi (notesOf w (bs s)) q j) → F_X9_notRaise_L1 204 (nI s) (nI q - nI 9) M K n (nI (7 + i)) = K (nI 43)) ∧ (¬ (∀ j, i ≤ j → j < 36 → okLi (notesOf w (bs s)) q j) → F_X9_notRaise_L1 204 (nI s) (nI q - nI 9) M K n (nI (7 + i)) = some 3) := by
  intro d
  induction d with
  | zero =>
    intro i n e hn
    obtain ⟨n, rfl⟩ : ∃ m, n = m + 1 := ⟨n - 1, by omega⟩
    refine ⟨fun _ => ?_, fun h => absurd (fun j h1 h2 => by omega) h⟩
    rw [F_X9_notRaise_L1, show (43 : Int32) = nI 43 from rfl, if_pos (nI_le (by omega) (by omega)), show 7 + i = 43 by omega]
  | succ d ih =>
    intro i n e hn
    obtain ⟨n, rfl⟩ : ∃ m, n = m + 1 := ⟨n - 1, by omega⟩
    have hx := hf i (by omega)
    have ev : w (45 + 43 * s + (7 + i)) = notesOf w (bs s) i := rfl
    obtain ⟨h1, h2⟩ := ih (i + 1) n (by omega) (by omega)
    rw [F_X9_notRaise_L1, show (43 : Int32) = nI 43 from rfl, if_neg (nI_ge (by omega) (by omega)), F_of hL hw (by omega), ob_s, ev]
    rcases okLi_dec (notesOf w (bs s)) q i with ok | ⟨n0, bad⟩
    · have go : F_X9_notRaise_L1 204 (nI s) (nI q - nI 9) M K n (nI (7 + i) + 1) = F_X9_notRaise_L1 204 (nI s) (nI q - nI 9) M K n (nI (7 + (i + 1))) := by rw [nI_1]; rfl
      have all : (∀ j, i ≤ j → j < 36 → okLi (notesOf w (bs s)) q j) ↔ (∀ j, i + 1 ≤ j → j < 36 → okLi (notesOf w (bs s)) q j) := ⟨fun h j h1 h2 => h j (by omega) h2, fun h j h1 h2 => by
        by_cases z : j = i
        · rw [z]; exact ok
        · exact h j (by omega) h2⟩
      rw [all, ob_s, li_bet hx hq, ob_s, lt_v, go]
      by_cases z : nI (notesOf w (bs s) i) = 0
      · rw [if_pos z]; exact ⟨h1, h2⟩
      · rw [if_neg z]
        have nz0 : notesOf w (bs s) i ≠ 0 := fun y => z (by rw [y]; rfl)
        have okb : 10 ≤ notesOf w (bs s) i + q ∧ notesOf w (bs s) i + q ≤ 18 := ok.elim (fun y => absurd y nz0) id
        rw [if_pos okb, if_neg (by decide)]; exact ⟨h1, h2⟩
    · refine ⟨fun h => ?_, fun _ => ?_⟩
      · have := h i (Nat.le_refl _) (by omega)
        unfold okLi at this; omega
      · rw [if_neg (nI_ne0 (by omega) (by omega)), ob_s, li_bet hx hq, ob_s, if_neg bad, if_pos (by decide)]
theorem C_canL {a b : Nat} (hR : SecR M a w b) (hf : ∀ k, k < 36 → notesOf w b k < 10) (hq : q ≤ 18) (K : Int32 → Option Int32) : ∀ (d i n : Nat), i + d = 36 → d < n →
    ((∀ j, i ≤ j → j < 36 → okLi (notesOf w b) q j) → F_X4_canLift_L1 a (nI q - nI 9) M K n (nI i) = K (nI 36)) ∧ (¬ (∀ j, i ≤ j → j < 36 → okLi (notesOf w b) q j) → F_X4_canLift_L1 a (nI q - nI 9) M K n (nI i) = some 0) := by
  have hN := hR.na
  have hr := hR.2.2.2.2.2.2.2.1
  intro d
  induction d with
  | zero =>
    intro i n e hn
    obtain ⟨n, rfl⟩ : ∃ m, n = m + 1 := ⟨n - 1, by omega⟩
    refine ⟨fun _ => ?_, fun h => absurd (fun j h1 h2 => by omega) h⟩
    rw [F_X4_canLift_L1, show (36 : Int32) = nI 36 from rfl, if_pos (nI_le (by omega) (by omega)), show i = 36 by omega]
  | succ d ih =>
    intro i n e hn
    obtain ⟨n, rfl⟩ : ∃ m, n = m + 1 := ⟨n - 1, by omega⟩
    have hx := hf i (by omega)
    obtain ⟨h1, h2⟩ := ih (i + 1) n (by omega) (by omega)
    rw [F_X4_canLift_L1, show (36 : Int32) = nI 36 from rfl, if_neg (nI_ge (by omega) (by omega)), chk_t (inb_n (by omega) (by decide)), nI_clamp (by omega), hr, hN i (by omega), lt_v, chk_t (inb_n (by omega) (by decide)), lt_v, nI_1]
    rcases okLi_dec (notesOf w b) q i with ok | ⟨n0, bad⟩
    · have all : (∀ j, i ≤ j → j < 36 → okLi (notesOf w b) q j) ↔ (∀ j, i + 1 ≤ j → j < 36 → okLi (notesOf w b) q j) := ⟨fun h j h1 h2 => h j (by omega) h2, fun h j h1 h2 => by
        by_cases z : j = i
        · rw [z]; exact ok
        · exact h j (by omega) h2⟩
      rw [all]
      by_cases z : nI (notesOf w b i) = 0
      · rw [if_pos z]; exact ⟨h1, h2⟩
      · rw [if_neg z]
        have nz0 : notesOf w b i ≠ 0 := fun y => z (by rw [y]; rfl)
        unfold okLi at ok
        rw [if_neg (by rw [li_lt hx hq]; omega), if_pos (by rw [li_le hx hq]; omega)]; exact ⟨h1, h2⟩
    · refine ⟨fun h => ?_, fun _ => ?_⟩
      · have := h i (Nat.le_refl _) (by omega)
        unfold okLi at this; omega
      · rw [if_neg (nI_ne0 (by omega) (by omega))]
        by_cases z : notesOf w b i + q < 10
        · rw [if_pos (by rw [li_lt hx hq]; exact z)]
        · rw [if_neg (by rw [li_lt hx hq]; exact z), if_neg (by rw [li_le hx hq]; omega)]
end LI
def liI (q : Nat) : (Nat → Nat) → Nat → Nat → Nat → (Nat → Nat) × Nat
  | f, t, _, 0 => (f, t)
  | f, t, i, d+1 => if f i = 0 then liI q f t (i + 1) d else liI q (upR f i (f i + q - 9)) (t + 1) (i + 1) d
theorem NOK.upn {r c k x : Nat} {f : Nat → Nat} (h : NOK r c f) (hk : k < 36) (h0 : f k ≠ 0) (hx : x < 10) : NOK r c (upR f k x) := fun p q hp hq => by
  unfold upR
  by_cases e : 6 * p + q = k
  · rw [if_pos e]
    have := h p q hp hq
    rw [e] at this
    exact ⟨hx, fun z => absurd (this.2 z) h0⟩
  · rw [if_neg e]; exact h p q hp hq
theorem liI_ok {r c q : Nat} : ∀ (d i t : Nat) (f : Nat → Nat), NOK r c f → i + d = 36 → (∀ j, i ≤ j → j < 36 → okLi f q j) → NOK r c (liI q f t i d).1 ∧ (liI q f t i d).2 ≤ t + d
  | 0, _, _, _, h, _, _ => ⟨h, Nat.le_refl _⟩
  | d+1, i, t, f, h, e, hk => by
    unfold liI
    have hi := hk i (Nat.le_refl _) (by omega)
    unfold okLi at hi
    split
    · have := liI_ok d (i + 1) t f h (by omega) (fun j h1 h2 => hk j (by omega) h2)
      exact ⟨this.1, by omega⟩
    · have := liI_ok d (i + 1) (t + 1) (upR f i (f i + q - 9)) (h.upn (by omega) (by assumption) (by omega)) (by omega) (fun j h1 h2 => by
        have := hk j (by omega) h2
        unfold okLi at this ⊢
        rw [upR_n _ _ (by omega)]; exact this)
      exact ⟨this.1, by omega⟩
section LI2
variable {w : Row} {q : Nat}
theorem F_liL {s : Nat} (hs : s < 5) (hq : q ≤ 18) (K : Int32 → Int32 → Mem → Option (Int32 × Mem)) : ∀ (d i t n : Nat) (M : Mem) (f : Nat → Nat), LM M → WA M 205 260 (nrow w (bs s) f) → (∀ k, k < 36 → f k < 10) → (∀ j, i ≤ j → j < 36 → okLi f q j) → i + d = 36 → d < n →
    ∃ M' x, F_X9_raises_L1 204 (nI s) (nI q - nI 9) K n (nI t) (nI (7 + i)) M = K (nI (liI q f t i d).2) x M' ∧ WA M' 205 260 (nrow w (bs s) (liI q f t i d).1) ∧ Only M M' 205 := by
  intro d
  induction d with
  | zero =>
    intro i t n M f hL hw hf hk e hn
    obtain ⟨n, rfl⟩ : ∃ m, n = m + 1 := ⟨n - 1, by omega⟩
    refine ⟨M, nI (7 + i), ?_, hw, Only.refl _ _⟩
    rw [F_X9_raises_L1, show (43 : Int32) = nI 43 from rfl, if_pos (nI_le (by omega) (by omega))]; rfl
  | succ d ih =>
    intro i t n M f hL hw hf hk e hn
    obtain ⟨n, rfl⟩ : ∃ m, n = m + 1 := ⟨n - 1, by omega⟩
    have hx := hf i (by omega)
    have hi := hk i (Nat.le_refl _) (by omega)
    unfold okLi at hi
    have ev : nrow w (bs s) f (45 + 43 * s + (7 + i)) = f i := nrow_in f (by omega)
    rw [F_X9_raises_L1, show (43 : Int32) = nI 43 from rfl, if_neg (nI_ge (by omega) (by omega)), F_of hL hw (by omega), ob_s, ev]
    unfold liI
    by_cases z : f i = 0
    · obtain ⟨M1, x, g1, g2, g3⟩ := ih (i + 1) t n M f hL hw hf (fun j h1 h2 => hk j (by omega) h2) (by omega) (by omega)
      rw [z, if_pos nI_0, if_pos rfl, lt_v, nI_1]
      exact ⟨M1, x, g1, g2, g3⟩
    · obtain ⟨k1, k2⟩ := F_puts hL hw (s := s) (k := 7 + i) (f i + q - 9) (by omega)
      have eu := nrow_up w (bs s) f (k := i) (by omega) (f i + q - 9)
      rw [eu] at k2
      obtain ⟨M1, x, g1, g2, g3⟩ := ih (i + 1) (t + 1) n (sI M 205 (45 + 43 * s + (7 + i)) (nI (f i + q - 9))) (upR f i (f i + q - 9)) (hL.of rfl) k2 (fun k hk2 => by
        unfold upR
        split
        · omega
        · exact hf k hk2) (fun j h1 h2 => by
        have := hk j (by omega) h2
        unfold okLi at this ⊢
        rw [upR_n _ _ (by omega)]; exact this) (by omega) (by omega)
      rw [if_neg z, if_neg (nI_ne0 (by omega) (by omega)), ob_s, li_ad hx hq (by omega), k1, b1_s, lt_v, lt_v, nI_1, nI_1]
      exact ⟨M1, x, g1, g2, (Only.put _ _ _ _).trans g3⟩
theorem C_liL {a : Nat} (hq : q ≤ 18) (K : Int32 → Int32 → Mem → Option (Int32 × Mem)) : ∀ (d i t n : Nat) (M : Mem) (f : Nat → Nat), mR M a 3 = a + 1 → NA M (a + 1) f → (∀ k, k < 36 → f k < 10) → (∀ j, i ≤ j → j < 36 → okLi f q j) → i + d = 36 → d < n →
    ∃ M' x, F_X4_lift_L1 a (nI q - nI 9) K n (nI t) (nI i) M = K (nI (liI q f t i d).2) x M' ∧ NA M' (a + 1) (liI q f t i d).1 ∧ Only M M' (a + 1) := by
  intro d
  induction d with
  | zero =>
    intro i t n M f hr hN hf hk e hn
    obtain ⟨n, rfl⟩ : ∃ m, n = m + 1 := ⟨n - 1, by omega⟩
    refine ⟨M, nI i, ?_, hN, Only.refl _ _⟩
    rw [F_X4_lift_L1, show (36 : Int32) = nI 36 from rfl, if_pos (nI_le (by omega) (by omega))]; rfl
  | succ d ih =>
    intro i t n M f hr hN hf hk e hn
    obtain ⟨n, rfl⟩ : ∃ m, n = m + 1 := ⟨n - 1, by omega⟩
    have hx := hf i (by omega)
    have hi := hk i (Nat.le_refl _) (by omega)
    unfold okLi at hi
    rw [F_X4_lift_L1, show (36 : Int32) = nI 36 from rfl, if_neg (nI_ge (by omega) (by omega)), chk_t (inb_n (by omega) (by decide)), nI_clamp (by omega), hr, hN i (by omega)]
    unfold liI
    by_cases z : f i = 0
    · obtain ⟨M1, x, g1, g2, g3⟩ := ih (i + 1) t n M f hr hN hf (fun j h1 h2 => hk j (by omega) h2) (by omega) (by omega)
      rw [z, if_pos nI_0, if_pos rfl, lt_v, nI_1]
      exact ⟨M1, x, g1, g2, g3⟩
    · obtain ⟨M1, x, g1, g2, g3⟩ := ih (i + 1) (t + 1) n (sI M (a + 1) i (nI (f i + q - 9))) (upR f i (f i + q - 9)) hr (hN.put _ _) (fun k hk2 => by
        unfold upR
        split
        · omega
        · exact hf k hk2) (fun j h1 h2 => by
        have := hk j (by omega) h2
        unfold okLi at this ⊢
        rw [upR_n _ _ (by omega)]; exact this) (by omega) (by omega)
      rw [if_neg z, if_neg (nI_ne0 (by omega) (by omega)), chk_t (inb_n (by omega) (by decide)), chk_t (inb_n (by omega) (by decide)), li_ad hx hq (by omega), lt_v, lt_v, lt_v, nI_1, nI_1]
      exact ⟨M1, x, g1, g2, (Only.put _ _ _ _).trans g3⟩
end LI2
theorem NOK.all {r c : Nat} {f : Nat → Nat} (h : NOK r c f) : ∀ k, k < 36 → f k < 10 := fun k hk => by
  have := (h (k / 6) (k % 6) (by omega) (by omega)).1
  rwa [show 6 * (k / 6) + k % 6 = k by omega] at this
theorem ch_lift (B : Nat) (w : Row) (hI : Inv B w) (p v : Int32) : CH 3 (2 ^ 31) B w (F_X9_notRaise 204 p v) (F_X9_raises 204 p v) (F_X5_lift 2 p v) (fun c => if c = 1 then -1 else if c = 2 then -2 else -4) := by
  have h5 := hI.r5
  by_cases hp : outR p (w 0)
  · refine CH.bad (c := 1) (by decide) (fun M hL hw => ?_) (fun M hS => ?_)
    · unfold F_X9_notRaise
      rw [F_isSecI hL hw (by omega), ob_s, if_pos hp, if_pos rfl]; rfl
    · unfold F_X5_lift
      rw [C_hasI hS h5, ob_s, if_pos hp, if_pos rfl]; rfl
  obtain ⟨s, hs, rfl⟩ := in_of hp (by omega)
  have hsec := hI.sec hs
  by_cases hv : v < -9 ∨ 9 < v
  · refine CH.bad (c := 2) (by decide) (fun M hL hw => ?_) (fun M hS => ?_)
    · unfold F_X9_notRaise
      rw [F_isSecI hL hw (by omega), ob_s, if_neg hp, if_neg (by decide), F_bet, ob_s, if_pos hv, if_pos rfl]; rfl
    · unfold F_X5_lift
      rw [C_hasI hS h5, ob_s, if_neg hp, if_neg (by decide)]
      by_cases hv0 : v < -9
      · rw [if_pos hv0]; rfl
      · rw [if_neg hv0, if_neg (fun z => hv.elim hv0 (fun y => (fa_of_lt y).2.1 z))]; rfl
  have hv0 : ¬ v < -9 := fun z => hv (Or.inl z)
  have hv9 : v ≤ 9 := fa_of_nlt (fun z => hv (Or.inr z))
  obtain ⟨q, hq, rfl⟩ := by_of hv0 hv9
  have hf := (NOK.of hsec).all
  by_cases hok : ∀ j, 0 ≤ j → j < 36 → okLi (notesOf w (bs s)) q j
  · have lok := liI_ok 36 0 0 _ (NOK.of hsec) (by omega) hok
    refine CH.good (v := (liI q (notesOf w (bs s)) 0 0 36).2) (w' := nrow w (bs s) (liI q (notesOf w (bs s)) 0 0 36).1) (by omega) (hI.notes hs lok.1) (fun M hL hw => ⟨?_, ?_⟩) (fun M hS => ?_)
    · unfold F_X9_notRaise
      rw [F_isSecI hL hw (by omega), ob_s, if_neg hp, if_neg (by decide), F_bet, ob_s, if_neg hv, if_neg (by decide)]
      exact (F_canL hL hw (by omega) hf hq _ 36 0 3000 (by omega) (by omega)).1 hok
    · unfold F_X9_raises
      have hw' := hw
      rw [← nrow_id w (bs s)] at hw'
      obtain ⟨M1, x, g1, g2, g3⟩ := F_liL (w := w) (s := s) (q := q) (by omega) hq (fun (x18 : Int32) (x19 : Int32) (M20 : Mem) =>
  some (x18, M20)) 36 0 0 3000 M (notesOf w (bs s)) hL hw' hf hok (by omega) (by omega)
      exact ⟨M1, g1, g2, g3⟩
    · have hR := hS.2.2.2.1 s hs
      unfold F_X5_lift
      rw [C_hasI hS h5, ob_s, if_neg hp, if_neg (by decide), if_neg hv0, if_pos hv9, chk_t (inb_n (by omega) (by decide)), nI_clamp (by omega), hS.refs]
      unfold F_X4_canLift
      rw [show (0 : Int32) = nI 0 from rfl, (C_canL hR hf hq _ 36 0 3000 (by omega) (by omega)).1 hok, ob_s, if_neg (by decide), chk_t (inb_n (by omega) (by decide))]
      unfold F_X4_lift
      obtain ⟨M1, x, g1, g2, g3⟩ := C_liL (a := mR M (2 + 1) s) (q := q) hq (fun (x18 : Int32) (x19 : Int32) (M20 : Mem) =>
  some (x18, M20)) 36 0 0 3000 M (notesOf w (bs s)) hR.2.2.2.2.2.2.2.1 hR.na hf hok (by omega) (by omega)
      obtain ⟨q1, q2⟩ := hS.notes h5 hs g3 g2
      rw [show (0 : Int32) = nI 0 from rfl, g1, b1_s]
      exact ⟨M1, rfl, q1, FrS.blk q2⟩
  · refine CH.bad (c := 3) (by decide) (fun M hL hw => ?_) (fun M hS => ?_)
    · unfold F_X9_notRaise
      rw [F_isSecI hL hw (by omega), ob_s, if_neg hp, if_neg (by decide), F_bet, ob_s, if_neg hv, if_neg (by decide)]
      exact (F_canL hL hw (by omega) hf hq _ 36 0 3000 (by omega) (by omega)).2 hok
    · have hR := hS.2.2.2.1 s hs
      unfold F_X5_lift
      rw [C_hasI hS h5, ob_s, if_neg hp, if_neg (by decide), if_neg hv0, if_pos hv9, chk_t (inb_n (by omega) (by decide)), nI_clamp (by omega), hS.refs]
      unfold F_X4_canLift
      rw [show (0 : Int32) = nI 0 from rfl, (C_canL hR hf hq _ 36 0 3000 (by omega) (by omega)).2 hok, ob_s]; rfl
