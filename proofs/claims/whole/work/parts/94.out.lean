/-! PURE LEVEL: the output text -/
theorem nar_c {n : Nat} (h : n < 128) : vp_nar .char (nI n) = nI n := by
  have h' : ∀ n : Fin 128, vp_nar .char (nI n.val) = nI n.val := by decide +kernel
  exact h' ⟨n, h⟩
def appT (O : TS) (x : Nat) : TS := (upR O.1 O.2 x, O.2 + 1)
/-- text object a, its signs in c -/
def TX (M : Mem) (a k c : Nat) (O : TS) : Prop := mI M a k = nI O.2 ∧ ∀ k, k < O.2 → mI M c k = nI (O.1 k)
theorem OB.app {O : TS} (h : OB O) {x : Nat} (hx : x < 128) (h6 : O.2 < 60) : OB (appT O x) := ⟨h6, fun k hk => by
  show upR O.1 O.2 x k < 128
  unfold upR
  split
  · exact hx
  · exact h.2 k (by change k < O.2 + 1 at hk; omega)⟩
theorem TX.app {M : Mem} {a j c : Nat} {O : TS} (h : TX M a j c O) (hac : a ≠ c) (x : Nat) : TX (sI (sI M c O.2 (nI x)) a j (nI (O.2 + 1))) a j c (appT O x) := ⟨mI_same _ _ _ _, fun k hk => by
  rw [mI_diff _ (Or.inl (Ne.symm hac)), mI_sI]
  show _ = nI (upR O.1 O.2 x k)
  unfold upR
  by_cases e : k = O.2
  · rw [if_pos ⟨rfl, e⟩, if_pos e]
  · rw [if_neg (fun z => e z.2), if_neg e]
    exact h.2 k (by change k < O.2 + 1 at hk; omega)⟩
theorem C_app {M : Mem} {a c x : Nat} {O : TS} (hr : mR M a 0 = c) (hac : a ≠ c) (h : TX M a 1 c O) (hO : OB O) (hx : x < 128) (h6 : O.2 < 60) : ∃ M', F_X6_append a (nI x) M = some ((), M') ∧ TX M' a 1 c (appT O x) ∧ Same (fun b _ => b ≠ a ∧ b ≠ c) M M' ∧ M'.2 = M.2 := by
  unfold F_X6_append
  rw [h.1, if_neg (nI_pos (by omega)), show (60 : Int32) = nI 60 from rfl, if_neg (nI_ge h6 (by omega)), chk_t (inb_n h6 (by decide)), nI_clamp (by omega), hr, nar_c hx, lt_v, mI_diff _ (Or.inl hac), h.1, nI_1, lt_v]
  exact ⟨_, rfl, h.app hac x, ((Same.sI _ _ _ _).sub fun b k p => by omega).trans ((Same.sI _ _ _ _).sub fun b k p => by omega), rfl⟩
theorem F_writesT {M : Mem} {x : Nat} {O : TS} (hL : LM M) (h : TX M 204 10 210 O) (hO : OB O) (hx : x < 128) (h6 : O.2 < 60) : ∃ M', F_X9_writes 204 (nI x) M = some ((), M') ∧ TX M' 204 10 210 (appT O x) ∧ Same (fun b k => b ≠ 210 ∧ ¬ (b = 204 ∧ k = 10)) M M' ∧ M'.2 = M.2 := by
  unfold F_X9_writes
  rw [h.1, chk_t (inb_n h6 (by decide)), nI_clamp (by omega), hL.2.2.2.2.2.1, cast16 (by omega), nar_c hx, lt_v, mI_diff _ (Or.inl (by decide)), h.1, nI_1, lt_v]
  exact ⟨_, rfl, h.app (by decide) x, ((Same.sI _ _ _ _).sub fun b k p => by omega).trans ((Same.sI _ _ _ _).sub fun b k p => by omega), rfl⟩
def outJ (f : Nat → Nat) (i : Nat) : TS → Nat → Nat → TS
  | O, _, 0 => O
  | O, j, d+1 => outJ f i (appT O (48 + f (6 * i + j))) (j + 1) d
def outI (f : Nat → Nat) (c : Nat) : TS → Nat → Nat → TS
  | O, _, 0 => O
  | O, i, d+1 => outI f c (outJ f i (if i = 0 then O else appT O 47) 0 c) (i + 1) d
theorem outJ_len (f : Nat → Nat) (i : Nat) : ∀ (d j : Nat) (O : TS), (outJ f i O j d).2 = O.2 + d
  | 0, _, _ => rfl
  | d+1, j, O => by
    show (outJ f i (appT O _) (j + 1) d).2 = _
    rw [outJ_len f i d]
    show O.2 + 1 + d = O.2 + (d + 1)
    omega
theorem outJ_ok {f : Nat → Nat} {i : Nat} (hi : i < 6) (hf : ∀ k, k < 36 → f k < 10) : ∀ (d j : Nat) (O : TS), OB O → j + d ≤ 6 → O.2 + d ≤ 60 → OB (outJ f i O j d)
  | 0, _, _, h, _, _ => h
  | d+1, j, O, h, e, e6 => outJ_ok hi hf d (j + 1) _ (h.app (by have := hf (6 * i + j) (by omega); omega) (by omega)) (by omega) (by show O.2 + 1 + d ≤ 60; omega)
theorem digit_s {n : Nat} (h : n < 10) : F_X8_digitSign (nI n) = some (nI (48 + n)) := by
  unfold F_X8_digitSign
  rw [show (48 : Int32) = nI 48 from rfl, nI_add, cast16 (by omega), chk_t (nokC_nI (by omega))]
section OUT
variable {w : Row} {b q s : Nat}
theorem SecR.same {M M' : Mem} {a : Nat} (h : SecR M a w b) (e : Same (fun x _ => x = a ∨ x = a + 1) M M') : SecR M' a w b := h.eqM (fun k => (e a k (Or.inl rfl)).1) (fun k => (e (a + 1) k (Or.inr rfl)).1) (e a 3 (Or.inl rfl)).2.2
theorem C_noteS {M : Mem} {a : Nat} (hR : SecR M a w b) (h : SecOK w b) {i j : Nat} (hi : i < w (b + 1)) (hj : j < w (b + 2)) : F_X4_noteAt a (nI i) (nI j) M = some (nI (notesOf w b (6 * i + j))) := C_noteR hR h (Only.refl M _) hR.na hi hj
/-- the section, the output text, its place in our object -/
def OS (w : Row) (b q : Nat) (M : Mem) (O : TS) : Prop := SecR M q w b ∧ mR M 1 7 = 202 ∧ mR M 202 0 = 203 ∧ TX M 202 1 203 O
theorem C_appO {M : Mem} {O : TS} (hq : q + 1 < 202) (h : OS w b q M O) (hO : OB O) {x : Nat} (hx : x < 128) (h6 : O.2 < 60) : ∃ M', F_X6_append (mR M 1 7) (nI x) M = some ((), M') ∧ OS w b q M' (appT O x) ∧ OB (appT O x) ∧ Same (fun b _ => b ≠ 202 ∧ b ≠ 203) M M' ∧ M'.2 = M.2 := by
  obtain ⟨h1, h2, h3, h4⟩ := h
  obtain ⟨M', g1, g2, g3, g4⟩ := C_app h3 (by decide) h4 hO hx h6
  refine ⟨M', by rw [h2]; exact g1, ⟨h1.same (g3.sub fun a k p => by omega), (g3 1 7 (by omega)).2.2.trans h2, ?_, g2⟩, hO.app hx h6, g3, g4⟩
  unfold mR; rw [g4]; exact h3
theorem C_outJ2 (hq : q + 1 < 202) (h : SecOK w b) {i : Nat} (hi : i < w (b + 1)) (K : Int32 → Mem → Option ((Int32 ⊕ String) × Mem)) : ∀ (d j n : Nat) (M : Mem) (O : TS), OS w b q M O → OB O → j + d = w (b + 2) → O.2 + d ≤ 60 → d < n →
    ∃ M' x, F_X8_renderScore_L2 1 q (nI i) K n (nI j) M = K x M' ∧ OS w b q M' (outJ (notesOf w b) i O j d) ∧ Same (fun b _ => b ≠ 202 ∧ b ≠ 203) M M' ∧ M'.2 = M.2 := by
  have h1 := h.2.1
  have h2 := h.2.2.1
  have hf := (NOK.of h).all
  intro d
  induction d with
  | zero =>
    intro j n M O hS hO e e6 hn
    obtain ⟨n, rfl⟩ : ∃ m, n = m + 1 := ⟨n - 1, by omega⟩
    refine ⟨M, nI j, ?_, hS, Same.refl _ _, rfl⟩
    rw [F_X8_renderScore_L2, hS.1.2.2.1, if_pos (nI_le (by omega) (by omega))]
  | succ d ih =>
    intro j n M O hS hO e e6 hn
    obtain ⟨n, rfl⟩ : ∃ m, n = m + 1 := ⟨n - 1, by omega⟩
    have hx := hf (6 * i + j) (by omega)
    obtain ⟨M1, g1, g2, g3, g4, g5⟩ := C_appO hq hS hO (x := 48 + notesOf w b (6 * i + j)) (by omega) (by omega)
    obtain ⟨M2, x, k1, k2, k3, k4⟩ := ih (j + 1) n M1 _ g2 g3 (by omega) (by show O.2 + 1 + d ≤ 60; omega) (by omega)
    refine ⟨M2, x, ?_, k2, g4.trans k3, k4.trans g5⟩
    rw [F_X8_renderScore_L2, hS.1.2.2.1, if_neg (nI_ge (by omega) (by omega)), C_noteS hS.1 h hi (by omega), ob_s, digit_s hx, ob_s, g1, b1_s, lt_v, nI_1, k1]
theorem C_outJ3 (hq : q + 1 < 202) (h : SecOK w b) {i : Nat} (hi : i < w (b + 1)) (K : Int32 → Mem → Option ((Int32 ⊕ String) × Mem)) : ∀ (d j n : Nat) (M : Mem) (O : TS), OS w b q M O → OB O → j + d = w (b + 2) → O.2 + d ≤ 60 → d < n →
    ∃ M' x, F_X8_renderScore_L3 1 q (nI i) K n (nI j) M = K x M' ∧ OS w b q M' (outJ (notesOf w b) i O j d) ∧ Same (fun b _ => b ≠ 202 ∧ b ≠ 203) M M' ∧ M'.2 = M.2 := by
  have h1 := h.2.1
  have h2 := h.2.2.1
  have hf := (NOK.of h).all
  intro d
  induction d with
  | zero =>
    intro j n M O hS hO e e6 hn
    obtain ⟨n, rfl⟩ : ∃ m, n = m + 1 := ⟨n - 1, by omega⟩
    refine ⟨M, nI j, ?_, hS, Same.refl _ _, rfl⟩
    rw [F_X8_renderScore_L3, hS.1.2.2.1, if_pos (nI_le (by omega) (by omega))]
  | succ d ih =>
    intro j n M O hS hO e e6 hn
    obtain ⟨n, rfl⟩ : ∃ m, n = m + 1 := ⟨n - 1, by omega⟩
    have hx := hf (6 * i + j) (by omega)
    obtain ⟨M1, g1, g2, g3, g4, g5⟩ := C_appO hq hS hO (x := 48 + notesOf w b (6 * i + j)) (by omega) (by omega)
    obtain ⟨M2, x, k1, k2, k3, k4⟩ := ih (j + 1) n M1 _ g2 g3 (by omega) (by show O.2 + 1 + d ≤ 60; omega) (by omega)
    refine ⟨M2, x, ?_, k2, g4.trans k3, k4.trans g5⟩
    rw [F_X8_renderScore_L3, hS.1.2.2.1, if_neg (nI_ge (by omega) (by omega)), C_noteS hS.1 h hi (by omega), ob_s, digit_s hx, ob_s, g1, b1_s, lt_v, nI_1, k1]
theorem C_outI (hq : q + 1 < 202) (h : SecOK w b) (K : Int32 → Mem → Option ((Int32 ⊕ String) × Mem)) : ∀ (d i n : Nat) (M : Mem) (O : TS), OS w b q M O → OB O → i + d = w (b + 1) → O.2 + 7 * d ≤ 60 → d < n →
    ∃ M' x, F_X8_renderScore_L1 1 q K n (nI i) M = K x M' ∧ OS w b q M' (outI (notesOf w b) (w (b + 2)) O i d) ∧ OB (outI (notesOf w b) (w (b + 2)) O i d) ∧ Same (fun b _ => b ≠ 202 ∧ b ≠ 203) M M' ∧ M'.2 = M.2 := by
  have h1 := h.2.1
  have h2 := h.2.2.1
  have hf := (NOK.of h).all
  intro d
  induction d with
  | zero =>
    intro i n M O hS hO e e6 hn
    obtain ⟨n, rfl⟩ : ∃ m, n = m + 1 := ⟨n - 1, by omega⟩
    refine ⟨M, nI i, ?_, hS, hO, Same.refl _ _, rfl⟩
    rw [F_X8_renderScore_L1, hS.1.2.1, if_pos (nI_le (by omega) (by omega))]
  | succ d ih =>
    intro i n M O hS hO e e6 hn
    obtain ⟨n, rfl⟩ : ∃ m, n = m + 1 := ⟨n - 1, by omega⟩
    by_cases i0 : i = 0
    · obtain ⟨M1, x, g1, g2, g3, g4⟩ := C_outJ2 hq h (i := i) (by omega) (fun (x37 : Int32) (M38 : Mem) =>
          lt (nI i + 1) (fun (v39 : Int32) =>
          F_X8_renderScore_L1 1 q K n v39 M38)) (w (b + 2)) 0 3000 M O hS hO (by omega) (by omega) (by omega)
      obtain ⟨M2, x2, k1, k2, k3, k4, k5⟩ := ih (i + 1) n M1 _ g2 (outJ_ok (by omega) hf _ _ _ hO (by omega) (by omega)) (by omega) (by rw [outJ_len]; omega) (by omega)
      have e : outI (notesOf w b) (w (b + 2)) O i (d + 1) = outI (notesOf w b) (w (b + 2)) (outJ (notesOf w b) i O 0 (w (b + 2))) (i + 1) d := by
        show outI _ _ (outJ _ i (if i = 0 then O else _) 0 _) _ _ = _
        rw [if_pos i0]
      rw [e]
      refine ⟨M2, x2, ?_, k2, k3, g3.trans k4, k5.trans g4⟩
      rw [F_X8_renderScore_L1, hS.1.2.1, if_neg (nI_ge (by omega) (by omega)), if_pos (by rw [i0]; decide), show (0 : Int32) = nI 0 from rfl, g1, lt_v, nI_1, k1]
    · obtain ⟨M0, a1, a2, a3, a4, a5⟩ := C_appO hq hS hO (x := 47) (by omega) (by omega)
      obtain ⟨M1, x, g1, g2, g3, g4⟩ := C_outJ3 hq h (i := i) (by omega) (fun (x58 : Int32) (M59 : Mem) =>
          lt (nI i + 1) (fun (v60 : Int32) =>
          F_X8_renderScore_L1 1 q K n v60 M59)) (w (b + 2)) 0 3000 M0 _ a2 a3 (by omega) (by show O.2 + 1 + _ ≤ 60; omega) (by omega)
      obtain ⟨M2, x2, k1, k2, k3, k4, k5⟩ := ih (i + 1) n M1 _ g2 (outJ_ok (by omega) hf _ _ _ a3 (by omega) (by show O.2 + 1 + _ ≤ 60; omega)) (by omega) (by rw [outJ_len]; show O.2 + 1 + _ + _ ≤ 60; omega) (by omega)
      have e : outI (notesOf w b) (w (b + 2)) O i (d + 1) = outI (notesOf w b) (w (b + 2)) (outJ (notesOf w b) i (appT O 47) 0 (w (b + 2))) (i + 1) d := by
        show outI _ _ (outJ _ i (if i = 0 then O else _) 0 _) _ _ = _
        rw [if_neg i0]
      rw [e]
      refine ⟨M2, x2, ?_, k2, k3, (a4.trans g3).trans k4, (k5.trans g4).trans a5⟩
      rw [F_X8_renderScore_L1, hS.1.2.1, if_neg (nI_ge (by omega) (by omega)), if_neg (nI_nle (by omega) (by omega)), show (47 : Int32) = nI 47 from rfl, a1, b1_s, show (0 : Int32) = nI 0 from rfl, g1, lt_v, nI_1, k1]
/-- the model's side: the row, the line -/
def OW (w : Row) (M : Mem) (O : TS) : Prop := LM M ∧ WA M 205 260 w ∧ TX M 204 10 210 O
abbrev KpO (a k : Nat) : Prop := a ≠ 210 ∧ ¬ (a = 204 ∧ k = 10)
theorem F_wrO {M : Mem} {O : TS} (h : OW w M O) (hO : OB O) {x : Nat} (hx : x < 128) (h6 : O.2 < 60) : ∃ M', F_X9_writes 204 (nI x) M = some ((), M') ∧ OW w M' (appT O x) ∧ OB (appT O x) ∧ Same KpO M M' ∧ M'.2 = M.2 := by
  obtain ⟨M', g1, g2, g3, g4⟩ := F_writesT h.1 h.2.2 hO hx h6
  exact ⟨M', g1, ⟨h.1.of g4, fun k hk => (g3 205 k (by omega)).1.trans (h.2.1 k hk), g2⟩, hO.app hx h6, g3, g4⟩
theorem F_outJ2 (hs : s < 5) (h : SecOK w (bs s)) {i : Nat} (hi : i < w (bs s + 1)) (K : Int32 → Mem → Option (Int32 × Mem)) : ∀ (d j n : Nat) (M : Mem) (O : TS), OW w M O → OB O → j + d = w (bs s + 2) → O.2 + d ≤ 60 → d < n →
    ∃ M' x, F_X9_renderScore_L2 204 (nI s) (nI i) K n (nI j) M = K x M' ∧ OW w M' (outJ (notesOf w (bs s)) i O j d) ∧ Same KpO M M' ∧ M'.2 = M.2 := by
  have h1 := h.2.1
  have h2 := h.2.2.1
  have hf := (NOK.of h).all
  intro d
  induction d with
  | zero =>
    intro j n M O hS hO e e6 hn
    obtain ⟨n, rfl⟩ : ∃ m, n = m + 1 := ⟨n - 1, by omega⟩
    refine ⟨M, nI j, ?_, hS, Same.refl _ _, rfl⟩
    rw [F_X9_renderScore_L2, show (2 : Int32) = nI 2 from rfl, F_of hS.1 hS.2.1 (by omega), ob_s, if_pos (nI_le (by simp only [bs] at *; omega) (by omega))]
  | succ d ih =>
    intro j n M O hS hO e e6 hn
    obtain ⟨n, rfl⟩ : ∃ m, n = m + 1 := ⟨n - 1, by omega⟩
    have hx := hf (6 * i + j) (by omega)
    obtain ⟨M1, g1, g2, g3, g4, g5⟩ := F_wrO hS hO (x := 48 + notesOf w (bs s) (6 * i + j)) (by omega) (by omega)
    obtain ⟨M2, x, k1, k2, k3, k4⟩ := ih (j + 1) n M1 _ g2 g3 (by omega) (by show O.2 + 1 + d ≤ 60; omega) (by omega)
    refine ⟨M2, x, ?_, k2, g4.trans k3, k4.trans g5⟩
    rw [F_X9_renderScore_L2, show (2 : Int32) = nI 2 from rfl, F_of hS.1 hS.2.1 (by omega), ob_s, if_neg (nI_ge (by simp only [bs] at *; omega) (by simp only [bs] at *; omega)), F_note hS.1 hS.2.1 (by omega), ob_s, show (48 : Int32) = nI 48 from rfl, nI_add, show w (45 + 43 * s + (7 + 6 * i + j)) = notesOf w (bs s) (6 * i + j) by unfold notesOf; congr 1; simp only [bs]; omega, g1, b1_s, lt_v, nI_1, k1]
theorem F_outJ3 (hs : s < 5) (h : SecOK w (bs s)) {i : Nat} (hi : i < w (bs s + 1)) (K : Int32 → Mem → Option (Int32 × Mem)) : ∀ (d j n : Nat) (M : Mem) (O : TS), OW w M O → OB O → j + d = w (bs s + 2) → O.2 + d ≤ 60 → d < n →
    ∃ M' x, F_X9_renderScore_L3 204 (nI s) (nI i) K n (nI j) M = K x M' ∧ OW w M' (outJ (notesOf w (bs s)) i O j d) ∧ Same KpO M M' ∧ M'.2 = M.2 := by
  have h1 := h.2.1
  have h2 := h.2.2.1
  have hf := (NOK.of h).all
  intro d
  induction d with
  | zero =>
    intro j n M O hS hO e e6 hn
    obtain ⟨n, rfl⟩ : ∃ m, n = m + 1 := ⟨n - 1, by omega⟩
    refine ⟨M, nI j, ?_, hS, Same.refl _ _, rfl⟩
    rw [F_X9_renderScore_L3, show (2 : Int32) = nI 2 from rfl, F_of hS.1 hS.2.1 (by omega), ob_s, if_pos (nI_le (by simp only [bs] at *; omega) (by omega))]
  | succ d ih =>
    intro j n M O hS hO e e6 hn
    obtain ⟨n, rfl⟩ : ∃ m, n = m + 1 := ⟨n - 1, by omega⟩
    have hx := hf (6 * i + j) (by omega)
    obtain ⟨M1, g1, g2, g3, g4, g5⟩ := F_wrO hS hO (x := 48 + notesOf w (bs s) (6 * i + j)) (by omega) (by omega)
    obtain ⟨M2, x, k1, k2, k3, k4⟩ := ih (j + 1) n M1 _ g2 g3 (by omega) (by show O.2 + 1 + d ≤ 60; omega) (by omega)
    refine ⟨M2, x, ?_, k2, g4.trans k3, k4.trans g5⟩
    rw [F_X9_renderScore_L3, show (2 : Int32) = nI 2 from rfl, F_of hS.1 hS.2.1 (by omega), ob_s, if_neg (nI_ge (by simp only [bs] at *; omega) (by simp only [bs] at *; omega)), F_note hS.1 hS.2.1 (by omega), ob_s, show (48 : Int32) = nI 48 from rfl, nI_add, show w (45 + 43 * s + (7 + 6 * i + j)) = notesOf w (bs s) (6 * i + j) by unfold notesOf; congr 1; simp only [bs]; omega, g1, b1_s, lt_v, nI_1, k1]
theorem F_outI (hs : s < 5) (h : SecOK w (bs s)) (K : Int32 → Mem → Option (Int32 × Mem)) : ∀ (d i n : Nat) (M : Mem) (O : TS), OW w M O → OB O → i + d = w (bs s + 1) → O.2 + 7 * d ≤ 60 → d < n →
    ∃ M' x, F_X9_renderScore_L1 204 (nI s) K n (nI i) M = K x M' ∧ OW w M' (outI (notesOf w (bs s)) (w (bs s + 2)) O i d) ∧ Same KpO M M' ∧ M'.2 = M.2 := by
  have h1 := h.2.1
  have h2 := h.2.2.1
  have hf := (NOK.of h).all
  intro d
  induction d with
  | zero =>
    intro i n M O hS hO e e6 hn
    obtain ⟨n, rfl⟩ : ∃ m, n = m + 1 := ⟨n - 1, by omega⟩
    refine ⟨M, nI i, ?_, hS, Same.refl _ _, rfl⟩
    rw [F_X9_renderScore_L1, show (1 : Int32) = nI 1 from rfl, F_of hS.1 hS.2.1 (by omega), ob_s, if_pos (nI_le (by simp only [bs] at *; omega) (by omega))]
  | succ d ih =>
    intro i n M O hS hO e e6 hn
    obtain ⟨n, rfl⟩ : ∃ m, n = m + 1 := ⟨n - 1, by omega⟩
    by_cases i0 : i = 0
    · obtain ⟨M1, x, g1, g2, g3, g4⟩ := F_outJ2 hs h (i := i) (by omega) (fun (x36 : Int32) (M37 : Mem) =>
            lt (nI i + 1) (fun (v38 : Int32) =>
            F_X9_renderScore_L1 204 (nI s) K n v38 M37)) (w (bs s + 2)) 0 3000 M O hS hO (by omega) (by omega) (by omega)
      obtain ⟨M2, x2, k1, k2, k3, k4⟩ := ih (i + 1) n M1 _ g2 (outJ_ok (by omega) hf _ _ _ hO (by omega) (by omega)) (by omega) (by rw [outJ_len]; omega) (by omega)
      have e : outI (notesOf w (bs s)) (w (bs s + 2)) O i (d + 1) = outI (notesOf w (bs s)) (w (bs s + 2)) (outJ (notesOf w (bs s)) i O 0 (w (bs s + 2))) (i + 1) d := by
        show outI _ _ (outJ _ i (if i = 0 then O else _) 0 _) _ _ = _
        rw [if_pos i0]
      rw [e]
      refine ⟨M2, x2, ?_, k2, g3.trans k3, k4.trans g4⟩
      rw [F_X9_renderScore_L1, show (1 : Int32) = nI 1 from rfl, F_of hS.1 hS.2.1 (by omega), ob_s, if_neg (nI_ge (by simp only [bs] at *; omega) (by simp only [bs] at *; omega)), if_pos (by rw [i0]; decide), show (0 : Int32) = nI 0 from rfl, show (nI 1 : Int32) = 1 from rfl, g1, lt_v, nI_1, k1]
    · obtain ⟨M0, a1, a2, a3, a4, a5⟩ := F_wrO hS hO (x := 47) (by omega) (by omega)
      obtain ⟨M1, x, g1, g2, g3, g4⟩ := F_outJ3 hs h (i := i) (by omega) (fun (x55 : Int32) (M56 : Mem) =>
            lt (nI i + 1) (fun (v57 : Int32) =>
            F_X9_renderScore_L1 204 (nI s) K n v57 M56)) (w (bs s + 2)) 0 3000 M0 _ a2 a3 (by omega) (by show O.2 + 1 + _ ≤ 60; omega) (by omega)
      obtain ⟨M2, x2, k1, k2, k3, k4⟩ := ih (i + 1) n M1 _ g2 (outJ_ok (by omega) hf _ _ _ a3 (by omega) (by show O.2 + 1 + _ ≤ 60; omega)) (by omega) (by rw [outJ_len]; show O.2 + 1 + _ + _ ≤ 60; omega) (by omega)
      have e : outI (notesOf w (bs s)) (w (bs s + 2)) O i (d + 1) = outI (notesOf w (bs s)) (w (bs s + 2)) (outJ (notesOf w (bs s)) i (appT O 47) 0 (w (bs s + 2))) (i + 1) d := by
        show outI _ _ (outJ _ i (if i = 0 then O else _) 0 _) _ _ = _
        rw [if_neg i0]
      rw [e]
      refine ⟨M2, x2, ?_, k2, (a4.trans g3).trans k3, (k4.trans g4).trans a5⟩
      rw [F_X9_renderScore_L1, show (1 : Int32) = nI 1 from rfl, F_of hS.1 hS.2.1 (by omega), ob_s, if_neg (nI_ge (by simp only [bs] at *; omega) (by simp only [bs] at *; omega)), if_neg (nI_nle (by omega) (by omega)), show (47 : Int32) = nI 47 from rfl, a1, b1_s, show (0 : Int32) = nI 0 from rfl, show (nI 1 : Int32) = 1 from rfl, g1, lt_v, nI_1, k1]
end OUT
