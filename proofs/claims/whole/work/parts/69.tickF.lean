/-! PURE LEVEL: one beat, the model -/
def tireRow (r : Row) (b : Nat) : Row := if r (b + 4) + 1 < 3 then upR r (b + 4) (r (b + 4) + 1) else upR (upR r (b + 4) 0) (b + 5) 2
def logRow (r : Row) (t : Nat) : Row := fun k => if k = 7 then min (r 7 + 1) 10 else if k = 8 then t else if 8 < k ∧ k < 8 + min (r 7 + 1) 10 then r (k - 1) else if k = 6 then max (r 6) t else r k
def tick1 (r : Row) : Row × Nat × Nat × Nat := beatIt r 0 0 0 0 (r 0)
def tick2 (r : Row) : Row := if r 3 < (tick1 r).2.1 then tireRow (upR (tick1 r).1 4 ((tick1 r).1 4 + 1)) (bs (tick1 r).2.2.1) else (tick1 r).1
def tick3 (r : Row) : Row := upR (upR (tick2 r) 1 (tick2 r 1 + 1)) 5 (tick2 r 5 + (tick1 r).2.1)
def tick (r : Row) : Row := logRow (tick3 r) (tick1 r).2.1
theorem WA.eq {M : Mem} {q n : Nat} {r r' : Row} (h : WA M q n r) (e : ∀ k, k < n → r' k = r k) : WA M q n r' := fun k hk => by rw [e k hk]; exact h k hk
theorem upR_upR (r : Row) (k x y : Nat) : upR (upR r k x) k y = upR r k y := funext fun j => by unfold upR; split <;> rfl
theorem F_tires {M : Mem} {w : Row} (hL : LM M) (hw : WA M 205 260 w) {s : Nat} (hs : s < 5) (h4 : w (bs s + 4) < 100) : ∃ M', F_X9_tires 204 (nI s) M = some ((), M') ∧ WA M' 205 260 (tireRow w (bs s)) ∧ Only M M' 205 := by
  obtain ⟨p1, p2⟩ := F_puts hL hw (s := s) (k := 4) (w (bs s + 4) + 1) (by omega)
  have hL1 : LM (sI M 205 (45 + 43 * s + 4) (nI (w (bs s + 4) + 1))) := hL.of rfl
  unfold F_X9_tires
  rw [show (4 : Int32) = nI 4 from rfl, F_of hL hw (by omega), ob_s, show (1 : Int32) = nI 1 from rfl, nI_add, p1, b1_s, F_of hL1 p2 (by omega), ob_s, upR_s, show (3 : Int32) = nI 3 from rfl]
  simp only [nI_leI (show 3 < 2 ^ 31 by decide) (show w (bs s + 4) + 1 < 2 ^ 31 by omega)]
  by_cases hc : w (bs s + 4) + 1 < 3
  · rw [if_neg (by omega)]
    refine ⟨_, rfl, ?_, Only.put _ _ _ _⟩
    unfold tireRow; rw [if_pos hc]; exact p2
  · obtain ⟨p3, p4⟩ := F_puts hL1 p2 (s := s) (k := 4) 0 (by omega)
    have hL2 : LM (sI (sI M 205 (45 + 43 * s + 4) (nI (w (bs s + 4) + 1))) 205 (45 + 43 * s + 4) (nI 0)) := hL.of rfl
    obtain ⟨p5, p6⟩ := F_puts hL2 p4 (s := s) (k := 5) 2 (by omega)
    rw [if_pos (by omega), show (0 : Int32) = nI 0 from rfl, p3, b1_s, show (5 : Int32) = nI 5 from rfl, show (2 : Int32) = nI 2 from rfl, p5, b1_s]
    refine ⟨_, rfl, ?_, ((Only.put _ _ _ _).trans (Only.put _ _ _ _)).trans (Only.put _ _ _ _)⟩
    unfold tireRow; rw [if_neg hc]
    rw [upR_upR] at p6
    exact p6
theorem nI_dec (i : Nat) : nI (i + 1) + (-1) = nI i := by
  rw [nI_succ, Int32.add_assoc, show (1 : Int32) + -1 = 0 by decide, Int32.add_zero]
def shRow (r : Row) (i : Nat) : Row := fun k => if 8 < k ∧ k ≤ 8 + i then r (k - 1) else r k
theorem F_logL1 (K : Int32 → Mem → Option (Unit × Mem)) : ∀ (i n : Nat) (M : Mem) (r : Row), LM M → WA M 205 260 r → i < 10 → i < n → ∃ M', F_X9_logs_L1 204 K n (nI i) M = K (nI 0) M' ∧ WA M' 205 260 (shRow r i) ∧ Only M M' 205 := by
  intro i
  induction i with
  | zero =>
    intro n M r hL hw _ hn
    obtain ⟨n, rfl⟩ : ∃ m, n = m + 1 := ⟨n - 1, by omega⟩
    refine ⟨M, ?_, hw.eq (fun k _ => by unfold shRow; rw [if_neg (by omega)]), Only.refl _ _⟩
    rw [F_X9_logs_L1, if_pos (by decide)]
  | succ i ih =>
    intro n M r hL hw hi hn
    obtain ⟨n, rfl⟩ : ∃ m, n = m + 1 := ⟨n - 1, by omega⟩
    rw [F_X9_logs_L1, if_neg (nI_nle (by omega) (by omega)), nI_dec, show (8 : Int32) = nI 8 from rfl, show (1 : Int32) = nI 1 from rfl, nI_add, nI_sub (by omega), chk_t (inb_n (by omega) (by decide)), chk_t (inb_n (by omega) (by decide)), lt_v, lt_v, hL.1, nI_clamp (by omega), nI_clamp (by omega), hw.at (by omega)]
    obtain ⟨M', g1, g2, g3⟩ := ih n (sI M 205 (8 + (i + 1)) (nI (r (8 + (i + 1) - 1)))) _ (hL.of rfl) (hw.put (8 + (i + 1)) (r (8 + (i + 1) - 1))) (by omega) (by omega)
    refine ⟨M', g1, g2.eq (fun k _ => ?_), (Only.put _ _ _ _).trans g3⟩
    unfold shRow upR
    by_cases h1 : k = 8 + (i + 1)
    · subst h1
      rw [if_pos (by omega), if_neg (by omega), if_pos rfl]
    · by_cases h2 : 8 < k ∧ k ≤ 8 + i
      · rw [if_pos (by omega), if_pos h2, if_neg (by omega)]
      · rw [if_neg (by omega), if_neg h2, if_neg h1]
theorem F_logL2 (K : Int32 → Mem → Option (Unit × Mem)) : ∀ (i n : Nat) (M : Mem) (r : Row), LM M → WA M 205 260 r → i < 10 → i < n → ∃ M', F_X9_logs_L2 204 K n (nI i) M = K (nI 0) M' ∧ WA M' 205 260 (shRow r i) ∧ Only M M' 205 := by
  intro i
  induction i with
  | zero =>
    intro n M r hL hw _ hn
    obtain ⟨n, rfl⟩ : ∃ m, n = m + 1 := ⟨n - 1, by omega⟩
    refine ⟨M, ?_, hw.eq (fun k _ => by unfold shRow; rw [if_neg (by omega)]), Only.refl _ _⟩
    rw [F_X9_logs_L2, if_pos (by decide)]
  | succ i ih =>
    intro n M r hL hw hi hn
    obtain ⟨n, rfl⟩ : ∃ m, n = m + 1 := ⟨n - 1, by omega⟩
    rw [F_X9_logs_L2, if_neg (nI_nle (by omega) (by omega)), nI_dec, show (8 : Int32) = nI 8 from rfl, show (1 : Int32) = nI 1 from rfl, nI_add, nI_sub (by omega), chk_t (inb_n (by omega) (by decide)), chk_t (inb_n (by omega) (by decide)), lt_v, lt_v, hL.1, nI_clamp (by omega), nI_clamp (by omega), hw.at (by omega)]
    obtain ⟨M', g1, g2, g3⟩ := ih n (sI M 205 (8 + (i + 1)) (nI (r (8 + (i + 1) - 1)))) _ (hL.of rfl) (hw.put (8 + (i + 1)) (r (8 + (i + 1) - 1))) (by omega) (by omega)
    refine ⟨M', g1, g2.eq (fun k _ => ?_), (Only.put _ _ _ _).trans g3⟩
    unfold shRow upR
    by_cases h1 : k = 8 + (i + 1)
    · subst h1
      rw [if_pos (by omega), if_neg (by omega), if_pos rfl]
    · by_cases h2 : 8 < k ∧ k ≤ 8 + i
      · rw [if_pos (by omega), if_pos h2, if_neg (by omega)]
      · rw [if_neg (by omega), if_neg h2, if_neg h1]
theorem imax {a b : Nat} (ha : a < 2 ^ 31) (hb : b < 2 ^ 31) : (if nI a < nI b then nI b else nI a) = nI (max a b) := by
  simp only [nI_ltI ha hb]
  split
  · rw [Nat.max_eq_right (by omega)]
  · rw [Nat.max_eq_left (by omega)]
theorem logRow_sh (r : Row) (t n : Nat) (hn : min (r 7 + 1) 10 = n + 1) (r1 : Row) (h7 : ∀ k, r1 k = if k = 7 then n + 1 else r k) : ∀ k, k < 260 → logRow r t k = (if k = 6 then max (r 6) t else upR (shRow r1 n) 8 t k) := by
  intro k _
  unfold logRow upR shRow
  rw [hn]
  by_cases a : k = 7
  · subst a; rw [if_pos rfl, if_neg (by omega), if_neg (by omega), if_neg (by omega), h7, if_pos rfl]
  · by_cases b : k = 8
    · subst b; rw [if_neg (by omega), if_pos rfl, if_neg (by omega), if_pos rfl]
    · by_cases c : 8 < k ∧ k < 8 + (n + 1)
      · rw [if_neg a, if_neg b, if_pos c, if_neg (by omega), if_neg b, if_pos (by omega), h7, if_neg (by omega)]
      · by_cases d : k = 6
        · rw [if_neg a, if_neg b, if_neg c, if_pos d, if_pos d]
        · rw [if_neg a, if_neg b, if_neg c, if_neg d, if_neg d, if_neg b, if_neg (by omega), h7, if_neg a]
theorem F_logs {M : Mem} {w : Row} (hL : LM M) (hw : WA M 205 260 w) (h7 : w 7 ≤ 10) (h6 : w 6 < 2 ^ 31) {t : Nat} (ht : t < 2 ^ 31) : ∃ M', F_X9_logs 204 (nI t) M = some ((), M') ∧ WA M' 205 260 (logRow w t) ∧ Only M M' 205 := by
  have ends : ∀ (n : Nat) (r1 : Row), min (w 7 + 1) 10 = n + 1 → (∀ k, r1 k = if k = 7 then n + 1 else w k) → ∀ M1, WA M1 205 260 (shRow r1 n) → Only M M1 205 → ∃ M',
      (chk (inb 8 260) (lt (sI M1 (mR M1 204 1) (8) (nI t)) (fun (M22 : Mem) => chk (inb 6 260) (if nI t ≤ (mI M22 (mR M22 204 1) 6) then some ((), M22) else chk (inb 6 260) (lt (sI M22 (mR M22 204 1) (6) (nI t)) (fun (M28 : Mem) => some ((), M28)))))) : Option (Unit × Mem)) = some ((), M') ∧ WA M' 205 260 (logRow w t) ∧ Only M M' 205 := by
    intro n r1 hn h1 M1 hw1 hO
    have hw2 := hw1.put 8 t
    have e6 : upR (shRow r1 n) 8 t 6 = w 6 := by rw [upR_n _ _ (by omega)]; unfold shRow; rw [if_neg (by omega), h1, if_neg (by omega)]
    have hL1 := hL.of hO.2
    have hL2 : LM (sI M1 205 8 (nI t)) := hL1.of rfl
    rw [chk_t (by decide), lt_v, hL1.1, chk_t (by decide), hL2.1, hw2.at (k := 6) (by decide), e6]
    simp only [nI_leI ht h6]
    by_cases hc : t ≤ w 6
    · rw [if_pos hc]
      refine ⟨_, rfl, hw2.eq fun k hk => ?_, hO.trans (Only.put _ _ _ _)⟩
      rw [logRow_sh w t n hn r1 h1 k hk]
      split
      · rename_i e; rw [e, e6, Nat.max_eq_left hc]
      · rfl
    · rw [if_neg hc, chk_t (by decide), lt_v]
      refine ⟨_, rfl, (hw2.put 6 t).eq fun k hk => ?_, (hO.trans (Only.put _ _ _ _)).trans (Only.put _ _ _ _)⟩
      rw [logRow_sh w t n hn r1 h1 k hk]
      split
      · rename_i e; rw [e, upR_s, Nat.max_eq_right (by omega)]
      · rename_i e; rw [upR_n _ _ e]
  unfold F_X9_logs
  rw [chk_t (by decide), hL.1, hw.at (k := 7) (by decide), show (10 : Int32) = nI 10 from rfl]
  simp only [nI_leI (show 10 < 2 ^ 31 by decide) (show w 7 < 2 ^ 31 by omega)]
  by_cases hc : 10 ≤ w 7
  · have e7 : w 7 = 9 + 1 := by omega
    rw [if_pos hc, chk_t (by decide), lt_v, e7, nI_pred]
    obtain ⟨M1, g1, g2, g3⟩ := F_logL1 (fun (x18 : Int32) (M19 : Mem) =>
      chk (inb 8 260) (lt (sI M19 (mR M19 204 1) (8) (nI t)) (fun (M22 : Mem) => chk (inb 6 260) (if nI t ≤ (mI M22 (mR M22 204 1) 6) then some ((), M22) else chk (inb 6 260) (lt (sI M22 (mR M22 204 1) (6) (nI t)) (fun (M28 : Mem) => some ((), M28))))))) 9 3000 M w hL hw (by omega) (by omega)
    rw [g1]
    exact ends 9 w (by omega) (fun k => by split <;> (try rename_i e; try rw [e]; try omega) <;> rfl) M1 g2 g3
  · have hw1 := hw.put 7 (w 7 + 1)
    have hL1 : LM (sI M 205 7 (nI (w 7 + 1))) := hL.of rfl
    rw [if_neg hc, chk_t (by decide), chk_t (by decide), lt_v, show (1 : Int32) = nI 1 from rfl, nI_add, chk_t (by decide), lt_v, hL1.1, hw1.at (k := 7) (by decide), upR_s, nI_sub (by omega), Nat.add_sub_cancel]
    obtain ⟨M1, g1, g2, g3⟩ := F_logL2 (fun (x18 : Int32) (M19 : Mem) =>
      chk (inb 8 260) (lt (sI M19 (mR M19 204 1) (8) (nI t)) (fun (M22 : Mem) => chk (inb 6 260) (if nI t ≤ (mI M22 (mR M22 204 1) 6) then some ((), M22) else chk (inb 6 260) (lt (sI M22 (mR M22 204 1) (6) (nI t)) (fun (M28 : Mem) => some ((), M28))))))) (w 7) 3000 _ _ hL1 hw1 (by omega) (by omega)
    rw [g1]
    exact ends (w 7) _ (by omega) (fun k => rfl) M1 g2 ((Only.put _ _ _ _).trans g3)
