/-! PURE LEVEL: the rows that the model copies -/
theorem F_copies_L1 (K : Int32 → Mem → Option (Unit × Mem)) : ∀ (d i n : Nat) (M : Mem), LM M → i + d = 260 → d < n → ∃ M', F_X9_copies_L1 204 K n (nI i) M = K (nI 260) M' ∧ (∀ k, mI M' 208 k = if i ≤ k ∧ k < 260 then mI M 205 k else mI M 208 k) ∧ Only M M' 208 := by
  intro d
  induction d with
  | zero =>
    intro i n M hL e hn
    obtain ⟨n, rfl⟩ : ∃ m, n = m + 1 := ⟨n - 1, by omega⟩
    refine ⟨M, ?_, fun k => by rw [if_neg (by omega)], Only.refl _ _⟩
    rw [F_X9_copies_L1, show (260 : Int32) = nI 260 from rfl, if_pos (nI_le (by omega) (by omega)), show i = 260 by omega]
  | succ d ih =>
    intro i n M hL e hn
    obtain ⟨n, rfl⟩ : ∃ m, n = m + 1 := ⟨n - 1, by omega⟩
    have hL1 : LM (sI M 208 (i) (mI M 205 (i))) := hL.of rfl
    obtain ⟨M', g1, g2, g3⟩ := ih (i + 1) n _ hL1 (by omega) (by omega)
    refine ⟨M', ?_, fun k => ?_, (Only.put _ _ _ _).trans g3⟩
    · rw [F_X9_copies_L1, show (260 : Int32) = nI 260 from rfl, if_neg (nI_ge (by omega) (by omega)), chk_t (inb_n (by omega) (by decide)), chk_t (inb_n (by omega) (by decide)), lt_v, lt_v, hL.2.2.2.1, hL.1, show (1 : Int32) = nI 1 from rfl, nI_add]
      rw [nI_clamp (by omega)]
      exact g1
    · rw [g2 k, mI_sI, mI_sI]
      by_cases h : k = i
      · subst h
        rw [if_neg (by omega), if_pos ⟨rfl, rfl⟩, if_pos (by omega)]
      · by_cases h2 : i + 1 ≤ k ∧ k < 260
        · rw [if_pos h2, if_neg (by omega), if_pos (by omega)]
        · rw [if_neg h2, if_neg (fun z => h z.2), if_neg (by omega)]

theorem F_goesBack_L1 (K : Int32 → Mem → Option (Unit × Mem)) : ∀ (d i n : Nat) (M : Mem), LM M → i + d = 260 → d < n → ∃ M', F_X9_goesBack_L1 204 K n (nI i) M = K (nI 260) M' ∧ (∀ k, mI M' 205 k = if i ≤ k ∧ k < 260 then mI M 208 k else mI M 205 k) ∧ Only M M' 205 := by
  intro d
  induction d with
  | zero =>
    intro i n M hL e hn
    obtain ⟨n, rfl⟩ : ∃ m, n = m + 1 := ⟨n - 1, by omega⟩
    refine ⟨M, ?_, fun k => by rw [if_neg (by omega)], Only.refl _ _⟩
    rw [F_X9_goesBack_L1, show (260 : Int32) = nI 260 from rfl, if_pos (nI_le (by omega) (by omega)), show i = 260 by omega]
  | succ d ih =>
    intro i n M hL e hn
    obtain ⟨n, rfl⟩ : ∃ m, n = m + 1 := ⟨n - 1, by omega⟩
    have hL1 : LM (sI M 205 (i) (mI M 208 (i))) := hL.of rfl
    obtain ⟨M', g1, g2, g3⟩ := ih (i + 1) n _ hL1 (by omega) (by omega)
    refine ⟨M', ?_, fun k => ?_, (Only.put _ _ _ _).trans g3⟩
    · rw [F_X9_goesBack_L1, show (260 : Int32) = nI 260 from rfl, if_neg (nI_ge (by omega) (by omega)), chk_t (inb_n (by omega) (by decide)), chk_t (inb_n (by omega) (by decide)), lt_v, lt_v, hL.1, hL.2.2.2.1, show (1 : Int32) = nI 1 from rfl, nI_add]
      rw [nI_clamp (by omega)]
      exact g1
    · rw [g2 k, mI_sI, mI_sI]
      by_cases h : k = i
      · subst h
        rw [if_neg (by omega), if_pos ⟨rfl, rfl⟩, if_pos (by omega)]
      · by_cases h2 : i + 1 ≤ k ∧ k < 260
        · rw [if_pos h2, if_neg (by omega), if_pos (by omega)]
        · rw [if_neg h2, if_neg (fun z => h z.2), if_neg (by omega)]

theorem F_looksAhead_L1 (K : Int32 → Mem → Option (Unit × Mem)) : ∀ (d i n : Nat) (M : Mem), LM M → i + d = 260 → d < n → ∃ M', F_X9_looksAhead_L1 204 K n (nI i) M = K (nI 260) M' ∧ (∀ k, mI M' 209 k = if i ≤ k ∧ k < 260 then mI M 205 k else mI M 209 k) ∧ Only M M' 209 := by
  intro d
  induction d with
  | zero =>
    intro i n M hL e hn
    obtain ⟨n, rfl⟩ : ∃ m, n = m + 1 := ⟨n - 1, by omega⟩
    refine ⟨M, ?_, fun k => by rw [if_neg (by omega)], Only.refl _ _⟩
    rw [F_X9_looksAhead_L1, show (260 : Int32) = nI 260 from rfl, if_pos (nI_le (by omega) (by omega)), show i = 260 by omega]
  | succ d ih =>
    intro i n M hL e hn
    obtain ⟨n, rfl⟩ : ∃ m, n = m + 1 := ⟨n - 1, by omega⟩
    have hL1 : LM (sI M 209 (i) (mI M 205 (i))) := hL.of rfl
    obtain ⟨M', g1, g2, g3⟩ := ih (i + 1) n _ hL1 (by omega) (by omega)
    refine ⟨M', ?_, fun k => ?_, (Only.put _ _ _ _).trans g3⟩
    · rw [F_X9_looksAhead_L1, show (260 : Int32) = nI 260 from rfl, if_neg (nI_ge (by omega) (by omega)), chk_t (inb_n (by omega) (by decide)), chk_t (inb_n (by omega) (by decide)), lt_v, lt_v, hL.2.2.2.2.1, hL.1, show (1 : Int32) = nI 1 from rfl, nI_add]
      rw [nI_clamp (by omega)]
      exact g1
    · rw [g2 k, mI_sI, mI_sI]
      by_cases h : k = i
      · subst h
        rw [if_neg (by omega), if_pos ⟨rfl, rfl⟩, if_pos (by omega)]
      · by_cases h2 : i + 1 ≤ k ∧ k < 260
        · rw [if_pos h2, if_neg (by omega), if_pos (by omega)]
        · rw [if_neg h2, if_neg (fun z => h z.2), if_neg (by omega)]

theorem F_looksBack_L1 (K : Int32 → Mem → Option (Unit × Mem)) : ∀ (d i n : Nat) (M : Mem), LM M → i + d = 260 → d < n → ∃ M', F_X9_looksBack_L1 204 K n (nI i) M = K (nI 260) M' ∧ (∀ k, mI M' 205 k = if i ≤ k ∧ k < 260 then mI M 209 k else mI M 205 k) ∧ Only M M' 205 := by
  intro d
  induction d with
  | zero =>
    intro i n M hL e hn
    obtain ⟨n, rfl⟩ : ∃ m, n = m + 1 := ⟨n - 1, by omega⟩
    refine ⟨M, ?_, fun k => by rw [if_neg (by omega)], Only.refl _ _⟩
    rw [F_X9_looksBack_L1, show (260 : Int32) = nI 260 from rfl, if_pos (nI_le (by omega) (by omega)), show i = 260 by omega]
  | succ d ih =>
    intro i n M hL e hn
    obtain ⟨n, rfl⟩ : ∃ m, n = m + 1 := ⟨n - 1, by omega⟩
    have hL1 : LM (sI M 205 (i) (mI M 209 (i))) := hL.of rfl
    obtain ⟨M', g1, g2, g3⟩ := ih (i + 1) n _ hL1 (by omega) (by omega)
    refine ⟨M', ?_, fun k => ?_, (Only.put _ _ _ _).trans g3⟩
    · rw [F_X9_looksBack_L1, show (260 : Int32) = nI 260 from rfl, if_neg (nI_ge (by omega) (by omega)), chk_t (inb_n (by omega) (by decide)), chk_t (inb_n (by omega) (by decide)), lt_v, lt_v, hL.1, hL.2.2.2.2.1, show (1 : Int32) = nI 1 from rfl, nI_add]
      rw [nI_clamp (by omega)]
      exact g1
    · rw [g2 k, mI_sI, mI_sI]
      by_cases h : k = i
      · subst h
        rw [if_neg (by omega), if_pos ⟨rfl, rfl⟩, if_pos (by omega)]
      · by_cases h2 : i + 1 ≤ k ∧ k < 260
        · rw [if_pos h2, if_neg (by omega), if_pos (by omega)]
        · rw [if_neg h2, if_neg (fun z => h z.2), if_neg (by omega)]

theorem F_save_L1 (K : Int32 → Mem → Option (Int32 × Mem)) : ∀ (d i n : Nat) (M : Mem), LM M → i + d = 260 → d < n → ∃ M', F_X9_save_L1 204 K n (nI i) M = K (nI 260) M' ∧ (∀ k, mI M' 207 k = if i ≤ k ∧ k < 260 then mI M 205 k else mI M 207 k) ∧ Only M M' 207 := by
  intro d
  induction d with
  | zero =>
    intro i n M hL e hn
    obtain ⟨n, rfl⟩ : ∃ m, n = m + 1 := ⟨n - 1, by omega⟩
    refine ⟨M, ?_, fun k => by rw [if_neg (by omega)], Only.refl _ _⟩
    rw [F_X9_save_L1, show (260 : Int32) = nI 260 from rfl, if_pos (nI_le (by omega) (by omega)), show i = 260 by omega]
  | succ d ih =>
    intro i n M hL e hn
    obtain ⟨n, rfl⟩ : ∃ m, n = m + 1 := ⟨n - 1, by omega⟩
    have hL1 : LM (sI M 207 (i) (mI M 205 (i))) := hL.of rfl
    obtain ⟨M', g1, g2, g3⟩ := ih (i + 1) n _ hL1 (by omega) (by omega)
    refine ⟨M', ?_, fun k => ?_, (Only.put _ _ _ _).trans g3⟩
    · rw [F_X9_save_L1, show (260 : Int32) = nI 260 from rfl, if_neg (nI_ge (by omega) (by omega)), chk_t (inb_n (by omega) (by decide)), chk_t (inb_n (by omega) (by decide)), lt_v, lt_v, hL.2.2.1, hL.1, show (1 : Int32) = nI 1 from rfl, nI_add]
      rw [nI_clamp (by omega)]
      exact g1
    · rw [g2 k, mI_sI, mI_sI]
      by_cases h : k = i
      · subst h
        rw [if_neg (by omega), if_pos ⟨rfl, rfl⟩, if_pos (by omega)]
      · by_cases h2 : i + 1 ≤ k ∧ k < 260
        · rw [if_pos h2, if_neg (by omega), if_pos (by omega)]
        · rw [if_neg h2, if_neg (fun z => h z.2), if_neg (by omega)]

theorem F_restore_L1 (K : Int32 → Mem → Option (Int32 × Mem)) : ∀ (d i n : Nat) (M : Mem), LM M → i + d = 260 → d < n → ∃ M', F_X9_restore_L1 204 K n (nI i) M = K (nI 260) M' ∧ (∀ k, mI M' 205 k = if i ≤ k ∧ k < 260 then mI M 207 k else mI M 205 k) ∧ Only M M' 205 := by
  intro d
  induction d with
  | zero =>
    intro i n M hL e hn
    obtain ⟨n, rfl⟩ : ∃ m, n = m + 1 := ⟨n - 1, by omega⟩
    refine ⟨M, ?_, fun k => by rw [if_neg (by omega)], Only.refl _ _⟩
    rw [F_X9_restore_L1, show (260 : Int32) = nI 260 from rfl, if_pos (nI_le (by omega) (by omega)), show i = 260 by omega]
  | succ d ih =>
    intro i n M hL e hn
    obtain ⟨n, rfl⟩ : ∃ m, n = m + 1 := ⟨n - 1, by omega⟩
    have hL1 : LM (sI M 205 (i) (mI M 207 (i))) := hL.of rfl
    obtain ⟨M', g1, g2, g3⟩ := ih (i + 1) n _ hL1 (by omega) (by omega)
    refine ⟨M', ?_, fun k => ?_, (Only.put _ _ _ _).trans g3⟩
    · rw [F_X9_restore_L1, show (260 : Int32) = nI 260 from rfl, if_neg (nI_ge (by omega) (by omega)), chk_t (inb_n (by omega) (by decide)), chk_t (inb_n (by omega) (by decide)), lt_v, lt_v, hL.1, hL.2.2.1, show (1 : Int32) = nI 1 from rfl, nI_add]
      rw [nI_clamp (by omega)]
      exact g1
    · rw [g2 k, mI_sI, mI_sI]
      by_cases h : k = i
      · subst h
        rw [if_neg (by omega), if_pos ⟨rfl, rfl⟩, if_pos (by omega)]
      · by_cases h2 : i + 1 ≤ k ∧ k < 260
        · rw [if_pos h2, if_neg (by omega), if_pos (by omega)]
        · rw [if_neg h2, if_neg (fun z => h z.2), if_neg (by omega)]

theorem F_keeps_L1 (v : Nat) (hv : v < 8) (K : Int32 → Mem → Option (Unit × Mem)) : ∀ (d i n : Nat) (M : Mem), LM M → i + d = 260 → d < n → ∃ M', F_X9_keeps_L1 204 (nI v) K n (nI i) M = K (nI 260) M' ∧ (∀ k, mI M' 206 k = if 260 * v + i ≤ k ∧ k < 260 * v + 260 then mI M 208 (k - 260 * v) else mI M 206 k) ∧ Only M M' 206 := by
  intro d
  induction d with
  | zero =>
    intro i n M hL e hn
    obtain ⟨n, rfl⟩ : ∃ m, n = m + 1 := ⟨n - 1, by omega⟩
    refine ⟨M, ?_, fun k => by rw [if_neg (by omega)], Only.refl _ _⟩
    rw [F_X9_keeps_L1, show (260 : Int32) = nI 260 from rfl, if_pos (nI_le (by omega) (by omega)), show i = 260 by omega]
  | succ d ih =>
    intro i n M hL e hn
    obtain ⟨n, rfl⟩ : ∃ m, n = m + 1 := ⟨n - 1, by omega⟩
    have hL1 : LM (sI M 206 (260 * v + i) (mI M 208 (i))) := hL.of rfl
    obtain ⟨M', g1, g2, g3⟩ := ih (i + 1) n _ hL1 (by omega) (by omega)
    refine ⟨M', ?_, fun k => ?_, (Only.put _ _ _ _).trans g3⟩
    · rw [F_X9_keeps_L1, show (260 : Int32) = nI 260 from rfl, if_neg (nI_ge (by omega) (by omega)), nI_mul, nI_add, chk_t (inb_n (by omega) (by decide)), chk_t (inb_n (by omega) (by decide)), lt_v, lt_v, hL.2.1, hL.2.2.2.1, show (1 : Int32) = nI 1 from rfl, nI_add]
      rw [nI_clamp (by omega), nI_clamp (by omega)]
      exact g1
    · rw [g2 k, mI_sI, mI_sI]
      by_cases h : k = 260 * v + i
      · subst h
        rw [if_neg (by omega), if_pos ⟨rfl, rfl⟩, if_pos (by omega)]; rw [show 260 * v + i - 260 * v = i by omega]
      · by_cases h2 : 260 * v + (i + 1) ≤ k ∧ k < 260 * v + 260
        · rw [if_pos h2, if_neg (by omega), if_pos (by omega)]
        · rw [if_neg h2, if_neg (fun z => h z.2), if_neg (by omega)]

theorem F_keeps_L2 (v : Nat) (hv : v < 8) (K : Int32 → Mem → Option (Unit × Mem)) : ∀ (d i n : Nat) (M : Mem), LM M → i + d = 260 → d < n → ∃ M', F_X9_keeps_L2 204 (nI v) K n (nI i) M = K (nI 260) M' ∧ (∀ k, mI M' 206 k = if 260 * v + i ≤ k ∧ k < 260 * v + 260 then mI M 208 (k - 260 * v) else mI M 206 k) ∧ Only M M' 206 := by
  intro d
  induction d with
  | zero =>
    intro i n M hL e hn
    obtain ⟨n, rfl⟩ : ∃ m, n = m + 1 := ⟨n - 1, by omega⟩
    refine ⟨M, ?_, fun k => by rw [if_neg (by omega)], Only.refl _ _⟩
    rw [F_X9_keeps_L2, show (260 : Int32) = nI 260 from rfl, if_pos (nI_le (by omega) (by omega)), show i = 260 by omega]
  | succ d ih =>
    intro i n M hL e hn
    obtain ⟨n, rfl⟩ : ∃ m, n = m + 1 := ⟨n - 1, by omega⟩
    have hL1 : LM (sI M 206 (260 * v + i) (mI M 208 (i))) := hL.of rfl
    obtain ⟨M', g1, g2, g3⟩ := ih (i + 1) n _ hL1 (by omega) (by omega)
    refine ⟨M', ?_, fun k => ?_, (Only.put _ _ _ _).trans g3⟩
    · rw [F_X9_keeps_L2, show (260 : Int32) = nI 260 from rfl, if_neg (nI_ge (by omega) (by omega)), nI_mul, nI_add, chk_t (inb_n (by omega) (by decide)), chk_t (inb_n (by omega) (by decide)), lt_v, lt_v, hL.2.1, hL.2.2.2.1, show (1 : Int32) = nI 1 from rfl, nI_add]
      rw [nI_clamp (by omega), nI_clamp (by omega)]
      exact g1
    · rw [g2 k, mI_sI, mI_sI]
      by_cases h : k = 260 * v + i
      · subst h
        rw [if_neg (by omega), if_pos ⟨rfl, rfl⟩, if_pos (by omega)]; rw [show 260 * v + i - 260 * v = i by omega]
      · by_cases h2 : 260 * v + (i + 1) ≤ k ∧ k < 260 * v + 260
        · rw [if_pos h2, if_neg (by omega), if_pos (by omega)]
        · rw [if_neg h2, if_neg (fun z => h z.2), if_neg (by omega)]

theorem F_undo_L1 (v : Nat) (hv : v < 8) (K : Int32 → Mem → Option (Int32 × Mem)) : ∀ (d i n : Nat) (M : Mem), LM M → i + d = 260 → d < n → ∃ M', F_X9_undo_L1 204 (nI v) K n (nI i) M = K (nI 260) M' ∧ (∀ k, mI M' 205 k = if i ≤ k ∧ k < 260 then mI M 206 (260 * v + k) else mI M 205 k) ∧ Only M M' 205 := by
  intro d
  induction d with
  | zero =>
    intro i n M hL e hn
    obtain ⟨n, rfl⟩ : ∃ m, n = m + 1 := ⟨n - 1, by omega⟩
    refine ⟨M, ?_, fun k => by rw [if_neg (by omega)], Only.refl _ _⟩
    rw [F_X9_undo_L1, show (260 : Int32) = nI 260 from rfl, if_pos (nI_le (by omega) (by omega)), show i = 260 by omega]
  | succ d ih =>
    intro i n M hL e hn
    obtain ⟨n, rfl⟩ : ∃ m, n = m + 1 := ⟨n - 1, by omega⟩
    have hL1 : LM (sI M 205 (i) (mI M 206 (260 * v + i))) := hL.of rfl
    obtain ⟨M', g1, g2, g3⟩ := ih (i + 1) n _ hL1 (by omega) (by omega)
    refine ⟨M', ?_, fun k => ?_, (Only.put _ _ _ _).trans g3⟩
    · rw [F_X9_undo_L1, show (260 : Int32) = nI 260 from rfl, if_neg (nI_ge (by omega) (by omega)), nI_mul, nI_add, chk_t (inb_n (by omega) (by decide)), chk_t (inb_n (by omega) (by decide)), lt_v, lt_v, hL.1, hL.2.1, show (1 : Int32) = nI 1 from rfl, nI_add]
      rw [nI_clamp (by omega), nI_clamp (by omega)]
      exact g1
    · rw [g2 k, mI_sI, mI_sI]
      by_cases h : k = i
      · subst h
        rw [if_neg (by omega), if_pos ⟨rfl, rfl⟩, if_pos (by omega)]
      · by_cases h2 : i + 1 ≤ k ∧ k < 260
        · rw [if_pos h2, if_neg (by omega), if_pos (by omega)]
        · rw [if_neg h2, if_neg (fun z => h z.2), if_neg (by omega)]
