/-! PURE LEVEL: many beats, both sides -/
theorem ticks_ok : ∀ (n : Nat) {r : Row}, RowOK2 r → r 1 + n < 2 ^ 30 → RowOK2 (ticks n r) ∧ ticks n r 1 = r 1 + n ∧ (∀ k, k < 4 → k ≠ 1 → ticks n r k = r k)
  | 0, _, h, _ => ⟨h, rfl, fun _ _ _ => rfl⟩
  | n+1, r, h, h1 => by
    have e := tick_1 h.1
    obtain ⟨g1, g2, g3⟩ := ticks_ok n (tick_ok h (by omega)) (by rw [e]; omega)
    refine ⟨g1, ?_, fun k hk hk1 => ?_⟩
    · show ticks n (tick r) 1 = _; rw [g2, e]; omega
    · show ticks n (tick r) k = _; rw [g3 k hk hk1, tick_lo h.1 hk hk1]
theorem tsum_le : ∀ (n : Nat) {r : Row}, RowOK2 r → r 1 + n < 2 ^ 30 → tsum n r ≤ 360 * n
  | 0, _, _, _ => Nat.zero_le _
  | n+1, r, h, h1 => by
    have e := tick_1 h.1
    have := tsum_le n (tick_ok h (by omega)) (by rw [e]; omega)
    have := (tick1_ok h.1).2.2.1
    show _ + _ ≤ _
    omega
theorem F_timesL {N : Nat} (hN : N < 2 ^ 20) (K : Int32 → Int32 → Mem → Option (Int32 × Mem)) : ∀ (d i n : Nat) (M : Mem) (r : Row) (a : Nat), LM M → WA M 205 260 r → RowOK2 r → r 1 + d < 2 ^ 30 → i + d = N → d < n →
    ∃ M', F_X9_beatsTimes_L1 204 (nI N) K n (nI a) (nI i) M = K (nI (a + tsum d r)) (nI N) M' ∧ WA M' 205 260 (ticks d r) ∧ Only M M' 205 := by
  intro d
  induction d with
  | zero =>
    intro i n M r a hL hw h h1 e hn
    obtain ⟨n, rfl⟩ : ∃ m, n = m + 1 := ⟨n - 1, by omega⟩
    refine ⟨M, ?_, hw, Only.refl _ _⟩
    rw [F_X9_beatsTimes_L1, if_pos (nI_le (by omega) (by omega)), show i = N by omega]
    rfl
  | succ d ih =>
    intro i n M r a hL hw h h1 e hn
    obtain ⟨n, rfl⟩ : ∃ m, n = m + 1 := ⟨n - 1, by omega⟩
    obtain ⟨M1, a1, a2, a3⟩ := F_beat hL hw h
    obtain ⟨M', g1, g2, g3⟩ := ih (i + 1) n M1 (tick r) (a + (tick1 r).2.1) (hL.of a3.2) a2 (tick_ok h (by omega)) (by rw [tick_1 h.1]; omega) (by omega) (by omega)
    refine ⟨M', ?_, g2, a3.trans g3⟩
    rw [F_X9_beatsTimes_L1, if_neg (nI_ge (by omega) (by omega)), a1, b1_s, lt_v, lt_v, nI_add, show (1 : Int32) = nI 1 from rfl, nI_add, g1]
    show K (nI (a + (tick1 r).2.1 + tsum d (tick r))) _ _ = K (nI (a + ((tick1 r).2.1 + tsum d (tick r)))) _ _
    rw [Nat.add_assoc]
theorem F_times {N : Nat} (hN : N < 2000) {M : Mem} {r : Row} (hL : LM M) (hw : WA M 205 260 r) (h : RowOK2 r) (h1 : r 1 + N < 2 ^ 30) : ∃ M', F_X9_beatsTimes 204 (nI N) M = some (nI (tsum N r), M') ∧ WA M' 205 260 (ticks N r) ∧ Only M M' 205 := by
  obtain ⟨M', g1, g2, g3⟩ := F_timesL (N := N) (by omega) (fun x12 _ M14 => some (x12, M14)) N 0 3000 M r 0 hL hw h h1 (by omega) (by omega)
  refine ⟨M', ?_, g2, g3⟩
  unfold F_X9_beatsTimes
  rw [Nat.zero_add] at g1
  exact g1
theorem C_playL {N x : Nat} (hN : N < 2 ^ 20) (K : Int32 → Int32 → Mem → Option (Int32 × Mem)) : ∀ (d i n : Nat) (M : Mem) (r : Row) (a : Nat), StR M x r → RowOK2 r → r 1 + d < 2 ^ 30 → i + d = N → d < n →
    ∃ M', F_X5_play_L1 x (nI N) K n (nI a) (nI i) M = K (nI (a + tsum d r)) (nI N) M' ∧ StR M' x (ticks d r) ∧ Blk M M' x 14 := by
  intro d
  induction d with
  | zero =>
    intro i n M r a hS h h1 e hn
    obtain ⟨n, rfl⟩ : ∃ m, n = m + 1 := ⟨n - 1, by omega⟩
    refine ⟨M, ?_, hS, Blk.refl _ _ _⟩
    rw [F_X5_play_L1, if_pos (nI_le (by omega) (by omega)), show i = N by omega]
    rfl
  | succ d ih =>
    intro i n M r a hS h h1 e hn
    obtain ⟨n, rfl⟩ : ∃ m, n = m + 1 := ⟨n - 1, by omega⟩
    obtain ⟨M1, a1, a2, a3⟩ := C_beat hS h
    obtain ⟨M', g1, g2, g3⟩ := ih (i + 1) n M1 (tick r) (a + (tick1 r).2.1) a2 (tick_ok h (by omega)) (by rw [tick_1 h.1]; omega) (by omega) (by omega)
    refine ⟨M', ?_, g2, a3.trans g3⟩
    rw [F_X5_play_L1, if_neg (nI_ge (by omega) (by omega)), a1, b1_s, lt_v, lt_v, nI_add, show (1 : Int32) = nI 1 from rfl, nI_add, g1]
    show K (nI (a + (tick1 r).2.1 + tsum d (tick r))) _ _ = K (nI (a + ((tick1 r).2.1 + tsum d (tick r)))) _ _
    rw [Nat.add_assoc]
theorem C_plays {N x : Nat} (hN : N < 2000) {M : Mem} {r : Row} (hS : StR M x r) (h : RowOK2 r) (h1 : r 1 + N < 2 ^ 30) : ∃ M', F_X5_play x (nI N) M = some (nI (tsum N r), M') ∧ StR M' x (ticks N r) ∧ Blk M M' x 14 := by
  obtain ⟨M', g1, g2, g3⟩ := C_playL (N := N) (x := x) (by omega) (fun x12 _ M14 => some (x12, M14)) N 0 3000 M r 0 hS h h1 (by omega) (by omega)
  refine ⟨M', ?_, g2, g3⟩
  unfold F_X5_play
  rw [Nat.zero_add] at g1
  exact g1
