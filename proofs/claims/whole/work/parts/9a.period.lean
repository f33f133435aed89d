/-! PURE LEVEL: periods, consistency -/
def lcmF (w : Row) : Nat → Nat → Nat → Nat
  | acc, _, 0 => acc
  | acc, s, d+1 => lcmF w (Nat.lcm acc (w (bs s + 2))) (s + 1) d
def perW (w : Row) : Nat := lcmF w 1 0 (w 0)
theorem lcm_c {a b : Nat} (ha : 1 ≤ a ∧ a ≤ 60) (hb : 1 ≤ b ∧ b ≤ 6) : F_X8_leastCommonMultiple (nI a) (nI b) = some (nI (Nat.lcm a b)) := by
  have h : ∀ (a : Fin 61) (b : Fin 7), 1 ≤ a.val → 1 ≤ b.val → F_X8_leastCommonMultiple (nI a.val) (nI b.val) = some (nI (Nat.lcm a.val b.val)) := by decide +kernel
  exact h ⟨a, by omega⟩ ⟨b, by omega⟩ ha.1 hb.1
theorem six_60 {b : Nat} (hb : 1 ≤ b ∧ b ≤ 6) : b ∣ 60 := by
  rcases (show b = 1 ∨ b = 2 ∨ b = 3 ∨ b = 4 ∨ b = 5 ∨ b = 6 by omega) with rfl | rfl | rfl | rfl | rfl | rfl <;> decide
theorem d60 {a : Nat} (h : a ∣ 60) : 1 ≤ a ∧ a ≤ 60 := ⟨Nat.pos_of_dvd_of_pos h (by decide), Nat.le_of_dvd (by decide) h⟩
theorem lcmF_60 {w : Row} : ∀ (d s acc : Nat), acc ∣ 60 → (∀ t, s ≤ t → t < s + d → 1 ≤ w (bs t + 2) ∧ w (bs t + 2) ≤ 6) → lcmF w acc s d ∣ 60
  | 0, _, _, h, _ => h
  | d+1, s, acc, h, hc => lcmF_60 d (s + 1) _ (Nat.lcm_dvd h (six_60 (hc s (Nat.le_refl _) (by omega)))) (fun t h1 h2 => hc t (by omega) (by omega))
theorem lcmF_dvd {w : Row} (b : Nat) : ∀ (d s acc : Nat), lcmF w acc s d ∣ b ↔ acc ∣ b ∧ ∀ t, s ≤ t → t < s + d → w (bs t + 2) ∣ b
  | 0, s, acc => ⟨fun h => ⟨h, fun t h1 h2 => by omega⟩, fun h => h.1⟩
  | d+1, s, acc => by
    show lcmF w (Nat.lcm acc (w (bs s + 2))) (s + 1) d ∣ b ↔ _
    rw [lcmF_dvd b d (s + 1), Nat.lcm_dvd_iff]
    constructor
    · rintro ⟨⟨h1, h2⟩, h3⟩
      refine ⟨h1, fun t q1 q2 => ?_⟩
      by_cases e : t = s
      · rw [e]; exact h2
      · exact h3 t (by omega) (by omega)
    · rintro ⟨h1, h2⟩
      exact ⟨⟨h1, h2 s (Nat.le_refl _) (by omega)⟩, fun t q1 q2 => h2 t (by omega) (by omega)⟩
section PER
variable {B : Nat} {M : Mem} {Z : ZS}
theorem BI.per (hB : BI B Z) : perW Z.1.1 ∣ 60 := lcmF_60 _ _ _ (by decide) fun t _ h2 => (hB.sec (s := t) (by omega)).2.2.1
theorem C_colsS (hC : CI M Z) (hB : BI B Z) {s : Nat} (hs : s < Z.1.1 0) : F_X8_columns 1 (nI s) M = some (.inl (nI (Z.1.1 (bs s + 2))), M) := by
  have r5 := hB.r0
  unfold F_X8_columns
  rw [C_pres hC hB hs, bx_l, chk_t (C_secTy hC (by omega)).1, (hC.sec hs).2.2.1]
theorem C_perL (hC : CI M Z) (hB : BI B Z) (K : Int32 → Int32 → Mem → Option ((Int32 ⊕ String) × Mem)) : ∀ (d s acc n : Nat), acc ∣ 60 → s + d = Z.1.1 0 → d < n → ∃ x, F_X8_period_L1 1 K n (nI acc) (nI s) M = K (nI (lcmF Z.1.1 acc s d)) x M := by
  have r5 := hB.r0
  intro d
  induction d with
  | zero =>
    intro s acc n h60 e hn
    obtain ⟨n, rfl⟩ : ∃ m, n = m + 1 := ⟨n - 1, by omega⟩
    refine ⟨nI s, ?_⟩
    rw [F_X8_period_L1, hC.1.1.1, hC.2.1.1.2.1.1, if_pos (nI_le (by omega) (by omega))]; rfl
  | succ d ih =>
    intro s acc n h60 e hn
    obtain ⟨n, rfl⟩ : ∃ m, n = m + 1 := ⟨n - 1, by omega⟩
    have hc := (hB.sec (s := s) (by omega)).2.2.1
    obtain ⟨x, hx⟩ := ih (s + 1) (Nat.lcm acc (Z.1.1 (bs s + 2))) n (Nat.lcm_dvd h60 (six_60 hc)) (by omega) (by omega)
    refine ⟨x, ?_⟩
    rw [F_X8_period_L1, hC.1.1.1, hC.2.1.1.2.1.1, if_neg (nI_ge (by omega) (by omega)), C_colsS hC hB (by omega), bx_l, lcm_c (d60 h60) hc, ob_s, lt_v, nI_1, hx]; rfl
theorem C_per (hC : CI M Z) (hB : BI B Z) : F_X8_period 1 M = some (.inl (nI (perW Z.1.1)), M) := by
  have r5 := hB.r0
  unfold F_X8_period
  obtain ⟨x, hx⟩ := C_perL hC hB (fun (x15 : Int32) (x16 : Int32) (M17 : Mem) =>
  some (.inl x15, M17)) (Z.1.1 0) 0 1 3000 (by decide) (by omega) (by omega)
  rw [show (1 : Int32) = nI 1 from rfl, show (0 : Int32) = nI 0 from rfl, hx]; rfl
theorem F_ipL (hL : LM M) (hw : WA M 205 260 Z.1.1) (hB : BI B Z) {b : Nat} (hb : b < 1000) (K : Int32 → Option Int32) : ∀ (d s n : Nat), s + d = Z.1.1 0 → d < n →
    ((∀ t, s ≤ t → t < Z.1.1 0 → Z.1.1 (bs t + 2) ∣ b) → ∃ x, F_X9_isPeriod_L1 204 (nI b) M K n (nI s) = K x) ∧ (¬ (∀ t, s ≤ t → t < Z.1.1 0 → Z.1.1 (bs t + 2) ∣ b) → F_X9_isPeriod_L1 204 (nI b) M K n (nI s) = some 0) := by
  have r5 := hB.r0
  intro d
  induction d with
  | zero =>
    intro s n e hn
    obtain ⟨n, rfl⟩ : ∃ m, n = m + 1 := ⟨n - 1, by omega⟩
    refine ⟨fun _ => ⟨nI s, ?_⟩, fun h => absurd (fun t h1 h2 => by omega) h⟩
    rw [F_X9_isPeriod_L1, chk_t (by decide), hL.1, hw.at (by decide), if_pos (nI_le (by omega) (by omega))]
  | succ d ih =>
    intro s n e hn
    obtain ⟨n, rfl⟩ : ∃ m, n = m + 1 := ⟨n - 1, by omega⟩
    have hc := (hB.sec (s := s) (by omega)).2.2.1
    obtain ⟨h1, h2⟩ := ih (s + 1) n (by omega) (by omega)
    rw [F_X9_isPeriod_L1, chk_t (by decide), hL.1, hw.at (by decide), if_neg (nI_ge (by omega) (by omega)), show F_X9_of 204 (nI s) 2 M = some (nI (Z.1.1 (bs s + 2))) from F_of hL hw (k := 2) (by omega), ob_s, chk_t (nz_nI hc.1 (by omega)), nI_rem (by omega) hc.1 (by omega), lt_v, nI_1]
    by_cases z : b % Z.1.1 (bs s + 2) = 0
    · rw [z, if_pos nI_0]
      refine ⟨fun h => h1 fun t p q => h t (by omega) q, fun h => h2 fun h3 => h fun t p q => ?_⟩
      by_cases e : t = s
      · rw [e]; exact Nat.dvd_of_mod_eq_zero z
      · exact h3 t (by omega) q
    · rw [if_neg (nI_ne0 (by omega) (by have := Nat.mod_lt b hc.1; omega))]
      exact ⟨fun h => absurd (Nat.mod_eq_zero_of_dvd (h s (Nat.le_refl _) (by omega))) z, fun _ => rfl⟩
theorem per_iff {w : Row} (b : Nat) : perW w ∣ b ↔ ∀ t, 0 ≤ t → t < w 0 → w (bs t + 2) ∣ b := by
  unfold perW
  rw [lcmF_dvd, Nat.zero_add]
  exact ⟨fun h => h.2, fun h => ⟨Nat.one_dvd _, h⟩⟩
theorem F_ip (hL : LM M) (hw : WA M 205 260 Z.1.1) (hB : BI B Z) {b : Nat} (hb : b < 1000) : (perW Z.1.1 ∣ b → F_X9_isPeriod 204 (nI b) M = some 1) ∧ (¬ perW Z.1.1 ∣ b → F_X9_isPeriod 204 (nI b) M = some 0) := by
  have r5 := hB.r0
  obtain ⟨h1, h2⟩ := F_ipL hL hw hB hb (fun (x12 : Int32) => some 1) (Z.1.1 0) 0 3000 (by omega) (by omega)
  unfold F_X9_isPeriod
  rw [per_iff]
  exact ⟨fun h => by obtain ⟨x, hx⟩ := h1 h; exact hx, h2⟩
theorem F_perL (hL : LM M) (hw : WA M 205 260 Z.1.1) (hB : BI B Z) (K : Int32 → Option (Int32 × Mem)) : ∀ (d b n : Nat), 1 ≤ b → b + d = perW Z.1.1 → d < n → F_X9_period_L1 204 M K n (nI b) = K (nI (perW Z.1.1)) := by
  have p60 := d60 hB.per
  intro d
  induction d with
  | zero =>
    intro b n b1 e hn
    obtain ⟨n, rfl⟩ : ∃ m, n = m + 1 := ⟨n - 1, by omega⟩
    rw [F_X9_period_L1, (F_ip hL hw hB (by omega)).1 (by rw [← e, Nat.add_zero]; exact Nat.dvd_refl _), ob_s, if_neg (by decide), ← e, Nat.add_zero]
  | succ d ih =>
    intro b n b1 e hn
    obtain ⟨n, rfl⟩ : ∃ m, n = m + 1 := ⟨n - 1, by omega⟩
    rw [F_X9_period_L1, (F_ip hL hw hB (by omega)).2 (fun z => by have := Nat.le_of_dvd (by omega) z; omega), ob_s, if_pos rfl, lt_v, nI_1, ih (b + 1) n (by omega) (by omega) (by omega)]
theorem F_per (hM : MI M Z) (hB : BI B Z) : F_X9_period 204 M = some (nI (perW Z.1.1), sI M 204 0 0) := by
  have hM0 := hM.t 0
  have p60 := d60 hB.per
  unfold F_X9_period
  rw [lt_v, show (1 : Int32) = nI 1 from rfl, F_perL hM0.1 hM0.2.1.1 hB _ (perW Z.1.1 - 1) 1 3000 (by omega) (by omega) (by omega)]
theorem C_ipL (hC : CI M Z) (hB : BI B Z) {b : Nat} (hb : b < 1000) (K : Int32 → Mem → Option ((Int32 ⊕ String) × Mem)) : ∀ (d s n : Nat), s + d = Z.1.1 0 → d < n →
    ((∀ t, s ≤ t → t < Z.1.1 0 → Z.1.1 (bs t + 2) ∣ b) → ∃ x, F_X8_isPeriod_L1 1 (nI b) K n (nI s) M = K x M) ∧ (¬ (∀ t, s ≤ t → t < Z.1.1 0 → Z.1.1 (bs t + 2) ∣ b) → F_X8_isPeriod_L1 1 (nI b) K n (nI s) M = some (.inl 0, M)) := by
  have r5 := hB.r0
  intro d
  induction d with
  | zero =>
    intro s n e hn
    obtain ⟨n, rfl⟩ : ∃ m, n = m + 1 := ⟨n - 1, by omega⟩
    refine ⟨fun _ => ⟨nI s, ?_⟩, fun h => absurd (fun t h1 h2 => by omega) h⟩
    rw [F_X8_isPeriod_L1, hC.1.1.1, hC.2.1.1.2.1.1, if_pos (nI_le (by omega) (by omega))]
  | succ d ih =>
    intro s n e hn
    obtain ⟨n, rfl⟩ : ∃ m, n = m + 1 := ⟨n - 1, by omega⟩
    have hc := (hB.sec (s := s) (by omega)).2.2.1
    obtain ⟨h1, h2⟩ := ih (s + 1) n (by omega) (by omega)
    rw [F_X8_isPeriod_L1, hC.1.1.1, hC.2.1.1.2.1.1, if_neg (nI_ge (by omega) (by omega)), C_colsS hC hB (by omega), bx_l, if_neg (nI_ne0 hc.1 (by omega)), chk_t (nz_nI hc.1 (by omega)), nI_rem (by omega) hc.1 (by omega), lt_v, nI_1]
    by_cases z : b % Z.1.1 (bs s + 2) = 0
    · rw [z, if_pos nI_0]
      refine ⟨fun h => h1 fun t p q => h t (by omega) q, fun h => h2 fun h3 => h fun t p q => ?_⟩
      by_cases e : t = s
      · rw [e]; exact Nat.dvd_of_mod_eq_zero z
      · exact h3 t (by omega) q
    · rw [if_neg (nI_ne0 (by omega) (by have := Nat.mod_lt b hc.1; omega))]
      exact ⟨fun h => absurd (Nat.mod_eq_zero_of_dvd (h s (Nat.le_refl _) (by omega))) z, fun _ => rfl⟩
theorem C_ip (hC : CI M Z) (hB : BI B Z) {b : Nat} (hb : b < 1000) : (perW Z.1.1 ∣ b → F_X8_isPeriod 1 (nI b) M = some (.inl 1, M)) ∧ (¬ perW Z.1.1 ∣ b → F_X8_isPeriod 1 (nI b) M = some (.inl 0, M)) := by
  have r5 := hB.r0
  obtain ⟨h1, h2⟩ := C_ipL hC hB hb (fun (x15 : Int32) (M16 : Mem) => some (.inl 1, M16)) (Z.1.1 0) 0 3000 (by omega) (by omega)
  unfold F_X8_isPeriod
  rw [per_iff]
  exact ⟨fun h => by obtain ⟨x, hx⟩ := h1 h; exact hx, h2⟩
theorem C_psL (hC : CI M Z) (hB : BI B Z) (K : Int32 → Mem → Option ((Int32 ⊕ String) × Mem)) : ∀ (d b n : Nat), 1 ≤ b → b ≤ perW Z.1.1 → b + d = 60 → d < n → (perW Z.1.1 < 60 → F_X8_periodBySearch_L1 1 K n (nI b) M = some (.inl (nI (perW Z.1.1)), M)) ∧ (perW Z.1.1 = 60 → F_X8_periodBySearch_L1 1 K n (nI b) M = K (nI 60) M) := by
  have p60 := d60 hB.per
  intro d
  induction d with
  | zero =>
    intro b n b1 b2 e hn
    obtain ⟨n, rfl⟩ : ∃ m, n = m + 1 := ⟨n - 1, by omega⟩
    refine ⟨fun h => by omega, fun h => ?_⟩
    rw [F_X8_periodBySearch_L1, show (60 : Int32) = nI 60 from rfl, if_pos (nI_le (by omega) (by omega)), show b = 60 by omega]
  | succ d ih =>
    intro b n b1 b2 e hn
    obtain ⟨n, rfl⟩ : ∃ m, n = m + 1 := ⟨n - 1, by omega⟩
    by_cases z : b = perW Z.1.1
    · refine ⟨fun h => ?_, fun h => by omega⟩
      rw [F_X8_periodBySearch_L1, show (60 : Int32) = nI 60 from rfl, if_neg (nI_ge (by omega) (by omega)), (C_ip hC hB (by omega)).1 (by rw [z]; exact Nat.dvd_refl _), bx_l, if_neg (by decide), z]
    · obtain ⟨h1, h2⟩ := ih (b + 1) n (by omega) (by omega) (by omega) (by omega)
      have st : F_X8_periodBySearch_L1 1 K (n + 1) (nI b) M = F_X8_periodBySearch_L1 1 K n (nI (b + 1)) M := by
        rw [F_X8_periodBySearch_L1, show (60 : Int32) = nI 60 from rfl, if_neg (nI_ge (by omega) (by omega)), (C_ip hC hB (by omega)).2 (fun y => by have := Nat.le_of_dvd (by omega) y; omega), bx_l, if_pos rfl, lt_v, nI_1]
      rw [st]
      exact ⟨h1, h2⟩
theorem C_ps (hC : CI M Z) (hB : BI B Z) : F_X8_periodBySearch 1 M = some (.inl (nI (perW Z.1.1)), M) := by
  have p60 := d60 hB.per
  unfold F_X8_periodBySearch
  obtain ⟨h1, h2⟩ := C_psL hC hB (fun (x12 : Int32) (M13 : Mem) => some (.inl 60, M13)) 59 1 3000 (by omega) (by omega) (by omega) (by omega)
  rw [show (1 : Int32) = nI 1 from rfl]
  rcases (show perW Z.1.1 < 60 ∨ perW Z.1.1 = 60 by omega) with z | z
  · rw [h1 z]
  · rw [h2 z, z]; rfl
theorem call_period (h : GI B M) : CallS B M (F_X8_period 1) (F_X9_period 204) :=
  callSum h fun Z hB => ⟨nI (perW Z.1.1), 0, .pure fun M hC _ => C_per hC hB, .ans fun M hM _ => F_per hM hB⟩
theorem call_periodBySearch (h : GI B M) : CallS B M (F_X8_periodBySearch 1) (F_X9_periodBySearch 204) :=
  callSum h fun Z hB => ⟨nI (perW Z.1.1), 0, .pure fun M hC _ => C_ps hC hB, .ans fun M hM _ => by
    unfold F_X9_periodBySearch
    rw [F_per hM hB, b1_s]⟩
theorem C_cv (hC : CI M Z) (hB : BI B Z) {s c : Nat} (hs : s < Z.1.1 0) (hc : c < Z.1.1 (bs s + 2)) : F_X8_columnVolume 1 (nI s) (nI c) M = some (.inl (nI (colV Z.1.1 (bs s) c)), M) := by
  have r5 := hB.r0
  have ok := hB.sec hs
  have h2 := ok.2.2.1
  unfold F_X8_columnVolume F_X8_sectionWithColumn
  rw [C_pres hC hB hs, bx_l, chk_t (C_secTy hC (by omega)).1, C_colI (hC.sec hs) ok, ob_s, if_neg (not_out hc (by omega)), if_neg (by decide), bx_l, chk_t (C_secTy hC (by omega)).1, C_col (hC.sec hs) ok (by omega), ob_s]
abbrev Tr (M M' : Mem) : Prop := Same (fun a _ => a ≠ 172 ∧ a ≠ 173) M M' ∧ M'.2 = M.2
theorem Tr.trans {M M1 M2 : Mem} (h : Tr M M1) (h2 : Tr M1 M2) : Tr M M2 := ⟨h.1.trans h2.1, h2.2.trans h.2⟩
theorem CI.tr {M M' : Mem} (hC : CI M Z) (hB : BI B Z) (h : Tr M M') : CI M' Z := hC.s hB.r0 hB.r1 (h.1.sub fun a k p => by omega) (fun a k _ => by unfold mR; rw [h.2])
theorem C_agJ (hB : BI B Z) {s : Nat} (hs : s < Z.1.1 0) (K : Int32 → Mem → Option ((Int32 ⊕ String) × Mem)) : ∀ (d c n : Nat) (M : Mem), CI M Z → c + d = Z.1.1 (bs s + 2) → d < n → ∃ M' x, F_X8_columnVolumesAgree_L2 1 (nI s) K n (nI c) M = K x M' ∧ Tr M M' := by
  have h2 := (hB.sec hs).2.2.1
  have h3 : ∀ c, c < Z.1.1 (bs s + 2) → colV Z.1.1 (bs s) c ≤ 72 := fun c hc => colV_le (hB.sec hs) (by omega)
  intro d
  induction d with
  | zero =>
    intro c n M hC e hn
    obtain ⟨n, rfl⟩ : ∃ m, n = m + 1 := ⟨n - 1, by omega⟩
    refine ⟨M, nI c, ?_, Same.refl _ _, rfl⟩
    rw [F_X8_columnVolumesAgree_L2, C_colsS hC hB hs, bx_l, if_pos (nI_le (by omega) (by omega))]
  | succ d ih =>
    intro c n M hC e hn
    obtain ⟨n, rfl⟩ : ∃ m, n = m + 1 := ⟨n - 1, by omega⟩
    obtain ⟨M1, g1, g2⟩ := C_cvt hC hB hs (c := c) (by omega)
    obtain ⟨M2, x, k1, k2⟩ := ih (c + 1) n M1 (hC.tr hB g2) (by omega) (by omega)
    refine ⟨M2, x, ?_, Tr.trans g2 k2⟩
    rw [F_X8_columnVolumesAgree_L2, C_colsS hC hB hs, bx_l, if_neg (nI_ge (by omega) (by omega)), C_cv hC hB hs (by omega), bx_l, g1, bx_l, if_pos rfl, lt_v, nI_1, k1]
theorem C_agI (hB : BI B Z) (K : Int32 → Mem → Option ((Int32 ⊕ String) × Mem)) : ∀ (d s n : Nat) (M : Mem), CI M Z → s + d = Z.1.1 0 → d < n → ∃ M' x, F_X8_columnVolumesAgree_L1 1 K n (nI s) M = K x M' ∧ Tr M M' := by
  have r5 := hB.r0
  intro d
  induction d with
  | zero =>
    intro s n M hC e hn
    obtain ⟨n, rfl⟩ : ∃ m, n = m + 1 := ⟨n - 1, by omega⟩
    refine ⟨M, nI s, ?_, Same.refl _ _, rfl⟩
    rw [F_X8_columnVolumesAgree_L1, hC.1.1.1, hC.2.1.1.2.1.1, if_pos (nI_le (by omega) (by omega))]
  | succ d ih =>
    intro s n M hC e hn
    obtain ⟨n, rfl⟩ : ∃ m, n = m + 1 := ⟨n - 1, by omega⟩
    have h2 := (hB.sec (s := s) (by omega)).2.2.1
    obtain ⟨M1, x, g1, g2⟩ := C_agJ hB (s := s) (by omega) (fun (x25 : Int32) (M26 : Mem) =>
        lt (nI s + 1) (fun (v27 : Int32) =>
        F_X8_columnVolumesAgree_L1 1 K n v27 M26)) (Z.1.1 (bs s + 2)) 0 3000 M hC (by omega) (by omega)
    obtain ⟨M2, x2, k1, k2⟩ := ih (s + 1) n M1 (hC.tr hB g2) (by omega) (by omega)
    refine ⟨M2, x2, ?_, Tr.trans g2 k2⟩
    rw [F_X8_columnVolumesAgree_L1, hC.1.1.1, hC.2.1.1.2.1.1, if_neg (nI_ge (by omega) (by omega)), show (0 : Int32) = nI 0 from rfl, g1, lt_v, nI_1, k1]
theorem call_isConsistent (h : GI B M) (hB0 : B ≤ 2 ^ 20) : CallS B M (F_X8_isConsistent 1) (F_X9_isConsistent 204) := by
  refine callSum h fun Z hB => ⟨1, 0, fun M hC _ => ?_, .ans fun M hM _ => ?_⟩
  · have r5 := hB.r0
    obtain ⟨M2, x, g1, g2⟩ := C_agI hB (fun (x29 : Int32) (M30 : Mem) => some (.inl 1, M30)) (Z.1.1 0) 0 3000 M hC (by omega) (by omega)
    have ag : F_X8_columnVolumesAgree 1 M = some (.inl 1, M2) := g1
    refine ⟨M2, ?_, g2.1.sub fun a k p => by omega, fun a k _ => by unfold mR; rw [g2.2]⟩
    have tv : F_X8_totalVolume 1 M = some (lN (sndT Z.1.1)) := by
      unfold F_X8_totalVolume
      rw [hC.1.1.1, hC.2.1.1.2.1.2.2.2.2.2.2, hB.1.1.2.2.2.2.2.2.2.2.2]
    have lc : ∀ x : Int64, lg_cmp x x = 0 := fun x => by
      unfold lg_cmp
      rw [if_neg (by rw [gt_iff_lt, fa_lt64]; omega), if_pos rfl]
    unfold F_X8_isConsistent
    rw [tv, ob_s, C_tvb hC.1.1.1 hC.2.1.1 (hB.snd hB0), ob_s, if_pos (lc _), C_per hC hB, bx_l, C_ps hC hB, bx_l, if_pos rfl, ag, bx_l, if_neg (by decide)]
  · have hM0 := hM.t 0
    unfold F_X9_isConsistent
    rw [lt_v, chk_t (by decide), F_vb hM0.1 hM0.2.1.1, ob_s, hM0.1.1, hM0.2.1.1 5 (by decide), hB.1.1.2.2.2.2.2.2.2.2.2, if_pos rfl]
end PER
