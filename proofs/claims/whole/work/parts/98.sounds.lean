/-! PURE LEVEL: sounds, the log, ranks -/
/-- how often note n of kind k sounded -/
def snd (w : Row) (k n : Nat) : Nat := w (18 + 9 * k + (n - 1))
section SO
variable {M : Mem} {w : Row}
theorem F_soundsOf (hL : LM M) (hw : WA M 205 260 w) {k n : Nat} (hk : k < 3) (h1 : 1 ≤ n) (h9 : n ≤ 9) : F_X9_soundsOf 204 (nI k) (nI n) M = some (nI (snd w k n)) := by
  unfold F_X9_soundsOf
  have e : (18 : Int32) + 9 * nI k + nI n - 1 = nI (18 + 9 * k + (n - 1)) := by
    rw [show (18 : Int32) = nI 18 from rfl, show (9 : Int32) = nI 9 from rfl, nI_mul, nI_add, nI_add, show (1 : Int32) = nI 1 from rfl, nI_sub (by omega)]
    congr 1; omega
  rw [e, chk_t (inb_n (by omega) (by decide)), nI_clamp (by omega), hL.1, hw.at (by omega)]; rfl
theorem C_soundsOf {x : Nat} (h : StR M x w) {k n : Nat} (hk : k < 3) (h1 : 1 ≤ n) (h9 : n ≤ 9) : F_X5_soundsOf x (nI (lett k)) (nI n) M = some (nI (snd w k n)) := by
  unfold F_X5_soundsOf
  have hS := h.2.2.2.2.1 k (n - 1) hk (by omega)
  rw [show n - 1 + 1 = n by omega] at hS
  rw [C_kind hk, ob_s, show (10 : Int32) = nI 10 from rfl, nI_mul, nI_add, lt_v, if_neg (nI_pos (by omega)), show (30 : Int32) = nI 30 from rfl, if_neg (nI_ge (by omega) (by omega)), chk_t (inb_n (by omega) (by decide)), nI_clamp (by omega), h.1.2.1, show k * 10 + n = 10 * k + n by omega, hS]; rfl
theorem isum_ge {f : Nat → Nat} : ∀ {d i j : Nat}, i ≤ j → j < i + d → f j ≤ isum f i d
  | 0, _, _, h1, h2 => by omega
  | d+1, i, j, h1, h2 => by
    show f j ≤ f i + isum f (i + 1) d
    by_cases e : j = i
    · rw [e]; omega
    · have := isum_ge (f := f) (d := d) (i := i + 1) (j := j) (by omega) (by omega)
      omega
theorem vol_pos {k n : Nat} (hk : k < 3) (h1 : 1 ≤ n) (h9 : n ≤ 9) : 1 ≤ vol k n := by
  have h : ∀ (k : Fin 3) (n : Fin 10), 1 ≤ n.val → 1 ≤ vol k.val n.val := by decide +kernel
  exact h ⟨k, hk⟩ ⟨n, by omega⟩ h1
/-- the volume of the sounds of kind k -/
def sndK (w : Row) (k : Nat) : Nat := isum (fun n => w (18 + 9 * k + n) * vol k (n + 1)) 0 9
theorem sndT_3 (w : Row) : sndT w = sndK w 0 + (sndK w 1 + (sndK w 2 + 0)) := rfl
theorem snd_le {k n : Nat} (hk : k < 3) (h1 : 1 ≤ n) (h9 : n ≤ 9) : snd w k n ≤ sndK w k := by
  have g : (fun n => w (18 + 9 * k + n) * vol k (n + 1)) (n - 1) ≤ sndK w k := isum_ge (f := fun n => w (18 + 9 * k + n) * vol k (n + 1)) (d := 9) (i := 0) (j := n - 1) (by omega) (by omega)
  have v := vol_pos hk h1 h9
  refine Nat.le_trans ?_ g
  show w (18 + 9 * k + (n - 1)) ≤ w (18 + 9 * k + (n - 1)) * vol k (n - 1 + 1)
  rw [show n - 1 + 1 = n by omega]
  exact Nat.le_mul_of_pos_right _ v
theorem sndK_le {k : Nat} (hk : k < 3) : sndK w k ≤ sndT w := by
  rw [sndT_3]
  rcases (show k = 0 ∨ k = 1 ∨ k = 2 by omega) with rfl | rfl | rfl <;> omega
theorem F_vbJ (hL : LM M) (hw : WA M 205 260 w) {k : Nat} (hk : k < 3) (K : Int32 → Int32 → Option Int32) : ∀ (d i t n : Nat), i + d = 9 → d < n → ∃ x, F_X9_volumeBySounds_L2 204 M (nI k) K n (nI t) (nI (i + 1)) = K (nI (t + isum (fun n => w (18 + 9 * k + n) * vol k (n + 1)) i d)) x := by
  intro d
  induction d with
  | zero =>
    intro i t n e hn
    obtain ⟨n, rfl⟩ : ∃ m, n = m + 1 := ⟨n - 1, by omega⟩
    refine ⟨nI (i + 1), ?_⟩
    rw [F_X9_volumeBySounds_L2, show (9 : Int32) = nI 9 from rfl, if_pos (nI_lt (by omega) (by omega))]; rfl
  | succ d ih =>
    intro i t n e hn
    obtain ⟨n, rfl⟩ : ∃ m, n = m + 1 := ⟨n - 1, by omega⟩
    obtain ⟨x, hx⟩ := ih (i + 1) (t + w (18 + 9 * k + i) * vol k (i + 1)) n (by omega) (by omega)
    refine ⟨x, ?_⟩
    rw [F_X9_volumeBySounds_L2, show (9 : Int32) = nI 9 from rfl, if_neg (nI_nlt (by omega) (by omega)), F_soundsOf hL hw hk (by omega) (by omega), ob_s, F_vol hk (by omega), ob_s, lt_v, lt_v, show snd w k (i + 1) = w (18 + 9 * k + i) from rfl, nI_mul, nI_add, nI_1, hx, Nat.add_assoc]; rfl
theorem F_vb (hL : LM M) (hw : WA M 205 260 w) : F_X9_volumeBySounds 204 M = some (nI (sndT w)) := by
  unfold F_X9_volumeBySounds
  have st : ∀ (k t n : Nat) (K : Int32 → Int32 → Option Int32), k < 3 → F_X9_volumeBySounds_L1 204 M K (n + 1) (nI t) (nI k) = F_X9_volumeBySounds_L1 204 M K n (nI (t + sndK w k)) (nI (k + 1)) := fun k t n K hk => by
    obtain ⟨x, hx⟩ := F_vbJ hL hw hk (fun (x16 : Int32) (x17 : Int32) =>
        lt (nI k + 1) (fun (v18 : Int32) =>
        F_X9_volumeBySounds_L1 204 M K n x16 v18)) 9 0 t 3000 (by omega) (by omega)
    rw [F_X9_volumeBySounds_L1, show (3 : Int32) = nI 3 from rfl, if_neg (nI_ge (by omega) (by omega))]
    rw [show (1 : Int32) = nI (0 + 1) from rfl] at hx ⊢
    rw [hx, lt_v, show nI k + nI (0 + 1) = nI (k + 1) from nI_add k 1]; rfl
  rw [show (0 : Int32) = nI 0 from rfl, show (3000 : Nat) = 2999 + 1 from rfl, st 0 0 2999 _ (by decide), show (2999 : Nat) = 2998 + 1 from rfl, st 1 _ 2998 _ (by decide), show (2998 : Nat) = 2997 + 1 from rfl, st 2 _ 2997 _ (by decide), show (2997 : Nat) = 2996 + 1 from rfl, F_X9_volumeBySounds_L1, if_pos (by decide), sndT_3]
  congr 2
  omega
theorem C_svL (hr : mR M 1 0 = 2) (h : StR M 2 w) {k : Nat} (hk : k < 3) (hb : sndT w < 2 ^ 30) (K : Int64 → Int32 → Option Int64) : ∀ (d i t n : Nat), i + d = 9 → d < n → ∃ x, F_X8_soundsVolume_L1 1 (nI (lett k)) M K n (lN t) (nI (i + 1)) = K (lN (t + isum (fun n => w (18 + 9 * k + n) * vol k (n + 1)) i d)) x := by
  intro d
  induction d with
  | zero =>
    intro i t n e hn
    obtain ⟨n, rfl⟩ : ∃ m, n = m + 1 := ⟨n - 1, by omega⟩
    refine ⟨nI (i + 1), ?_⟩
    rw [F_X8_soundsVolume_L1, show (9 : Int32) = nI 9 from rfl, if_pos (nI_lt (by omega) (by omega))]; rfl
  | succ d ih =>
    intro i t n e hn
    obtain ⟨n, rfl⟩ : ∃ m, n = m + 1 := ⟨n - 1, by omega⟩
    obtain ⟨x, hx⟩ := ih (i + 1) (t + w (18 + 9 * k + i) * vol k (i + 1)) n (by omega) (by omega)
    have l1 := snd_le (w := w) hk (n := i + 1) (by omega) (by omega)
    have l2 := sndK_le (w := w) hk
    have l3 := vol_le (k := k) (n := i + 1) (by omega)
    refine ⟨x, ?_⟩
    rw [F_X8_soundsVolume_L1, show (9 : Int32) = nI 9 from rfl, if_neg (nI_nlt (by omega) (by omega)), hr, C_soundsOf h hk (by omega) (by omega), ob_s, C_vol hk (by omega), ob_s, lt_v, lt_v, nI_l (by omega), nI_l (by omega), show snd w k (i + 1) = w (18 + 9 * k + i) from rfl, lN_mul, lN_add, nI_1, hx, Nat.add_assoc]; rfl
theorem C_sv (hr : mR M 1 0 = 2) (h : StR M 2 w) {k : Nat} (hk : k < 3) (hb : sndT w < 2 ^ 30) : F_X8_soundsVolume 1 (nI (lett k)) M = some (lN (sndK w k)) := by
  unfold F_X8_soundsVolume
  obtain ⟨x, hx⟩ := C_svL hr h hk hb (fun (w13 : Int64) (x14 : Int32) => some w13) 9 0 0 3000 (by omega) (by omega)
  rw [show (0 : Int64) = lN 0 from rfl, show (1 : Int32) = nI (0 + 1) from rfl, hx, Nat.zero_add]; rfl
theorem C_tvb (hr : mR M 1 0 = 2) (h : StR M 2 w) (hb : sndT w < 2 ^ 30) : F_X8_totalVolumeBySounds 1 M = some (lN (sndT w)) := by
  unfold F_X8_totalVolumeBySounds
  rw [show (115 : Int32) = nI (lett 0) from rfl, C_sv hr h (by decide) hb, ob_s, show (119 : Int32) = nI (lett 1) from rfl, C_sv hr h (by decide) hb, ob_s, show (100 : Int32) = nI (lett 2) from rfl, C_sv hr h (by decide) hb, ob_s, lN_add, lN_add, sndT_3, Nat.add_zero, Nat.add_assoc]
/-- all the sounds of note n -/
def sndA (w : Row) (n : Nat) : Nat := snd w 0 n + snd w 1 n + snd w 2 n
theorem F_sA (hL : LM M) (hw : WA M 205 260 w) {n : Nat} (h1 : 1 ≤ n) (h9 : n ≤ 9) : F_X9_soundsAll 204 (nI n) M = some (nI (sndA w n)) := by
  unfold F_X9_soundsAll
  rw [show (0 : Int32) = nI 0 from rfl, F_soundsOf hL hw (by decide) h1 h9, ob_s, show (1 : Int32) = nI 1 from rfl, F_soundsOf hL hw (by decide) h1 h9, ob_s, show (2 : Int32) = nI 2 from rfl, F_soundsOf hL hw (by decide) h1 h9, ob_s, nI_add, nI_add]; rfl
theorem C_sA {x : Nat} (h : StR M x w) {n : Nat} (h1 : 1 ≤ n) (h9 : n ≤ 9) : F_X5_soundsOfAllKinds x (nI n) M = some (nI (sndA w n)) := by
  unfold F_X5_soundsOfAllKinds
  rw [show (115 : Int32) = nI (lett 0) from rfl, C_soundsOf h (by decide) h1 h9, ob_s, show (119 : Int32) = nI (lett 1) from rfl, C_soundsOf h (by decide) h1 h9, ob_s, show (100 : Int32) = nI (lett 2) from rfl, C_soundsOf h (by decide) h1 h9, ob_s, nI_add, nI_add]; rfl
theorem sndA_le {n : Nat} (h1 : 1 ≤ n) (h9 : n ≤ 9) : sndA w n ≤ sndT w := by
  have a := snd_le (w := w) (k := 0) (n := n) (by decide) h1 h9
  have b := snd_le (w := w) (k := 1) (n := n) (by decide) h1 h9
  have c := snd_le (w := w) (k := 2) (n := n) (by decide) h1 h9
  have := sndT_3 w
  unfold sndA; omega
/-- the difference of two small numbers -/
theorem sub_cmp {a b : Nat} (ha : a < 2 ^ 30) (hb : b < 2 ^ 30) : (nI a - nI b = 0 ↔ a = b) ∧ (0 < nI a - nI b ↔ b < a) ∧ (nI a - nI b ≤ 0 ↔ a ≤ b) := by
  have e : (nI a - nI b).toInt = (a : Int) - b := by
    rw [Int32.toInt_sub, nI_toInt (by omega), nI_toInt (by omega), Int.bmod_eq_of_le] <;> omega
  have z : (0 : Int32).toInt = 0 := rfl
  refine ⟨?_, ?_, ?_⟩
  · rw [fa_eq, e, z]; omega
  · rw [fa_lt, e, z]; omega
  · rw [fa_le, e, z]; omega
/-- note b ahead of note a -/
def ahN (w : Row) (a b : Nat) : Nat := if sndA w a < sndA w b then 1 else if sndA w b = sndA w a then (if b ≤ a then 0 else 1) else 0
def rkN (w : Row) (a : Nat) : Nat := isum (fun i => ahN w a (i + 1)) 0 9
theorem F_rkL (hL : LM M) (hw : WA M 205 260 w) (hb : sndT w < 2 ^ 30) {a : Nat} (a1 : 1 ≤ a) (a9 : a ≤ 9) (K : Int32 → Int32 → Option (Int32 × Mem)) : ∀ (d i t n : Nat), i + d = 9 → d < n → ∃ x, F_X9_noteBySounds_L2 204 M (nI a) K n (nI t) (nI (i + 1)) = K (nI (t + isum (fun i => ahN w a (i + 1)) i d)) x := by
  intro d
  induction d with
  | zero =>
    intro i t n e hn
    obtain ⟨n, rfl⟩ : ∃ m, n = m + 1 := ⟨n - 1, by omega⟩
    refine ⟨nI (i + 1), ?_⟩
    rw [F_X9_noteBySounds_L2, show (9 : Int32) = nI 9 from rfl, if_pos (nI_lt (by omega) (by omega))]; rfl
  | succ d ih =>
    intro i t n e hn
    obtain ⟨n, rfl⟩ : ∃ m, n = m + 1 := ⟨n - 1, by omega⟩
    obtain ⟨x, hx⟩ := ih (i + 1) (t + ahN w a (i + 1)) n (by omega) (by omega)
    have la := sndA_le (w := w) a1 a9
    have lb := sndA_le (w := w) (n := i + 1) (by omega) (by omega)
    obtain ⟨c1, c2, c3⟩ := sub_cmp (a := sndA w (i + 1)) (b := sndA w a) (by omega) (by omega)
    refine ⟨x, ?_⟩
    rw [F_X9_noteBySounds_L2, show (9 : Int32) = nI 9 from rfl, if_neg (nI_nlt (by omega) (by omega)), F_sA hL hw (by omega) (by omega), ob_s, F_sA hL hw a1 a9, ob_s, lt_v]
    show _ = K (nI (t + (ahN w a (i + 1) + isum _ (i + 1) d))) x
    rw [← Nat.add_assoc, ← hx]
    unfold ahN
    by_cases z : sndA w a < sndA w (i + 1)
    · rw [if_pos (c2.mpr z), if_pos z, lt_v, lt_v, nI_1, nI_1]
    · rw [if_neg (fun y => z (c2.mp y)), if_neg z]
      by_cases z2 : sndA w (i + 1) = sndA w a
      · rw [if_pos (c1.mpr z2), if_pos z2]
        by_cases z3 : i + 1 ≤ a
        · rw [if_pos (nI_le z3 (by omega)), if_pos z3, lt_v, lt_v, show (0 : Int32) = nI 0 from rfl, nI_add, nI_1]
        · rw [if_neg (nI_ge (by omega) (by omega)), if_neg z3, lt_v, lt_v, nI_1, nI_1]
      · rw [if_neg (fun y => z2 (c1.mp y)), if_neg z2, lt_v, lt_v, show (0 : Int32) = nI 0 from rfl, nI_add, nI_1]
theorem C_rkL (hr : mR M 1 0 = 2) (h : StR M 2 w) (hb : sndT w < 2 ^ 30) {a : Nat} (a1 : 1 ≤ a) (a9 : a ≤ 9) (K : Int32 → Int32 → Option Int32) : ∀ (d i t n : Nat), i + d = 9 → d < n → ∃ x, F_X8_noteRank_L1 1 (nI a) M (nI (sndA w a)) K n (nI t) (nI (i + 1)) = K (nI (t + isum (fun i => ahN w a (i + 1)) i d)) x := by
  intro d
  induction d with
  | zero =>
    intro i t n e hn
    obtain ⟨n, rfl⟩ : ∃ m, n = m + 1 := ⟨n - 1, by omega⟩
    refine ⟨nI (i + 1), ?_⟩
    rw [F_X8_noteRank_L1, show (9 : Int32) = nI 9 from rfl, if_pos (nI_lt (by omega) (by omega))]; rfl
  | succ d ih =>
    intro i t n e hn
    obtain ⟨n, rfl⟩ : ∃ m, n = m + 1 := ⟨n - 1, by omega⟩
    obtain ⟨x, hx⟩ := ih (i + 1) (t + ahN w a (i + 1)) n (by omega) (by omega)
    have la := sndA_le (w := w) a1 a9
    have lb := sndA_le (w := w) (n := i + 1) (by omega) (by omega)
    refine ⟨x, ?_⟩
    rw [F_X8_noteRank_L1, show (9 : Int32) = nI 9 from rfl, if_neg (nI_nlt (by omega) (by omega)), hr, C_sA h (by omega) (by omega), ob_s]
    show _ = K (nI (t + (ahN w a (i + 1) + isum _ (i + 1) d))) x
    rw [← Nat.add_assoc, ← hx]
    unfold ahN
    by_cases z : sndA w a < sndA w (i + 1)
    · rw [if_pos (nI_lt z (by omega)), if_pos z, lt_v, lt_v, nI_1, nI_1]
    · rw [if_neg (nI_nlt (by omega) (by omega)), if_neg z]
      by_cases z2 : sndA w (i + 1) = sndA w a
      · rw [if_pos (congrArg nI z2), if_pos z2]
        by_cases z3 : i + 1 ≤ a
        · rw [if_pos (nI_le z3 (by omega)), if_pos z3, lt_v, nI_1, Nat.add_zero t]
        · rw [if_neg (nI_ge (by omega) (by omega)), if_neg z3, lt_v, lt_v, nI_1, nI_1]
      · rw [if_neg (fun y => z2 ((nI_eq (by omega) (by omega)).mp y)), if_neg z2, lt_v, nI_1, Nat.add_zero t]
/-- the first of a, a + 1, .. whose rank is p -/
def rkF (rk : Nat → Nat) (p : Int32) : Nat → Nat → Option Nat
  | _, 0 => none
  | a, d+1 => if nI (rk a) = p then some a else rkF rk p (a + 1) d
theorem F_nbL (hL : LM M) (hw : WA M 205 260 w) (hb : sndT w < 2 ^ 30) (p : Int32) (K : Int32 → Option (Int32 × Mem)) : ∀ (d a n : Nat), a + d = 10 → 1 ≤ a → d < n →
    (∀ v, rkF (rkN w) p a d = some v → F_X9_noteBySounds_L1 204 p M K n (nI a) = some (nI v, M)) ∧ (rkF (rkN w) p a d = none → F_X9_noteBySounds_L1 204 p M K n (nI a) = K (nI 10)) := by
  intro d
  induction d with
  | zero =>
    intro a n e a1 hn
    obtain ⟨n, rfl⟩ : ∃ m, n = m + 1 := ⟨n - 1, by omega⟩
    refine ⟨fun v h => (by rw [rkF] at h; cases h), fun _ => ?_⟩
    rw [F_X9_noteBySounds_L1, show (9 : Int32) = nI 9 from rfl, if_pos (nI_lt (by omega) (by omega)), show a = 10 by omega]
  | succ d ih =>
    intro a n e a1 hn
    obtain ⟨n, rfl⟩ : ∃ m, n = m + 1 := ⟨n - 1, by omega⟩
    obtain ⟨h1, h2⟩ := ih (a + 1) n (by omega) (by omega) (by omega)
    obtain ⟨x, hx⟩ := F_rkL hL hw hb a1 (by omega) (fun (x26 : Int32) (x27 : Int32) =>
        if x26 = p then
          some (nI a, M)
        else
          lt (nI a + 1) (fun (v29 : Int32) =>
          F_X9_noteBySounds_L1 204 p M K n v29)) 9 0 0 3000 (by omega) (by omega)
    rw [F_X9_noteBySounds_L1, show (9 : Int32) = nI 9 from rfl, if_neg (nI_nlt (by omega) (by omega)), show (0 : Int32) = nI 0 from rfl, show (1 : Int32) = nI (0 + 1) from rfl]
    rw [show (1 : Int32) = nI (0 + 1) from rfl] at hx
    rw [hx, Nat.zero_add, show isum (fun i => ahN w a (i + 1)) 0 9 = rkN w a from rfl]
    unfold rkF
    by_cases z : nI (rkN w a) = p
    · rw [if_pos z, if_pos z]
      exact ⟨fun v hv => (by cases hv; rfl), fun hv => (by cases hv)⟩
    · rw [if_neg z, if_neg z, lt_v, show nI a + nI (0 + 1) = nI (a + 1) from nI_add a 1]
      exact ⟨h1, h2⟩
theorem C_nbL (hr : mR M 1 0 = 2) (h : StR M 2 w) (hb : sndT w < 2 ^ 30) (p : Int32) (K : Int32 → Option ((Int32 ⊕ String) × Mem)) : ∀ (d a n : Nat), a + d = 10 → 1 ≤ a → d < n →
    (∀ v, rkF (rkN w) p a d = some v → F_X8_noteBySounds_L1 1 p M K n (nI a) = some (.inl (nI v), M)) ∧ (rkF (rkN w) p a d = none → F_X8_noteBySounds_L1 1 p M K n (nI a) = K (nI 10)) := by
  intro d
  induction d with
  | zero =>
    intro a n e a1 hn
    obtain ⟨n, rfl⟩ : ∃ m, n = m + 1 := ⟨n - 1, by omega⟩
    refine ⟨fun v h => (by rw [rkF] at h; cases h), fun _ => ?_⟩
    rw [F_X8_noteBySounds_L1, show (9 : Int32) = nI 9 from rfl, if_pos (nI_lt (by omega) (by omega)), show a = 10 by omega]
  | succ d ih =>
    intro a n e a1 hn
    obtain ⟨n, rfl⟩ : ∃ m, n = m + 1 := ⟨n - 1, by omega⟩
    obtain ⟨h1, h2⟩ := ih (a + 1) n (by omega) (by omega) (by omega)
    obtain ⟨x, hx⟩ := C_rkL hr h hb a1 (by omega) (fun (x21 : Int32) (x22 : Int32) => some x21) 9 0 0 3000 (by omega) (by omega)
    have hk : F_X8_noteRank 1 (nI a) M = some (nI (rkN w a)) := by
      unfold F_X8_noteRank
      rw [hr, C_sA h a1 (by omega), ob_s, show (0 : Int32) = nI 0 from rfl, show (1 : Int32) = nI (0 + 1) from rfl, hx, Nat.zero_add]; rfl
    rw [F_X8_noteBySounds_L1, show (9 : Int32) = nI 9 from rfl, if_neg (nI_nlt (by omega) (by omega)), hk, ob_s, lt_v, nI_1]
    unfold rkF
    by_cases z : nI (rkN w a) = p
    · rw [if_pos z, if_pos z]
      exact ⟨fun v hv => (by cases hv; rfl), fun hv => (by cases hv)⟩
    · rw [if_neg z, if_neg z]
      exact ⟨h1, h2⟩
end SO
section SOC
variable {B : Nat} {M : Mem}
theorem BI.snd {Z : ZS} (hB : BI B Z) (hB0 : B ≤ 2 ^ 20) : sndT Z.1.1 < 2 ^ 30 := by
  have b1 := hB.1.1.2.1
  have b5 := hB.1.1.2.2.2.2.2.1
  have b9 := hB.1.1.2.2.2.2.2.2.2.2.2
  omega
theorem call_totalVolumeBySounds (h : GI B M) (hB0 : B ≤ 2 ^ 20) : CallR B M (F_X8_totalVolumeBySounds 1) (F_X9_totalVolumeBySounds 204) := by
  refine callR h fun Z hB => ⟨lN (sndT Z.1.1), 0, fun M hC => C_tvb hC.1.1.1 hC.2.1.1 (hB.snd hB0), .ans fun M hM _ => ?_⟩
  have hM0 := hM.t 0
  have := hB.snd hB0
  unfold F_X9_totalVolumeBySounds
  rw [lt_v, F_vb hM0.1 hM0.2.1.1, ob_s, nI_l (by omega)]
theorem call_soundCount (h : GI B M) (p v : Int32) : Call B M (F_L_soundCount 1 p v 213) (F_X9_soundCount 204 p v) := by
  refine callQ (fc := F_X8_soundCount 1 p v) (kp := keepI) h fun Z hB => ?_
  rcases kind_or p with ⟨q1, q2⟩ | ⟨k, hk, rfl⟩
  · refine Or.inr ⟨"java/lang/IllegalArgumentException", 1, 0, .pure fun M hC _ => ?_, .bad fun M hM _ => ?_, by decide, fun _ => rfl⟩
    · unfold F_X8_soundCount
      rw [q2, ob_s, if_pos (by decide)]
    · unfold F_X9_soundCount
      rw [lt_v, q1, ob_s, if_pos (by decide), F_failsT, b1_s, sI_sI]
  · by_cases hv : v < 1 ∨ 9 < v
    · refine Or.inr ⟨"java/lang/IllegalArgumentException", 1, 0, .pure fun M hC _ => ?_, .bad fun M hM _ => ?_, by decide, fun _ => rfl⟩
      · unfold F_X8_soundCount
        rw [C_kind hk, ob_s, if_neg (nI_pos (by omega))]
        by_cases v0 : v < 1
        · rw [if_pos v0]
        · rw [if_neg v0, if_neg (fun z => hv.elim v0 (fun y => (fa_of_lt y).2.1 z))]
      · unfold F_X9_soundCount
        rw [lt_v, F_kindOf hk, ob_s, if_neg (nI_pos (by omega)), F_bet, ob_s, if_pos hv, if_pos rfl, F_failsT, b1_s, sI_sI]
    · have v1 : ¬ v < 1 := fun z => hv (Or.inl z)
      have v9 := fa_of_nlt (fun z => hv (Or.inr z))
      obtain ⟨n, hn, rfl⟩ := nI_of (x := v) (fun z => v1 (fa_trans z (by decide)))
      have n9 : n ≤ 9 := by rwa [show (9 : Int32) = nI 9 from rfl, nI_leI hn (by decide)] at v9
      have n1 : 1 ≤ n := by rw [show (1 : Int32) = nI 1 from rfl, nI_ltI hn (by decide)] at v1; omega
      refine Or.inl ⟨nI (snd Z.1.1 k n), .pure fun M hC _ => ?_, .ans fun M hM _ => ?_, fun M => rfl⟩
      · unfold F_X8_soundCount
        rw [C_kind hk, ob_s, if_neg (nI_pos (by omega)), if_neg v1, if_pos v9, hC.1.1.1, C_soundsOf hC.2.1.1 hk n1 n9, ob_s]
      · have hM0 := hM.t 0
        unfold F_X9_soundCount
        rw [lt_v, F_kindOf hk, ob_s, if_neg (nI_pos (by omega)), F_bet, ob_s, if_neg hv, if_neg (by decide), ob_s, F_soundsOf hM0.1 hM0.2.1.1 hk n1 n9, ob_s]
theorem call_noteBySounds (h : GI B M) (hB0 : B ≤ 2 ^ 20) (p : Int32) : Call B M (F_L_noteBySounds 1 p 213) (F_X9_noteBySounds 204 p) := by
  refine callQ (fc := F_X8_noteBySounds 1 p) (kp := keepI) h fun Z hB => ?_
  have hb := hB.snd hB0
  cases hr : rkF (rkN Z.1.1) p 1 9 with
  | some v =>
    refine Or.inl ⟨nI v, .pure fun M hC _ => ?_, .ans fun M hM _ => ?_, fun M => rfl⟩
    · unfold F_X8_noteBySounds
      rw [show (1 : Int32) = nI 1 from rfl, (C_nbL hC.1.1.1 hC.2.1.1 hb p _ 9 1 3000 (by omega) (by omega) (by omega)).1 v hr]
    · have hM0 := hM.t 0
      unfold F_X9_noteBySounds
      rw [lt_v, show (1 : Int32) = nI 1 from rfl, (F_nbL hM0.1 hM0.2.1.1 hb p _ 9 1 3000 (by omega) (by omega) (by omega)).1 v hr]
  | none =>
    refine Or.inr ⟨"java/util/NoSuchElementException", 1, 0, .pure fun M hC _ => ?_, .bad fun M hM _ => ?_, by decide, fun _ => rfl⟩
    · unfold F_X8_noteBySounds
      rw [show (1 : Int32) = nI 1 from rfl, (C_nbL hC.1.1.1 hC.2.1.1 hb p _ 9 1 3000 (by omega) (by omega) (by omega)).2 hr]
    · have hM0 := hM.t 0
      unfold F_X9_noteBySounds
      rw [lt_v, show (1 : Int32) = nI 1 from rfl, (F_nbL hM0.1 hM0.2.1.1 hb p _ 9 1 3000 (by omega) (by omega) (by omega)).2 hr, F_failsT, b1_s, sI_sI]
theorem call_greatestTotal (h : GI B M) (hB0 : B ≤ 2 ^ 20) : Call B M (F_L_greatestTotal 1 213) (F_X9_greatestTotal 204) := by
  refine callQ (fc := F_X8_greatestTotal 1) (kp := keepI) h fun Z hB => ?_
  have b1 := hB.1.1.2.1
  rcases Nat.eq_zero_or_pos (Z.1.1 1) with z | z
  · refine Or.inr ⟨"java/util/NoSuchElementException", 1, 0, .pure fun M hC _ => ?_, .bad fun M hM _ => ?_, by decide, fun _ => rfl⟩
    · unfold F_X8_greatestTotal
      rw [hC.1.1.1, hC.2.1.1.2.1.2.2.2.1, z, if_pos nI_0]
    · have hM0 := hM.t 0
      unfold F_X9_greatestTotal
      rw [lt_v, chk_t (by decide), hM0.1.1, hM0.2.1.1 1 (by decide), z, if_pos nI_0, F_failsT, b1_s, sI_sI]
  · refine Or.inl ⟨nI (Z.1.1 6), .pure fun M hC _ => ?_, .ans fun M hM _ => ?_, fun M => rfl⟩
    · unfold F_X8_greatestTotal
      rw [hC.1.1.1, hC.2.1.1.2.1.2.2.2.1, if_neg (nI_ne0 z (by omega)), hC.2.1.1.2.1.2.2.2.2.2.1]
    · have hM0 := hM.t 0
      unfold F_X9_greatestTotal
      rw [lt_v, chk_t (by decide), hM0.1.1, hM0.2.1.1 1 (by decide), if_neg (nI_ne0 z (by omega)), chk_t (by decide), hM0.2.1.1 6 (by decide)]
theorem call_loggedTotal (h : GI B M) (hB0 : B ≤ 2 ^ 20) (p : Int32) : Call B M (F_L_loggedTotal 1 p 213) (F_X9_loggedTotal 204 p) := by
  refine callQ (fc := F_X8_loggedTotal 1 p) (kp := keepI) h fun Z hB => ?_
  have b1 := hB.1.1.2.1
  have b7 := hB.1.1.2.2.2.2.2.2.2.1
  have hm : ∀ M, MI M Z → F_X9_isBetween p 0 (mI (sI M 204 0 0) (mR (sI M 204 0 0) 204 1) 7 - 1) = some (if outR p (Z.1.1 7) then 0 else 1) := fun M hM => by
    have hM0 := hM.t 0
    rw [hM0.1.1, hM0.2.1.1 7 (by decide)]
    rcases Nat.eq_zero_or_pos (Z.1.1 7) with z | z
    · rw [z, F_bet]
      by_cases p0 : p < 0
      · rw [if_pos (Or.inl p0), if_pos (Or.inl p0)]
      · obtain ⟨n, hn, rfl⟩ := nI_of p0
        rw [if_pos (Or.inr (fa_trans (b := nI 0) (by decide) (nI_pos' hn))), if_pos (show outR (nI n) 0 from Or.inr (nI_pos' hn))]
    · exact F_bet0 p z (by omega)
  have o7 : outR p (Z.1.1 7) ↔ p < 0 ∨ 10 ≤ p ∨ ¬ p < nI (Z.1.1 1) := by
    by_cases p0 : p < 0
    · exact ⟨fun _ => Or.inl p0, fun _ => Or.inl p0⟩
    · obtain ⟨n, hn, rfl⟩ := nI_of p0
      rw [show (10 : Int32) = nI 10 from rfl, nI_leI (by omega) hn, nI_ltI hn (by omega)]
      unfold outR
      rw [nI_leI (by omega) hn]
      constructor
      · rintro (q | q)
        · exact Or.inl q
        · omega
      · rintro (q | q)
        · exact Or.inl q
        · exact Or.inr (by omega)
  by_cases hp : outR p (Z.1.1 7)
  · refine Or.inr ⟨"java/util/NoSuchElementException", 1, 0, .pure fun M hC _ => ?_, .bad fun M hM _ => ?_, by decide, fun _ => rfl⟩
    · unfold F_X8_loggedTotal
      rw [hC.1.1.1, hC.2.1.1.2.1.2.2.2.1]
      have := o7.mp hp
      by_cases p0 : p < 0
      · rw [if_pos p0]
      · rw [if_neg p0]
        by_cases p10 : 10 ≤ p
        · rw [if_pos p10]
        · rw [if_neg p10, if_neg ((this.resolve_left p0).resolve_left p10)]
    · unfold F_X9_loggedTotal
      rw [lt_v, chk_t (by decide), hm M hM, ob_s, if_pos hp, if_pos rfl, F_failsT, b1_s, sI_sI]
  · obtain ⟨r, hr, rfl⟩ := in_of hp (by omega)
    refine Or.inl ⟨nI (Z.1.1 (8 + r)), .pure fun M hC _ => ?_, .ans fun M hM _ => ?_, fun M => rfl⟩
    · have hlog := hC.2.1.1.2.2.2.2.2.1.2 r hr
      unfold F_X8_loggedTotal F_X5_totalOf
      rw [hC.1.1.1, hC.2.1.1.2.1.2.2.2.1, if_neg (nI_pos (by omega)), show (10 : Int32) = nI 10 from rfl, if_neg (nI_ge (by omega) (by omega)), if_pos (nI_lt (by omega) (by omega)), show (1 : Int32) = nI 1 from rfl, nI_sub (by omega), nI_sub (by omega), nI_rem (by omega) (by decide) (by decide), lt_v, if_neg (nI_pos (by omega)), if_neg (nI_ge (Nat.mod_lt _ (by decide)) (by omega)), chk_t (inb_n (Nat.mod_lt _ (by decide)) (by decide)), nI_clamp (by omega), hC.2.1.1.1.2.2, hlog, ob_s]
    · have hM0 := hM.t 0
      unfold F_X9_loggedTotal
      rw [lt_v, chk_t (by decide), hm M hM, ob_s, if_neg hp, if_neg (by decide), show (8 : Int32) = nI 8 from rfl, nI_add, chk_t (inb_n (by omega) (by decide)), nI_clamp (by omega), hM0.1.1, hM0.2.1.1 _ (by omega)]
end SOC
