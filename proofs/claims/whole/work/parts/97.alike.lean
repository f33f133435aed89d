/-! PURE LEVEL: nextTotal, areAlike, isSymmetric, columnVolumeByTransposing -/
section NT
variable {B : Nat} {M : Mem} {Z : ZS}
def volS (w : Row) : Nat → Nat := fun s => volN w (bs s)
theorem C_nextV (hC : CI M Z) (hB : BI B Z) (hB0 : B ≤ 2 ^ 20) {s : Nat} (hs : s < Z.1.1 0) : F_X8_nextVolume 1 (nI s) M = some (.inl (nI (volN Z.1.1 (bs s))), M) := by
  have r5 := hB.r0
  have b1 := hB.1.1.2.1
  unfold F_X8_nextVolume
  rw [C_pres hC hB hs, bx_l, chk_t (C_secTy hC (by omega)).1, hC.1.1.1, hC.2.1.1.2.1.2.2.2.1, C_volIn (hC.sec hs) (hB.sec hs) (by omega), ob_s]
theorem C_ntL (hC : CI M Z) (hB : BI B Z) (hB0 : B ≤ 2 ^ 20) (K : Int32 → Int32 → Mem → Option ((Int32 ⊕ String) × Mem)) : ∀ (d s t n : Nat), s + d = Z.1.1 0 → d < n → ∃ x, F_X8_nextTotal_L1 1 K n (nI t) (nI s) M = K (nI (t + isum (volS Z.1.1) s d)) x M := by
  have r5 := hB.r0
  intro d
  induction d with
  | zero =>
    intro s t n e hn
    obtain ⟨n, rfl⟩ : ∃ m, n = m + 1 := ⟨n - 1, by omega⟩
    refine ⟨nI s, ?_⟩
    rw [F_X8_nextTotal_L1, hC.1.1.1, hC.2.1.1.2.1.1, if_pos (nI_le (by omega) (by omega))]; rfl
  | succ d ih =>
    intro s t n e hn
    obtain ⟨n, rfl⟩ : ∃ m, n = m + 1 := ⟨n - 1, by omega⟩
    obtain ⟨x, hx⟩ := ih (s + 1) (t + volN Z.1.1 (bs s)) n (by omega) (by omega)
    refine ⟨x, ?_⟩
    rw [F_X8_nextTotal_L1, hC.1.1.1, hC.2.1.1.2.1.1, if_neg (nI_ge (by omega) (by omega)), C_nextV hC hB hB0 (by omega), bx_l, lt_v, lt_v, nI_add, nI_1, hx, Nat.add_assoc]; rfl
theorem F_ntL (hL : LM M) (hw : WA M 205 260 Z.1.1) (hB : BI B Z) (hB0 : B ≤ 2 ^ 20) (K : Int32 → Int32 → Option (Int32 × Mem)) : ∀ (d s t n : Nat), s + d = Z.1.1 0 → d < n → ∃ x, F_X9_nextTotal_L1 204 M K n (nI t) (nI s) = K (nI (t + isum (volS Z.1.1) s d)) x := by
  have r5 := hB.r0
  have b1 := hB.1.1.2.1
  intro d
  induction d with
  | zero =>
    intro s t n e hn
    obtain ⟨n, rfl⟩ : ∃ m, n = m + 1 := ⟨n - 1, by omega⟩
    refine ⟨nI s, ?_⟩
    rw [F_X9_nextTotal_L1, chk_t (by decide), hL.1, hw.at (by decide), if_pos (nI_le (by omega) (by omega))]; rfl
  | succ d ih =>
    intro s t n e hn
    obtain ⟨n, rfl⟩ : ∃ m, n = m + 1 := ⟨n - 1, by omega⟩
    obtain ⟨x, hx⟩ := ih (s + 1) (t + volN Z.1.1 (bs s)) n (by omega) (by omega)
    refine ⟨x, ?_⟩
    rw [F_X9_nextTotal_L1, chk_t (by decide), hL.1, hw.at (by decide), if_neg (nI_ge (by omega) (by omega)), F_volNow hL hw (by omega) (by omega) (hB.sec (by omega)), ob_s, lt_v, lt_v, nI_add, nI_1, hx, Nat.add_assoc]; rfl
theorem call_nextTotal (h : GI B M) (hB0 : B ≤ 2 ^ 20) : CallS B M (F_X8_nextTotal 1) (F_X9_nextTotal 204) := by
  refine callSum h fun Z hB => ⟨nI (0 + isum (volS Z.1.1) 0 (Z.1.1 0)), 0, .pure fun M hC _ => ?_, .ans fun M hM _ => ?_⟩
  · have r5 := hB.r0
    unfold F_X8_nextTotal
    obtain ⟨x, hx⟩ := C_ntL hC hB hB0 (fun (x14 : Int32) (x15 : Int32) (M16 : Mem) =>
  some (.inl x14, M16)) (Z.1.1 0) 0 0 3000 (by omega) (by omega)
    exact hx
  · have r5 := hB.r0
    have hM0 := hM.t 0
    unfold F_X9_nextTotal
    rw [lt_v]
    obtain ⟨x, hx⟩ := F_ntL hM0.1 hM0.2.1.1 hB hB0 (fun (x13 : Int32) (x14 : Int32) =>
  some (x13, sI M 204 0 0)) (Z.1.1 0) 0 0 3000 (by omega) (by omega)
    exact hx
end NT
/-- two scores alike -/
def alikeP (r c r' c' : Nat) (f g : Nat → Nat) : Prop := r = r' ∧ c = c' ∧ ∀ k, k < 36 → f k = g k
section SC
variable {M : Mem}
theorem C_scL {a q : Nat} {f g : Nat → Nat} (ha : mR M a 3 = a + 1) (hq : mR M q 3 = q + 1) (hf : NA M (a + 1) f) (hg : NA M (q + 1) g) (bf : ∀ k, k < 36 → f k < 10) (bg : ∀ k, k < 36 → g k < 10) (K : Int32 → Option Int32) : ∀ (d i n : Nat), i + d = 36 → d < n →
    ((∀ j, i ≤ j → j < 36 → f j = g j) → F_X4_hasScoreOf_L1 a q M K n (nI i) = K (nI 36)) ∧ (¬ (∀ j, i ≤ j → j < 36 → f j = g j) → F_X4_hasScoreOf_L1 a q M K n (nI i) = some 0) := by
  intro d
  induction d with
  | zero =>
    intro i n e hn
    obtain ⟨n, rfl⟩ : ∃ m, n = m + 1 := ⟨n - 1, by omega⟩
    refine ⟨fun _ => ?_, fun h => absurd (fun j h1 h2 => by omega) h⟩
    rw [F_X4_hasScoreOf_L1, show (36 : Int32) = nI 36 from rfl, if_pos (nI_le (by omega) (by omega)), show i = 36 by omega]
  | succ d ih =>
    intro i n e hn
    obtain ⟨n, rfl⟩ : ∃ m, n = m + 1 := ⟨n - 1, by omega⟩
    obtain ⟨h1, h2⟩ := ih (i + 1) n (by omega) (by omega)
    have x1 := bf i (by omega)
    have x2 := bg i (by omega)
    rw [F_X4_hasScoreOf_L1, show (36 : Int32) = nI 36 from rfl, if_neg (nI_ge (by omega) (by omega)), if_neg (nI_ge (by omega) (by omega)), chk_t (inb_n (by omega) (by decide)), chk_t (inb_n (by omega) (by decide)), nI_clamp (by omega), ha, hq, hf i (by omega), hg i (by omega), lt_v, nI_1]
    by_cases z : f i = g i
    · rw [if_pos (congrArg nI z)]
      refine ⟨fun h => h1 fun j p q => h j (by omega) q, fun h => h2 fun h3 => h fun j p q => ?_⟩
      by_cases e : j = i
      · rw [e]; exact z
      · exact h3 j (by omega) q
    · rw [if_neg (fun y => z ((nI_eq (by omega) (by omega)).mp y))]
      exact ⟨fun h => absurd (h i (Nat.le_refl _) (by omega)) z, fun _ => rfl⟩
/-- what our comparison needs of a section object -/
def ScO (M : Mem) (a r c : Nat) (f : Nat → Nat) : Prop := mI M a 1 = nI r ∧ mI M a 2 = nI c ∧ mR M a 3 = a + 1 ∧ NA M (a + 1) f ∧ r ≤ 6 ∧ c ≤ 6 ∧ ∀ k, k < 36 → f k < 10
theorem ScO.of {w : Row} {a b : Nat} (hR : SecR M a w b) (h : SecOK w b) : ScO M a (w (b + 1)) (w (b + 2)) (notesOf w b) := ⟨hR.2.1, hR.2.2.1, hR.2.2.2.2.2.2.2.1, hR.na, h.2.1.2, h.2.2.1.2, (NOK.of h).all⟩
theorem C_sc {a q r c r' c' : Nat} {f g : Nat → Nat} (ha : ScO M a r c f) (hq : ScO M q r' c' g) : (alikeP r c r' c' f g → F_X4_hasScoreOf a q M = some 1) ∧ (¬ alikeP r c r' c' f g → F_X4_hasScoreOf a q M = some 0) := by
  obtain ⟨a1, a2, a3, a4, a5, a6, a7⟩ := ha
  obtain ⟨b1, b2, b3, b4, b5, b6, b7⟩ := hq
  obtain ⟨l1, l2⟩ := C_scL a3 b3 a4 b4 a7 b7 (fun (x16 : Int32) => some 1) 36 0 3000 (by omega) (by omega)
  unfold F_X4_hasScoreOf
  rw [a1, a2, b1, b2]
  by_cases z1 : r = r'
  · rw [if_pos (congrArg nI z1)]
    by_cases z2 : c = c'
    · rw [if_pos (congrArg nI z2)]
      exact ⟨fun h => l1 fun j _ q => h.2.2 j q, fun h => l2 fun h3 => h ⟨z1, z2, fun k hk => h3 k (Nat.zero_le _) hk⟩⟩
    · rw [if_neg (fun y => z2 ((nI_eq (by omega) (by omega)).mp y))]
      exact ⟨fun h => absurd h.2.1 z2, fun _ => rfl⟩
  · rw [if_neg (fun y => z1 ((nI_eq (by omega) (by omega)).mp y))]
    exact ⟨fun h => absurd h.1 z1, fun _ => rfl⟩
end SC
section AL
variable {B : Nat} {M : Mem}
theorem F_alL {w : Row} (hL : LM M) (hw : WA M 205 260 w) {s t : Nat} (hs : s < 5) (ht : t < 5) (bf : ∀ k, k < 36 → notesOf w (bs s) k < 10) (bg : ∀ k, k < 36 → notesOf w (bs t) k < 10) (K : Int32 → Option (Int32 × Mem)) : ∀ (d i n : Nat), i + d = 36 → d < n →
    ((∀ j, i ≤ j → j < 36 → notesOf w (bs s) j = notesOf w (bs t) j) → F_X9_areAlike_L1 204 (nI s) (nI t) M K n (nI (7 + i)) = K (nI 43)) ∧ (¬ (∀ j, i ≤ j → j < 36 → notesOf w (bs s) j = notesOf w (bs t) j) → F_X9_areAlike_L1 204 (nI s) (nI t) M K n (nI (7 + i)) = some (0, M)) := by
  intro d
  induction d with
  | zero =>
    intro i n e hn
    obtain ⟨n, rfl⟩ : ∃ m, n = m + 1 := ⟨n - 1, by omega⟩
    refine ⟨fun _ => ?_, fun h => absurd (fun j h1 h2 => by omega) h⟩
    rw [F_X9_areAlike_L1, show (43 : Int32) = nI 43 from rfl, if_pos (nI_le (by omega) (by omega)), show 7 + i = 43 by omega]
  | succ d ih =>
    intro i n e hn
    obtain ⟨n, rfl⟩ : ∃ m, n = m + 1 := ⟨n - 1, by omega⟩
    obtain ⟨h1, h2⟩ := ih (i + 1) n (by omega) (by omega)
    have x1 := bf i (by omega)
    have x2 := bg i (by omega)
    rw [F_X9_areAlike_L1, show (43 : Int32) = nI 43 from rfl, if_neg (nI_ge (by omega) (by omega)), F_of hL hw (s := s) (by omega), ob_s, F_of hL hw (s := t) (by omega), ob_s, lt_v, nI_1, show w (45 + 43 * s + (7 + i)) = notesOf w (bs s) i from rfl, show w (45 + 43 * t + (7 + i)) = notesOf w (bs t) i from rfl]
    by_cases z : notesOf w (bs s) i = notesOf w (bs t) i
    · rw [if_pos (congrArg nI z)]
      refine ⟨fun h => h1 fun j p q => h j (by omega) q, fun h => h2 fun h3 => h fun j p q => ?_⟩
      by_cases e : j = i
      · rw [e]; exact z
      · exact h3 j (by omega) q
    · rw [if_neg (fun y => z ((nI_eq (by omega) (by omega)).mp y))]
      exact ⟨fun h => absurd (h i (Nat.le_refl _) (by omega)) z, fun _ => rfl⟩
theorem call_areAlike (h : GI B M) (p q : Int32) : Call B M (F_L_areAlike 1 p q 213) (F_X9_areAlike 204 p q) := by
  refine callQ (fc := F_X8_areAlike 1 p q) (kp := keepZ) h fun Z hB => ?_
  have r5 := hB.r0
  by_cases hp : outR p (Z.1.1 0)
  · refine Or.inr ⟨"java/lang/IndexOutOfBoundsException", 1, 0, .pure fun M hC _ => ?_, .bad fun M hM _ => ?_, by decide, fun _ => rfl⟩
    · unfold F_X8_areAlike
      rw [C_presN hC hB hp, bx_r]
    · have hM0 := hM.t 0
      unfold F_X9_areAlike
      rw [lt_v, F_isSecI hM0.1 hM0.2.1.1 (by omega), ob_s, if_pos hp, if_pos rfl, F_failsT, b1_s, if_pos (by decide), sI_sI]
  obtain ⟨s, hs, rfl⟩ := in_of hp (by omega)
  by_cases hq : outR q (Z.1.1 0)
  · refine Or.inr ⟨"java/lang/IndexOutOfBoundsException", 1, 0, .pure fun M hC _ => ?_, .bad fun M hM _ => ?_, by decide, fun _ => rfl⟩
    · unfold F_X8_areAlike
      rw [C_pres hC hB hs, bx_l, chk_t (C_secTy hC (by omega)).1, C_presN hC hB hq, bx_r]
    · have hM0 := hM.t 0
      unfold F_X9_areAlike
      rw [lt_v, F_isSecI hM0.1 hM0.2.1.1 (by omega), ob_s, if_neg hp, if_neg (by decide), F_isSecI hM0.1 hM0.2.1.1 (by omega), ob_s, if_pos hq, if_pos rfl, F_failsT, b1_s, if_pos (by decide), sI_sI]
  obtain ⟨t, ht, rfl⟩ := in_of hq (by omega)
  have ok := hB.sec hs
  have okt := hB.sec ht
  have a1 := ok.2.1
  have a2 := ok.2.2.1
  have b1 := okt.2.1
  have b2 := okt.2.2.1
  have hc : ∀ M, CI M Z → F_X8_areAlike 1 (nI s) (nI t) M = Option.bind (F_X4_hasScoreOf (mR M 3 s) (mR M 3 t) M) (fun v12 => chk (nokZ v12) (some (.inl v12, M))) := fun M hC => by
    unfold F_X8_areAlike
    rw [C_pres hC hB hs, bx_l, chk_t (C_secTy hC (by omega)).1, C_pres hC hB ht, bx_l, chk_t (C_secTy hC (by omega)).1]
  have hm : ∀ M, MI M Z → F_X9_areAlike 204 (nI s) (nI t) M = if nI (Z.1.1 (bs s + 1)) = nI (Z.1.1 (bs t + 1)) then (if nI (Z.1.1 (bs s + 2)) = nI (Z.1.1 (bs t + 2)) then F_X9_areAlike_L1 204 (nI s) (nI t) (sI M 204 0 0) (fun (x32 : Int32) => some (1, sI M 204 0 0)) 3000 7 else some (0, sI M 204 0 0)) else some (0, sI M 204 0 0) := fun M hM => by
    have hM0 := hM.t 0
    unfold F_X9_areAlike
    rw [lt_v, F_isSecI hM0.1 hM0.2.1.1 (by omega), ob_s, if_neg hp, if_neg (by decide), F_isSecI hM0.1 hM0.2.1.1 (by omega), ob_s, if_neg hq, if_neg (by decide), show F_X9_of 204 (nI s) 1 _ = _ from F_of hM0.1 hM0.2.1.1 (k := 1) (by omega), ob_s, show F_X9_of 204 (nI t) 1 _ = _ from F_of hM0.1 hM0.2.1.1 (k := 1) (by omega), ob_s, show F_X9_of 204 (nI s) 2 _ = _ from F_of hM0.1 hM0.2.1.1 (k := 2) (by omega), ob_s, show F_X9_of 204 (nI t) 2 _ = _ from F_of hM0.1 hM0.2.1.1 (k := 2) (by omega), ob_s]
  by_cases al : alikeP (Z.1.1 (bs s + 1)) (Z.1.1 (bs s + 2)) (Z.1.1 (bs t + 1)) (Z.1.1 (bs t + 2)) (notesOf Z.1.1 (bs s)) (notesOf Z.1.1 (bs t))
  · refine Or.inl ⟨1, .pure fun M hC _ => ?_, .ans fun M hM _ => ?_, fun M => keepZ_I (Or.inr rfl) M⟩
    · rw [hc M hC, (C_sc (ScO.of (hC.sec hs) ok) (ScO.of (hC.sec ht) okt)).1 al, ob_s]; rfl
    · have hM0 := hM.t 0
      rw [hm M hM, if_pos (congrArg nI al.1), if_pos (congrArg nI al.2.1)]
      exact (F_alL hM0.1 hM0.2.1.1 (by omega) (by omega) (NOK.of ok).all (NOK.of okt).all (fun (x32 : Int32) => some (1, sI M 204 0 0)) 36 0 3000 (by omega) (by omega)).1 fun j _ q => al.2.2 j q
  · refine Or.inl ⟨0, .pure fun M hC _ => ?_, .ans fun M hM _ => ?_, fun M => keepZ_I (Or.inl rfl) M⟩
    · rw [hc M hC, (C_sc (ScO.of (hC.sec hs) ok) (ScO.of (hC.sec ht) okt)).2 al, ob_s]; rfl
    · have hM0 := hM.t 0
      rw [hm M hM]
      by_cases z1 : Z.1.1 (bs s + 1) = Z.1.1 (bs t + 1)
      · rw [if_pos (congrArg nI z1)]
        by_cases z2 : Z.1.1 (bs s + 2) = Z.1.1 (bs t + 2)
        · rw [if_pos (congrArg nI z2)]
          exact (F_alL hM0.1 hM0.2.1.1 (by omega) (by omega) (NOK.of ok).all (NOK.of okt).all (fun (x32 : Int32) => some (1, sI M 204 0 0)) 36 0 3000 (by omega) (by omega)).2 fun h3 => al ⟨z1, z2, fun k hk => h3 k (Nat.zero_le _) hk⟩
        · rw [if_neg (fun y => z2 ((nI_eq (by omega) (by omega)).mp y))]
      · rw [if_neg (fun y => z1 ((nI_eq (by omega) (by omega)).mp y))]
/-- a section copied and transposed -/
theorem C_transp {Z : ZS} (hC : CI M Z) {s : Nat} (hs : s < Z.1.1 0) (hB : BI B Z) : ∃ M1 M2, F_X4_copyFrom 172 (mR M 3 s) M = some ((), M1) ∧ mR M1 1 5 = 172 ∧ F_X4_flip 172 M1 = some ((), M2) ∧ mR M2 1 5 = 172 ∧ SecR M2 172 (flipRow Z.1.1 (bs s)) (bs s) ∧ Same (fun a _ => a ≠ 172 ∧ a ≠ 173) M M2 ∧ M2.2 = M.2 := by
  have r5 := hB.r0
  obtain ⟨t4, q6, q15, q3⟩ := C_secTy hC (s := s) (by omega)
  have hR := hC.sec hs
  have r17 := hC.1.2.2.2.2.1.1
  obtain ⟨M1, g1, ⟨a0, a1, a2, a4, a5, a6, a7⟩, g3, g4, g5⟩ := C_copyS (M := M) (a := 172) (q := mR M 3 s) (by omega) (by omega) (by omega) r17 q3 (hC.2.1.1.nk (by omega))
  obtain ⟨r0, r1, r2, r4, r5', r6, r7, r8, r9⟩ := hR
  have n1 : NA M1 173 (notesOf Z.1.1 (bs s)) := fun k hk => (g3 k hk).trans (r9 k hk)
  obtain ⟨M2, k1, k2, k3, k4, k5, k6⟩ := C_flip (M := M1) (a := 172) (f := notesOf Z.1.1 (bs s)) (by unfold mR; rw [g5]; exact r17) n1
  have rr : ∀ a k, mR M2 a k = mR M a k := fun a k => by unfold mR; rw [k6, g5]
  refine ⟨M1, M2, g1, by unfold mR; rw [g5]; exact hC.1.1.2.2.2.2.1, k1, (rr 1 5).trans hC.1.1.2.2.2.2.1, ?_, fun a k p => ⟨(k5 a k p.2 (by omega)).trans (g4 a k p.1 p.2), by unfold mJ; rw [k6, g5], rr a k⟩, by rw [k6, g5]⟩
  have o : ∀ k, k < 7 → k ≠ 1 → k ≠ 2 → flipRow Z.1.1 (bs s) (bs s + k) = Z.1.1 (bs s + k) := fun k hk h1 h2 => flipRow_o Z.1.1 (bs s) (by omega) (by omega) (by omega)
  have o0 : flipRow Z.1.1 (bs s) (bs s) = Z.1.1 (bs s) := flipRow_o Z.1.1 (bs s) (by omega) (by omega) (by omega)
  have q : ∀ k, k ≠ 1 → k ≠ 2 → mI M2 172 k = mI M1 172 k := fun k h1 h2 => k5 _ _ (by omega) (by omega)
  unfold SecR
  rw [q 0 (by decide) (by decide), k3, k4, q 4 (by decide) (by decide), q 5 (by decide) (by decide), q 6 (by decide) (by decide), q 7 (by decide) (by decide), o0, flipRow_1, flipRow_2, o 3 (by decide) (by decide) (by decide), o 4 (by decide) (by decide) (by decide), o 5 (by decide) (by decide) (by decide), o 6 (by decide) (by decide) (by decide), rr]
  exact ⟨a0.trans r0, a2.trans r2, a1.trans r1, a4.trans r4, a5.trans r5', a6.trans r6, a7.trans r7, r17, fun k hk => by rw [flipRow_n Z.1.1 (bs s) hk]; exact k2 k hk⟩
/-- a score that is its own transposition -/
def symP (r c : Nat) (f : Nat → Nat) : Prop := r = c ∧ ∀ i j, i < r → j < i → f (6 * i + j) = f (6 * j + i)
theorem symP_iff {r c : Nat} {f : Nat → Nat} (h : NOK r c f) (r6 : r ≤ 6) : alikeP c r r c (flI f 0 6) f ↔ symP r c f := by
  constructor
  · rintro ⟨h1, -, h3⟩
    refine ⟨h1.symm, fun i j hi hj => ?_⟩
    have := h3 (6 * i + j) (by omega)
    rw [flI_at f (by omega) (by omega)] at this
    exact this.symm
  · rintro ⟨h1, h2⟩
    refine ⟨h1.symm, h1, fun k hk => ?_⟩
    have e : k = 6 * (k / 6) + k % 6 := by omega
    have hi : k / 6 < 6 := by omega
    have hj : k % 6 < 6 := by omega
    rw [e, flI_at f hi hj]
    generalize k / 6 = i at *
    generalize k % 6 = j at *
    by_cases hr : i < r ∧ j < r
    · rcases Nat.lt_trichotomy i j with q | q | q
      · exact h2 j i hr.2 q
      · rw [q]
      · exact (h2 i j hr.1 q).symm
    · rw [(h j i hj hi).2 (by omega), (h i j hi hj).2 (by omega)]
theorem F_syJ {w : Row} (hL : LM M) (hw : WA M 205 260 w) {s i : Nat} (hs : s < 5) (hi : i < 6) (bf : ∀ k, k < 36 → notesOf w (bs s) k < 10) (K : Int32 → Option (Int32 × Mem)) : ∀ (d j n : Nat), j + d = i → d < n →
    ((∀ k, j ≤ k → k < i → notesOf w (bs s) (6 * i + k) = notesOf w (bs s) (6 * k + i)) → ∃ x, F_X9_isSymmetric_L2 204 (nI s) M (nI i) K n (nI j) = K x) ∧ (¬ (∀ k, j ≤ k → k < i → notesOf w (bs s) (6 * i + k) = notesOf w (bs s) (6 * k + i)) → F_X9_isSymmetric_L2 204 (nI s) M (nI i) K n (nI j) = some (0, M)) := by
  intro d
  induction d with
  | zero =>
    intro j n e hn
    obtain ⟨n, rfl⟩ : ∃ m, n = m + 1 := ⟨n - 1, by omega⟩
    refine ⟨fun _ => ⟨nI j, ?_⟩, fun h => absurd (fun j h1 h2 => by omega) h⟩
    rw [F_X9_isSymmetric_L2, if_pos (nI_le (by omega) (by omega))]
  | succ d ih =>
    intro j n e hn
    obtain ⟨n, rfl⟩ : ∃ m, n = m + 1 := ⟨n - 1, by omega⟩
    obtain ⟨h1, h2⟩ := ih (j + 1) n (by omega) (by omega)
    have x1 := bf (6 * i + j) (by omega)
    have x2 := bf (6 * j + i) (by omega)
    have v1 : w (45 + 43 * s + (7 + 6 * i + j)) = notesOf w (bs s) (6 * i + j) := congrArg w (show 45 + 43 * s + (7 + 6 * i + j) = 45 + 43 * s + (7 + (6 * i + j)) by omega)
    have v2 : w (45 + 43 * s + (7 + 6 * j + i)) = notesOf w (bs s) (6 * j + i) := congrArg w (show 45 + 43 * s + (7 + 6 * j + i) = 45 + 43 * s + (7 + (6 * j + i)) by omega)
    rw [F_X9_isSymmetric_L2, if_neg (nI_ge (by omega) (by omega)), F_note hL hw (s := s) (by omega), ob_s, F_note hL hw (s := s) (by omega), ob_s, lt_v, nI_1, v1, v2]
    by_cases z : notesOf w (bs s) (6 * i + j) = notesOf w (bs s) (6 * j + i)
    · rw [if_pos (congrArg nI z)]
      refine ⟨fun h => h1 fun k p q => h k (by omega) q, fun h => h2 fun h3 => h fun k p q => ?_⟩
      by_cases e : k = j
      · rw [e]; exact z
      · exact h3 k (by omega) q
    · rw [if_neg (fun y => z ((nI_eq (by omega) (by omega)).mp y))]
      exact ⟨fun h => absurd (h j (Nat.le_refl _) (by omega)) z, fun _ => rfl⟩
theorem F_syI {w : Row} (hL : LM M) (hw : WA M 205 260 w) {s : Nat} (hs : s < 5) (ok : SecOK w (bs s)) (K : Int32 → Option (Int32 × Mem)) : ∀ (d i n : Nat), i + d = w (bs s + 1) → d < n →
    ((∀ p k, i ≤ p → p < w (bs s + 1) → k < p → notesOf w (bs s) (6 * p + k) = notesOf w (bs s) (6 * k + p)) → ∃ x, F_X9_isSymmetric_L1 204 (nI s) M K n (nI i) = K x) ∧ (¬ (∀ p k, i ≤ p → p < w (bs s + 1) → k < p → notesOf w (bs s) (6 * p + k) = notesOf w (bs s) (6 * k + p)) → F_X9_isSymmetric_L1 204 (nI s) M K n (nI i) = some (0, M)) := by
  have bf := (NOK.of ok).all
  have h1 := ok.2.1
  intro d
  induction d with
  | zero =>
    intro i n e hn
    obtain ⟨n, rfl⟩ : ∃ m, n = m + 1 := ⟨n - 1, by omega⟩
    refine ⟨fun _ => ⟨nI i, ?_⟩, fun h => absurd (fun p k h1 h2 => by omega) h⟩
    rw [F_X9_isSymmetric_L1, show (1 : Int32) = nI 1 from rfl, F_of hL hw (by omega), ob_s, if_pos (nI_le (by simp only [bs] at *; omega) (by omega))]
  | succ d ih =>
    intro i n e hn
    obtain ⟨n, rfl⟩ : ∃ m, n = m + 1 := ⟨n - 1, by omega⟩
    obtain ⟨g1, g2⟩ := ih (i + 1) n (by omega) (by omega)
    obtain ⟨j1, j2⟩ := F_syJ hL hw hs (i := i) (by omega) bf (fun (x25 : Int32) =>
            lt (nI i + 1) (fun (v26 : Int32) =>
            F_X9_isSymmetric_L1 204 (nI s) M K n v26)) i 0 3000 (by omega) (by omega)
    have st : F_X9_isSymmetric_L1 204 (nI s) M K (n + 1) (nI i) = F_X9_isSymmetric_L2 204 (nI s) M (nI i) (fun (x25 : Int32) =>
            lt (nI i + 1) (fun (v26 : Int32) =>
            F_X9_isSymmetric_L1 204 (nI s) M K n v26)) 3000 0 := by
      rw [F_X9_isSymmetric_L1, show F_X9_of 204 (nI s) 1 M = _ from F_of hL hw (k := 1) (by omega), ob_s, if_neg (nI_ge (by simp only [bs] at *; omega) (by simp only [bs] at *; omega))]
    rw [st]
    by_cases z : ∀ k, 0 ≤ k → k < i → notesOf w (bs s) (6 * i + k) = notesOf w (bs s) (6 * k + i)
    · obtain ⟨x, hx⟩ := j1 z
      rw [show (0 : Int32) = nI 0 from rfl, hx, lt_v, nI_1]
      refine ⟨fun h => g1 fun p k q1 q2 q3 => h p k (by omega) q2 q3, fun h => g2 fun h3 => h fun p k q1 q2 q3 => ?_⟩
      by_cases e : p = i
      · rw [e]; exact z k (Nat.zero_le _) (by omega)
      · exact h3 p k (by omega) q2 q3
    · exact ⟨fun h => absurd (fun k _ hk => h i k (Nat.le_refl _) (by omega) hk) z, fun _ => j2 z⟩
theorem call_isSymmetric (h : GI B M) (p : Int32) : Call B M (F_L_isSymmetric 1 p 213) (F_X9_isSymmetric 204 p) := by
  refine callQ (fc := F_X8_isSymmetric 1 p) (kp := keepZ) h fun Z hB => ?_
  have r5 := hB.r0
  by_cases hp : outR p (Z.1.1 0)
  · refine Or.inr ⟨"java/lang/IndexOutOfBoundsException", 1, 0, .pure fun M hC _ => ?_, .bad fun M hM _ => ?_, by decide, fun _ => rfl⟩
    · unfold F_X8_isSymmetric
      rw [C_presN hC hB hp, bx_r]
    · have hM0 := hM.t 0
      unfold F_X9_isSymmetric
      rw [lt_v, F_isSecI hM0.1 hM0.2.1.1 (by omega), ob_s, if_pos hp, if_pos rfl, F_failsT, b1_s, if_pos (by decide), sI_sI]
  obtain ⟨s, hs, rfl⟩ := in_of hp (by omega)
  have ok := hB.sec hs
  have a1 := ok.2.1
  have a2 := ok.2.2.1
  have okF := flipRow_ok ok
  have eN : notesOf (flipRow Z.1.1 (bs s)) (bs s) = fun k => flipRow Z.1.1 (bs s) (bs s + (7 + k)) := rfl
  have hm : ∀ M, MI M Z → F_X9_isSymmetric 204 (nI s) M = if nI (Z.1.1 (bs s + 1)) = nI (Z.1.1 (bs s + 2)) then F_X9_isSymmetric_L1 204 (nI s) (sI M 204 0 0) (fun (x28 : Int32) => some (1, sI M 204 0 0)) 3000 0 else some (0, sI M 204 0 0) := fun M hM => by
    have hM0 := hM.t 0
    unfold F_X9_isSymmetric
    rw [lt_v, F_isSecI hM0.1 hM0.2.1.1 (by omega), ob_s, if_neg hp, if_neg (by decide), show F_X9_of 204 (nI s) 1 _ = _ from F_of hM0.1 hM0.2.1.1 (k := 1) (by omega), ob_s, show F_X9_of 204 (nI s) 2 _ = _ from F_of hM0.1 hM0.2.1.1 (k := 2) (by omega), ob_s]
  have hc : ∀ (v : Int32), (∀ (M2 : Mem) (a : Nat), ScO M2 172 (Z.1.1 (bs s + 2)) (Z.1.1 (bs s + 1)) (notesOf (flipRow Z.1.1 (bs s)) (bs s)) → ScO M2 a (Z.1.1 (bs s + 1)) (Z.1.1 (bs s + 2)) (notesOf Z.1.1 (bs s)) → F_X4_hasScoreOf 172 a M2 = some v) → nokZ v = true → QC Z B (F_X8_isSymmetric 1 (nI s)) (.inl v) := fun v hv hz M hC _ => by
    obtain ⟨t4, q6, q15, q3⟩ := C_secTy hC (s := s) (by omega)
    obtain ⟨M1, M2, g1, g2, g3, g4, g5, g6, g7⟩ := C_transp hC hs hB
    have hsc := ScO.of g5 okF
    rw [flipRow_1, flipRow_2] at hsc
    refine ⟨M2, ?_, g6.sub fun a k p => by omega, fun a k _ => by unfold mR; rw [g7]⟩
    unfold F_X8_isSymmetric
    rw [C_pres hC hB hs, bx_l, chk_t t4, hC.1.1.2.2.2.2.1, g1, b1_s, g2, g3, b1_s, g4, hv M2 _ hsc (ScO.of ((hC.sec hs).same (g6.sub fun a k p => by omega)) ok), ob_s, chk_t hz]
  have aeq : alikeP (Z.1.1 (bs s + 2)) (Z.1.1 (bs s + 1)) (Z.1.1 (bs s + 1)) (Z.1.1 (bs s + 2)) (notesOf (flipRow Z.1.1 (bs s)) (bs s)) (notesOf Z.1.1 (bs s)) ↔ symP (Z.1.1 (bs s + 1)) (Z.1.1 (bs s + 2)) (notesOf Z.1.1 (bs s)) := by
    rw [← symP_iff (NOK.of ok) a1.2]
    unfold alikeP
    refine and_congr_right fun _ => and_congr_right fun _ => forall_congr' fun k => imp_congr_right fun hk => ?_
    rw [show notesOf (flipRow Z.1.1 (bs s)) (bs s) k = flI (notesOf Z.1.1 (bs s)) 0 6 k from flipRow_n Z.1.1 (bs s) hk]
  by_cases al : symP (Z.1.1 (bs s + 1)) (Z.1.1 (bs s + 2)) (notesOf Z.1.1 (bs s))
  · refine Or.inl ⟨1, hc 1 (fun M2 a h1 h2 => (C_sc h1 h2).1 (aeq.mpr al)) (by decide), .ans fun M hM _ => ?_, fun M => keepZ_I (Or.inr rfl) M⟩
    have hM0 := hM.t 0
    rw [hm M hM, if_pos (congrArg nI al.1)]
    obtain ⟨x, hx⟩ := (F_syI hM0.1 hM0.2.1.1 (by omega) ok (fun (x28 : Int32) => some (1, sI M 204 0 0)) (Z.1.1 (bs s + 1)) 0 3000 (by omega) (by omega)).1 fun p k _ q2 q3 => al.2 p k q2 q3
    exact hx
  · refine Or.inl ⟨0, hc 0 (fun M2 a h1 h2 => (C_sc h1 h2).2 (fun z => al (aeq.mp z))) (by decide), .ans fun M hM _ => ?_, fun M => keepZ_I (Or.inl rfl) M⟩
    have hM0 := hM.t 0
    rw [hm M hM]
    by_cases z1 : Z.1.1 (bs s + 1) = Z.1.1 (bs s + 2)
    · rw [if_pos (congrArg nI z1)]
      exact (F_syI hM0.1 hM0.2.1.1 (by omega) ok (fun (x28 : Int32) => some (1, sI M 204 0 0)) (Z.1.1 (bs s + 1)) 0 3000 (by omega) (by omega)).2 fun h3 => al ⟨z1, fun i j hi hj => h3 i j (Nat.zero_le _) hi hj⟩
    · rw [if_neg (fun y => z1 ((nI_eq (by omega) (by omega)).mp y))]
theorem C_vrL {w : Row} {a b c : Nat} (hR : SecR M a w b) (ok : SecOK w b) (hc : c < w (b + 1)) (K : Int32 → Int32 → Option Int32) : ∀ (d j t n : Nat), j + d = w (b + 2) → d < n → ∃ x, F_X4_volumeOfRow_L1 a (nI c) M K n (nI t) (nI j) = K (nI (t + isum (fun j => vol (w b) (notesOf w b (6 * c + j))) j d)) x := by
  have h1 := ok.2.1
  have h2 := ok.2.2.1
  have bf := (NOK.of ok).all
  intro d
  induction d with
  | zero =>
    intro j t n e hn
    obtain ⟨n, rfl⟩ : ∃ m, n = m + 1 := ⟨n - 1, by omega⟩
    refine ⟨nI j, ?_⟩
    rw [F_X4_volumeOfRow_L1, hR.2.2.1, if_pos (nI_le (by omega) (by omega))]; rfl
  | succ d ih =>
    intro j t n e hn
    obtain ⟨n, rfl⟩ : ∃ m, n = m + 1 := ⟨n - 1, by omega⟩
    obtain ⟨x, hx⟩ := ih (j + 1) (t + vol (w b) (notesOf w b (6 * c + j))) n (by omega) (by omega)
    refine ⟨x, ?_⟩
    rw [F_X4_volumeOfRow_L1, hR.2.2.1, if_neg (nI_ge (by omega) (by omega)), C_noteS hR ok hc (by omega), ob_s, hR.1, C_vol ok.1 (bf _ (by omega)), ob_s, lt_v, lt_v, nI_add, nI_1, hx, Nat.add_assoc]; rfl
/-- our column volume by transposing, from our state: the sandbox section is left changed -/
theorem C_cvt {Z : ZS} (hC : CI M Z) (hB : BI B Z) {s c : Nat} (hs : s < Z.1.1 0) (hc : c < Z.1.1 (bs s + 2)) : ∃ M2, F_X8_columnVolumeByTransposing 1 (nI s) (nI c) M = some (.inl (nI (colV Z.1.1 (bs s) c)), M2) ∧ Same (fun a _ => a ≠ 172 ∧ a ≠ 173) M M2 ∧ M2.2 = M.2 := by
  have r5 := hB.r0
  have ok := hB.sec hs
  have a1 := ok.2.1
  have a2 := ok.2.2.1
  have okF := flipRow_ok ok
  obtain ⟨t4, q6, q15, q3⟩ := C_secTy hC (s := s) (by omega)
  obtain ⟨M1, M2, g1, g2, g3, g4, g5, g6, g7⟩ := C_transp hC hs hB
  refine ⟨M2, ?_, g6, g7⟩
  have hq : ¬ outR (nI c) (Z.1.1 (bs s + 2)) := not_out hc (by omega)
  obtain ⟨x, hx⟩ := C_vrL g5 okF (c := c) (by rw [flipRow_1]; exact hc) (fun (x12 : Int32) (x13 : Int32) => some x12) (Z.1.1 (bs s + 1)) 0 0 3000 (by rw [flipRow_2]; omega) (by omega)
  unfold F_X8_columnVolumeByTransposing F_X8_sectionWithColumn
  rw [C_pres hC hB hs, bx_l, chk_t t4, C_colI (hC.sec hs) ok, ob_s, if_neg hq, if_neg (by decide), bx_l, chk_t t4, hC.1.1.2.2.2.2.1, g1, b1_s, g2, g3, b1_s, g4]
  unfold F_X4_volumeOfRow
  rw [show (0 : Int32) = nI 0 from rfl, hx, ob_s, Nat.zero_add, colV_rows ok (by omega), flipRow_o Z.1.1 (bs s) (by omega) (by omega) (by omega)]
  congr 4
  refine isum_cong fun j _ hj => ?_
  unfold cvf
  rw [show notesOf (flipRow Z.1.1 (bs s)) (bs s) (6 * c + j) = flI (notesOf Z.1.1 (bs s)) 0 6 (6 * c + j) from flipRow_n Z.1.1 (bs s) (by omega), flI_at _ (by omega) (by omega)]
  unfold notesOf
  rw [show 7 + (6 * j + c) = 7 + 6 * j + c by omega]
theorem call_columnVolumeByTransposing (h : GI B M) (p q : Int32) : Call B M (F_L_columnVolumeByTransposing 1 p q 213) (F_X9_columnVolumeByTransposing 204 p q) := by
  refine callQ (fc := F_X8_columnVolumeByTransposing 1 p q) (kp := keepI) h fun Z hB => ?_
  have r5 := hB.r0
  by_cases hp : outR p (Z.1.1 0)
  · refine Or.inr ⟨"java/lang/IndexOutOfBoundsException", 1, 0, .pure fun M hC _ => ?_, .bad fun M hM _ => ?_, by decide, fun _ => rfl⟩
    · unfold F_X8_columnVolumeByTransposing F_X8_sectionWithColumn
      rw [C_presN hC hB hp, bx_r, bx_r]
    · have hM0 := hM.t 0
      unfold F_X9_columnVolumeByTransposing F_X9_columnVolume F_X9_isCell
      rw [lt_v, F_isSecI hM0.1 hM0.2.1.1 (by omega), ob_s, if_pos hp, if_pos rfl, ob_s, if_pos rfl, F_failsT, b1_s, b1_s, sI_sI]
  · obtain ⟨s, hs, rfl⟩ := in_of hp (by omega)
    have ok := hB.sec hs
    have h1 := ok.2.1
    have h2 := ok.2.2.1
    have o0 : ¬ outR 0 (Z.1.1 (bs s + 1)) := not_out (s := 0) (by omega) (by omega)
    by_cases hq : outR q (Z.1.1 (bs s + 2))
    · refine Or.inr ⟨"java/lang/IndexOutOfBoundsException", 1, 0, .pure fun M hC _ => ?_, .bad fun M hM _ => ?_, by decide, fun _ => rfl⟩
      · unfold F_X8_columnVolumeByTransposing F_X8_sectionWithColumn
        rw [C_pres hC hB hs, bx_l, chk_t (C_secTy hC (by omega)).1, C_colI (hC.sec hs) ok, ob_s, if_pos hq, if_pos rfl, bx_r]
      · have hM0 := hM.t 0
        unfold F_X9_columnVolumeByTransposing F_X9_columnVolume
        rw [lt_v, F_cellI hM0.1 hM0.2.1.1 r5 hs ok, ob_s, if_pos (Or.inr hq), if_pos rfl, F_failsT, b1_s, b1_s, sI_sI]
    · obtain ⟨c, hc, rfl⟩ := in_of hq (by omega)
      refine Or.inl ⟨nI (colV Z.1.1 (bs s) c), fun M hC _ => ?_, .ans fun M hM _ => ?_, fun M => rfl⟩
      · obtain ⟨M2, g1, g2, g3⟩ := C_cvt hC hB hs hc
        exact ⟨M2, g1, g2.sub fun a k p => by omega, fun a k _ => by unfold mR; rw [g3]⟩
      · have hM0 := hM.t 0
        unfold F_X9_columnVolumeByTransposing F_X9_columnVolume
        rw [lt_v, F_cellI hM0.1 hM0.2.1.1 r5 hs ok, ob_s, if_neg (show ¬ (outR 0 (Z.1.1 (bs s + 1)) ∨ outR (nI c) (Z.1.1 (bs s + 2))) from fun z => z.elim o0 hq), if_neg (by decide), F_col hM0.1 hM0.2.1.1 (by omega) ok (by omega), ob_s, b1_s]
end AL
