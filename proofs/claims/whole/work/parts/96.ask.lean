/-! PURE LEVEL: plain questions -/
/-- a reader of ours, and the model's question -/
def CallR {τ : Type} (B : Nat) (M : Mem) (fc : Mem → Option τ) (fm : Mem → Option (τ × Mem)) : Prop := ∃ v M2, fc M = some v ∧ fm M = some (v, M2) ∧ GI B M2
/-- a method of ours that could throw and doesn't -/
def CallS {τ : Type} (B : Nat) (M : Mem) (fc : Mem → Option ((τ ⊕ String) × Mem)) (fm : Mem → Option (τ × Mem)) : Prop := ∃ v M1 M2, fc M = some (.inl v, M1) ∧ fm M1 = some (v, M2) ∧ GI B M2
theorem callR {τ : Type} {B : Nat} {M : Mem} {fc : Mem → Option τ} {fm : Mem → Option (τ × Mem)} (h : GI B M) (hq : ∀ Z, BI B Z → ∃ v c, (∀ M, CI M Z → fc M = some v) ∧ QM Z B fm v c) : CallR B M fc fm := by
  obtain ⟨Z, hB, hC, hM⟩ := h
  obtain ⟨v, c, q1, q2⟩ := hq Z hB
  obtain ⟨M2, k1, -, k2, k3, -⟩ := q2.mi hC hM hB
  exact ⟨v, M2, q1 M hC, k1, .q k2 k3 hB⟩
theorem callSum {τ : Type} {B : Nat} {M : Mem} {fc : Mem → Option ((τ ⊕ String) × Mem)} {fm : Mem → Option (τ × Mem)} (h : GI B M) (hq : ∀ Z, BI B Z → ∃ v c, QC Z B fc (.inl v) ∧ QM Z B fm v c) : CallS B M fc fm := by
  obtain ⟨Z, hB, hC, hM⟩ := h
  obtain ⟨v, c, q1, q2⟩ := hq Z hB
  obtain ⟨M1, g1, g2, g3⟩ := q1.ci hC hM hB
  obtain ⟨M2, k1, -, k2, k3, -⟩ := q2.mi g2 g3 hB
  exact ⟨v, M1, M2, g1, k1, .q k2 k3 hB⟩
/-- the model's question, answered: thrown 0 -/
theorem QM.ans {σ : Type} {Z : ZS} {B : Nat} {fm : Mem → Option (σ × Mem)} {b : σ} (h : ∀ M, MI M Z → BI B Z → fm M = some (b, sI M 204 0 0)) : QM Z B fm b 0 :=
  .thrown fun M hM hB => ⟨_, h M hM hB, mI_same _ _ _ _, Same.sI _ _ _ _, rfl⟩
theorem QM.bad {σ : Type} {Z : ZS} {B : Nat} {fm : Mem → Option (σ × Mem)} {b : σ} {c : Int32} (h : ∀ M, MI M Z → BI B Z → fm M = some (b, sI M 204 0 c)) : QM Z B fm b c :=
  .thrown fun M hM hB => ⟨_, h M hM hB, mI_same _ _ _ _, Same.sI _ _ _ _, rfl⟩
theorem F_asksT {M : Mem} {Z : ZS} (hM : MI M Z) {k : Nat} (hk : k < 260) : F_X9_asks 204 (nI k) M = some (nI (Z.1.1 k), sI M 204 0 0) := by
  have hM0 := hM.t 0
  unfold F_X9_asks
  rw [lt_v, chk_t (inb_n hk (by decide)), nI_clamp (by omega), hM0.1.1, hM0.2.1.1 k hk]
theorem F_asksSecN {M : Mem} {Z : ZS} (hM : MI M Z) (h5 : Z.1.1 0 ≤ 5) {p : Int32} (hp : outR p (Z.1.1 0)) (k : Int32) : F_X9_asksSection 204 p k M = some (0, sI M 204 0 1) := by
  have hM0 := hM.t 0
  unfold F_X9_asksSection
  rw [lt_v, F_isSecI hM0.1 hM0.2.1.1 (by omega), ob_s, if_pos hp, if_pos rfl, F_failsT, b1_s, sI_sI]
theorem F_asksSec {M : Mem} {Z : ZS} (hM : MI M Z) (h5 : Z.1.1 0 ≤ 5) {s : Nat} (hs : s < Z.1.1 0) {k : Nat} (hk : k < 43) : F_X9_asksSection 204 (nI s) (nI k) M = some (nI (Z.1.1 (bs s + k)), sI M 204 0 0) := by
  have hM0 := hM.t 0
  unfold F_X9_asksSection
  rw [lt_v, F_isSecI hM0.1 hM0.2.1.1 (by omega), ob_s, if_neg (not_out hs (by omega)), if_neg (by decide), F_of hM0.1 hM0.2.1.1 (by omega), ob_s]
section ASK
variable {B : Nat} {M : Mem}
theorem call_beatCount (h : GI B M) : CallR B M (F_X8_beatCount 1) (F_X9_beatCount 204) := by
  refine callR h fun Z hB => ⟨nI (Z.1.1 1), 0, fun M hC => ?_, .ans fun M hM _ => ?_⟩
  · unfold F_X8_beatCount
    rw [hC.1.1.1, hC.2.1.1.2.1.2.2.2.1]
  · unfold F_X9_beatCount
    rw [show (1 : Int32) = nI 1 from rfl, F_asksT hM (by decide), b1_s]
theorem call_sectionCount (h : GI B M) : CallR B M (F_X8_sectionCount 1) (F_X9_sectionCount 204) := by
  refine callR h fun Z hB => ⟨nI (Z.1.1 0), 0, fun M hC => ?_, .ans fun M hM _ => ?_⟩
  · unfold F_X8_sectionCount
    rw [hC.1.1.1, hC.2.1.1.2.1.1]
  · unfold F_X9_sectionCount
    rw [show F_X9_asks 204 0 M = _ from F_asksT hM (k := 0) (by decide), b1_s]
theorem call_tempo (h : GI B M) : CallR B M (F_X8_tempo 1) (F_X9_tempo 204) := by
  refine callR h fun Z hB => ⟨nI (Z.1.1 2), 0, fun M hC => ?_, .ans fun M hM _ => ?_⟩
  · unfold F_X8_tempo
    rw [hC.1.1.1, hC.2.1.1.2.1.2.1]
  · unfold F_X9_tempo
    rw [show (2 : Int32) = nI 2 from rfl, F_asksT hM (by decide), b1_s]
theorem call_limit (h : GI B M) : CallR B M (F_X8_limit 1) (F_X9_limit 204) := by
  refine callR h fun Z hB => ⟨nI (Z.1.1 3), 0, fun M hC => ?_, .ans fun M hM _ => ?_⟩
  · unfold F_X8_limit
    rw [hC.1.1.1, hC.2.1.1.2.1.2.2.1]
  · unfold F_X9_limit
    rw [show (3 : Int32) = nI 3 from rfl, F_asksT hM (by decide), b1_s]
theorem call_breakCount (h : GI B M) : CallR B M (F_X8_breakCount 1) (F_X9_breakCount 204) := by
  refine callR h fun Z hB => ⟨nI (Z.1.1 4), 0, fun M hC => ?_, .ans fun M hM _ => ?_⟩
  · unfold F_X8_breakCount
    rw [hC.1.1.1, hC.2.1.1.2.1.2.2.2.2.1]
  · unfold F_X9_breakCount
    rw [show (4 : Int32) = nI 4 from rfl, F_asksT hM (by decide), b1_s]
theorem call_totalVolume (h : GI B M) (hB0 : B ≤ 2 ^ 20) : CallR B M (F_X8_totalVolume 1) (F_X9_totalVolume 204) := by
  refine callR h fun Z hB => ⟨lN (Z.1.1 5), 0, fun M hC => ?_, .ans fun M hM _ => ?_⟩
  · unfold F_X8_totalVolume
    rw [hC.1.1.1, hC.2.1.1.2.1.2.2.2.2.2.2]
  · have hM0 := hM.t 0
    have b1 := hB.1.1.2.1
    have b5 := hB.1.1.2.2.2.2.2.1
    unfold F_X9_totalVolume
    rw [lt_v, chk_t (by decide), hM0.1.1, hM0.2.1.1 5 (by decide), nI_l (by omega)]
/-- a question about one number of a section -/
theorem callSec {j k : Nat} {p : Int32} {fc : Mem → Option ((Int32 ⊕ String) × Mem)} {fm : Mem → Option (Int32 × Mem)} {hd : String → Mem → Option (Int32 × Mem)} (h : GI B M) (hk : k < 43)
    (hf : ∀ w M q b, SecR M q w b → mI M q j = nI (w (b + k)))
    (hc : ∀ M, fc M = bx (F_X8_presentSection 1 p M) (fun q2 M3 => chk (Nat.beq (tyT q2) 4) (some (.inl (mI M3 q2 j), M3))))
    (hm : ∀ M, fm M = b1 (F_X9_asksSection 204 p (nI k) M) (fun v2 M3 => some (v2, M3))) (hh : ∀ M, hd "java/lang/IndexOutOfBoundsException" M = some (1, M)) : Call B M (fun M => bw (fc M) keepI hd) fm := by
  refine callQ h fun Z hB => ?_
  have r5 := hB.r0
  by_cases hp : outR p (Z.1.1 0)
  · refine Or.inr ⟨"java/lang/IndexOutOfBoundsException", 1, 0, .pure fun M hC _ => ?_, .bad fun M hM _ => ?_, by decide, hh⟩
    · rw [hc, C_presN hC hB hp, bx_r]
    · rw [hm, F_asksSecN hM r5 hp, b1_s]
  · obtain ⟨s, hs, rfl⟩ := in_of hp (by omega)
    refine Or.inl ⟨nI (Z.1.1 (bs s + k)), .pure fun M hC _ => ?_, .ans fun M hM _ => ?_, fun M => rfl⟩
    · rw [hc, C_pres hC hB hs, bx_l, chk_t (C_secTy hC (by omega)).1, hf _ _ _ _ (hC.sec hs)]
    · rw [hm, F_asksSec hM r5 hs hk, b1_s]
theorem call_rows (h : GI B M) (p : Int32) : Call B M (F_L_rows 1 p 213) (F_X9_rows 204 p) := callSec (fc := F_X8_rows 1 p) (j := 1) (k := 1) h (by decide) (fun w M q b h => h.2.1) (fun _ => rfl) (fun _ => rfl) (fun _ => rfl)
theorem call_columns (h : GI B M) (p : Int32) : Call B M (F_L_columns 1 p 213) (F_X9_columns 204 p) := callSec (fc := F_X8_columns 1 p) (j := 2) (k := 2) h (by decide) (fun w M q b h => h.2.2.1) (fun _ => rfl) (fun _ => rfl) (fun _ => rfl)
theorem call_fatigue (h : GI B M) (p : Int32) : Call B M (F_L_fatigue 1 p 213) (F_X9_fatigue 204 p) := callSec (fc := F_X8_fatigue 1 p) (j := 5) (k := 4) h (by decide) (fun w M q b h => h.2.2.2.2.1) (fun _ => rfl) (fun _ => rfl) (fun _ => rfl)
theorem call_restingBeats (h : GI B M) (p : Int32) : Call B M (F_L_restingBeats 1 p 213) (F_X9_restingBeats 204 p) := callSec (fc := F_X8_restingBeats 1 p) (j := 6) (k := 5) h (by decide) (fun w M q b h => h.2.2.2.2.2.1) (fun _ => rfl) (fun _ => rfl) (fun _ => rfl)
theorem call_playedVolume (h : GI B M) (p : Int32) : Call B M (F_L_playedVolume 1 p 213) (F_X9_playedVolume 204 p) := callSec (fc := F_X8_playedVolume 1 p) (j := 7) (k := 6) h (by decide) (fun w M q b h => h.2.2.2.2.2.2.1) (fun _ => rfl) (fun _ => rfl) (fun _ => rfl)
theorem call_kind (h : GI B M) (p : Int32) : Call B M (F_L_kind 1 p 213) (F_X9_kind 204 p) := by
  refine callQ (fc := F_X8_kind 1 p) (kp := keepI) h fun Z hB => ?_
  have r5 := hB.r0
  by_cases hp : outR p (Z.1.1 0)
  · refine Or.inr ⟨"java/lang/IndexOutOfBoundsException", 1, 0, .pure fun M hC _ => ?_, .bad fun M hM _ => ?_, by decide, fun _ => rfl⟩
    · unfold F_X8_kind
      rw [C_presN hC hB hp, bx_r]
    · unfold F_X9_kind
      rw [F_asksSecN hM r5 hp, b1_s, mI_same, if_neg (by decide)]
  · obtain ⟨s, hs, rfl⟩ := in_of hp (by omega)
    have hk := (hB.sec hs).1
    have hn : nokC (nI (lett (Z.1.1 (bs s)))) = true := nokC_nI (by unfold lett; split <;> (try split) <;> omega)
    refine Or.inl ⟨nI (lett (Z.1.1 (bs s))), .pure fun M hC _ => ?_, .ans fun M hM _ => ?_, fun M => rfl⟩
    · unfold F_X8_kind
      rw [C_pres hC hB hs, bx_l, chk_t (C_secTy hC (by omega)).1, (hC.sec hs).1, chk_t hn]
    · unfold F_X9_kind
      rw [show F_X9_asksSection 204 (nI s) 0 M = _ from F_asksSec hM r5 hs (k := 0) (by decide), b1_s, mI_same, if_pos rfl, Nat.add_zero, F_letter hk, ob_s, chk_t hn]
theorem call_note (h : GI B M) (p i j : Int32) : Call B M (F_L_note 1 p i j 213) (F_X9_note 204 p i j) := by
  refine callQ (fc := F_X8_note 1 p i j) (kp := keepI) h fun Z hB => ?_
  have r5 := hB.r0
  by_cases hp : outR p (Z.1.1 0)
  · refine Or.inr ⟨"java/lang/IndexOutOfBoundsException", 1, 0, .pure fun M hC _ => ?_, .bad fun M hM _ => ?_, by decide, fun _ => rfl⟩
    · unfold F_X8_note
      rw [C_presN hC hB hp, bx_r]
    · have hM0 := hM.t 0
      unfold F_X9_note F_X9_isCell
      rw [lt_v, F_isSecI hM0.1 hM0.2.1.1 (by omega), ob_s, if_pos hp, if_pos rfl, ob_s, if_pos rfl, F_failsT, b1_s, sI_sI]
  · obtain ⟨s, hs, rfl⟩ := in_of hp (by omega)
    have ok := hB.sec hs
    have h1 := ok.2.1
    have h2 := ok.2.2.1
    by_cases hij : outR i (Z.1.1 (bs s + 1)) ∨ outR j (Z.1.1 (bs s + 2))
    · refine Or.inr ⟨"java/lang/IndexOutOfBoundsException", 1, 0, .pure fun M hC _ => ?_, .bad fun M hM _ => ?_, by decide, fun _ => rfl⟩
      · unfold F_X8_note
        rw [C_pres hC hB hs, bx_l, chk_t (C_secTy hC (by omega)).1, C_placeI (hC.sec hs) ok, ob_s, if_pos hij, if_pos rfl]
      · have hM0 := hM.t 0
        unfold F_X9_note
        rw [lt_v, F_cellI hM0.1 hM0.2.1.1 r5 hs ok, ob_s, if_pos hij, if_pos rfl, F_failsT, b1_s, sI_sI]
    · obtain ⟨i', hi, rfl⟩ := in_of (fun z => hij (Or.inl z)) (by omega)
      obtain ⟨j', hj, rfl⟩ := in_of (fun z => hij (Or.inr z)) (by omega)
      refine Or.inl ⟨nI (notesOf Z.1.1 (bs s) (6 * i' + j')), .pure fun M hC _ => ?_, .ans fun M hM _ => ?_, fun M => rfl⟩
      · unfold F_X8_note
        rw [C_pres hC hB hs, bx_l, chk_t (C_secTy hC (by omega)).1, C_placeI (hC.sec hs) ok, ob_s, if_neg hij, if_neg (by decide), C_noteS (hC.sec hs) ok hi hj, ob_s]
      · have hM0 := hM.t 0
        unfold F_X9_note
        rw [lt_v, F_cellI hM0.1 hM0.2.1.1 r5 hs ok, ob_s, if_neg hij, if_neg (by decide), F_note hM0.1 hM0.2.1.1 (by omega), ob_s, show Z.1.1 (45 + 43 * s + (7 + 6 * i' + j')) = notesOf Z.1.1 (bs s) (6 * i' + j') from congrArg Z.1.1 (show 45 + 43 * s + (7 + 6 * i' + j') = 45 + 43 * s + (7 + (6 * i' + j')) by omega)]
theorem mask_col {q : Int32} : F_X8_isMaskColumn q = some (if q < 0 ∨ 5 < q then 0 else 1) := by
  unfold F_X8_isMaskColumn
  by_cases h0 : q < 0
  · rw [if_pos h0, if_pos (Or.inl h0)]
  · rw [if_neg h0]
    obtain ⟨c, hc, rfl⟩ := nI_of h0
    by_cases h5 : 5 < nI c
    · have h5' := h5
      rw [show (5 : Int32) = nI 5 from rfl, nI_ltI (by decide) hc] at h5'
      rw [if_pos (Or.inr h5), show (6 : Int32) = nI 6 from rfl, if_pos (nI_le (by omega) hc)]
    · have h5' := h5
      rw [show (5 : Int32) = nI 5 from rfl, nI_ltI (by decide) hc] at h5'
      rw [if_neg (show ¬ (nI c < 0 ∨ 5 < nI c) from fun z => z.elim h0 h5), show (6 : Int32) = nI 6 from rfl, if_neg (nI_ge (by omega) (by omega))]
theorem col_of {q : Int32} (h : ¬ (q < 0 ∨ 5 < q)) : ∃ c, c < 6 ∧ q = nI c := by
  obtain ⟨c, hc, rfl⟩ := nI_of (x := q) (fun z => h (Or.inl z))
  have h5 := fa_of_nlt (fun z => h (Or.inr z))
  rw [show (5 : Int32) = nI 5 from rfl, nI_leI hc (by decide)] at h5
  exact ⟨c, by omega, rfl⟩
theorem nokZ_bit (m c : Nat) : nokZ (nI (bit m c)) = true := by
  rcases bit_01 m c with e | e
  · rw [e]; exact nokZ_0
  · rw [e]; exact nokZ_1
theorem bitI (m c : Nat) : nI (bit m c) = 0 ∨ nI (bit m c) = 1 := by
  rcases bit_01 m c with e | e
  · rw [e]; exact Or.inl rfl
  · rw [e]; exact Or.inr rfl
theorem call_isMasked (h : GI B M) (p q : Int32) : Call B M (F_L_isMasked 1 p q 213) (F_X9_isMasked 204 p q) := by
  refine callQ (fc := F_X8_isMasked 1 p q) (kp := keepZ) h fun Z hB => ?_
  have r5 := hB.r0
  by_cases hp : outR p (Z.1.1 0)
  · refine Or.inr ⟨"java/lang/IndexOutOfBoundsException", 1, 0, .pure fun M hC _ => ?_, .bad fun M hM _ => ?_, by decide, fun _ => rfl⟩
    · unfold F_X8_isMasked
      rw [C_presN hC hB hp, bx_r]
    · have hM0 := hM.t 0
      unfold F_X9_isMasked F_X9_notMask
      rw [lt_v, F_isSecI hM0.1 hM0.2.1.1 (by omega), ob_s, if_pos hp, if_pos rfl, ob_s, if_neg (by decide), F_failsT, b1_s, if_pos (by decide), sI_sI]
  · obtain ⟨s, hs, rfl⟩ := in_of hp (by omega)
    have ok := hB.sec hs
    by_cases hq : q < 0 ∨ 5 < q
    · refine Or.inr ⟨"java/lang/IllegalArgumentException", 2, 0, .pure fun M hC _ => ?_, .bad fun M hM _ => ?_, by decide, fun _ => rfl⟩
      · unfold F_X8_isMasked
        rw [C_pres hC hB hs, bx_l, chk_t (C_secTy hC (by omega)).1, mask_col, ob_s, if_pos hq, if_pos rfl]
      · have hM0 := hM.t 0
        unfold F_X9_isMasked F_X9_notMask
        rw [lt_v, F_isSecI hM0.1 hM0.2.1.1 (by omega), ob_s, if_neg hp, if_neg (by decide), F_bet, ob_s, if_pos hq, if_pos rfl, ob_s, if_neg (by decide), F_failsT, b1_s, if_pos (by decide), sI_sI]
    · obtain ⟨c, hc, rfl⟩ := col_of hq
      refine Or.inl ⟨nI (bit (Z.1.1 (bs s + 3)) c), .pure fun M hC _ => ?_, .ans fun M hM _ => ?_, fun M => keepZ_I (bitI _ _) M⟩
      · unfold F_X8_isMasked
        rw [C_pres hC hB hs, bx_l, chk_t (C_secTy hC (by omega)).1, mask_col, ob_s, if_neg hq, if_neg (by decide), C_masks (hC.sec hs) ok hc, ob_s, chk_t (nokZ_bit _ _)]
      · have hM0 := hM.t 0
        unfold F_X9_isMasked F_X9_notMask
        rw [lt_v, F_isSecI hM0.1 hM0.2.1.1 (by omega), ob_s, if_neg hp, if_neg (by decide), F_bet, ob_s, if_neg hq, if_neg (by decide), ob_s, if_pos rfl, F_masked hM0.1 hM0.2.1.1 (by omega) ok hc, ob_s, chk_t (nokZ_bit _ _)]
theorem call_noteVolume (h : GI B M) (p v : Int32) : Call B M (F_L_noteVolume 1 p v 213) (F_X9_noteVolume 204 p v) := by
  refine callQ (fc := F_X8_noteVolume 1 p v) (kp := keepI) h fun Z hB => ?_
  rcases kind_or p with ⟨q1, q2⟩ | ⟨k, hk, rfl⟩
  · refine Or.inr ⟨"java/lang/IllegalArgumentException", 1, 0, .pure fun M hC _ => ?_, .bad fun M hM _ => ?_, by decide, fun _ => rfl⟩
    · unfold F_X8_noteVolume
      rw [q2, ob_s, if_pos (by decide)]
    · unfold F_X9_noteVolume
      rw [lt_v, q1, ob_s, if_pos (by decide), F_failsT, b1_s, sI_sI]
  · by_cases hv : v < 0 ∨ 9 < v
    · refine Or.inr ⟨"java/lang/IllegalArgumentException", 1, 0, .pure fun M hC _ => ?_, .bad fun M hM _ => ?_, by decide, fun _ => rfl⟩
      · unfold F_X8_noteVolume
        rw [C_kind hk, ob_s, if_neg (nI_pos (by omega))]
        by_cases v0 : v < 0
        · rw [if_pos v0]
        · rw [if_neg v0, if_neg (fun z => hv.elim v0 (fun y => (fa_of_lt y).2.1 z))]
      · unfold F_X9_noteVolume
        rw [lt_v, F_kindOf hk, ob_s, if_neg (nI_pos (by omega)), F_bet, ob_s, if_pos hv, if_pos rfl, F_failsT, b1_s, sI_sI]
    · have v0 : ¬ v < 0 := fun z => hv (Or.inl z)
      have v9 := fa_of_nlt (fun z => hv (Or.inr z))
      obtain ⟨n, hn, rfl⟩ := nI_of v0
      have n9 : n ≤ 9 := by rwa [show (9 : Int32) = nI 9 from rfl, nI_leI hn (by decide)] at v9
      refine Or.inl ⟨nI (vol k n), .pure fun M hC _ => ?_, .ans fun M hM _ => ?_, fun M => rfl⟩
      · unfold F_X8_noteVolume
        rw [C_kind hk, ob_s, if_neg (nI_pos (by omega)), if_neg v0, if_pos v9, C_vol hk (by omega), ob_s]
      · unfold F_X9_noteVolume
        rw [lt_v, F_kindOf hk, ob_s, if_neg (nI_pos (by omega)), F_bet, ob_s, if_neg hv, if_neg (by decide), ob_s, F_vol hk (by omega), ob_s]
theorem call_columnVolume (h : GI B M) (p q : Int32) : Call B M (F_L_columnVolume 1 p q 213) (F_X9_columnVolume 204 p q) := by
  refine callQ (fc := F_X8_columnVolume 1 p q) (kp := keepI) h fun Z hB => ?_
  have r5 := hB.r0
  by_cases hp : outR p (Z.1.1 0)
  · refine Or.inr ⟨"java/lang/IndexOutOfBoundsException", 1, 0, .pure fun M hC _ => ?_, .bad fun M hM _ => ?_, by decide, fun _ => rfl⟩
    · unfold F_X8_columnVolume F_X8_sectionWithColumn
      rw [C_presN hC hB hp, bx_r, bx_r]
    · have hM0 := hM.t 0
      unfold F_X9_columnVolume F_X9_isCell
      rw [lt_v, F_isSecI hM0.1 hM0.2.1.1 (by omega), ob_s, if_pos hp, if_pos rfl, ob_s, if_pos rfl, F_failsT, b1_s, sI_sI]
  · obtain ⟨s, hs, rfl⟩ := in_of hp (by omega)
    have ok := hB.sec hs
    have h1 := ok.2.1
    have h2 := ok.2.2.1
    have o0 : ¬ outR 0 (Z.1.1 (bs s + 1)) := not_out (s := 0) (by omega) (by omega)
    by_cases hq : outR q (Z.1.1 (bs s + 2))
    · refine Or.inr ⟨"java/lang/IndexOutOfBoundsException", 1, 0, .pure fun M hC _ => ?_, .bad fun M hM _ => ?_, by decide, fun _ => rfl⟩
      · unfold F_X8_columnVolume F_X8_sectionWithColumn
        rw [C_pres hC hB hs, bx_l, chk_t (C_secTy hC (by omega)).1, C_colI (hC.sec hs) ok, ob_s, if_pos hq, if_pos rfl, bx_r]
      · have hM0 := hM.t 0
        unfold F_X9_columnVolume
        rw [lt_v, F_cellI hM0.1 hM0.2.1.1 r5 hs ok, ob_s, if_pos (Or.inr hq), if_pos rfl, F_failsT, b1_s, sI_sI]
    · obtain ⟨c, hc, rfl⟩ := in_of hq (by omega)
      refine Or.inl ⟨nI (colV Z.1.1 (bs s) c), .pure fun M hC _ => ?_, .ans fun M hM _ => ?_, fun M => rfl⟩
      · unfold F_X8_columnVolume F_X8_sectionWithColumn
        rw [C_pres hC hB hs, bx_l, chk_t (C_secTy hC (by omega)).1, C_colI (hC.sec hs) ok, ob_s, if_neg hq, if_neg (by decide), bx_l, chk_t (C_secTy hC (by omega)).1, C_col (hC.sec hs) ok (by omega), ob_s]
      · have hM0 := hM.t 0
        unfold F_X9_columnVolume
        rw [lt_v, F_cellI hM0.1 hM0.2.1.1 r5 hs ok, ob_s, if_neg (show ¬ (outR 0 (Z.1.1 (bs s + 1)) ∨ outR (nI c) (Z.1.1 (bs s + 2))) from fun z => z.elim o0 hq), if_neg (by decide), F_col hM0.1 hM0.2.1.1 (by omega) ok (by omega), ob_s]
theorem call_nextVolume (h : GI B M) (hB0 : B ≤ 2 ^ 20) (p : Int32) : Call B M (F_L_nextVolume 1 p 213) (F_X9_nextVolume 204 p) := by
  refine callQ (fc := F_X8_nextVolume 1 p) (kp := keepI) h fun Z hB => ?_
  have r5 := hB.r0
  have b1 := hB.1.1.2.1
  by_cases hp : outR p (Z.1.1 0)
  · refine Or.inr ⟨"java/lang/IndexOutOfBoundsException", 1, 0, .pure fun M hC _ => ?_, .bad fun M hM _ => ?_, by decide, fun _ => rfl⟩
    · unfold F_X8_nextVolume
      rw [C_presN hC hB hp, bx_r]
    · have hM0 := hM.t 0
      unfold F_X9_nextVolume
      rw [lt_v, F_isSecI hM0.1 hM0.2.1.1 (by omega), ob_s, if_pos hp, if_pos rfl, F_failsT, b1_s, sI_sI]
  · obtain ⟨s, hs, rfl⟩ := in_of hp (by omega)
    have ok := hB.sec hs
    refine Or.inl ⟨nI (volN Z.1.1 (bs s)), .pure fun M hC _ => ?_, .ans fun M hM _ => ?_, fun M => rfl⟩
    · unfold F_X8_nextVolume
      rw [C_pres hC hB hs, bx_l, chk_t (C_secTy hC (by omega)).1, hC.1.1.1, hC.2.1.1.2.1.2.2.2.1, C_volIn (hC.sec hs) ok (by omega), ob_s]
    · have hM0 := hM.t 0
      unfold F_X9_nextVolume
      rw [lt_v, F_isSecI hM0.1 hM0.2.1.1 (by omega), ob_s, if_neg hp, if_neg (by decide), F_volNow hM0.1 hM0.2.1.1 (by omega) (by omega) ok, ob_s]
end ASK
