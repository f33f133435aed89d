/-! PURE LEVEL: the calls that change -/
theorem ob_n {α β : Type} (k : α → Option β) : Option.bind none k = none := rfl
theorem b1_n {α β : Type} (k : β → Mem → Option α) : b1 (none : Option (β × Mem)) k = none := rfl
theorem bx_n {τ σ : Type} (k : τ → Mem → Option ((σ ⊕ String) × Mem)) : bx (none : Option ((τ ⊕ String) × Mem)) k = none := rfl
theorem CH.mapM {N V B : Nat} {w : Row} {nt : Mem → Option Int32} {dm dm' dc : Mem → Option (Int32 × Mem)} {cd : Nat → Int32} (h : CH N V B w nt dm dc cd) (e : ∀ M v M', v < V → dm M = some (nI v, M') → dm' M = some (nI v, M')) : CH N V B w nt dm' dc cd := by
  obtain ⟨c, v, w', h1, h2, h3, h4, h5⟩ := h
  refine ⟨c, v, w', h1, h2, h3, fun M hL hw => ⟨(h4 M hL hw).1, fun z => ?_⟩, h5⟩
  obtain ⟨M', g1, g2, g3⟩ := (h4 M hL hw).2 z
  exact ⟨M', e M v M' h2 g1, g2, g3⟩
theorem mdl_sec (p : Int32) (dm : Mem → Option (Int32 × Mem)) (M : Mem) : lt (sI M 204 0 0) (fun (M1 : Mem) =>
  Option.bind (F_X9_isSection 204 p M1) (fun v3 =>
  if v3 = 0 then
    b1 (F_X9_fails 204 1 M1) (fun v12 M13 =>
    some (v12, M13))
  else
    b1 (F_X9_remembers 204 M1) (fun u6 M7 =>
    b1 (dm M7) (fun v9 M10 =>
    some (v9, M10))))) = mdl (F_X9_notSection 204 p) dm M := by
  unfold mdl F_X9_notSection
  rw [lt_v, lt_v]
  cases F_X9_isSection 204 p (sI M 204 0 0) with
  | none => simp only [ob_n]
  | some v =>
    rw [ob_s, ob_s]
    by_cases z : v = 0
    · rw [if_pos z, if_pos z, ob_s, if_neg (by decide)]
    · rw [if_neg z, if_neg z, ob_s, if_pos rfl]
theorem mdl_bet (p a c : Int32) (dm : Mem → Option (Int32 × Mem)) (M : Mem) : lt (sI M 204 0 0) (fun (M1 : Mem) =>
  Option.bind (Option.bind (F_X9_isBetween p a c) (fun v2 => if v2 = 0 then some (1 : Int32) else some 0)) (fun v3 =>
  if v3 = 0 then
    b1 (F_X9_remembers 204 M1) (fun u6 M7 =>
    b1 (dm M7) (fun v9 M10 =>
    some (v9, M10)))
  else
    b1 (F_X9_fails 204 1 M1) (fun v12 M13 =>
    some (v12, M13)))) = mdl (fun _ => Option.bind (F_X9_isBetween p a c) (fun v2 => if v2 = 0 then some (1 : Int32) else some 0)) dm M := by
  unfold mdl
  rw [lt_v, lt_v, F_bet, ob_s]
  by_cases z : p < a ∨ c < p
  · rw [if_pos z, if_pos rfl, ob_s, ob_s, if_neg (by decide)]
  · rw [if_neg z, if_neg (by decide), ob_s, ob_s, if_pos rfl, if_pos rfl]
section CALLS
variable {B : Nat} {M : Mem}
theorem call_addSection (h : GI B M) (p r c : Int32) : Call B M (F_L_addSection 1 p r c 213) (F_X9_addSection 204 p r c) :=
  callCh (kp := keepI) (fc := F_X8_addSection 1 p r c) (dc := fun q => F_X5_add q p r c) h (Nat.le_refl _) (by decide) (fun w hI => ch_add B w hI p r c) (Nat.le_refl _) (fun _ => rfl) (fun _ => rfl) (fun _ _ _ => rfl) (fun c h1 h2 => by
    rcases (show c = 1 ∨ c = 2 by omega) with rfl | rfl
    · exact ⟨Or.inr (Or.inl rfl), fun _ => rfl⟩
    · exact ⟨Or.inr (Or.inr (Or.inl rfl)), fun _ => rfl⟩)
theorem call_removeSection (h : GI B M) (p : Int32) : Call B M (F_L_removeSection 1 p 213) (F_X9_removeSection 204 p) :=
  callCh (kp := keepI) (fc := F_X8_removeSection 1 p) (dc := fun q => F_X5_drop q p) h (Nat.le_refl _) (by decide) (fun w hI => ch_drop B w hI p) (Nat.le_refl _) (fun _ => rfl) (fun M => mdl_sec p _ M) (fun _ _ _ => rfl) (fun c h1 h2 => by
    obtain rfl : c = 1 := by omega
    exact ⟨Or.inl rfl, fun _ => rfl⟩)
theorem call_setNote (h : GI B M) (p i j v : Int32) : Call B M (F_L_setNote 1 p i j v 213) (F_X9_setNote 204 p i j v) :=
  callCh (kp := keepI) (fc := F_X8_setNote 1 p i j v) (dc := fun q => F_X5_write q p i j v) h (Nat.le_refl _) (by decide) (fun w hI => ch_write B w hI p i j v) (Nat.le_refl _) (fun _ => rfl) (fun _ => rfl) (fun _ _ _ => rfl) (fun c h1 h2 => by
    rcases (show c = 1 ∨ c = 2 by omega) with rfl | rfl
    · exact ⟨Or.inl rfl, fun _ => rfl⟩
    · exact ⟨Or.inr (Or.inl rfl), fun _ => rfl⟩)
theorem call_transpose (h : GI B M) (p : Int32) : Call B M (F_L_transpose 1 p 213) (F_X9_transpose 204 p) :=
  callCh (kp := keepI) (fc := F_X8_transpose 1 p) (dc := fun q => F_X5_flip q p) h (Nat.le_refl _) (by decide) (fun w hI => ch_flip B w hI p) (Nat.le_refl _) (fun _ => rfl) (fun M => mdl_sec p _ M) (fun _ _ _ => rfl) (fun c h1 h2 => by
    obtain rfl : c = 1 := by omega
    exact ⟨Or.inl rfl, fun _ => rfl⟩)
theorem call_reverse (h : GI B M) (p : Int32) : Call B M (F_L_reverse 1 p 213) (F_X9_reverse 204 p) :=
  callCh (kp := keepI) (fc := F_X8_reverse 1 p) (dc := fun q => F_X5_turn q p) h (Nat.le_refl _) (by decide) (fun w hI => ch_turn B w hI p) (Nat.le_refl _) (fun _ => rfl) (fun M => mdl_sec p _ M) (fun _ _ _ => rfl) (fun c h1 h2 => by
    obtain rfl : c = 1 := by omega
    exact ⟨Or.inl rfl, fun _ => rfl⟩)
theorem call_raise (h : GI B M) (p v : Int32) : Call B M (F_L_raise 1 p v 213) (F_X9_raise 204 p v) :=
  callCh (kp := keepI) (fc := F_X8_raise 1 p v) (dc := fun q => F_X5_lift q p v) h (Nat.le_refl _) (by decide) (fun w hI => ch_lift B w hI p v) (Nat.le_refl _) (fun _ => rfl) (fun _ => rfl) (fun _ _ _ => rfl) (fun c h1 h2 => by
    rcases (show c = 1 ∨ c = 2 ∨ c = 3 by omega) with rfl | rfl | rfl
    · exact ⟨Or.inl rfl, fun _ => rfl⟩
    · exact ⟨Or.inr (Or.inl rfl), fun _ => rfl⟩
    · exact ⟨Or.inr (Or.inr (Or.inr rfl)), fun _ => rfl⟩)
theorem call_setTempo (h : GI B M) (p : Int32) : Call B M (F_L_setTempo 1 p 213) (F_X9_setTempo 204 p) :=
  callCh (kp := keepI) (fc := F_X8_setTempo 1 p) (dc := fun q => F_X5_changeTempo q p) h (Nat.le_refl _) (by decide) (fun w hI => ch_tempo B w hI p) (Nat.le_refl _) (fun _ => rfl) (fun M => mdl_bet p _ _ _ M) (fun _ _ _ => rfl) (fun c h1 h2 => by
    obtain rfl : c = 1 := by omega
    exact ⟨Or.inr (Or.inl rfl), fun _ => rfl⟩)
theorem call_setLimit (h : GI B M) (p : Int32) : Call B M (F_L_setLimit 1 p 213) (F_X9_setLimit 204 p) :=
  callCh (kp := keepI) (fc := F_X8_setLimit 1 p) (dc := fun q => F_X5_changeLimit q p) h (Nat.le_refl _) (by decide) (fun w hI => ch_limit B w hI p) (Nat.le_refl _) (fun _ => rfl) (fun M => mdl_bet p _ _ _ M) (fun _ _ _ => rfl) (fun c h1 h2 => by
    obtain rfl : c = 1 := by omega
    exact ⟨Or.inr (Or.inl rfl), fun _ => rfl⟩)
theorem call_conductBeats (h : GI B M) (hB : B + 40 ≤ 2 ^ 20) (p : Int32) : Call (B + 40) M (F_L_conductBeats 1 p 213) (F_X9_conductBeats 204 p) :=
  callCh (kp := keepI) (fc := F_X8_conductBeats 1 p) (dc := fun q M => Option.bind (F_X8_isBeats p) (fun v => if v = 0 then some (-2, M) else F_X5_play q p M)) h (by omega) (by decide) (fun w hI => ch_beats hB w hI p) (Nat.le_refl _) (fun M => by
    have e : F_X8_conductBeats 1 p M = chg (fun q M => Option.bind (F_X8_isBeats p) (fun v => if v = 0 then some (-2, M) else F_X5_play q p M)) M := by
      unfold F_X8_conductBeats chg
      cases F_X2_prepare (mR M 1 4) (mR M 1 0) M with
      | none => rfl
      | some v =>
        obtain ⟨u, M5⟩ := v
        rw [b1_s, b1_s]
        have hb : F_X8_isBeats p = some 0 ∨ F_X8_isBeats p = some 1 := by
          unfold F_X8_isBeats
          by_cases h1 : p < 1
          · rw [if_pos h1]; exact Or.inl rfl
          · rw [if_neg h1]
            by_cases h2 : 40 < p
            · rw [if_pos h2]; exact Or.inl rfl
            · rw [if_neg h2]; exact Or.inr rfl
        rcases hb with e | e
        · simp only [e, ob_s, if_true, b1_s]
        · simp only [e, ob_s, if_neg (show ¬ (1 : Int32) = 0 by decide)]
    rw [e]) (fun M => mdl_bet p _ _ _ M) (fun _ _ _ => rfl) (fun c h1 h2 => by
    obtain rfl : c = 1 := by omega
    exact ⟨Or.inr (Or.inl rfl), fun _ => rfl⟩)
theorem call_setMasked (h : GI B M) (p q : Int32) {o : Nat} (ho : o < 2) : Call B M (F_L_setMasked 1 p q (nI o) 213) (F_X9_setMasked 204 p q (nI o)) :=
  callCh (kp := keepZ) (fc := F_X8_setMasked 1 p q (nI o)) (dc := fun x => F_X5_mask x p q (nI o)) (dm := fun M => b1 (F_X9_setsMasked 204 p q (nI o) M) (fun v M => if v = 1 then some (1, M) else some (0, M))) h (Nat.le_refl _) (by decide) (fun w hI => (ch_mask B w hI p q ho).mapM (fun M v M' hv e => by
      show b1 (F_X9_setsMasked 204 p q (nI o) M) _ = _
      rw [e, b1_s]
      rcases (show v = 0 ∨ v = 1 by omega) with rfl | rfl
      · rw [if_neg (by decide)]; rfl
      · rw [if_pos (by decide)]; rfl)) (by decide) (fun M => by
    unfold F_X8_setMasked chg
    cases F_X2_prepare (mR M 1 4) (mR M 1 0) M with
    | none => rfl
    | some v =>
      obtain ⟨u, M5⟩ := v
      rw [b1_s, b1_s]
      show bw (b1 (F_X5_mask (mR M5 1 0) p q (nI o) M5) _) keepZ _ = bw (b1 (F_X5_mask (mR M5 1 0) p q (nI o) M5) _) keepZ _
      cases F_X5_mask (mR M5 1 0) p q (nI o) M5 with
      | none => simp only [b1_n]
      | some v =>
        obtain ⟨x, M9⟩ := v
        rw [b1_s, b1_s]
        cases F_X8_settled 1 x M9 with
        | none => simp only [bx_n]
        | some v =>
          obtain ⟨x, M12⟩ := v
          cases x with
          | inr E => rfl
          | inl v =>
            rw [bx_l, bx_l]
            unfold keepZ
            by_cases z : v = 0
            · rw [if_pos z, bw_l, bw_l, if_pos rfl, if_pos z]
            · rw [if_neg z, bw_l, bw_l, if_neg (by decide), if_neg z]) (fun M => by
    unfold F_X9_setMasked mdl
    rw [lt_v, lt_v]
    cases F_X9_notMask 204 p q (sI M 204 0 0) with
    | none => simp only [ob_n]
    | some v3 =>
      rw [ob_s, ob_s]
      by_cases z : v3 = 0
      · rw [if_pos z, if_pos z]
        cases F_X9_remembers 204 (sI M 204 0 0) with
        | none => simp only [b1_n]
        | some v =>
          obtain ⟨u, M7⟩ := v
          rw [b1_s, b1_s]
          have aux : ∀ x : Option (Int32 × Mem), b1 x (fun v M => if v = 1 then some ((1 : Int32), M) else some (0, M)) = b1 (b1 x (fun v M => if v = 1 then some ((1 : Int32), M) else some (0, M))) (fun v9 M10 => some (v9, M10)) := fun x => by
            cases x with
            | none => rfl
            | some v =>
              obtain ⟨y, M8⟩ := v
              rw [b1_s]
              by_cases y1 : y = 1
              · rw [if_pos y1, b1_s]
              · rw [if_neg y1, b1_s]
          rcases (show o = 0 ∨ o = 1 by omega) with rfl | rfl
          · rw [if_pos nI_0]; exact aux _
          · rw [if_neg (by decide)]; exact aux _
      · rw [if_neg z, if_neg z]
        unfold F_X9_fails
        rw [lt_v, b1_s, b1_s, if_pos (by decide)]) (fun v hv M => by
    refine keepZ_I ?_ M
    rcases (show v = 0 ∨ v = 1 by omega) with rfl | rfl
    · exact Or.inl rfl
    · exact Or.inr rfl) (fun c h1 h2 => by
    rcases (show c = 1 ∨ c = 2 by omega) with rfl | rfl
    · exact ⟨Or.inl rfl, fun _ => rfl⟩
    · exact ⟨Or.inr (Or.inl rfl), fun _ => rfl⟩)
theorem call_conductWave (h : GI B M) (hB : B + 40 ≤ 2 ^ 20) : ∃ v M1 M2, F_X8_conductWave 1 M = some (.inl v, M1) ∧ F_X9_conductWave 204 M1 = some (v, M2) ∧ GI (B + 40) M2 := by
  obtain ⟨Z, hBI, hC, hM⟩ := h
  obtain ⟨c, v, w', hc, hv, hI, hF, hQ⟩ := ch_wave hB Z.1.1 hBI.1.1
  obtain rfl : c = 0 := by omega
  have hI' := hI rfl
  obtain ⟨M1, g1, g2, g3⟩ := C_chgGood (dc := fun q M => F_X5_play q (mI M q 2) M) hC hM hBI hv hI'.r5 (fun M hS => (hQ M hS).1 rfl)
  have hB' : BI (B + 40) (afterCh Z w') := ⟨hBI.1.push (by omega) hI', (hBI.mono (by omega)).2⟩
  obtain ⟨M2, k1, k2, k3, k4, k5⟩ := M_chgGood g2 hB'.r0 hB'.r1 g3 (fun M hL hw => ⟨(hF M hL hw).1, (hF M hL hw).2 rfl⟩)
  refine ⟨nI v, M1, M2, g1, ?_, .q k3 k4 hB'⟩
  rw [← k1]
  have hL0 : LM (sI M1 204 0 0) := (g3.s (M' := sI M1 204 0 0) ((Same.sI M1 204 0 0).sub fun a k p => by omega) (fun a k _ => rfl)).1
  unfold F_X9_conductWave mdl
  rw [lt_v, lt_v, ob_s, if_pos rfl]
  have hM0 := g3.s (M' := sI M1 204 0 0) ((Same.sI M1 204 0 0).sub fun a k p => by omega) (fun a k _ => rfl)
  obtain ⟨hw, fc, hH⟩ := hM0.2.1
  obtain ⟨M3, fc', q1, q2, q3⟩ := F_rem hM0.1 hH hw
  rw [q1, b1_s, b1_s, chk_t (by decide), show mR M3 204 1 = 205 by rw [onlyH_r q3]; exact hM0.1.1]
end CALLS
