/-! PURE LEVEL: notes written, columns masked -/
theorem CH.bad {N V B c : Nat} {w : Row} {nt : Mem → Option Int32} {dm dc : Mem → Option (Int32 × Mem)} {cd : Nat → Int32} (hc : 1 ≤ c ∧ c ≤ N) (hF : ∀ M, LM M → WA M 205 260 w → nt M = some (nI c)) (hC : ∀ M, StR M 2 w → dc M = some (cd c, M)) (hV : 0 < V := by decide) : CH N V B w nt dm dc cd :=
  ⟨c, 0, w, hc.2, hV, fun z => by omega, fun M hL hw => ⟨hF M hL hw, fun z => by omega⟩, fun M hS => ⟨fun z => by omega, fun _ => hC M hS⟩⟩
theorem CH.good {N V B v : Nat} {w w' : Row} {nt : Mem → Option Int32} {dm dc : Mem → Option (Int32 × Mem)} {cd : Nat → Int32} (hv : v < V) (hI : Inv B w') (hF : ∀ M, LM M → WA M 205 260 w → nt M = some (nI 0) ∧ ∃ M', dm M = some (nI v, M') ∧ WA M' 205 260 w' ∧ Only M M' 205) (hC : ∀ M, StR M 2 w → ∃ M', dc M = some (nI v, M') ∧ StR M' 2 w' ∧ FrS M M') : CH N V B w nt dm dc cd :=
  ⟨0, v, w', Nat.zero_le _, hv, fun _ => hI, fun M hL hw => ⟨(hF M hL hw).1, fun _ => (hF M hL hw).2⟩, fun M hS => ⟨fun _ => hC M hS, fun z => absurd rfl z⟩⟩
theorem Inv.sec {B : Nat} {w : Row} (h : Inv B w) {s : Nat} (hs : s < w 0) : SecOK w (bs s) := h.1.2.2 s hs
theorem Inv.played {B : Nat} {w : Row} (h : Inv B w) {s : Nat} (hs : s < w 0) : w (bs s + 6) ≤ 72 * w 1 := h.2.2.2.2.2.2.2.2.1 s hs
/-- one section changed: its played volume stays -/
theorem Inv.secUpd {B s : Nat} {w w' : Row} (h : Inv B w) (hs : s < w 0) (lo : ∀ k, k < 45 → w' k = w k) (hi : ∀ t, t ≠ s → ∀ k, k < 43 → w' (bs t + k) = w (bs t + k)) (hsec : SecOK w' (bs s)) (h6 : w' (bs s + 6) = w (bs s + 6)) : Inv B w' := by
  refine h.upd (fun k hk _ _ _ => lo k hk) (by rw [lo 2 (by decide)]; exact h.2.2.1) (by rw [lo 3 (by decide)]; exact h.2.2.2.1) (by rw [lo 0 (by decide)]; exact h.r5) fun t ht => ?_
  rw [lo 0 (by decide)] at ht
  by_cases e : t = s
  · subst e
    exact ⟨hsec, by rw [h6]; exact h.played ht⟩
  · refine ⟨(h.sec ht).cong2 (fun k hk _ _ => hi t e k hk) ?_, by rw [hi t e 6 (by decide)]; exact h.played ht⟩
    rw [hi t e 5 (by decide)]
    exact (h.sec ht).2.2.2.2.2.1
theorem nrow_far {w : Row} {s t : Nat} (f : Nat → Nat) (h : t ≠ s) {k : Nat} (hk : k < 43) : nrow w (bs s) f (bs t + k) = w (bs t + k) := nrow_out f (by simp only [bs]; omega)
theorem nrow_lo {w : Row} {s : Nat} (f : Nat → Nat) {k : Nat} (hk : k < 45) : nrow w (bs s) f k = w k := nrow_out f (by simp only [bs]; omega)
theorem Inv.notes {B s : Nat} {w : Row} {f : Nat → Nat} (h : Inv B w) (hs : s < w 0) (hN : NOK (w (bs s + 1)) (w (bs s + 2)) f) : Inv B (nrow w (bs s) f) := by
  have o : ∀ k, k < 7 → nrow w (bs s) f (bs s + k) = w (bs s + k) := fun k hk => nrow_out f (by omega)
  have g := h.sec hs
  refine h.secUpd hs (fun k hk => nrow_lo f hk) (fun t ht k hk => nrow_far f ht hk) (g.nrow (fun k hk _ _ => o k hk) (by rw [o 1 (by decide)]; exact g.2.1) (by rw [o 2 (by decide)]; exact g.2.2.1) (fun k hk => nrow_in f hk) (by rw [o 1 (by decide), o 2 (by decide)]; exact hN)) (o 6 (by decide))
theorem StR.nk {M : Mem} {x s : Nat} {w : Row} (h : StR M x w) (hs : s < 5) : nokC (mI M (mR M (x + 1) s) 0) = true := by
  obtain ⟨j, hj, e, -⟩ := h.sec hs
  rw [e]; exact h.2.2.2.2.2.2 j hj
theorem StR.notes {M M' : Mem} {x s : Nat} {w : Row} {f : Nat → Nat} (h : StR M x w) (h5 : w 0 ≤ 5) (hs : s < w 0) (ho : Only M M' (mR M (x + 1) s + 1)) (hN : NA M' (mR M (x + 1) s + 1) f) : StR M' x (nrow w (bs s) f) ∧ Blk M M' x 14 := by
  have o : ∀ k, k < 7 → nrow w (bs s) f (bs s + k) = w (bs s + k) := fun k hk => nrow_out f (by omega)
  have q := h.2.2.2.1 s hs
  have o0 := o 0 (by decide)
  rw [Nat.add_zero] at o0
  refine h.secUpd h5 hs (fun a k _ h2 => ho.1 a k h2) ho.2 ?_ (by rw [ho.1 _ _ (by omega)]; exact h.nk (by omega)) (fun k hk => nrow_lo f hk) (fun t ht k hk => nrow_far f ht hk)
  unfold SecR
  rw [ho.1 _ 0 (by omega), ho.1 _ 1 (by omega), ho.1 _ 2 (by omega), ho.1 _ 4 (by omega), ho.1 _ 5 (by omega), ho.1 _ 6 (by omega), ho.1 _ 7 (by omega), only_r ho, o0, o 1 (by decide), o 2 (by decide), o 3 (by decide), o 4 (by decide), o 5 (by decide), o 6 (by decide)]
  obtain ⟨r0, r1, r2, r3, r4, r5, r6, r7, -⟩ := q
  exact ⟨r0, r1, r2, r3, r4, r5, r6, r7, fun k hk => by rw [nrow_in f hk]; exact hN k hk⟩
theorem NOK.up {r c : Nat} {f : Nat → Nat} (h : NOK r c f) {i j x : Nat} (hi : i < r) (hj : j < c) (hj6 : j < 6) (hx : x < 10) : NOK r c (upR f (6 * i + j) x) := fun p q hp hq => by
  unfold upR
  by_cases e : 6 * p + q = 6 * i + j
  · rw [if_pos e]
    exact ⟨hx, fun z => by omega⟩
  · rw [if_neg e]; exact h p q hp hq
theorem SecR.na {M : Mem} {a b : Nat} {w : Row} (h : SecR M a w b) : NA M (a + 1) (notesOf w b) := h.2.2.2.2.2.2.2.2
section CN
variable {M : Mem} {w : Row} {a b : Nat}
theorem C_noteR (hR : SecR M a w b) (h : SecOK w b) {f : Nat → Nat} {M' : Mem} (ho : Only M M' (a + 1)) (hN : NA M' (a + 1) f) {i j : Nat} (hi : i < w (b + 1)) (hj : j < w (b + 2)) : F_X4_noteAt a (nI i) (nI j) M' = some (nI (f (6 * i + j))) := by
  have h1 := h.2.1
  have h2 := h.2.2.1
  have hp : F_X4_hasPlace a (nI i) (nI j) M' = some 1 := by
    unfold F_X4_hasPlace F_X4_hasRow F_X4_hasColumn
    rw [ho.1 a 1 (by omega), ho.1 a 2 (by omega), hR.2.1, hR.2.2.1, if_neg (nI_pos (by omega)), if_neg (nI_ge hi (by omega)), show (6 : Int32) = nI 6 from rfl, if_neg (nI_ge (by omega) (by omega)), ob_s, if_neg (by decide), if_neg (nI_pos (by omega)), if_neg (nI_ge hj (by omega)), if_neg (nI_ge (by omega) (by omega))]
    rfl
  unfold F_X4_noteAt
  rw [hp, ob_s, if_neg (by decide), show (6 : Int32) = nI 6 from rfl, nI_mul, nI_add, chk_t (inb_n (by omega) (by decide)), nI_clamp (by omega), only_r ho, hR.2.2.2.2.2.2.2.1, hN _ (by omega), show i * 6 + j = 6 * i + j by omega]
theorem C_putR (hR : SecR M a w b) (h : SecOK w b) {f : Nat → Nat} {M' : Mem} (ho : Only M M' (a + 1)) (hN : NA M' (a + 1) f) {i j : Nat} (hi : i < w (b + 1)) (hj : j < w (b + 2)) (x : Nat) : ∃ M'', F_X4_putNote a (nI i) (nI j) (nI x) M' = some ((), M'') ∧ NA M'' (a + 1) (upR f (6 * i + j) x) ∧ Only M M'' (a + 1) := by
  have h1 := h.2.1
  have h2 := h.2.2.1
  have hp : F_X4_hasPlace a (nI i) (nI j) M' = some 1 := by
    unfold F_X4_hasPlace F_X4_hasRow F_X4_hasColumn
    rw [ho.1 a 1 (by omega), ho.1 a 2 (by omega), hR.2.1, hR.2.2.1, if_neg (nI_pos (by omega)), if_neg (nI_ge hi (by omega)), show (6 : Int32) = nI 6 from rfl, if_neg (nI_ge (by omega) (by omega)), ob_s, if_neg (by decide), if_neg (nI_pos (by omega)), if_neg (nI_ge hj (by omega)), if_neg (nI_ge (by omega) (by omega))]
    rfl
  unfold F_X4_putNote
  rw [hp, ob_s, if_neg (by decide), show (6 : Int32) = nI 6 from rfl, nI_mul, nI_add, chk_t (inb_n (by omega) (by decide)), nI_clamp (by omega), only_r ho, hR.2.2.2.2.2.2.2.1, lt_v, show i * 6 + j = 6 * i + j by omega]
  exact ⟨_, rfl, hN.put _ _, ho.trans (Only.put _ _ _ _)⟩
end CN
theorem ch_write (B : Nat) (w : Row) (hI : Inv B w) (p i j v : Int32) : CH 2 (2 ^ 31) B w (F_X9_notNote 204 p i j v) (F_X9_setsNote 204 p i j v) (F_X5_write 2 p i j v) (fun c => if c = 1 then -1 else -2) := by
  have h5 := hI.r5
  by_cases hp : outR p (w 0)
  · refine CH.bad (c := 1) (by decide) (fun M hL hw => ?_) (fun M hS => ?_)
    · unfold F_X9_notNote F_X9_isCell
      rw [F_isSecI hL hw (by omega), ob_s, if_pos hp, if_pos rfl]; rfl
    · unfold F_X5_write
      rw [C_hasI hS h5, ob_s, if_pos hp, if_pos rfl]; rfl
  obtain ⟨s, hs, rfl⟩ := in_of hp (by omega)
  have hsec := hI.sec hs
  have h1 := hsec.2.1
  have h2 := hsec.2.2.1
  by_cases hij : outR i (w (bs s + 1)) ∨ outR j (w (bs s + 2))
  · refine CH.bad (c := 1) (by decide) (fun M hL hw => ?_) (fun M hS => ?_)
    · unfold F_X9_notNote
      rw [F_cellI hL hw h5 hs hsec, ob_s, if_pos hij, if_pos rfl]; rfl
    · unfold F_X5_write
      rw [C_hasI hS h5, ob_s, if_neg hp, if_neg (by decide), chk_t (inb_n (by omega) (by decide)), nI_clamp (by omega), hS.refs, C_placeI (hS.2.2.2.1 s hs) hsec, ob_s, if_pos hij, if_pos rfl]; rfl
  obtain ⟨i', hi, rfl⟩ := in_of (fun z => hij (Or.inl z)) (by omega)
  obtain ⟨j', hj, rfl⟩ := in_of (fun z => hij (Or.inr z)) (by omega)
  by_cases hv : v < 0 ∨ 9 < v
  · refine CH.bad (c := 2) (by decide) (fun M hL hw => ?_) (fun M hS => ?_)
    · unfold F_X9_notNote
      rw [F_cellI hL hw h5 hs hsec, ob_s, if_neg hij, if_neg (by decide), F_bet, ob_s, if_pos hv, if_pos rfl]; rfl
    · unfold F_X5_write
      rw [C_hasI hS h5, ob_s, if_neg hp, if_neg (by decide), chk_t (inb_n (by omega) (by decide)), nI_clamp (by omega), hS.refs, C_placeI (hS.2.2.2.1 s hs) hsec, ob_s, if_neg hij, if_neg (by decide)]
      by_cases hv0 : v < 0
      · rw [if_pos hv0]; rfl
      · rw [if_neg hv0, if_neg (fun z => hv.elim hv0 (fun y => (fa_of_lt y).2.1 z))]; rfl
  have hv0 : ¬ v < 0 := fun z => hv (Or.inl z)
  have hv9 : v ≤ 9 := fa_of_nlt (fun z => hv (Or.inr z))
  obtain ⟨x, hx, rfl⟩ := nI_of hv0
  rw [show (9 : Int32) = nI 9 from rfl, nI_leI hx (by decide)] at hv9
  have hq := (NOK.of hsec) i' j' (by omega) (by omega)
  refine CH.good (v := notesOf w (bs s) (6 * i' + j')) (w' := nrow w (bs s) (upR (notesOf w (bs s)) (6 * i' + j') x)) (by omega) (hI.notes hs ((NOK.of hsec).up hi hj (by omega) (by omega))) (fun M hL hw => ⟨?_, ?_⟩) (fun M hS => ?_)
  · unfold F_X9_notNote
    rw [F_cellI hL hw h5 hs hsec, ob_s, if_neg hij, if_neg (by decide), F_bet, ob_s, if_neg hv, if_neg (by decide)]; rfl
  · unfold F_X9_setsNote
    have hw' := hw
    rw [← nrow_id w (bs s)] at hw'
    obtain ⟨M', g1, g2, g3⟩ := F_putNote hL hw' (s := s) (i := i') (j := j') (by omega) (by omega) (by omega) x
    rw [F_noteN hL hw' (by omega) (by omega) (by omega), ob_s, g1, b1_s]
    exact ⟨M', rfl, g2, g3⟩
  · have hR := hS.2.2.2.1 s hs
    unfold F_X5_write
    obtain ⟨M', g1, g2, g3⟩ := C_putR hR hsec (Only.refl M _) hR.na hi hj x
    rw [C_hasI hS h5, ob_s, if_neg hp, if_neg (by decide), chk_t (inb_n (by omega) (by decide)), nI_clamp (by omega), hS.refs, C_placeI hR hsec, ob_s, if_neg hij, if_neg (by decide), if_neg hv0, show (9 : Int32) = nI 9 from rfl, if_pos (nI_le hv9 (by decide)), chk_t (inb_n (by omega) (by decide)), C_noteR hR hsec (Only.refl M _) hR.na hi hj, ob_s, chk_t (inb_n (by omega) (by decide)), g1, b1_s]
    obtain ⟨q1, q2⟩ := hS.notes h5 hs g3 g2
    exact ⟨M', rfl, q1, FrS.blk q2⟩
def maskN (m c o : Nat) : Nat := m - bit m c * 2 ^ c + o * 2 ^ c
theorem maskN_lt {m c o : Nat} (hm : m < 64) (hc : c < 6) (ho : o < 2) : maskN m c o < 64 := by
  have h : ∀ (m : Fin 64) (c : Fin 6) (o : Fin 2), maskN m.val c.val o.val < 64 := by decide +kernel
  exact h ⟨m, hm⟩ ⟨c, hc⟩ ⟨o, ho⟩
theorem maskF0 {m c o : Nat} (hm : m < 64) (hc : c < 6) (ho : o < 2) (hb : bit m c = 0) : nI m - 0 + (nI o <<< (nI c &&& 31)) = nI (maskN m c o) := by
  have h : ∀ (m : Fin 64) (c : Fin 6) (o : Fin 2), bit m.val c.val = 0 → nI m.val - 0 + (nI o.val <<< (nI c.val &&& 31)) = nI (maskN m.val c.val o.val) := by decide +kernel
  exact h ⟨m, hm⟩ ⟨c, hc⟩ ⟨o, ho⟩ hb
theorem maskF1 {m c o : Nat} (hm : m < 64) (hc : c < 6) (ho : o < 2) (hb : bit m c = 1) : nI m - (1 <<< (nI c &&& 31)) + (nI o <<< (nI c &&& 31)) = nI (maskN m c o) := by
  have h : ∀ (m : Fin 64) (c : Fin 6) (o : Fin 2), bit m.val c.val = 1 → nI m.val - (1 <<< (nI c.val &&& 31)) + (nI o.val <<< (nI c.val &&& 31)) = nI (maskN m.val c.val o.val) := by decide +kernel
  exact h ⟨m, hm⟩ ⟨c, hc⟩ ⟨o, ho⟩ hb
theorem maskC0 {m c : Nat} (hm : m < 64) (hc : c < 6) : nI m &&& ((1 <<< (nI c &&& 31)) ^^^ (-1)) = nI (maskN m c 0) := by
  have h : ∀ (m : Fin 64) (c : Fin 6), nI m.val &&& ((1 <<< (nI c.val &&& 31)) ^^^ (-1)) = nI (maskN m.val c.val 0) := by decide +kernel
  exact h ⟨m, hm⟩ ⟨c, hc⟩
theorem maskC1 {m c : Nat} (hm : m < 64) (hc : c < 6) : nI m ||| (1 <<< (nI c &&& 31)) = nI (maskN m c 1) := by
  have h : ∀ (m : Fin 64) (c : Fin 6), nI m.val ||| (1 <<< (nI c.val &&& 31)) = nI (maskN m.val c.val 1) := by decide +kernel
  exact h ⟨m, hm⟩ ⟨c, hc⟩
theorem upR_far {w : Row} {s t q : Nat} (x : Nat) (hq : q < 43) (h : t ≠ s) {k : Nat} (hk : k < 43) : upR w (bs s + q) x (bs t + k) = w (bs t + k) := upR_n _ _ (by simp only [bs]; omega)
theorem upR_lo {w : Row} {s q : Nat} (x : Nat) {k : Nat} (hk : k < 45) : upR w (bs s + q) x k = w k := upR_n _ _ (by simp only [bs]; omega)
theorem ch_mask (B : Nat) (w : Row) (hI : Inv B w) (p q : Int32) {o : Nat} (ho : o < 2) : CH 2 2 B w (F_X9_notMask 204 p q) (F_X9_setsMasked 204 p q (nI o)) (F_X5_mask 2 p q (nI o)) (fun c => if c = 1 then -1 else -2) := by
  have h5 := hI.r5
  by_cases hp : outR p (w 0)
  · refine CH.bad (c := 1) (by decide) (fun M hL hw => ?_) (fun M hS => ?_)
    · unfold F_X9_notMask
      rw [F_isSecI hL hw (by omega), ob_s, if_pos hp, if_pos rfl]; rfl
    · unfold F_X5_mask
      rw [C_hasI hS h5, ob_s, if_pos hp, if_pos rfl]; rfl
  obtain ⟨s, hs, rfl⟩ := in_of hp (by omega)
  have hsec := hI.sec hs
  by_cases hq : q < 0 ∨ 5 < q
  · refine CH.bad (c := 2) (by decide) (fun M hL hw => ?_) (fun M hS => ?_)
    · unfold F_X9_notMask
      rw [F_isSecI hL hw (by omega), ob_s, if_neg hp, if_neg (by decide), F_bet, ob_s, if_pos hq, if_pos rfl]; rfl
    · unfold F_X5_mask F_X8_isMaskColumn
      rw [C_hasI hS h5, ob_s, if_neg hp, if_neg (by decide)]
      by_cases hq0 : q < 0
      · rw [if_pos hq0, ob_s, if_pos rfl]; rfl
      · obtain ⟨z, hz, rfl⟩ := nI_of hq0
        have h6 : nI 6 ≤ nI z := by
          rcases hq with h | h
          · exact absurd h hq0
          · rw [show (5 : Int32) = nI 5 from rfl, nI_ltI (by decide) hz] at h
            exact nI_le (by omega) hz
        rw [if_neg hq0, show (6 : Int32) = nI 6 from rfl, if_pos h6, ob_s, if_pos rfl]; rfl
  have hq0 : ¬ q < 0 := fun z => hq (Or.inl z)
  have hq5 : q ≤ 5 := fa_of_nlt (fun z => hq (Or.inr z))
  obtain ⟨c, hc, rfl⟩ := nI_of hq0
  rw [show (5 : Int32) = nI 5 from rfl, nI_leI hc (by decide)] at hq5
  have hm := hsec.2.2.2.1
  have u : ∀ k, k ≠ 3 → upR w (bs s + 3) (maskN (w (bs s + 3)) c o) (bs s + k) = w (bs s + k) := fun k hk => upR_n _ _ (by omega)
  have u0 : upR w (bs s + 3) (maskN (w (bs s + 3)) c o) (bs s) = w (bs s) := upR_n _ _ (by omega)
  refine CH.good (v := bit (w (bs s + 3)) c) (w' := upR w (bs s + 3) (maskN (w (bs s + 3)) c o)) (bit_lt _ _) (hI.secUpd hs (fun k hk => upR_lo _ hk) (fun t ht k hk => upR_far _ (by decide) ht hk) ?_ (u 6 (by decide))) (fun M hL hw => ⟨?_, ?_⟩) (fun M hS => ?_)
  · unfold SecOK at hsec ⊢
    rw [u0, u 1 (by decide), u 2 (by decide), u 4 (by decide), u 5 (by decide), upR_s]
    refine ⟨hsec.1, hsec.2.1, hsec.2.2.1, maskN_lt hm (by omega) ho, hsec.2.2.2.2.1, hsec.2.2.2.2.2.1, Nat.zero_le _, fun i j hi hj => ?_⟩
    rw [u (7 + 6 * i + j) (by omega)]
    exact hsec.2.2.2.2.2.2.2 i j hi hj
  · unfold F_X9_notMask
    rw [F_isSecI hL hw (by omega), ob_s, if_neg hp, if_neg (by decide), F_bet, ob_s, if_neg hq, if_neg (by decide)]; rfl
  · unfold F_X9_setsMasked
    obtain ⟨g1, g2⟩ := F_puts hL hw (s := s) (k := 3) (maskN (w (bs s + 3)) c o) (by omega)
    rw [F_masked hL hw (by omega) hsec (by omega), ob_s, show (3 : Int32) = nI 3 from rfl, F_of hL hw (by omega), ob_s]
    rcases bit_01 (w (bs s + 3)) c with e | e
    · rw [e, if_pos nI_0, lt_v, maskF0 hm (by omega) ho e, g1, b1_s, if_pos nI_0]
      exact ⟨_, rfl, g2, Only.put _ _ _ _⟩
    · rw [e, if_neg (by decide), lt_v, maskF1 hm (by omega) ho e, g1, b1_s, if_neg (by decide)]
      exact ⟨_, rfl, g2, Only.put _ _ _ _⟩
  · have hR := hS.2.2.2.1 s hs
    have fin : ∀ M', F_X4_putMask (mR M 3 s) (nI c) (nI o) M = some ((), M') ∧ M' = sI M (mR M 3 s) 4 (nI (maskN (w (bs s + 3)) c o)) → ∃ M', F_X5_mask 2 (nI s) (nI c) (nI o) M = some (nI (bit (w (bs s + 3)) c), M') ∧ StR M' 2 (upR w (bs s + 3) (maskN (w (bs s + 3)) c o)) ∧ FrS M M' := by
      rintro M' ⟨k1, rfl⟩
      have st := hS.secUpd (M' := sI M (mR M (2 + 1) s) 4 (nI (maskN (w (bs s + 3)) c o))) (w' := upR w (bs s + 3) (maskN (w (bs s + 3)) c o)) h5 hs (fun a k h1 h2 => mI_diff _ (Or.inl h1)) rfl ?_ (by rw [mI_diff _ (Or.inr (by decide))]; exact hS.nk (by omega)) (fun k hk => upR_lo _ hk) (fun t ht k hk => upR_far _ (by decide) ht hk)
      · refine ⟨_, ?_, st.1, FrS.blk st.2⟩
        unfold F_X5_mask F_X8_isMaskColumn
        rw [C_hasI hS h5, ob_s, if_neg hp, if_neg (by decide), if_neg hq0, show (6 : Int32) = nI 6 from rfl, if_neg (nI_ge (by omega) (by omega)), ob_s, if_neg (by decide), chk_t (inb_n (by omega) (by decide)), nI_clamp (by omega), hS.refs, C_masks hR hsec (by omega), ob_s, chk_t (inb_n (by omega) (by decide)), k1, b1_s]
        rcases bit_01 (w (bs s + 3)) c with e | e
        · rw [e, if_pos nI_0]; rfl
        · rw [e, if_neg (by decide)]; rfl
      · unfold SecR
        obtain ⟨r0, r1, r2, r3, r4, r5, r6, r7, r8⟩ := hR
        rw [mI_diff _ (Or.inr (by decide)), mI_diff _ (Or.inr (by decide)), mI_diff _ (Or.inr (by decide)), mI_same, mI_diff _ (Or.inr (by decide)), mI_diff _ (Or.inr (by decide)), mI_diff _ (Or.inr (by decide)), mR_sI, u0, u 1 (by decide), u 2 (by decide), u 4 (by decide), u 5 (by decide), u 6 (by decide), upR_s]
        exact ⟨r0, r1, r2, rfl, r4, r5, r6, r7, fun k hk => by rw [mI_diff _ (Or.inl (by omega)), u _ (by omega)]; exact r8 k hk⟩
    refine fin (sI M (mR M 3 s) 4 (nI (maskN (w (bs s + 3)) c o))) ⟨?_, rfl⟩
    unfold F_X4_putMask
    rw [hR.2.2.2.1]
    rcases (show o = 0 ∨ o = 1 by omega) with rfl | rfl
    · rw [if_pos nI_0, maskC0 hm (by omega), lt_v]
    · rw [if_neg (by decide), maskC1 hm (by omega), lt_v]
