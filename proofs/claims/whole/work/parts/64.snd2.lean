/-! PURE LEVEL: the sounds of a column counted, ours -/
theorem sndIt_app (b c : Nat) : ∀ (d : Nat) (r : Row) (i e : Nat), sndIt b c r i (d + e) = sndIt b c (sndIt b c r i d) (i + d) e
  | 0, r, i, e => by rw [Nat.zero_add, Nat.add_zero]; rfl
  | d+1, r, i, e => by
    rw [show d + 1 + e = (d + e) + 1 by omega]
    show sndIt b c (sndStep r b c i) (i + 1) (d + e) = sndIt b c (sndIt b c (sndStep r b c i) (i + 1) d) (i + (d + 1)) e
    rw [sndIt_app b c d, show i + 1 + d = i + (d + 1) by omega]
theorem sndIt_id {b c : Nat} : ∀ {d i : Nat} {r : Row}, (∀ j, i ≤ j → j < i + d → r (b + (7 + 6 * j + c)) = 0) → sndIt b c r i d = r
  | 0, _, _, _ => rfl
  | d+1, i, r, h => by
    have e : sndStep r b c i = r := by unfold sndStep; rw [if_pos (h i (Nat.le_refl _) (by omega))]
    rw [sndIt, e]
    exact sndIt_id fun j h1 h2 => h j (by omega) (by omega)
theorem sndIt_ge {b c : Nat} (hb : 45 ≤ b) (hc : c < 6) : ∀ {d i : Nat} {r : Row}, SecOK r b → i + d ≤ 6 → ∀ k, 45 ≤ k → sndIt b c r i d k = r k
  | 0, _, _, _, _ => fun _ _ => rfl
  | d+1, i, r, h, hd => fun k hk => by
    rw [sndIt, sndIt_ge hb hc (d := d) (i := i + 1) (h.step (j := i) hb hc (by omega)) (by omega) k hk]
    exact sndStep_ge h.1 (h.2.2.2.2.2.2.2 i c (by omega) hc).1 hk
theorem sndIt_6 {b c : Nat} {r : Row} (h : SecOK r b) (hb : 45 ≤ b) (hc : c < 6) : sndIt b c r 0 6 = sndIt b c r 0 (r (b + 1)) := by
  have hr := h.2.1
  obtain ⟨d, hd⟩ : ∃ d, 6 = r (b + 1) + d := ⟨6 - r (b + 1), by omega⟩
  rw [show sndIt b c r 0 6 = sndIt b c r 0 (r (b + 1) + d) by rw [← hd], sndIt_app]
  refine sndIt_id fun j h1 h2 => ?_
  rw [sndIt_ge hb hc h (by omega) _ (by omega)]
  exact (h.2.2.2.2.2.2.2 j c (by omega) hc).2 (Or.inl (by omega))
theorem F_snd {M : Mem} {w : Row} (hL : LM M) (hw : WA M 205 260 w) {s c : Nat} (hs : s < 5) (hc : c < 6) (h : SecOK w (bs s)) :
    ∃ M', F_X9_sounds 204 (nI s) (nI c) M = some ((), M') ∧ WA M' 205 260 (sndIt (bs s) c w 0 6) ∧ Only M M' 205 := by
  have h6 := h.2.1.2
  obtain ⟨M', g1, g2, g3⟩ := F_sndL hs hc (fun _ M20 => some ((), M20)) (w (bs s + 1)) 0 3000 M w hL hw h (by omega) (by omega)
  refine ⟨M', ?_, ?_, g3⟩
  · unfold F_X9_sounds
    exact g1
  · rw [sndIt_6 h (by simp only [bs]; omega) hc]; exact g2
/-- our counts of sounds, in object q -/
def SndR (M : Mem) (q : Nat) (w : Row) : Prop := ∀ k n, k < 3 → n < 9 → mI M q (10 * k + (n + 1)) = nI (w (18 + 9 * k + n))
theorem SecR.mv {M M' : Mem} {a b : Nat} {w w' : Row} (h : SecR M a w b) (h1 : ∀ k, mI M' a k = mI M a k) (h2 : ∀ k, mI M' (a + 1) k = mI M (a + 1) k) (h3 : mR M' a 3 = mR M a 3) (hb : 45 ≤ b) (e : ∀ k, 45 ≤ k → w' k = w k) : SecR M' a w' b := by
  unfold SecR at h ⊢
  rw [e b hb, e (b + 1) (by omega), e (b + 2) (by omega), e (b + 3) (by omega), e (b + 4) (by omega), e (b + 5) (by omega), e (b + 6) (by omega)]
  simp only [h1, h2, h3]
  refine ⟨h.1, h.2.1, h.2.2.1, h.2.2.2.1, h.2.2.2.2.1, h.2.2.2.2.2.1, h.2.2.2.2.2.2.1, h.2.2.2.2.2.2.2.1, fun k hk => ?_⟩
  rw [e _ (by omega)]
  exact h.2.2.2.2.2.2.2.2 k hk
theorem only_r {M M' : Mem} {q : Nat} (h : Only M M' q) (a k : Nat) : mR M' a k = mR M a k := by unfold mR; rw [h.2]
theorem only_j {M M' : Mem} {q : Nat} (h : Only M M' q) (a k : Nat) : mJ M' a k = mJ M a k := by unfold mJ; rw [h.2]
theorem SndR.step {M : Mem} {q : Nat} {r : Row} (h : SndR M q r) {k n : Nat} (hk : k < 3) (hn : n < 9) (x : Nat) : SndR (sI M q (10 * k + (n + 1)) (nI x)) q (upR r (18 + 9 * k + n) x) := by
  intro k2 n2 hk2 hn2
  rw [mI_sI]
  unfold upR
  by_cases e : k2 = k ∧ n2 = n
  · rw [if_pos ⟨rfl, by omega⟩, if_pos (by omega)]
  · rw [if_neg (by omega), if_neg (by omega)]
    exact h k2 n2 hk2 hn2
theorem C_sndL {x a b c q : Nat} (hb : 45 ≤ b) (hc : c < 6) (ha : a ≠ q) (ha1 : a + 1 ≠ q) (K : Int32 → Mem → Option (Unit × Mem)) : ∀ (d i n : Nat) (M : Mem) (r : Row), SecR M a r b → SecOK r b → SndR M q r → mR M x 8 = q → i + d = 6 → d < n →
    ∃ M', F_X5_recordSounds_L1 x a (nI (r b * 10)) K n (nI (6 * i + c)) M = K (nI (36 + c)) M' ∧ SndR M' q (sndIt b c r i d) ∧ Only M M' q := by
  intro d
  induction d with
  | zero =>
    intro i n M r hR h hS hq e hn0
    obtain ⟨n, rfl⟩ : ∃ m, n = m + 1 := ⟨n - 1, by omega⟩
    refine ⟨M, ?_, hS, Only.refl _ _⟩
    rw [F_X5_recordSounds_L1, if_neg (nI_pos (by omega)), show (36 : Int32) = nI 36 from rfl, if_pos (nI_le (by omega) (by omega)), show 6 * i + c = 36 + c by omega]
  | succ d ih =>
    intro i n M r hR h hS hq e hn0
    obtain ⟨n, rfl⟩ : ∃ m, n = m + 1 := ⟨n - 1, by omega⟩
    have hk := h.1
    have hnote := (h.2.2.2.2.2.2.2 i c (by omega) hc).1
    have hr9 := hR.2.2.2.2.2.2.2.2 (6 * i + c) (by omega)
    rw [show 7 + (6 * i + c) = 7 + 6 * i + c by omega] at hr9
    have hst := h.step (j := i) hb hc (by omega)
    have e1 : sndStep r b c i b = r b := sndStep_ge hk hnote hb
    rw [F_X5_recordSounds_L1, if_neg (nI_pos (by omega)), show (36 : Int32) = nI 36 from rfl, show (6 : Int32) = nI 6 from rfl, if_neg (nI_ge (by omega) (by omega)), chk_t (inb_n (by omega) (by decide)), lt_v, chk_t (inb_n (by omega) (by decide)), nI_clamp (by omega), hR.2.2.2.2.2.2.2.1, hr9, nI_add, nI_add, show 6 * i + c + 6 = 6 * (i + 1) + c by omega]
    by_cases hz : r (b + (7 + 6 * i + c)) = 0
    · have e2 : sndStep r b c i = r := by unfold sndStep; rw [if_pos hz]
      rw [hz, if_pos nI_0, lt_v]
      obtain ⟨M', g1, g2, g3⟩ := ih (i + 1) n M r hR h hS hq (by omega) (by omega)
      refine ⟨M', g1, ?_, g3⟩
      rw [sndIt, e2]; exact g2
    · have hS9 := hS (r b) (r (b + (7 + 6 * i + c)) - 1) hk (by omega)
      rw [show 10 * r b + (r (b + (7 + 6 * i + c)) - 1 + 1) = r b * 10 + r (b + (7 + 6 * i + c)) by omega, show 18 + 9 * r b + (r (b + (7 + 6 * i + c)) - 1) = 18 + 9 * r b + r (b + (7 + 6 * i + c)) - 1 by omega] at hS9
      rw [if_neg (nI_ne0 (Nat.pos_of_ne_zero hz) (by omega)), if_neg (nI_pos (by omega)), show (30 : Int32) = nI 30 from rfl, if_neg (nI_ge (by omega) (by omega)), chk_t (inb_n (by omega) (by decide)), chk_t (inb_n (by omega) (by decide)), lt_v, lt_v, hq, nI_clamp (by omega), hS9, show (1 : Int32) = nI 1 from rfl, nI_add]
      have e2 : sndStep r b c i = upR r (18 + 9 * r b + r (b + (7 + 6 * i + c)) - 1) (r (18 + 9 * r b + r (b + (7 + 6 * i + c)) - 1) + 1) := by unfold sndStep; rw [if_neg hz]
      have hS2 := hS.step (k := r b) (n := r (b + (7 + 6 * i + c)) - 1) hk (by omega) (r (18 + 9 * r b + r (b + (7 + 6 * i + c)) - 1) + 1)
      rw [show 10 * r b + (r (b + (7 + 6 * i + c)) - 1 + 1) = r b * 10 + r (b + (7 + 6 * i + c)) by omega, show 18 + 9 * r b + (r (b + (7 + 6 * i + c)) - 1) = 18 + 9 * r b + r (b + (7 + 6 * i + c)) - 1 by omega, ← e2] at hS2
      have hR2 : SecR (sI M q (r b * 10 + r (b + (7 + 6 * i + c))) (nI (r (18 + 9 * r b + r (b + (7 + 6 * i + c)) - 1) + 1))) a (sndStep r b c i) b :=
        hR.mv (fun k => by rw [mI_sI, if_neg (fun z => ha z.1)]) (fun k => by rw [mI_sI, if_neg (fun z => ha1 z.1)]) rfl hb (fun k hk9 => sndStep_ge hk hnote hk9)
      obtain ⟨M', g1, g2, g3⟩ := ih (i + 1) n _ (sndStep r b c i) hR2 hst hS2 hq (by omega) (by omega)
      rw [e1] at g1
      exact ⟨M', g1, g2, (Only.put _ _ _ _).trans g3⟩
theorem C_snd {M : Mem} {w : Row} {x a b c q : Nat} (hb : 45 ≤ b) (hc : c < 6) (ha : a ≠ q) (ha1 : a + 1 ≠ q) (hR : SecR M a w b) (h : SecOK w b) (hS : SndR M q w) (hq : mR M x 8 = q) :
    ∃ M', F_X5_recordSounds x a (nI c) M = some ((), M') ∧ SndR M' q (sndIt b c w 0 6) ∧ Only M M' q := by
  obtain ⟨M', g1, g2, g3⟩ := C_sndL (x := x) hb hc ha ha1 (fun _ M29 => some ((), M29)) 6 0 3000 M w hR h hS hq (by omega) (by omega)
  refine ⟨M', ?_, g2, g3⟩
  unfold F_X5_recordSounds
  rw [hR.1, C_kind h.1, ob_s, lt_v, show (10 : Int32) = nI 10 from rfl, nI_mul]
  rw [Nat.mul_zero, Nat.zero_add] at g1
  exact g1
