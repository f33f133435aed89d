/-! PURE LEVEL: scripts read, ours: words and forms -/
/-- character i of text q (word 2v, form 2v + 1 of verb v) -/
def chW (q i : Nat) : Nat := (sAt q i).toNatClampNeg
theorem lenW {q : Nat} (hq : q < 22) : F_J0_length_8abf5 q = some (nI (sLen q)) := by
  have h : ∀ q : Fin 22, F_J0_length_8abf5 q.val = some (nI (sLen q.val)) := by decide +kernel
  exact h ⟨q, hq⟩
theorem lenW_6 {q : Nat} (hq : q < 22) : sLen q ≤ 6 := by
  have h : ∀ q : Fin 22, sLen q.val ≤ 6 := by decide +kernel
  exact h ⟨q, hq⟩
theorem charW {q i : Nat} (hq : q < 22) (hi : i < sLen q) : F_J0_charAt_5068e q (nI i) = some (nI (chW q i)) ∧ chW q i < 128 := by
  have h : ∀ (q : Fin 22) (i : Fin 7), i.val < sLen q.val → F_J0_charAt_5068e q.val (nI i.val) = some (nI (chW q.val i.val)) ∧ chW q.val i.val < 128 := by decide +kernel
  have := lenW_6 hq
  exact h ⟨q, hq⟩ ⟨i, by omega⟩ hi
/-- the sign at p, 0 where the text has ended -/
def sg (T : TS) (p : Nat) : Nat := if p < T.2 then T.1 p else 0
theorem sg_lt {T : TS} (hT : TB T) (p : Nat) : sg T p < 127 := by
  unfold sg
  split
  · exact (hT.2 p (by assumption)).2
  · omega
theorem sg_in {T : TS} {p : Nat} (h : sg T p ≠ 0) : p < T.2 := by
  unfold sg at h
  split at h
  · assumption
  · exact absurd rfl h
section WO
variable {M : Mem} {T : TS}
theorem C_sign (hT : TB T) (hC : TCi M T) (hr : mR M 175 0 = 176) {p : Nat} (hp : p < 1000) : F_X6_signAt 175 (nI p) M = some (nI (sg T p)) := by
  have l60 := hT.1
  unfold F_X6_signAt sg
  rw [if_neg (nI_pos (by omega)), hC.1]
  by_cases h : p < T.2
  · rw [if_neg (nI_ge h (by omega)), show (60 : Int32) = nI 60 from rfl, if_neg (nI_ge (by omega) (by omega)), chk_t (inb_n (by omega) (by decide)), nI_clamp (by omega), hr, hC.2 p h, chk_t (nokC_nI (by have := hT.2 p h; omega)), if_pos h]
  · rw [if_pos (nI_le (by omega) (by omega)), if_neg h]; rfl
/-- how far the text at p is word q -/
def cmnF (s : Nat → Nat) (q p : Nat) : Nat → Nat → Nat
  | i, 0 => i
  | i, d+1 => if s (p + i) = chW q i then cmnF s q p (i + 1) d else i
theorem cmnF_le (s : Nat → Nat) (q p : Nat) : ∀ (d i : Nat), cmnF s q p i d ≤ i + d
  | 0, _ => Nat.le_refl _
  | d+1, i => by
    unfold cmnF
    split
    · have := cmnF_le s q p d (i + 1); omega
    · omega
abbrev cmnW (s : Nat → Nat) (q p : Nat) : Nat := cmnF s q p 0 (sLen q)
/-- the script read: our text and its place -/
def CP (M : Mem) (T : TS) (p : Nat) : Prop := mR M 174 0 = 175 ∧ mR M 175 0 = 176 ∧ TCi M T ∧ mI M 174 3 = nI p
theorem C_cmL (hT : TB T) {p q : Nat} (hP : CP M T p) (hp : p < 900) (hq : q < 22) (K : Int32 → Option Int32) : ∀ (d i n : Nat), i + d = sLen q → d < n → (cmnF (sg T) q p i d = sLen q → F_X3_commonLength_L1 174 q M K n (nI i) = K (nI (sLen q))) ∧ (cmnF (sg T) q p i d < sLen q → F_X3_commonLength_L1 174 q M K n (nI i) = some (nI (cmnF (sg T) q p i d))) := by
  have l6 := lenW_6 hq
  obtain ⟨h1, h2, h3, h4⟩ := hP
  intro d
  induction d with
  | zero =>
    intro i n e hn
    obtain ⟨n, rfl⟩ : ∃ m, n = m + 1 := ⟨n - 1, by omega⟩
    refine ⟨fun _ => ?_, fun h => ?_⟩
    · rw [F_X3_commonLength_L1, lenW hq, ob_s, if_pos (nI_le (by omega) (by omega)), show i = sLen q by omega]
    · unfold cmnF at h; omega
  | succ d ih =>
    intro i n e hn
    obtain ⟨n, rfl⟩ : ∃ m, n = m + 1 := ⟨n - 1, by omega⟩
    obtain ⟨g1, g2⟩ := ih (i + 1) n (by omega) (by omega)
    obtain ⟨c1, c2⟩ := charW hq (i := i) (by omega)
    have hs := sg_lt hT (p + i)
    rw [F_X3_commonLength_L1, lenW hq, ob_s, if_neg (nI_ge (by omega) (by omega)), h1, h4, nI_add, C_sign hT h3 h2 (by omega), ob_s, c1, ob_s, lt_v, nI_1]
    unfold cmnF
    by_cases z : sg T (p + i) = chW q i
    · rw [if_pos (congrArg nI z), if_pos z]
      exact ⟨g1, g2⟩
    · rw [if_neg (fun y => z ((nI_eq (by omega) (by omega)).mp y)), if_neg z]
      exact ⟨fun h => by omega, fun _ => rfl⟩
theorem C_cm (hT : TB T) {p q : Nat} (hP : CP M T p) (hp : p < 900) (hq : q < 22) : F_X3_commonLength 174 q M = some (nI (cmnW (sg T) q p)) := by
  have l6 := lenW_6 hq
  unfold F_X3_commonLength
  obtain ⟨g1, g2⟩ := C_cmL hT hP hp hq (fun (x14 : Int32) =>
  Option.bind (F_J0_length_8abf5 q) (fun v16 =>
  some v16)) (sLen q) 0 3000 (by omega) (by omega)
  have hle := cmnF_le (sg T) q p (sLen q) 0
  rw [show (0 : Int32) = nI 0 from rfl]
  rcases (show cmnW (sg T) q p = sLen q ∨ cmnW (sg T) q p < sLen q by unfold cmnW; omega) with z | z
  · rw [g1 z, lenW hq, ob_s, z]
  · rw [g2 z]
/-- the verb whose word stands at p, and how far; 11 where none does -/
def wdF (s : Nat → Nat) (p : Nat) : Nat → Nat → Nat → Nat × Nat
  | _, f, 0 => (11, f)
  | i, f, d+1 => if cmnW s (2 * i) p = sLen (2 * i) then (i, sLen (2 * i)) else wdF s p (i + 1) (max f (cmnW s (2 * i) p)) d
theorem wdF_le (s : Nat → Nat) (p : Nat) : ∀ (d i f : Nat), f ≤ 6 → i + d = 11 → (wdF s p i f d).2 ≤ 6 ∧ (wdF s p i f d).1 ≤ 11
  | 0, _, _, h, _ => ⟨h, Nat.le_refl _⟩
  | d+1, i, f, h, e => by
    have l6 := lenW_6 (q := 2 * i) (by omega)
    have hle := cmnF_le s (2 * i) p (sLen (2 * i)) 0
    unfold wdF
    split
    · exact ⟨l6, by show i ≤ 11; omega⟩
    · exact wdF_le s p d (i + 1) _ (by unfold cmnW; omega) (by omega)
theorem C_wdL (hT : TB T) {p : Nat} (hP : CP M T p) (hp : p < 900) (K : Int32 → Int32 → Option (Int32 × Mem)) : ∀ (d i f n : Nat), f ≤ 6 → i + d = 11 → d < n → ((wdF (sg T) p i f d).1 < 11 → F_X3_readWord_L1 174 M K n (nI f) (nI i) = some (nI (wdF (sg T) p i f d).1, sI M 174 3 (nI (p + (wdF (sg T) p i f d).2)))) ∧ ((wdF (sg T) p i f d).1 = 11 → F_X3_readWord_L1 174 M K n (nI f) (nI i) = K (nI (wdF (sg T) p i f d).2) (nI 11)) := by
  intro d
  induction d with
  | zero =>
    intro i f n hf e hn
    obtain ⟨n, rfl⟩ : ∃ m, n = m + 1 := ⟨n - 1, by omega⟩
    refine ⟨fun h => absurd h (by unfold wdF; omega), fun _ => ?_⟩
    rw [F_X3_readWord_L1, show (11 : Int32) = nI 11 from rfl, if_pos (nI_le (by omega) (by omega)), show i = 11 by omega]; rfl
  | succ d ih =>
    intro i f n hf e hn
    obtain ⟨n, rfl⟩ : ∃ m, n = m + 1 := ⟨n - 1, by omega⟩
    have l6 := lenW_6 (q := 2 * i) (by omega)
    have hle := cmnF_le (sg T) (2 * i) p (sLen (2 * i)) 0
    obtain ⟨g1, g2⟩ := ih (i + 1) (max f (cmnW (sg T) (2 * i) p)) n (by unfold cmnW; omega) (by omega) (by omega)
    rw [F_X3_readWord_L1, show (11 : Int32) = nI 11 from rfl, if_neg (nI_ge (by omega) (by omega)), chk_t (inb_n (by omega) (by decide)), nI_clamp (by omega), C_cm hT hP hp (by omega), ob_s, chk_t (inb_n (by omega) (by decide)), lenW (by omega), ob_s]
    unfold wdF
    by_cases z : cmnW (sg T) (2 * i) p = sLen (2 * i)
    · rw [if_pos (congrArg nI z), if_pos z, lt_v, hP.2.2.2, nI_add, z]
      exact ⟨fun _ => rfl, fun h => absurd h (by show i ≠ 11; omega)⟩
    · rw [if_neg (fun y => z ((nI_eq (by unfold cmnW; omega) (by omega)).mp y)), if_neg z, lt_v, lt_v, nI_1, imax (by omega) (by unfold cmnW; omega)]
      exact ⟨g1, g2⟩
/-- our reading of a word -/
theorem C_word (hT : TB T) {p : Nat} (hP : CP M T p) (hp : p < 900) : F_X3_readWord 174 M = some (if (wdF (sg T) p 0 0 11).1 < 11 then nI (wdF (sg T) p 0 0 11).1 else -1, sI M 174 3 (nI (p + (wdF (sg T) p 0 0 11).2))) := by
  have hle := wdF_le (sg T) p 11 0 0 (by decide) (by decide)
  unfold F_X3_readWord
  obtain ⟨g1, g2⟩ := C_wdL hT hP hp (fun (x16 : Int32) (x17 : Int32) =>
  lt (sI M 174 3 ((mI M 174 3) + x16)) (fun (M18 : Mem) =>
  some ((-1), M18))) 11 0 0 3000 (by decide) (by decide) (by omega)
  rw [show (0 : Int32) = nI 0 from rfl]
  by_cases z : (wdF (sg T) p 0 0 11).1 < 11
  · rw [g1 z, if_pos z]
  · rw [g2 (by omega), if_neg z, lt_v, hP.2.2.2, nI_add]
end WO
/-! the parts of a form -/
abbrev digS (x : Nat) : Prop := 48 ≤ x ∧ x ≤ 57
theorem digS_or (x : Nat) : digS x ∨ ¬ digS x := by unfold digS; omega
/-- values put: command object q holds xs -/
def VR (M : Mem) (q : Nat) (xs : List Int32) : Prop := mI M q 2 = nI xs.length ∧ mR M q 1 = q + 1 ∧ ∀ j (h : j < xs.length), mI M (q + 1) j = xs[j]
theorem C_put {M : Mem} {q : Nat} {xs : List Int32} (h : VR M q xs) (hl : xs.length < 4) (x : Int32) : ∃ M', F_X1_put q x M = some ((), M') ∧ VR M' q (xs ++ [x]) ∧ Same (fun a k => ¬ (a = q ∧ k = 2) ∧ a ≠ q + 1) M M' ∧ M'.2 = M.2 := by
  obtain ⟨h1, h2, h3⟩ := h
  unfold F_X1_put
  rw [h1, if_neg (nI_pos (by omega)), show (4 : Int32) = nI 4 from rfl, if_neg (nI_ge hl (by omega)), chk_t (inb_n hl (by decide)), nI_clamp (by omega), h2, lt_v, mI_diff _ (Or.inl (by omega)), h1, nI_1, lt_v]
  refine ⟨_, rfl, ⟨by rw [mI_same, List.length_append]; rfl, h2, fun j hj => ?_⟩, ((Same.sI _ _ _ _).sub fun a k p => by omega).trans ((Same.sI _ _ _ _).sub fun a k p => by omega), rfl⟩
  rw [List.length_append] at hj
  change j < xs.length + 1 at hj
  rw [mI_diff _ (Or.inl (by omega)), mI_sI]
  by_cases e : j = xs.length
  · subst e
    rw [if_pos ⟨rfl, rfl⟩]
    simp
  · rw [if_neg (fun z => e z.2), h3 j (by omega), List.getElem_append_left (by omega)]
