/-! PURE LEVEL: scripts read, ours: forms, commands, all -/
def fS (s : Nat → Nat) (q : Nat) : Nat → Nat → List Int32 → Nat → PR
  | _, p, xs, 0 => (true, p, xs)
  | i, p, xs, d+1 => if (pS s (chW q i) p xs).1 = true then fS s q (i + 1) (pS s (chW q i) p xs).2.1 (pS s (chW q i) p xs).2.2 d else (false, (pS s (chW q i) p xs).2.1, (pS s (chW q i) p xs).2.2)
/-- whether a part puts a value -/
def isV (f : Nat) : Nat := if f = 43 ∨ f = 98 ∨ f = 100 ∨ f = 107 ∨ f = 110 then 1 else 0
def nvF (q : Nat) : Nat → Nat → Nat
  | _, 0 => 0
  | i, d+1 => isV (chW q i) + nvF q (i + 1) d
theorem numS_b (s : Nat → Nat) (p : Nat) (xs : List Int32) : (numS s p xs).2.2.length ≤ xs.length + 1 ∧ p ≤ (numS s p xs).2.1 ∧ (numS s p xs).2.1 ≤ p + 2 := by
  unfold numS
  split
  · split
    · refine ⟨?_, ?_, ?_⟩
      · show (xs ++ [_]).length ≤ _; rw [List.length_append]; exact Nat.le_refl _
      · show p ≤ p + 2; omega
      · exact Nat.le_refl _
    · refine ⟨?_, ?_, ?_⟩
      · show (xs ++ [_]).length ≤ _; rw [List.length_append]; exact Nat.le_refl _
      · show p ≤ p + 1; omega
      · show p + 1 ≤ p + 2; omega
  · exact ⟨Nat.le_succ _, Nat.le_refl _, by show p ≤ p + 2; omega⟩
theorem pS_b (s : Nat → Nat) (f p : Nat) (xs : List Int32) : (pS s f p xs).2.2.length ≤ xs.length + isV f ∧ p ≤ (pS s f p xs).2.1 ∧ (pS s f p xs).2.1 ≤ p + 3 := by
  have ap : ∀ x : Int32, (xs ++ [x]).length = xs.length + 1 := fun x => by rw [List.length_append]; rfl
  unfold pS isV
  by_cases f1 : f = 43
  · rw [if_pos f1, if_pos (Or.inl f1)]
    split
    · exact ⟨Nat.le_of_eq (ap _), by show p ≤ p + 1; omega, by show p + 1 ≤ p + 3; omega⟩
    · split
      · exact ⟨Nat.le_of_eq (ap _), by show p ≤ p + 1; omega, by show p + 1 ≤ p + 3; omega⟩
      · exact ⟨Nat.le_succ _, Nat.le_refl _, by show p ≤ p + 3; omega⟩
  rw [if_neg f1]
  by_cases f2 : f = 98
  · rw [if_pos f2, if_pos (Or.inr (Or.inl f2))]
    split
    · have := numS_b s (p + 1) xs
      omega
    · exact ⟨Nat.le_of_eq (ap _), Nat.le_refl _, by show p ≤ p + 3; omega⟩
  rw [if_neg f2]
  by_cases f3 : f = 100
  · rw [if_pos f3, if_pos (Or.inr (Or.inr (Or.inl f3)))]
    split
    · exact ⟨Nat.le_of_eq (ap _), by show p ≤ p + 1; omega, by show p + 1 ≤ p + 3; omega⟩
    · exact ⟨Nat.le_succ _, Nat.le_refl _, by show p ≤ p + 3; omega⟩
  rw [if_neg f3]
  by_cases f4 : f = 107
  · rw [if_pos f4, if_pos (Or.inr (Or.inr (Or.inr (Or.inl f4))))]
    split
    · exact ⟨Nat.le_of_eq (ap _), by show p ≤ p + 1; omega, by show p + 1 ≤ p + 3; omega⟩
    · exact ⟨Nat.le_succ _, Nat.le_refl _, by show p ≤ p + 3; omega⟩
  rw [if_neg f4]
  by_cases f5 : f = 110
  · rw [if_pos f5, if_pos (Or.inr (Or.inr (Or.inr (Or.inr f5))))]
    have := numS_b s p xs
    omega
  rw [if_neg f5]
  split
  · exact ⟨Nat.le_add_right _ _, by show p ≤ p + 1; omega, by show p + 1 ≤ p + 3; omega⟩
  · exact ⟨Nat.le_add_right _ _, Nat.le_refl _, by show p ≤ p + 3; omega⟩
theorem fS_b (s : Nat → Nat) (q : Nat) : ∀ (d i p : Nat) (xs : List Int32), (fS s q i p xs d).2.2.length ≤ xs.length + nvF q i d ∧ p ≤ (fS s q i p xs d).2.1 ∧ (fS s q i p xs d).2.1 ≤ p + 3 * d
  | 0, _, _, _ => ⟨Nat.le_refl _, Nat.le_refl _, Nat.le_refl _⟩
  | d+1, i, p, xs => by
    have h1 := pS_b s (chW q i) p xs
    unfold fS nvF
    split
    · have := fS_b s q d (i + 1) (pS s (chW q i) p xs).2.1 (pS s (chW q i) p xs).2.2
      omega
    · refine ⟨?_, h1.2.1, ?_⟩
      · show (pS s (chW q i) p xs).2.2.length ≤ _; omega
      · show (pS s (chW q i) p xs).2.1 ≤ _; omega
theorem nvF_4 {v : Nat} (hv : v < 11) : nvF (2 * v + 1) 0 (sLen (2 * v + 1)) ≤ 4 := by
  have h : ∀ v : Fin 11, nvF (2 * v.val + 1) 0 (sLen (2 * v.val + 1)) ≤ 4 := by decide +kernel
  exact h ⟨v, hv⟩
section FO
variable {T : TS}
theorem C_formL (hT : TB T) {v c : Nat} (hv : v < 11) (hc : c < 12) (K : Int32 → Mem → Option (Int32 × Mem)) : ∀ (d i n p : Nat) (M : Mem) (xs : List Int32), CP M T p → VR M (178 + 2 * c) xs → mR M 174 1 = 177 → mR M 177 c = 178 + 2 * c → mI M 174 2 = nI c → p + 3 * d < 700 → i + d = sLen (2 * v + 1) → xs.length + nvF (2 * v + 1) i d ≤ 4 → d < n →
    ∃ M', ((fS (sg T) (2 * v + 1) i p xs d).1 = true → F_X3_readCommand_L1 174 (nI v) K n (nI i) M = K (nI (sLen (2 * v + 1))) M') ∧ ((fS (sg T) (2 * v + 1) i p xs d).1 = false → F_X3_readCommand_L1 174 (nI v) K n (nI i) M = some (0, M')) ∧ CP M' T (fS (sg T) (2 * v + 1) i p xs d).2.1 ∧ VR M' (178 + 2 * c) (fS (sg T) (2 * v + 1) i p xs d).2.2 ∧ Same (KpP (178 + 2 * c)) M M' ∧ M'.2 = M.2 := by
  have l6 := lenW_6 (q := 2 * v + 1) (by omega)
  intro d
  induction d with
  | zero =>
    intro i n p M xs hP hV r1 rc h2 hp e hl hn
    obtain ⟨n, rfl⟩ : ∃ m, n = m + 1 := ⟨n - 1, by omega⟩
    refine ⟨M, fun _ => ?_, fun h => (by cases h), hP, hV, Same.refl _ _, rfl⟩
    rw [F_X3_readCommand_L1, nI_clamp (by omega), lenW (by omega), ob_s, if_pos (nI_le (by omega) (by omega)), show i = sLen (2 * v + 1) by omega]
  | succ d ih =>
    intro i n p M xs hP hV r1 rc h2 hp e hl hn
    obtain ⟨n, rfl⟩ : ∃ m, n = m + 1 := ⟨n - 1, by omega⟩
    obtain ⟨c1, c2⟩ := charW (q := 2 * v + 1) (by omega) (i := i) (by omega)
    unfold nvF at hl
    have hb := pS_b (sg T) (chW (2 * v + 1) i) p xs
    have hl4 : xs.length < 4 ∨ (chW (2 * v + 1) i ≠ 43 ∧ chW (2 * v + 1) i ≠ 98 ∧ chW (2 * v + 1) i ≠ 100 ∧ chW (2 * v + 1) i ≠ 107 ∧ chW (2 * v + 1) i ≠ 110) := by
      unfold isV at hl
      split at hl
      · exact Or.inl (by omega)
      · exact Or.inr (by omega)
    obtain ⟨M1, g1, g2, g3, g4, g5⟩ := C_part hT hP (by omega) hV (by omega) c2 hl4
    have st : F_X3_readCommand_L1 174 (nI v) K (n + 1) (nI i) M = if (if (pS (sg T) (chW (2 * v + 1) i) p xs).1 = true then (1 : Int32) else 0) = 0 then some (0, M1) else F_X3_readCommand_L1 174 (nI v) K n (nI (i + 1)) M1 := by
      rw [F_X3_readCommand_L1, nI_clamp (by omega), lenW (by omega), ob_s, if_neg (nI_ge (by omega) (by omega)), h2, chk_t (inb_n hc (by decide)), c1, ob_s, nI_clamp (by omega), r1, rc, g1, b1_s, lt_v, nI_1]
    unfold fS
    by_cases z : (pS (sg T) (chW (2 * v + 1) i) p xs).1 = true
    · rw [if_pos z, if_neg (by decide)] at st
      rw [if_pos z]
      obtain ⟨M2, k1, k2, k3, k4, k5, k6⟩ := ih (i + 1) n _ M1 _ g2 g3 (by unfold mR; rw [g5]; exact r1) (by unfold mR; rw [g5]; exact rc) ((g4 174 2 (by omega)).1.trans h2) (by omega) (by omega) (by omega) (by omega)
      exact ⟨M2, fun h => st.trans (k1 h), fun h => st.trans (k2 h), k3, k4, g4.trans k5, k6.trans g5⟩
    · rw [if_neg z, if_pos rfl] at st
      rw [if_neg z]
      exact ⟨M1, fun h => (by cases h), fun _ => st, g2, g3, g4, g5⟩
/-- a command read: whether, how far, its verb, its values -/
def cmdS (s : Nat → Nat) (p : Nat) : Bool × Nat × Nat × List Int32 :=
  if (wdF s p 0 0 11).1 < 11 then ((fS s (2 * (wdF s p 0 0 11).1 + 1) 0 (p + (wdF s p 0 0 11).2) [] (sLen (2 * (wdF s p 0 0 11).1 + 1))).1, (fS s (2 * (wdF s p 0 0 11).1 + 1) 0 (p + (wdF s p 0 0 11).2) [] (sLen (2 * (wdF s p 0 0 11).1 + 1))).2.1, (wdF s p 0 0 11).1, (fS s (2 * (wdF s p 0 0 11).1 + 1) 0 (p + (wdF s p 0 0 11).2) [] (sLen (2 * (wdF s p 0 0 11).1 + 1))).2.2)
  else (false, p + (wdF s p 0 0 11).2, 11, [])
/-- command c holds verb v and values xs -/
def CmR (M : Mem) (c v : Nat) (xs : List Int32) : Prop := mR M (178 + 2 * c) 0 = v + 1 ∧ VR M (178 + 2 * c) xs
/-- what a command read may touch: its own objects, the script's numbers -/
abbrev KpK (c a k : Nat) : Prop := ¬ (a = 174 ∧ (k = 2 ∨ k = 3)) ∧ ¬ (c < 12 ∧ (a = 178 + 2 * c ∨ a = 179 + 2 * c))
theorem C_readCmd (hT : TB T) {M : Mem} {p c : Nat} (hP : CP M T p) (hp : p < 600) (r1 : mR M 174 1 = 177) (rc : ∀ i, i < 12 → mR M 177 i = 178 + 2 * i ∧ mR M (178 + 2 * i) 1 = 179 + 2 * i) (h2 : mI M 174 2 = nI c) (hc : (wdF (sg T) p 0 0 11).1 < 11 → c < 12) (hc2 : c < 1000) :
    ∃ M', F_X3_readCommand 174 M = some (if (cmdS (sg T) p).1 = true then 1 else 0, M') ∧ CP M' T (cmdS (sg T) p).2.1 ∧ ((cmdS (sg T) p).1 = true → mI M' 174 2 = nI (c + 1) ∧ CmR M' c (cmdS (sg T) p).2.2.1 (cmdS (sg T) p).2.2.2) ∧ Same (KpK c) M M' ∧ (∀ a k, ¬ (a = 178 + 2 * c ∧ k = 0 ∧ c < 12) → mR M' a k = mR M a k) := by
  have wb := wdF_le (sg T) p 11 0 0 (by decide) (by decide)
  have hw := C_word hT hP (by omega)
  unfold cmdS
  generalize wdF (sg T) p 0 0 11 = W at hc wb hw ⊢
  obtain ⟨v, a⟩ := W
  change a ≤ 6 ∧ v ≤ 11 at wb
  change v < 11 → c < 12 at hc
  change F_X3_readWord 174 M = some (if v < 11 then nI v else -1, sI M 174 3 (nI (p + a))) at hw
  show ∃ M', _ = some (if (if v < 11 then ((fS (sg T) (2 * v + 1) 0 (p + a) [] (sLen (2 * v + 1))).1, (fS (sg T) (2 * v + 1) 0 (p + a) [] (sLen (2 * v + 1))).2.1, v, (fS (sg T) (2 * v + 1) 0 (p + a) [] (sLen (2 * v + 1))).2.2) else (false, p + a, 11, [])).1 = true then 1 else 0, M') ∧ _
  have hP1 := hP.put (p + a)
  have e1 := Same.sI M 174 3 (nI (p + a))
  by_cases z : v < 11
  · rw [if_pos z] at hw
    simp only [if_pos z]
    have c12 := hc z
    have l6 := lenW_6 (q := 2 * v + 1) (by omega)
    obtain ⟨r2, r3⟩ := rc c c12
    obtain ⟨M2, hM2⟩ : ∃ M2, M2 = sI (sR (sI M 174 3 (nI (p + a))) (178 + 2 * c) 0 (v + 1)) (178 + 2 * c) 2 0 := ⟨_, rfl⟩
    have e2 : Same (fun a k => a ≠ 178 + 2 * c) (sI M 174 3 (nI (p + a))) M2 := fun b k pr => by
      rw [hM2]
      exact ⟨by rw [mI_diff _ (Or.inl pr), mI_sR], rfl, by rw [mR_sI, mR_sR, if_neg (fun y => pr y.1)]⟩
    have eR : ∀ b k, ¬ (b = 178 + 2 * c ∧ k = 0) → mR M2 b k = mR M b k := fun b k h => by rw [hM2, mR_sI, mR_sR, if_neg h, mR_sI]
    have hP2 : CP M2 T (p + a) := by
      refine ⟨?_, ?_, hP1.2.2.1.s (e2.sub fun a k p => by omega), (e2 174 3 (by omega)).1.trans (mI_same _ _ _ _)⟩
      · rw [eR _ _ (by omega)]; exact hP.1
      · rw [eR _ _ (by omega)]; exact hP.2.1
    have hV2 : VR M2 (178 + 2 * c) [] := ⟨by rw [hM2, mI_same]; rfl, by rw [eR _ _ (by omega), r3]; omega, fun j hj => absurd hj (Nat.not_lt_zero _)⟩
    have q2 : mI (sI M 174 3 (nI (p + a))) 174 2 = nI c := (e1 174 2 (by omega)).1.trans h2
    obtain ⟨M3, k1, k2, k3, k4, k5, k6⟩ := C_formL hT z c12 (fun (x34 : Int32) (M35 : Mem) =>
          lt (sI M35 174 2 ((mI M35 174 2) + 1)) (fun (M36 : Mem) =>
          some (1, M36))) (sLen (2 * v + 1)) 0 3000 (p + a) M2 [] hP2 hV2 (by rw [eR _ _ (by omega)]; exact r1) (by rw [eR _ _ (by omega)]; exact r2) ((e2 174 2 (by omega)).1.trans q2) (by omega) (by omega) (by have := nvF_4 z; show 0 + _ ≤ 4; omega) (by omega)
    have h32 : mI M3 174 2 = nI c := (k5 174 2 (by omega)).1.trans ((e2 174 2 (by omega)).1.trans q2)
    have r3R : ∀ b k, mR M3 b k = mR M2 b k := fun b k => by unfold mR; rw [k6]
    have st : F_X3_readCommand 174 M = F_X3_readCommand_L1 174 (nI v) (fun (x34 : Int32) (M35 : Mem) =>
          lt (sI M35 174 2 ((mI M35 174 2) + 1)) (fun (M36 : Mem) =>
          some (1, M36))) 3000 (nI 0) M2 := by
      unfold F_X3_readCommand
      rw [hw, b1_s, if_neg (nI_pos (by omega)), show (11 : Int32) = nI 11 from rfl, if_neg (nI_ge z (by omega)), q2, if_neg (nI_pos (by omega)), show (12 : Int32) = nI 12 from rfl, if_pos (nI_lt c12 (by omega)), chk_t (inb_n z (by decide)), chk_t (inb_n c12 (by decide)), chk_t (inb_n z (by decide)), nI_clamp (by omega), nI_clamp (by omega), mR_sI, mR_sI, r1, r2]
      unfold F_X1_begin
      rw [lt_v, lt_v, b1_s, hM2]; rfl
    have tot : Same (KpK c) M M3 := ((e1.sub fun a k p => by omega).trans (e2.sub fun a k p => by omega)).trans (k5.sub fun a k p => by omega)
    cases hf : (fS (sg T) (2 * v + 1) 0 (p + a) [] (sLen (2 * v + 1))).1 with
    | true =>
      have hst := st.trans (k1 hf)
      rw [lt_v, h32, nI_1] at hst
      refine ⟨sI M3 174 2 (nI (c + 1)), ?_, ?_, fun _ => ⟨mI_same _ _ _ _, ?_, ?_⟩, tot.trans ((Same.sI _ _ _ _).sub fun a k p => by omega), fun b k h => ?_⟩
      · rw [if_pos rfl]; exact hst
      · exact ⟨k3.1, k3.2.1, k3.2.2.1.s ((Same.sI _ _ _ _).sub fun a k p => by omega), by rw [mI_diff _ (Or.inr (by decide))]; exact k3.2.2.2⟩
      · rw [mR_sI, r3R, hM2, mR_sI, mR_sR, if_pos ⟨rfl, rfl⟩]
      · exact ⟨by rw [mI_diff _ (Or.inl (by omega))]; exact k4.1, k4.2.1, fun j hj => by rw [mI_diff _ (Or.inl (by omega))]; exact k4.2.2 j hj⟩
      · rw [mR_sI, r3R, eR b k (fun y => h ⟨y.1, y.2, c12⟩)]
    | false =>
      refine ⟨M3, ?_, k3, fun h => (by cases h), tot, fun b k h => ?_⟩
      · rw [if_neg (by decide)]; exact st.trans (k2 hf)
      · rw [r3R, eR b k (fun y => h ⟨y.1, y.2, c12⟩)]
  · rw [if_neg z] at hw
    simp only [if_neg z]
    refine ⟨sI M 174 3 (nI (p + a)), ?_, hP1, fun h => (by cases h), e1.sub fun a k p => by omega, fun b k _ => rfl⟩
    unfold F_X3_readCommand
    rw [hw, b1_s, if_pos (by decide)]
    rfl
end FO
