/-! PURE LEVEL: whole scripts read -/
theorem wdF_len (s : Nat → Nat) (p : Nat) : ∀ (d i f : Nat), i + d = 11 → (wdF s p i f d).1 < 11 → (wdF s p i f d).2 = sLen (2 * (wdF s p i f d).1)
  | 0, _, _, _, h => absurd h (Nat.lt_irrefl 11)
  | d+1, i, f, e, h => by
    unfold wdF at h ⊢
    by_cases c : cmnW s (2 * i) p = sLen (2 * i)
    · rw [if_pos c]
    · rw [if_neg c] at h ⊢
      exact wdF_len s p d (i + 1) _ (by omega) h
theorem len_4 {i : Nat} (hi : i < 11) : 4 ≤ sLen (2 * i) := by
  have h : ∀ i : Fin 11, 4 ≤ sLen (2 * i.val) := by decide +kernel
  exact h ⟨i, hi⟩
theorem cmd_prog (s : Nat → Nat) (p : Nat) : ((wdF s p 0 0 11).1 < 11 → p + 4 ≤ (cmdS s p).2.1) ∧ ((cmdS s p).1 = true → (wdF s p 0 0 11).1 < 11) ∧ p ≤ (cmdS s p).2.1 := by
  have l := wdF_len s p 11 0 0 rfl
  have b := wdF_le s p 11 0 0 (by decide) (by decide)
  unfold cmdS
  generalize wdF s p 0 0 11 = W at l b ⊢
  by_cases z : W.1 < 11
  · have l4 := len_4 z
    have fb := fS_b s (2 * W.1 + 1) (sLen (2 * W.1 + 1)) 0 (p + W.2) []
    have l2 := l z
    rw [if_pos z]
    refine ⟨fun _ => ?_, fun _ => z, ?_⟩
    · show p + 4 ≤ (fS s (2 * W.1 + 1) 0 (p + W.2) [] (sLen (2 * W.1 + 1))).2.1
      omega
    · show p ≤ (fS s (2 * W.1 + 1) 0 (p + W.2) [] (sLen (2 * W.1 + 1))).2.1
      omega
  · rw [if_neg z]
    exact ⟨fun h => absurd h z, fun h => (by cases h), Nat.le_add_right _ _⟩
section ALL
variable {T : TS}
theorem cmd_le (hT : TB T) {M : Mem} (hL : LM M) (hTM : TMi M T) {p : Nat} (hp : p ≤ T.2) : (cmdS (sg T) p).2.1 ≤ T.2 := by
  have hz : MQr (sI M 204 13 (nI p)) T (p, (fun k => mI M 212 k), mI M 204 17) := ⟨hL.of rfl, hTM.s ((Same.sI _ _ _ _).sub fun a k p => by omega), hp, mI_same _ _ _ _, fun k _ => by rw [mI_diff _ (Or.inl (by decide))], by rw [mI_diff _ (Or.inr (by decide))]⟩
  obtain ⟨M', -, g2, -, -⟩ := Sim.cmd hT _ _ hz
  have e := (cmd_eq T hT (p, (fun k => mI M 212 k), mI M 204 17)).2.1
  change (cmdM T (p, (fun k => mI M 212 k), mI M 204 17)).2.1 = (cmdS (sg T) p).2.1 at e
  rw [← e]
  exact g2.2.2.1
abbrev Cmds : Type := List (Nat × List Int32)
/-- a whole script: whether, how far, its commands -/
def allS (s : Nat → Nat) (Ln : Nat) : Nat → Nat → Bool × Nat × Cmds
  | p, 0 => (false, p, [])
  | p, d+1 => if (cmdS s p).1 = true then (if (cmdS s p).2.1 = Ln then (true, Ln, [(cmdS s p).2.2]) else if s (cmdS s p).2.1 = 59 then ((allS s Ln ((cmdS s p).2.1 + 1) d).1, (allS s Ln ((cmdS s p).2.1 + 1) d).2.1, (cmdS s p).2.2 :: (allS s Ln ((cmdS s p).2.1 + 1) d).2.2) else (false, (cmdS s p).2.1, [(cmdS s p).2.2])) else (false, (cmdS s p).2.1, [])
def CmAll (M : Mem) (cs : Cmds) : Prop := ∀ j (h : j < cs.length), CmR M j cs[j].1 cs[j].2
theorem CmR.s {M M' : Mem} {j v : Nat} {xs : List Int32} (h : CmR M j v xs) (hl : xs.length ≤ 4) (e : Same (fun a k => a = 178 + 2 * j ∨ a = 179 + 2 * j) M M') : CmR M' j v xs :=
  ⟨(e _ _ (Or.inl rfl)).2.2.trans h.1, (e _ _ (Or.inl rfl)).1.trans h.2.1, (e _ _ (Or.inl rfl)).2.2.trans h.2.2.1, fun i hi => (e (178 + 2 * j + 1) i (Or.inr (by omega))).1.trans (h.2.2.2 i hi)⟩
/-- the shape of our script -/
def ShS (M : Mem) : Prop := mR M 174 1 = 177 ∧ ∀ i, i < 12 → mR M 177 i = 178 + 2 * i ∧ mR M (178 + 2 * i) 1 = 179 + 2 * i
abbrev KpS (a k : Nat) : Prop := ¬ (a = 174 ∧ (k = 2 ∨ k = 3)) ∧ ¬ (178 ≤ a ∧ a < 202)
theorem cmd_xs (hT : TB T) (p : Nat) : (cmdS (sg T) p).2.2.2.length ≤ 4 := by
  have wb := wdF_le (sg T) p 11 0 0 (by decide) (by decide)
  unfold cmdS
  generalize wdF (sg T) p 0 0 11 = W at wb ⊢
  by_cases z : W.1 < 11
  · rw [if_pos z]
    have fb := fS_b (sg T) (2 * W.1 + 1) (sLen (2 * W.1 + 1)) 0 (p + W.2) []
    have := nvF_4 z
    show (fS (sg T) (2 * W.1 + 1) 0 (p + W.2) [] (sLen (2 * W.1 + 1))).2.2.length ≤ 4
    change (fS (sg T) (2 * W.1 + 1) 0 (p + W.2) [] (sLen (2 * W.1 + 1))).2.2.length ≤ 0 + nvF (2 * W.1 + 1) 0 (sLen (2 * W.1 + 1)) ∧ _ at fb
    omega
  · rw [if_neg z]
    exact Nat.zero_le _
theorem C_allL (hT : TB T) (hle : ∀ p, p ≤ T.2 → (cmdS (sg T) p).2.1 ≤ T.2) (K : Int32 → Mem → Option (Int32 × Mem)) : ∀ (d n p : Nat) (M : Mem) (cs : Cmds), CP M T p → ShS M → mI M 174 2 = nI cs.length → CmAll M cs → (∀ c ∈ cs, c.2.length ≤ 4) → 5 * cs.length ≤ p → p ≤ T.2 → T.2 < p + 5 * d → d < n →
    ∃ M', F_X3_read_L1 174 K n (nI cs.length) M = some (if (allS (sg T) T.2 p d).1 = true then 1 else 0, M') ∧ mI M' 174 3 = nI (allS (sg T) T.2 p d).2.1 ∧ ((allS (sg T) T.2 p d).1 = true → mI M' 174 2 = nI (cs ++ (allS (sg T) T.2 p d).2.2).length ∧ (cs ++ (allS (sg T) T.2 p d).2.2).length ≤ 12 ∧ CmAll M' (cs ++ (allS (sg T) T.2 p d).2.2)) ∧ Same KpS M M' ∧ SameR (fun a k => ¬ (178 ≤ a ∧ k = 0 ∧ a < 202)) M M' := by
  have l60 := hT.1
  intro d
  induction d with
  | zero => intro n p M cs _ _ _ _ _ _ h1 h2; omega
  | succ d ih =>
    intro n p M cs hP hS h2 hA hx4 h5 hp hd hn
    obtain ⟨n, rfl⟩ : ∃ m, n = m + 1 := ⟨n - 1, by omega⟩
    obtain ⟨pr1, pr2, pr3⟩ := cmd_prog (sg T) p
    have ple := hle p hp
    obtain ⟨M1, g1, g2, g3, g4, g5⟩ := C_readCmd (c := cs.length) hT hP (by omega) hS.1 hS.2 h2 (fun z => by have := pr1 z; omega) (by omega)
    have g5' : SameR (fun a k => ¬ (178 ≤ a ∧ k = 0 ∧ a < 202)) M M1 := fun a k p => g5 a k (fun y => p ⟨by omega, y.2.1, by omega⟩)
    have hS1 : ShS M1 := ⟨(g5' 174 1 (by omega)).trans hS.1, fun i hi => ⟨(g5' 177 i (by omega)).trans (hS.2 i hi).1, (g5' (178 + 2 * i) 1 (by omega)).trans (hS.2 i hi).2⟩⟩
    have x60 : ¬ (60 : Int32) < nI cs.length := nI_nlt (a := 60) (by omega) (by omega)
    unfold allS
    by_cases ok : (cmdS (sg T) p).1 = true
    · rw [if_pos ok] at g1
      obtain ⟨q1, q2⟩ := g3 ok
      have w4 := pr1 (pr2 ok)
      have hA1 : CmAll M1 (cs ++ [(cmdS (sg T) p).2.2]) := fun j hj => by
        rw [List.length_append] at hj
        change j < cs.length + 1 at hj
        by_cases e : j = cs.length
        · subst e
          simp only [List.getElem_append_right (Nat.le_refl _), Nat.sub_self, List.getElem_cons_zero]
          exact q2
        · rw [List.getElem_append_left (by omega)]
          refine (hA j (by omega)).s (hx4 _ (List.getElem_mem _)) (fun a k pr => ⟨(g4 a k (by omega)).1, (g4 a k (by omega)).2.1, g5 a k (by omega)⟩)
      have hl1 : (cs ++ [(cmdS (sg T) p).2.2]).length = cs.length + 1 := by rw [List.length_append]; rfl
      rw [if_pos ok]
      by_cases en : (cmdS (sg T) p).2.1 = T.2
      · rw [if_pos en]
        refine ⟨M1, ?_, ?_, fun _ => ⟨?_, ?_, hA1⟩, g4.sub fun a k p => by omega, g5'⟩
        · rw [F_X3_read_L1, if_neg x60, g1, b1_s, if_neg (by decide), g2.2.2.2, g2.1, g2.2.2.1.1, if_pos (by rw [en])]; rfl
        · rw [g2.2.2.2, en]
        · rw [q1]; show nI (cs.length + 1) = nI (cs ++ [_]).length; rw [hl1]
        · show (cs ++ [_]).length ≤ 12; rw [hl1]; omega
      · have np : ¬ nI (cmdS (sg T) p).2.1 = nI T.2 := fun y => en ((nI_eq (by omega) (by omega)).mp y)
        have st : F_X3_read_L1 174 K (n + 1) (nI cs.length) M = b1 (F_X3_take 174 59 M1) (fun v14 M15 => if v14 = 0 then some (0, M15) else lt (nI cs.length + 1) (fun (v17 : Int32) => F_X3_read_L1 174 K n v17 M15)) := by
          rw [F_X3_read_L1, if_neg x60, g1, b1_s, if_neg (by decide), g2.2.2.2, g2.1, g2.2.2.1.1, if_neg np]
        rw [if_neg en]
        have tk := C_take hT g2 (c := 59) (by omega) (by decide)
        by_cases se : sg T (cmdS (sg T) p).2.1 = 59
        · rw [if_pos se] at tk ⊢
          have sin := sg_in (T := T) (p := (cmdS (sg T) p).2.1) (by omega)
          have e2 := Same.sI M1 174 3 (nI ((cmdS (sg T) p).2.1 + 1))
          obtain ⟨M2, k1, k2, k3, k4, k5⟩ := ih n ((cmdS (sg T) p).2.1 + 1) (sI M1 174 3 (nI ((cmdS (sg T) p).2.1 + 1))) (cs ++ [(cmdS (sg T) p).2.2]) (g2.put _) hS1 (by rw [mI_diff _ (Or.inr (by decide)), q1, hl1]) (fun j hj => (hA1 j hj).s (by
            have hm := List.getElem_mem hj
            rcases List.mem_append.mp hm with y | y
            · exact hx4 _ y
            · rw [List.mem_singleton.mp y]; exact cmd_xs hT p) (e2.sub fun a k p => by omega)) (fun c hc => by
            rcases List.mem_append.mp hc with y | y
            · exact hx4 _ y
            · rw [List.mem_singleton.mp y]; exact cmd_xs hT p) (by rw [hl1]; omega) (by omega) (by omega) (by omega)
          rw [hl1] at k1
          refine ⟨M2, ?_, k2, fun h => ?_, ((g4.sub fun a k p => by omega).trans (e2.sub fun a k p => by omega)).trans k4, fun a k p => (k5 a k p).trans (g5' a k p)⟩
          · rw [st, show (59 : Int32) = nI 59 from rfl, tk, b1_s, if_neg (by decide), lt_v, nI_1, k1]
          · obtain ⟨r1, r2, r3⟩ := k3 h
            rw [List.append_assoc] at r1 r2 r3
            exact ⟨r1, r2, r3⟩
        · rw [if_neg se] at tk ⊢
          refine ⟨M1, ?_, g2.2.2.2, fun h => (by cases h), g4.sub fun a k p => by omega, g5'⟩
          rw [st, show (59 : Int32) = nI 59 from rfl, tk, b1_s, if_pos rfl]; rfl
    · rw [if_neg ok] at g1
      rw [if_neg ok]
      refine ⟨M1, ?_, g2.2.2.2, fun h => (by cases h), g4.sub fun a k p => by omega, g5'⟩
      rw [F_X3_read_L1, if_neg x60, g1, b1_s, if_pos rfl]; rfl
theorem F_allL (hT : TB T) (hle : ∀ p, p ≤ T.2 → (cmdS (sg T) p).2.1 ≤ T.2) : ∀ (d n : Nat) (M : Mem) (z : St), MQr M T z → T.2 < z.1 + 5 * d → d + 1 < n →
    ∃ M' z', F_X9_readsAll_L1 204 (fun (x14 : Int32) (M15 : Mem) =>
  if (mI M15 204 13) = (mI M15 204 12) then
    some (1, M15)
  else
    some (0, M15)) n 1 M = some (if (allS (sg T) T.2 z.1 d).1 = true then 1 else 0, M') ∧ MQr M' T z' ∧ z'.1 = (allS (sg T) T.2 z.1 d).2.1 ∧ Same KpR M M' ∧ M'.2 = M.2 := by
  have l60 := hT.1
  intro d
  induction d with
  | zero => intro n M z hz h1; have := hz.2.2.1; omega
  | succ d ih =>
    intro n M z hz hd hn
    obtain ⟨n, rfl⟩ : ∃ m, n = m + 1 := ⟨n - 1, by omega⟩
    obtain ⟨pr1, pr2, pr3⟩ := cmd_prog (sg T) z.1
    have ple := hle z.1 hz.2.2.1
    obtain ⟨c1, c2, c3⟩ := cmd_eq T hT z
    obtain ⟨M1, g1, g2, g3, g4⟩ := Sim.cmd hT M z hz
    rw [c1] at g1
    have g2p : MQr M1 T ((cmdM T z).2) := g2
    unfold allS
    by_cases ok : (cmdS (sg T) z.1).1 = true
    · rw [if_pos ok] at g1
      have w4 := pr1 (pr2 ok)
      obtain ⟨M2, k1, k2, k3, k4⟩ := Sim.rd hT (c := 59) (by decide) (by decide) M1 _ g2p
      rw [if_pos ok]
      have rdE : rdS (sg T) 59 (cmdM T z).2 = if sg T (cmdS (sg T) z.1).2.1 = 59 then (true, ((cmdS (sg T) z.1).2.1 + 1, (cmdM T z).2.2)) else (false, (cmdM T z).2) := by
        unfold rdS; rw [c2]
      rw [rdE] at k1 k2
      have st : ∀ v : Int32, F_X9_reads 204 59 M1 = some (v, M2) → F_X9_readsAll_L1 204 (fun (x14 : Int32) (M15 : Mem) =>
  if (mI M15 204 13) = (mI M15 204 12) then
    some (1, M15)
  else
    some (0, M15)) (n + 1) 1 M = F_X9_readsAll_L1 204 (fun (x14 : Int32) (M15 : Mem) =>
  if (mI M15 204 13) = (mI M15 204 12) then
    some (1, M15)
  else
    some (0, M15)) n v M2 := fun v hv => by
        rw [F_X9_readsAll_L1, if_neg (by decide), g1, b1_s, if_neg (by decide), hv, b1_s]
      obtain ⟨m, hm⟩ : ∃ m, n = m + 1 := ⟨n - 1, by omega⟩
      have ex : F_X9_readsAll_L1 204 (fun (x14 : Int32) (M15 : Mem) =>
  if (mI M15 204 13) = (mI M15 204 12) then
    some (1, M15)
  else
    some (0, M15)) n 0 M2 = if (mI M2 204 13) = (mI M2 204 12) then some (1, M2) else some (0, M2) := by
        rw [hm, F_X9_readsAll_L1, if_pos rfl]
      by_cases en : (cmdS (sg T) z.1).2.1 = T.2
      · have ns : ¬ sg T (cmdS (sg T) z.1).2.1 = 59 := fun y => by have := sg_in (T := T) (p := (cmdS (sg T) z.1).2.1) (by omega); omega
        rw [if_neg ns] at k1 k2
        rw [if_pos en]
        refine ⟨M2, _, ?_, k2, by show (cmdM T z).2.1 = T.2; rw [c2, en], g3.trans k3, k4.trans g4⟩
        rw [st 0 k1, ex, k2.2.2.2.1, k2.2.1.1]
        show (if nI (cmdM T z).2.1 = nI T.2 then _ else _) = _
        rw [c2, en, if_pos rfl]; rfl
      · rw [if_neg en]
        by_cases se : sg T (cmdS (sg T) z.1).2.1 = 59
        · rw [if_pos se] at k1 k2 ⊢
          have sin := sg_in (T := T) (p := (cmdS (sg T) z.1).2.1) (by omega)
          obtain ⟨M3, z', m1, m2, m3, m4, m5⟩ := ih n M2 ((cmdS (sg T) z.1).2.1 + 1, (cmdM T z).2.2) k2 (by show T.2 < (cmdS (sg T) z.1).2.1 + 1 + _; omega) (by omega)
          exact ⟨M3, z', (st 1 k1).trans m1, m2, m3, (g3.trans k3).trans m4, (m5.trans k4).trans g4⟩
        · rw [if_neg se] at k1 k2 ⊢
          refine ⟨M2, _, ?_, k2, c2, g3.trans k3, k4.trans g4⟩
          rw [st 0 k1, ex, k2.2.2.2.1, k2.2.1.1]
          show (if nI (cmdM T z).2.1 = nI T.2 then _ else _) = _
          rw [c2, if_neg (fun y => en ((nI_eq (by omega) (by omega)).mp y))]; rfl
    · rw [if_neg ok] at g1
      rw [if_neg ok]
      refine ⟨M1, _, ?_, g2, c2, g3, g4⟩
      rw [F_X9_readsAll_L1, if_neg (by decide), g1, b1_s, if_pos rfl]; rfl
end ALL
