/-! PURE LEVEL: scripts run -/
/-- our script read, our state before its next command -/
def CXs (M : Mem) (w : Row) (cs : Cmds) : Prop := StR M 2 w ∧ mR M 1 0 = 2 ∧ mR M 1 6 = 174 ∧ ShS M ∧ mI M 174 2 = nI cs.length ∧ CmAll M cs ∧ (∀ c ∈ cs, c.2.length ≤ 4) ∧ cs.length ≤ 12
theorem CXs.s {M M' : Mem} {w w' : Row} {cs : Cmds} (h : CXs M w cs) (hS : StR M' 2 w') (e : FrS M M') : CXs M' w' cs := by
  obtain ⟨h1, h2, h3, h4, h5, h6, h7, h8⟩ := h
  exact ⟨hS, (e 1 0 (by omega)).2.2.trans h2, (e 1 6 (by omega)).2.2.trans h3, ⟨(e 174 1 (by omega)).2.2.trans h4.1, fun i hi => ⟨(e 177 i (by omega)).2.2.trans (h4.2 i hi).1, (e (178 + 2 * i) 1 (by omega)).2.2.trans (h4.2 i hi).2⟩⟩, (e 174 2 (by omega)).1.trans h5, fun j hj => (h6 j hj).s (h7 _ (List.getElem_mem hj)) (Same.sub e fun a k p => by omega), h7, h8⟩
def pbK (M : Mem) (i : Nat) : Option ((Int32 ⊕ String) × Mem) := b1 (F_X2_putBack (mR M 1 4) (mR M 1 0) M) (fun u36 M37 => lt (sI M37 1 9 (nI i)) (fun (M38 : Mem) => some (.inr "java/lang/IllegalStateException", M38)))
abbrev KpX (a k : Nat) : Prop := a ≠ 205 ∧ a ≠ 212 ∧ ¬ (a = 204 ∧ (k = 13 ∨ k = 17 ∨ k = 18))
section RUN
variable {T : TS}
theorem C_step {M : Mem} {w : Row} {pre rest : Cmds} {c : Nat × List Int32} (h : CXs M w (pre ++ c :: rest)) (K : Int32 → Mem → Option ((Int32 ⊕ String) × Mem)) (n : Nat) : F_X8_runScript_L1 1 K (n + 1) (nI pre.length) M = b1 (F_X8_perform 1 (178 + 2 * pre.length) M) (fun v29 M30 => if 0 ≤ v29 then F_X8_runScript_L1 1 K n (nI (pre.length + 1)) M30 else b1 (F_X2_putBack (mR M30 1 4) (mR M30 1 0) M30) (fun u36 M37 => lt (sI M37 1 9 (nI pre.length)) (fun (M38 : Mem) => some (.inr "java/lang/IllegalStateException", M38)))) ∧ CmR M pre.length c.1 c.2 ∧ pre.length < 12 := by
  obtain ⟨h1, h2, h3, h4, h5, h6, h7, h8⟩ := h
  have hl : (pre ++ c :: rest).length = pre.length + (rest.length + 1) := by rw [List.length_append]; rfl
  have hc := h6 pre.length (by rw [hl]; omega)
  simp only [List.getElem_append_right (Nat.le_refl _), Nat.sub_self, List.getElem_cons_zero] at hc
  refine ⟨?_, hc, by omega⟩
  rw [F_X8_runScript_L1, h3, h5, hl, if_neg (nI_ge (by omega) (by omega)), show (12 : Int32) = nI 12 from rfl, if_neg (nI_ge (by omega) (by omega)), chk_t (inb_n (by omega) (by decide)), nI_clamp (by omega), h4.1, (h4.2 pre.length (by omega)).1]
  simp only [lt_v, nI_1]
theorem C_end {M : Mem} {w : Row} {cs : Cmds} (h : CXs M w cs) (K : Int32 → Mem → Option ((Int32 ⊕ String) × Mem)) (n : Nat) : F_X8_runScript_L1 1 K (n + 1) (nI cs.length) M = K (nI cs.length) M := by
  obtain ⟨h1, h2, h3, h4, h5, h6, h7, h8⟩ := h
  rw [F_X8_runScript_L1, h3, h5, if_pos (nI_le (Nat.le_refl _) (by omega))]
theorem MQr.only {M M' : Mem} {z : St} (h : MQr M T z) (e : Only M M' 205) : MQr M' T z := by
  obtain ⟨h1, h2, h3, h4, h5, h6⟩ := h
  have s := Same.only e
  exact ⟨h1.of e.2, h2.s (s.sub fun a k p => by omega), h3, (e.1 _ _ (by decide)).trans h4, fun k hk => (e.1 _ _ (by decide)).trans (h5 k hk), (e.1 _ _ (by decide)).trans h6⟩
theorem MQr.done {M : Mem} {z : St} (h : MQr M T z) (x : Int32) : MQr (sI M 204 18 x) T z := by
  obtain ⟨h1, h2, h3, h4, h5, h6⟩ := h
  exact ⟨h1.of rfl, h2.s ((Same.sI _ _ _ _).sub fun a k p => by omega), h3, by rw [mI_diff _ (Or.inr (by decide))]; exact h4, fun k hk => by rw [mI_diff _ (Or.inl (by decide))]; exact h5 k hk, by rw [mI_diff _ (Or.inr (by decide))]; exact h6⟩
theorem run_ok (hT : TB T) (hle : ∀ p, p ≤ T.2 → (cmdS (sg T) p).2.1 ≤ T.2) : ∀ (d p : Nat) (w : Row) (B : Nat), p ≤ T.2 → T.2 < p + 5 * d → (allS (sg T) T.2 p d).1 = true → Inv B w → B + 40 * d ≤ 2 ^ 20 →
    ∃ (o : Option Nat) (w' : Row), (o = none → Inv (B + 40 * d) w') ∧
      (∀ (M : Mem) (n : Nat) (K : Int32 → Mem → Option ((Int32 ⊕ String) × Mem)) (pre : Cmds), CXs M w (pre ++ (allS (sg T) T.2 p d).2.2) → d + 1 < n → ∃ M', FrS M M' ∧ ShR M' 2 ∧ (o = none → F_X8_runScript_L1 1 K n (nI pre.length) M = K (nI (pre ++ (allS (sg T) T.2 p d).2.2).length) M' ∧ StR M' 2 w') ∧ (∀ k, o = some k → F_X8_runScript_L1 1 K n (nI pre.length) M = pbK M' (pre.length + k) ∧ pre.length + k < 12)) ∧
      (∀ (M : Mem) (z : St) (n : Nat) (K : Int32 → Mem → Option (Int32 × Mem)) (j : Nat), MQr M T z → z.1 = p → WA M 205 260 w → mI M 204 18 = nI j → d + 1 < n → ∃ M', Same KpX M M' ∧ M'.2 = M.2 ∧ (o = none → F_X9_doesAll_L1 204 K n 1 M = K 0 M' ∧ WA M' 205 260 w' ∧ mI M' 204 18 = nI (j + (allS (sg T) T.2 p d).2.2.length)) ∧ (∀ k, o = some k → F_X9_doesAll_L1 204 K n 1 M = some (0, M') ∧ mI M' 204 18 = nI (j + k))) := by
  have l60 := hT.1
  intro d
  induction d with
  | zero => intro p w B h1 h2; omega
  | succ d ih =>
    intro p w B hp hd ha hI hB
    obtain ⟨pr1, pr2, pr3⟩ := cmd_prog (sg T) p
    have ple := hle p hp
    unfold allS at ha ⊢
    by_cases ok : (cmdS (sg T) p).1 = true
    · rw [if_pos ok] at ha ⊢
      have w4 := pr1 (pr2 ok)
      obtain ⟨x1, x2, x3⟩ := cmd_eq T hT (p, (fun _ => 0), 0)
      obtain ⟨y1, y2, y3⟩ := x3 ok
      obtain ⟨c, u, w1, hu, hc, hI1, hm, hcl⟩ := exec_ok hI (by omega) y1 y2
      have mst : ∀ (M : Mem) (z : St) (n : Nat) (K : Int32 → Mem → Option (Int32 × Mem)) (j : Nat), MQr M T z → z.1 = p → WA M 205 260 w → mI M 204 18 = nI j → ∃ M1, Same KpX M M1 ∧ M1.2 = M.2 ∧ (c ≠ 0 → F_X9_doesAll_L1 204 K (n + 1) 1 M = some (0, M1) ∧ mI M1 204 18 = nI j) ∧ (c = 0 → ∃ z1, MQr M1 T z1 ∧ z1.1 = (cmdS (sg T) p).2.1 ∧ WA M1 205 260 w1 ∧ mI M1 204 18 = nI (j + 1) ∧ F_X9_doesAll_L1 204 K (n + 1) 1 M = b1 (F_X9_reads 204 59 M1) (fun v18 M19 => F_X9_doesAll_L1 204 K n v18 M19)) := by
        intro M z n K j hz hzp hw h18
        obtain ⟨q1, q2, q3⟩ := cmd_eq T hT z
        rw [hzp] at q1 q2 q3
        obtain ⟨r1, r2, r3⟩ := q3 ok
        obtain ⟨M1, g1, g2, g3, g4⟩ := Sim.cmd hT M z hz
        rw [q1, ok, if_pos rfl] at g1
        have hw1 : WA M1 205 260 w := fun k hk => (g3 205 k (by omega)).1.trans (hw k hk)
        have h181 : mI M1 204 18 = nI j := (g3 204 18 (by omega)).1.trans h18
        obtain ⟨n1, n2⟩ := hm M1 _ r2 g2.1 hw1 g2.2.2.2.2.1 (g2.2.2.2.2.2.trans r3)
        rcases Nat.eq_zero_or_pos c with c0 | c0
        · obtain ⟨M2, k1, k2, k3⟩ := n2 c0
          have e3 := Same.only k3
          have h182 : mI M2 204 18 = nI j := (k3.1 _ _ (by decide)).trans h181
          refine ⟨sI M2 204 18 (nI (j + 1)), ((g3.sub fun a k p => by omega).trans (e3.sub fun a k p => by omega)).trans ((Same.sI _ _ _ _).sub fun a k p => by omega), k3.2.trans g4, fun h => absurd c0 h, fun _ => ⟨_, (g2.only k3).done _, q2, fun k hk => by rw [mI_diff _ (Or.inl (by decide))]; exact k2 k hk, mI_same _ _ _ _, ?_⟩⟩
          rw [F_X9_doesAll_L1, if_neg (by decide), g1, b1_s, n1, ob_s, c0, if_pos nI_0, k1, b1_s, h182, nI_1, lt_v]
        · refine ⟨M1, g3.sub fun a k p => by omega, g4, fun _ => ⟨?_, h181⟩, fun h => by omega⟩
          rw [F_X9_doesAll_L1, if_neg (by decide), g1, b1_s, n1, ob_s, if_neg (nI_ne0 c0 (by omega))]
      have cst : ∀ (M : Mem) (n : Nat) (K : Int32 → Mem → Option ((Int32 ⊕ String) × Mem)) (pre rest : Cmds), CXs M w (pre ++ (cmdS (sg T) p).2.2 :: rest) → ∃ M1, FrS M M1 ∧ pre.length < 12 ∧ (c ≠ 0 → F_X8_runScript_L1 1 K (n + 1) (nI pre.length) M = pbK M pre.length) ∧ (c = 0 → CXs M1 w1 (pre ++ (cmdS (sg T) p).2.2 :: rest) ∧ F_X8_runScript_L1 1 K (n + 1) (nI pre.length) M = F_X8_runScript_L1 1 K n (nI (pre.length + 1)) M1) := by
        intro M n K pre rest hX
        obtain ⟨s1, s2, s3⟩ := C_step hX K n
        obtain ⟨p1, p2⟩ := hcl M pre.length s3 hX.1 hX.2.1 s2
        rcases Nat.eq_zero_or_pos c with c0 | c0
        · obtain ⟨M1, k1, k2, k3⟩ := p1 c0
          refine ⟨M1, k3, s3, fun h => absurd c0 h, fun _ => ⟨hX.s k2 k3, ?_⟩⟩
          rw [s1, k1, b1_s, if_pos (nI_pos' hu)]
        · obtain ⟨x, k1, k2⟩ := p2 (by omega)
          refine ⟨M, FrS.refl M, s3, fun _ => ?_, fun h => by omega⟩
          rw [s1, k1, b1_s, if_neg (fun y => (fa_of_lt k2).2.1 y)]; rfl
      by_cases en : (cmdS (sg T) p).2.1 = T.2
      · rw [if_pos en] at ha ⊢
        rcases Nat.eq_zero_or_pos c with c0 | c0
        · refine ⟨none, w1, fun _ => (hI1 c0).mono (by omega), fun M n K pre hX hn => ?_, fun M z n K j hz hzp hw h18 hn => ?_⟩
          · obtain ⟨n, rfl⟩ : ∃ m, n = m + 2 := ⟨n - 2, by omega⟩
            obtain ⟨M1, f1, f2, -, f4⟩ := cst M (n + 1) K pre [] hX
            obtain ⟨f5, f6⟩ := f4 c0
            refine ⟨M1, f1, f5.1.shape, fun _ => ⟨?_, f5.1⟩, fun k h => (by cases h)⟩
            have el : (pre ++ [(cmdS (sg T) p).2.2]).length = pre.length + 1 := by rw [List.length_append]; rfl
            have := C_end f5 K n
            rw [el] at this
            rw [f6, this]
            show K (nI (pre.length + 1)) M1 = K (nI (pre ++ [(cmdS (sg T) p).2.2]).length) M1
            rw [el]
          · obtain ⟨n, rfl⟩ : ∃ m, n = m + 2 := ⟨n - 2, by omega⟩
            obtain ⟨M1, e1, e2, -, f4⟩ := mst M z (n + 1) K j hz hzp hw h18
            obtain ⟨z1, f1, f2, f3, f5, f6⟩ := f4 c0
            obtain ⟨M2, k1, k2, k3, k4⟩ := Sim.rd hT (c := 59) (by decide) (by decide) M1 z1 f1
            have ns : ¬ sg T z1.1 = 59 := fun y => by have := sg_in (T := T) (p := z1.1) (by omega); omega
            have rdE : rdS (sg T) 59 z1 = (false, z1) := by unfold rdS; rw [if_neg ns]
            rw [rdE] at k1
            have k1' : F_X9_reads 204 59 M1 = some (0, M2) := k1
            refine ⟨M2, e1.trans (k3.sub fun a k p => by omega), k4.trans e2, fun _ => ⟨?_, fun k hk => (k3 205 k (by omega)).1.trans (f3 k hk), (k3 204 18 (by omega)).1.trans f5⟩, fun k h => (by cases h)⟩
            rw [f6, k1', b1_s, F_X9_doesAll_L1, if_pos rfl]
        · refine ⟨some 0, w, fun h => (by cases h), fun M n K pre hX hn => ?_, fun M z n K j hz hzp hw h18 hn => ?_⟩
          · obtain ⟨n, rfl⟩ : ∃ m, n = m + 1 := ⟨n - 1, by omega⟩
            obtain ⟨M1, f1, f2, f3, -⟩ := cst M n K pre [] hX
            exact ⟨M, FrS.refl M, hX.1.shape, fun h => (by cases h), fun k h => (by cases h; exact ⟨f3 (by omega), f2⟩)⟩
          · obtain ⟨n, rfl⟩ : ∃ m, n = m + 1 := ⟨n - 1, by omega⟩
            obtain ⟨M1, e1, e2, f3, -⟩ := mst M z n K j hz hzp hw h18
            exact ⟨M1, e1, e2, fun h => (by cases h), fun k h => (by cases h; exact f3 (by omega))⟩
      · rw [if_neg en] at ha ⊢
        by_cases se : sg T (cmdS (sg T) p).2.1 = 59
        · rw [if_pos se] at ha ⊢
          have sin := sg_in (T := T) (p := (cmdS (sg T) p).2.1) (by omega)
          rcases Nat.eq_zero_or_pos c with c0 | c0
          · obtain ⟨o, w', o1, o3, o4⟩ := ih ((cmdS (sg T) p).2.1 + 1) w1 (B + 40) (by omega) (by omega) ha (hI1 c0) (by omega)
            refine ⟨o.map (· + 1), w', fun h => ?_, fun M n K pre hX hn => ?_, fun M z n K j hz hzp hw h18 hn => ?_⟩
            · cases o with
              | none => exact (o1 rfl).mono (by omega)
              | some k => cases h
            · obtain ⟨n, rfl⟩ : ∃ m, n = m + 1 := ⟨n - 1, by omega⟩
              obtain ⟨M1, f1, f2, -, f4⟩ := cst M n K pre _ hX
              obtain ⟨f5, f6⟩ := f4 c0
              have el : (pre ++ [(cmdS (sg T) p).2.2]).length = pre.length + 1 := by rw [List.length_append]; rfl
              have ec : pre ++ (cmdS (sg T) p).2.2 :: (allS (sg T) T.2 ((cmdS (sg T) p).2.1 + 1) d).2.2 = (pre ++ [(cmdS (sg T) p).2.2]) ++ (allS (sg T) T.2 ((cmdS (sg T) p).2.1 + 1) d).2.2 := by rw [List.append_assoc]; rfl
              rw [ec] at f5
              obtain ⟨M2, g1, g2, g3, g4⟩ := o3 M1 n K (pre ++ [(cmdS (sg T) p).2.2]) f5 (by omega)
              rw [el] at g3 g4
              refine ⟨M2, f1.trans g1, g2, fun h => ?_, fun k h => ?_⟩
              · cases o with
                | none =>
                  obtain ⟨t1, t2⟩ := g3 rfl
                  exact ⟨by rw [f6, t1, ← ec], t2⟩
                | some k => cases h
              · cases o with
                | none => cases h
                | some k' =>
                  cases h
                  obtain ⟨t1, t2⟩ := g4 k' rfl
                  refine ⟨?_, by show pre.length + (k' + 1) < 12; omega⟩
                  rw [f6, t1]
                  show pbK M2 (pre.length + 1 + k') = pbK M2 (pre.length + (k' + 1))
                  rw [show pre.length + 1 + k' = pre.length + (k' + 1) by omega]
            · obtain ⟨n, rfl⟩ : ∃ m, n = m + 1 := ⟨n - 1, by omega⟩
              obtain ⟨M1, e1, e2, -, f4⟩ := mst M z n K j hz hzp hw h18
              obtain ⟨z1, f1, f2, f3, f5, f6⟩ := f4 c0
              obtain ⟨M2, k1, k2, k3, k4⟩ := Sim.rd hT (c := 59) (by decide) (by decide) M1 z1 f1
              have rdE : rdS (sg T) 59 z1 = (true, (z1.1 + 1, z1.2)) := by unfold rdS; rw [if_pos (by rw [f2]; exact se)]
              rw [rdE] at k1 k2
              have k1' : F_X9_reads 204 59 M1 = some (1, M2) := k1
              obtain ⟨M3, g1, g2, g3, g4⟩ := o4 M2 (z1.1 + 1, z1.2) n K (j + 1) k2 (by show z1.1 + 1 = _; rw [f2]) (fun k hk => (k3 205 k (by omega)).1.trans (f3 k hk)) ((k3 204 18 (by omega)).1.trans f5) (by omega)
              refine ⟨M3, (e1.trans (k3.sub fun a k p => by omega)).trans g1, (g2.trans k4).trans e2, fun h => ?_, fun k h => ?_⟩
              · cases o with
                | none =>
                  obtain ⟨t1, t2, t3⟩ := g3 rfl
                  refine ⟨by rw [f6, k1', b1_s, t1], t2, t3.trans ?_⟩
                  show nI (j + 1 + _) = nI (j + (_ + 1))
                  congr 1; omega
                | some k => cases h
              · cases o with
                | none => cases h
                | some k' =>
                  cases h
                  obtain ⟨t1, t2⟩ := g4 k' rfl
                  refine ⟨by rw [f6, k1', b1_s, t1], t2.trans ?_⟩
                  show nI (j + 1 + k') = nI (j + (k' + 1))
                  congr 1; omega
          · refine ⟨some 0, w, fun h => (by cases h), fun M n K pre hX hn => ?_, fun M z n K j hz hzp hw h18 hn => ?_⟩
            · obtain ⟨n, rfl⟩ : ∃ m, n = m + 1 := ⟨n - 1, by omega⟩
              obtain ⟨M1, f1, f2, f3, -⟩ := cst M n K pre _ hX
              exact ⟨M, FrS.refl M, hX.1.shape, fun h => (by cases h), fun k h => (by cases h; exact ⟨f3 (by omega), f2⟩)⟩
            · obtain ⟨n, rfl⟩ : ∃ m, n = m + 1 := ⟨n - 1, by omega⟩
              obtain ⟨M1, e1, e2, f3, -⟩ := mst M z n K j hz hzp hw h18
              exact ⟨M1, e1, e2, fun h => (by cases h), fun k h => (by cases h; exact f3 (by omega))⟩
        · rw [if_neg se] at ha
          cases ha
    · rw [if_neg ok] at ha
      cases ha
end RUN
