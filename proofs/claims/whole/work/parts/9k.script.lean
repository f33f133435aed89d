/-! PURE LEVEL: runScript called -/
section SCR
variable {B : Nat} {M : Mem}
theorem TB.start {T : TS} (hT : TB T) : 0 ≤ T.2 ∧ T.2 < 0 + 5 * 13 := by have := hT.1; omega
theorem call_runScript (h : GI B M) (hB0 : B + 600 ≤ 2 ^ 20) : Call (B + 600) M (F_L_runScript 1 213) (F_X9_runScript 204) := by
  obtain ⟨Z, hB, hC, hM⟩ := h
  obtain ⟨Tx, hTx⟩ : ∃ Tx, Tx = Z.2.2.2.1 := ⟨_, rfl⟩
  have hT : TB Tx := by rw [hTx]; exact hB.2.2.2.1
  have l60 := hT.1
  have hle : ∀ p, p ≤ Tx.2 → (cmdS (sg Tx) p).2.1 ≤ Tx.2 := fun p hp => cmd_le hT hM.1 (by rw [hTx]; exact hM.2.2.2.2.1) hp
  have r0 := hB.r0
  -- our reading
  have e0 : Same (fun a k => ¬ (a = 174 ∧ (k = 2 ∨ k = 3))) M (sI (sI M 174 3 0) 174 2 0) := ((Same.sI _ _ _ _).sub fun a k p => by omega).trans ((Same.sI _ _ _ _).sub fun a k p => by omega)
  have hP0 : CP (sI (sI M 174 3 0) 174 2 0) Tx 0 := ⟨hC.1.2.2.2.2.1.2.1, hC.1.2.2.2.2.1.2.2.2.1, by rw [hTx]; exact hC.2.2.2.2.1.s (e0.sub fun a k p => by omega), by rw [mI_diff _ (Or.inr (by decide)), mI_same]; rfl⟩
  have hS0 : ShS (sI (sI M 174 3 0) 174 2 0) := ⟨hC.1.2.2.2.2.1.2.2.1, hC.1.2.2.2.2.2⟩
  obtain ⟨M1, g1, g2, g3, g4, g5⟩ := C_allL hT hle (fun (x19 : Int32) (M20 : Mem) => some (0, M20)) 13 3000 0 (sI (sI M 174 3 0) 174 2 0) [] hP0 hS0 (mI_same _ _ _ _) (fun j hj => absurd hj (Nat.not_lt_zero _)) (fun c hc => by cases hc) (Nat.le_refl _) (by omega) (by omega) (by omega)
  have rd : F_X3_read 174 M = some (if (allS (sg Tx) Tx.2 0 13).1 = true then 1 else 0, M1) := g1
  have e1 := Same.sI M1 175 1 0
  have tot : Same (fun a k => KpS a k ∧ ¬ (a = 175 ∧ k = 1)) M (sI M1 175 1 0) := ((e0.sub fun a k p => by omega).trans (g4.sub fun a k p => by omega)).trans (e1.sub fun a k p => by omega)
  have totR : SameR (fun a k => ¬ (178 ≤ a ∧ k = 0 ∧ a < 202)) M (sI M1 175 1 0) := fun a k p => g5 a k p
  have r16 : mR (sI M1 175 1 0) 1 6 = 174 := (totR 1 6 (by omega)).trans hC.1.1.2.2.2.2.2.1
  have r14 : mR (sI M1 175 1 0) 1 4 = 44 := (totR 1 4 (by omega)).trans hC.1.1.2.2.2.1
  have r10 : mR (sI M1 175 1 0) 1 0 = 2 := (totR 1 0 (by omega)).trans hC.1.1.1
  have LC1 : LC (sI M1 175 1 0) := hC.1.r fun a k p => totR a k (by omega)
  have hH1 : HCi (sI M1 175 1 0) Z.1 := hC.2.1.s r0 (tot.sub fun a k p => by omega)
  have hT0 : TCi (sI M1 175 1 0) (Tx.1, 0) := ⟨by rw [mI_same]; rfl, fun k hk => absurd hk (Nat.not_lt_zero _)⟩
  have tb0 : TB (Tx.1, 0) := ⟨Nat.zero_le _, fun k hk => absurd hk (Nat.not_lt_zero _)⟩
  have hM1 : MI (sI M1 175 1 0) Z := hM.s (tot.sub fun a k p => by omega) (fun a k p => totR a k (by omega))
  have cl : ∀ x : Option ((Int32 ⊕ String) × Mem), (if (if (allS (sg Tx) Tx.2 0 13).1 = true then (1 : Int32) else 0) = 0 then lt (sI (sI M1 175 1 0) 1 8 (mI (sI M1 175 1 0) 174 3)) (fun (M48 : Mem) => some (.inr "java/lang/IllegalArgumentException", M48)) else b1 (F_X2_prepare 44 2 (sI M1 175 1 0)) (fun u14 M15 => F_X8_runScript_L1 1 (fun (x40 : Int32) (M41 : Mem) =>
    b1 (F_X2_keep (mR M41 1 4) M41) (fun u44 M45 =>
    some (.inl (mI M45 (mR M45 1 6) 2), M45))) 3000 0 M15)) = x → F_X8_runScript 1 M = x := fun x hx => by
    unfold F_X8_runScript F_X6_clear
    rw [hC.1.1.2.2.2.2.2.1, rd, b1_s, (g5 1 6 (by omega)).trans hC.1.1.2.2.2.2.2.1, (g5 174 0 (by omega)).trans hC.1.2.2.2.2.1.2.1, lt_v, b1_s, r16, r14, r10]
    exact hx
  -- the model's reading
  have mrd : ∀ M, LM M → TMi M Tx → ∃ M' z', F_X9_readsAll 204 (sI M 204 0 0) = some (if (allS (sg Tx) Tx.2 0 13).1 = true then 1 else 0, M') ∧ MQr M' Tx z' ∧ z'.1 = (allS (sg Tx) Tx.2 0 13).2.1 ∧ Same KpR (sI M 204 0 0) M' ∧ M'.2 = M.2 := fun M hL hTM => by
    have hz : MQr (sI (sI M 204 0 0) 204 13 0) Tx (0, (fun k => mI M 212 k), mI M 204 17) := ⟨hL.of rfl, hTM.s (((Same.sI _ _ _ _).sub fun a k p => by omega).trans ((Same.sI _ _ _ _).sub fun a k p => by omega)), Nat.zero_le _, mI_same _ _ _ _, fun k _ => by rw [mI_diff _ (Or.inl (by decide)), mI_diff _ (Or.inl (by decide))], by rw [mI_diff _ (Or.inr (by decide)), mI_diff _ (Or.inr (by decide))]⟩
    obtain ⟨M', z', k1, k2, k3, k4, k5⟩ := F_allL hT hle 13 3000 _ _ hz (by show Tx.2 < 0 + _; omega) (by omega)
    exact ⟨M', z', k1, k2, k3, ((Same.sI _ _ _ _).sub fun a k p => by omega).trans k4, k5⟩
  by_cases ok : (allS (sg Tx) Tx.2 0 13).1 = true
  · -- a script with the form
    obtain ⟨o, w', o1, o3, o4⟩ := run_ok hT hle 13 0 Z.1.1 B (Nat.zero_le _) (by omega) ok hB.1.1 (by omega)
    obtain ⟨q1, q2, q3⟩ := g3 ok
    rw [List.nil_append] at q1 q2 q3
    obtain ⟨nx, hHC⟩ := hH1.2
    have nx9 := hHC.2.1
    obtain ⟨M2, p1, p2, p3, p4, p5⟩ := C_prep LC1.2.2.2.1 hHC hH1.1 r0
    have ep := Same.blk p5
    have eR2 : ∀ a k, mR M2 a k = mR (sI M1 175 1 0) a k := fun a k => blk_r p5 a k
    have hX : CXs M2 Z.1.1 ([] ++ (allS (sg Tx) Tx.2 0 13).2.2) := by
      rw [List.nil_append]
      have x4 : ∀ c ∈ (allS (sg Tx) Tx.2 0 13).2.2, c.2.length ≤ 4 := by
        have gen : ∀ d p, ∀ c ∈ (allS (sg Tx) Tx.2 p d).2.2, c.2.length ≤ 4 := by
          intro d
          induction d with
          | zero => intro p c hc; cases hc
          | succ d ih =>
            intro p c hc
            unfold allS at hc
            by_cases a1 : (cmdS (sg Tx) p).1 = true
            · rw [if_pos a1] at hc
              by_cases a2 : (cmdS (sg Tx) p).2.1 = Tx.2
              · rw [if_pos a2] at hc
                rw [List.mem_singleton.mp hc]; exact cmd_xs hT p
              · rw [if_neg a2] at hc
                by_cases a3 : sg Tx (cmdS (sg Tx) p).2.1 = 59
                · rw [if_pos a3] at hc
                  rcases List.mem_cons.mp hc with y | y
                  · rw [y]; exact cmd_xs hT p
                  · exact ih _ c y
                · rw [if_neg a3] at hc
                  rw [List.mem_singleton.mp hc]; exact cmd_xs hT p
            · rw [if_neg a1] at hc
              cases hc
        exact gen 13 0
      refine ⟨p4, (eR2 1 0).trans r10, (eR2 1 6).trans r16, ⟨(eR2 174 1).trans LC1.2.2.2.2.1.2.2.1, fun i hi => ⟨(eR2 177 i).trans (LC1.2.2.2.2.2 i hi).1, (eR2 _ _).trans (LC1.2.2.2.2.2 i hi).2⟩⟩, (ep 174 2 (by omega)).1.trans ((mI_diff _ (Or.inl (by decide))).trans q1), fun j hj => ?_, x4, q2⟩
      have := (q3 j hj).s (M' := sI M1 175 1 0) (x4 _ (List.getElem_mem hj)) (e1.sub fun a k p => by omega)
      exact this.s (x4 _ (List.getElem_mem hj)) (ep.sub fun a k p => by omega)
    obtain ⟨M3, f1, f2, f3, f4⟩ := o3 M2 3000 (fun (x40 : Int32) (M41 : Mem) =>
    b1 (F_X2_keep (mR M41 1 4) M41) (fun u44 M45 =>
    some (.inl (mI M45 (mR M45 1 6) 2), M45))) [] hX (by omega)
    have ef := Same.frS f1
    have t3 : Same (fun a k => KpS a k ∧ ¬ (a = 175 ∧ k = 1) ∧ ¬ (2 ≤ a ∧ a < 16) ∧ ¬ (46 + 14 * nx ≤ a ∧ a < 60 + 14 * nx)) M M3 := ((tot.sub fun a k p => by omega).trans (ep.sub fun a k p => by omega)).trans (ef.sub fun a k p => by omega)
    have t3R : SameR (fun a k => ¬ (178 ≤ a ∧ k = 0 ∧ a < 202) ∧ ¬ (2 ≤ a ∧ a < 16)) M M3 := fun a k p => ((ef a k p.2).2.2.trans (eR2 a k)).trans (totR a k p.1)
    have hHC3 : HC M3 Z.1.2.1 Z.1.2.2 nx := p2.mv (ef 44 1 (by omega)).1 (ef 44 2 (by omega)).1 (fun a k h1 h2 h3 => ef a k (by omega))
    have hSn3 : StR M3 (46 + 14 * nx) Z.1.1 := p3.s r0 (ef.sub fun a k p => by omega)
    have r14' : mR M3 1 4 = 44 := (t3R 1 4 (by omega)).trans hC.1.1.2.2.2.1
    have r10' : mR M3 1 0 = 2 := (t3R 1 0 (by omega)).trans hC.1.1.1
    have LC3 : LC M3 := hC.1.r fun a k p => t3R a k (by omega)
    have rest3 : ∀ {M4 : Mem} {H : HS} {E : Int32 × Int32}, Same (fun a k => ¬ (2 ≤ a ∧ a < 16) ∧ ¬ (44 ≤ a ∧ a < 172) ∧ ¬ (a = 1 ∧ (k = 8 ∨ k = 9))) M3 M4 → (∀ a k, ¬ (2 ≤ a ∧ a < 16) → mR M4 a k = mR M3 a k) → HCi M4 H → ECi M4 E → CI M4 (H, Z.2.1, Z.2.2.1, (Tx.1, 0), E) := fun {M4 H E} e er hH hE => by
      refine ⟨LC3.r fun a k p => er a k (by omega), hH, ?_, ?_, ?_, hE⟩
      · exact (hC.2.2.1.s hB.r1 (t3.sub fun a k p => by omega)).s hB.r1 (e.sub fun a k p => by omega)
      · exact (hC.2.2.2.1.s (t3.sub fun a k p => by omega)).s (e.sub fun a k p => by omega)
      · exact ((hT0.s (ep.sub fun a k p => by omega)).s (ef.sub fun a k p => by omega)).s (e.sub fun a k p => by omega)
    -- the model's run
    have mrun : ∀ M, MI M Z → ∃ M5, (o = none → F_X9_runScript 204 M = b1 (F_X9_keeps 204 (sI M5 204 12 0)) (fun u22 M23 => some (mI M23 204 18, M23)) ∧ WA M5 205 260 w' ∧ mI M5 204 18 = nI (allS (sg Tx) Tx.2 0 13).2.2.length) ∧ (∀ k, o = some k → F_X9_runScript 204 M = b1 (F_X9_goesBack 204 (sI M5 204 12 0)) (fun u15 M16 => lt (sI M16 204 15 (mI M16 204 18)) (fun (M17 : Mem) => b1 (F_X9_fails 204 2 M17) (fun v19 M20 => some (v19, M20)))) ∧ mI M5 204 18 = nI k) ∧ WA M5 208 260 Z.1.1 ∧ Same (fun a k => a ≠ 205 ∧ a ≠ 208 ∧ a ≠ 212 ∧ ¬ (a = 204 ∧ (k = 0 ∨ k = 13 ∨ k = 17 ∨ k = 18))) M M5 ∧ M5.2 = M.2 ∧ mI M5 204 0 = 0 := by
      intro M hM
      obtain ⟨M6, z6, k1, k2, k3, k4, k5⟩ := mrd M hM.1 (by rw [hTx]; exact hM.2.2.2.2.1)
      rw [ok, if_pos rfl] at k1
      have w6 : WA M6 205 260 Z.1.1 := fun k hk => (k4 205 k (by omega)).1.trans ((mI_diff _ (Or.inl (by decide))).trans (hM.2.1.1 k hk))
      obtain ⟨M7, c1, c2, c3⟩ := F_copiesT k2.1 w6
      have e7 := Same.only c3
      have hz8 : MQr (sI (sI M7 204 18 0) 204 13 0) Tx (0, (fun k => mI M6 212 k), mI M6 204 17) := ⟨(k2.1.of c3.2).of rfl, k2.2.1.s ((e7.sub fun a k p => by omega).trans (((Same.sI _ _ _ _).sub fun a k p => by omega).trans ((Same.sI _ _ _ _).sub fun a k p => by omega))), Nat.zero_le _, mI_same _ _ _ _, fun k _ => by rw [mI_diff _ (Or.inl (by decide)), mI_diff _ (Or.inl (by decide))]; exact c3.1 _ _ (by decide), by rw [mI_diff _ (Or.inr (by decide)), mI_diff _ (Or.inr (by decide))]; exact c3.1 _ _ (by decide)⟩
      obtain ⟨M8, m1, m2, m3, m4⟩ := o4 (sI (sI M7 204 18 0) 204 13 0) _ 3000 (fun (x21 : Int32) (M22 : Mem) => some (1, M22)) 0 hz8 rfl (fun k hk => by rw [mI_diff _ (Or.inl (by decide)), mI_diff _ (Or.inl (by decide))]; exact (c3.1 _ _ (by decide)).trans (w6 k hk)) (by rw [mI_diff _ (Or.inr (by decide)), mI_same]; rfl) (by omega)
      rw [Nat.zero_add] at m3
      have s8 : Same (fun a k => ¬ (a = 204 ∧ (k = 18 ∨ k = 13))) M7 (sI (sI M7 204 18 0) 204 13 0) := ((Same.sI _ _ _ _).sub fun a k p => by omega).trans ((Same.sI _ _ _ _).sub fun a k p => by omega)
      have t8 : Same (fun a k => a ≠ 205 ∧ a ≠ 208 ∧ a ≠ 212 ∧ ¬ (a = 204 ∧ (k = 0 ∨ k = 13 ∨ k = 17 ∨ k = 18))) M M8 := ((((Same.sI M 204 0 0).sub fun a k p => by omega).trans (k4.sub fun a k p => by omega)).trans (e7.sub fun a k p => by omega)).trans ((s8.sub fun a k p => by omega).trans (m1.sub fun a k p => by omega))
      refine ⟨M8, fun h => ?_, fun k h => ?_, fun k hk => (m1 208 k (by omega)).1.trans ((s8 208 k (by omega)).1.trans (c2 k hk)), t8, by rw [m2]; show M7.2 = M.2; rw [c3.2, k5], ?_⟩
      · obtain ⟨t1, t2, t4⟩ := m3 h
        refine ⟨?_, t2, t4⟩
        unfold F_X9_runScript
        rw [lt_v, k1, b1_s, if_neg (by decide), c1, b1_s]
        unfold F_X9_doesAll
        rw [lt_v, lt_v, t1, b1_s, lt_v, if_neg (by decide)]
      · obtain ⟨t1, t2⟩ := m4 k h
        rw [Nat.zero_add] at t2
        refine ⟨?_, t2⟩
        unfold F_X9_runScript
        rw [lt_v, k1, b1_s, if_neg (by decide), c1, b1_s]
        unfold F_X9_doesAll
        rw [lt_v, lt_v, t1, b1_s, lt_v, if_pos rfl]
      · rw [(m1 204 0 (by omega)).1, (s8 204 0 (by omega)).1, c3.1 _ _ (by decide), (k4 204 0 (by omega)).1, mI_same]
    have restM : ∀ {M5 M9 : Mem} {H : HS} {E : Int32 × Int32}, MI M5 Z → Same (fun a k => a ≠ 205 ∧ a ≠ 206 ∧ a ≠ 208 ∧ a ≠ 212 ∧ ¬ (a = 204 ∧ (k = 0 ∨ k = 6 ∨ k = 7 ∨ k = 12 ∨ k = 13 ∨ k = 14 ∨ k = 15 ∨ k = 17 ∨ k = 18))) M5 M9 → M9.2 = M5.2 → mI M9 204 12 = nI 0 → HMi M9 H → EMi M9 E → MI M9 (H, Z.2.1, Z.2.2.1, (Tx.1, 0), E) := fun {M5 M9 H E} h e er h12 hH hE =>
      ⟨h.1.of er, hH, h.2.2.1.s (e.sub fun a k p => by omega), h.2.2.2.1.s (e.sub fun a k p => by omega), ⟨h12, fun k hk => absurd hk (Nat.not_lt_zero _)⟩, hE⟩
    cases ho : o with
    | none =>
      obtain ⟨t1, t2⟩ := f3 ho
      have hI' := (o1 ho).mono (show B + 40 * 13 ≤ B + 600 by omega)
      obtain ⟨M4, nx', k1, k2, k3⟩ := C_keep hHC3 hSn3 r0
      have ek := Same.only k3
      have hB' : BI (B + 600) ((w', push Z.1.2.1 Z.1.2.2 Z.1.1, min (Z.1.2.2 + 1) 8), Z.2.1, Z.2.2.1, (Tx.1, 0), Z.2.2.2.2) := ⟨hB.1.push (by omega) hI', (hB.mono (show B ≤ B + 600 by omega)).2.1, hB.2.2.1, tb0, hB.2.2.2.2⟩
      have hC4 : CI M4 ((w', push Z.1.2.1 Z.1.2.2 Z.1.1, min (Z.1.2.2 + 1) 8), Z.2.1, Z.2.2.1, (Tx.1, 0), Z.2.2.2.2) := rest3 (ek.sub fun a k p => by omega) (fun a k _ => only_r k3 a k) ⟨t2.s hI'.r5 (ek.sub fun a k p => by omega), nx', k2⟩ ((hC.2.2.2.2.2.s (t3.sub fun a k p => by omega)).s (ek.sub fun a k p => by omega))
      have t4 : Same (fun a k => 204 ≤ a) M M4 := (t3.sub fun a k p => by omega).trans (ek.sub fun a k p => by omega)
      have hM4 : MI M4 Z := hM.s (t4.sub fun a k p => p.1) (fun a k p => (only_r k3 a k).trans (t3R a k (by omega)))
      refine callA (fc := F_X8_runScript 1) (kp := keepI) (Z := Z) (v := nI (allS (sg Tx) Tx.2 0 13).2.2.length) (M1 := M4) hB hB' ?_ hC4 hM4 (fun M => rfl) (fun M hC hM => ?_)
      · refine cl _ ?_
        have q174 : mI M4 174 2 = nI (allS (sg Tx) Tx.2 0 13).2.2.length := by
          rw [k3.1 _ _ (by decide), (ef 174 2 (by omega)).1, (ep 174 2 (by omega)).1, mI_diff _ (Or.inl (by decide)), q1]
        rw [ok, if_pos rfl, if_neg (by decide), p1, b1_s]
        refine t1.trans ?_
        rw [r14', k1, b1_s, only_r k3, (t3R 1 6 (by omega)).trans hC.1.1.2.2.2.2.2.1, q174]
      · obtain ⟨M5, s1, -, s3, s4, s5, s6⟩ := mrun M hM
        obtain ⟨u1, u2, u3⟩ := s1 ho
        have e12 := Same.sI M5 204 12 0
        obtain ⟨hw, fc, hH⟩ := hM.2.1
        have hH5 : HM (sI M5 204 12 0) Z.1.2.1 Z.1.2.2 fc := by
          obtain ⟨v1, v2, v3, v4, v5⟩ := hH
          exact ⟨v1, v2, (mI_diff _ (Or.inr (by decide))).trans ((s4 204 6 (by omega)).1.trans v3), (mI_diff _ (Or.inr (by decide))).trans ((s4 204 7 (by omega)).1.trans v4), fun j hj k hk => (mI_diff _ (Or.inl (by decide))).trans ((s4 206 _ (by omega)).1.trans (v5 j hj k hk))⟩
        obtain ⟨M9, fc', k1, k2, k3⟩ := F_keepsT (M := sI M5 204 12 0) ((hM.1.of s5).of rfl) hH5 (fun k hk => (mI_diff _ (Or.inl (by decide))).trans (s3 k hk))
        have e9 := Same.onlyH k3
        have tt : Same (fun a k => a ≠ 205 ∧ a ≠ 206 ∧ a ≠ 208 ∧ a ≠ 212 ∧ ¬ (a = 204 ∧ (k = 0 ∨ k = 6 ∨ k = 7 ∨ k = 12 ∨ k = 13 ∨ k = 14 ∨ k = 15 ∨ k = 17 ∨ k = 18))) M M9 := ((s4.sub fun a k p => by omega).trans (e12.sub fun a k p => by omega)).trans (e9.sub fun a k p => by omega)
        have ttR : M9.2 = M.2 := by rw [k3.2]; exact s5
        refine ⟨M9, ?_, ?_, (tt 213 0 (by omega)).2.1, hC.s hB'.r0 hB'.r1 (tt.sub fun a k p => by omega) (fun a k _ => by unfold mR; rw [ttR]), restM hM tt ttR ?_ ⟨fun k hk => ?_, fc', k2⟩ (hM.2.2.2.2.2.s (((s4.sub fun a k p => by omega).trans (e12.sub fun a k p => by omega)).trans (e9.sub fun a k p => by omega)))⟩
        · rw [u1, k1, b1_s, (e9 204 18 (by omega)).1, (e12 204 18 (by omega)).1, u3]
        · rw [(e9 204 0 (by omega)).1, (e12 204 0 (by omega)).1, s6]
        · rw [(e9 204 12 (by omega)).1, mI_same]; rfl
        · exact (e9 205 k (by omega)).1.trans ((e12 205 k (by omega)).1.trans (u2 k hk))
    | some k =>
      obtain ⟨t1, t2⟩ := f4 k ho
      rw [show ([] : Cmds).length + k = k from Nat.zero_add k] at t1 t2
      obtain ⟨M4, k1, k2, k3⟩ := C_putBack (M := M3) (nx := nx) LC3.2.2.2.1 nx9 hHC3.2.2.1 hSn3 r0 f2
      have ek := Same.blk k3
      have e8 := Same.sI M4 1 9 (nI k)
      have tk : Same (fun a k => ¬ (2 ≤ a ∧ a < 16) ∧ ¬ (a = 1 ∧ k = 9)) M3 (sI M4 1 9 (nI k)) := (ek.sub fun a k p => by omega).trans (e8.sub fun a k p => by omega)
      have hB' : BI (B + 600) (Z.1, Z.2.1, Z.2.2.1, (Tx.1, 0), (Z.2.2.2.2.1, nI k)) := ⟨hB.1.mono (by omega), (hB.mono (show B ≤ B + 600 by omega)).2.1, hB.2.2.1, tb0, hB.2.2.2.2.1, Or.inr ⟨k, by omega, rfl⟩⟩
      have hC4 : CI (sI M4 1 9 (nI k)) (Z.1, Z.2.1, Z.2.2.1, (Tx.1, 0), (Z.2.2.2.2.1, nI k)) := rest3 (tk.sub fun a k p => by omega) (fun a k _ => blk_r k3 a k) ⟨k2.s r0 (e8.sub fun a k p => by omega), nx, hHC3.mv (tk 44 1 (by omega)).1 (tk 44 2 (by omega)).1 (fun a k h1 h2 h3 => tk a k (by omega))⟩ ⟨(tk 1 8 (by omega)).1.trans ((t3 1 8 (by omega)).1.trans hC.2.2.2.2.2.1), mI_same _ _ _ _⟩
      have t4 : Same (fun a k => 204 ≤ a) M (sI M4 1 9 (nI k)) := (t3.sub fun a k p => by omega).trans (tk.sub fun a k p => by omega)
      have hM4 : MI (sI M4 1 9 (nI k)) Z := hM.s (t4.sub fun a k p => p.1) (fun a k p => (blk_r k3 a k).trans (t3R a k (by omega)))
      refine callT (fc := F_X8_runScript 1) (kp := keepI) (Z := Z) (Z' := (Z.1, Z.2.1, Z.2.2.1, (Tx.1, 0), (Z.2.2.2.2.1, nI k))) (M1 := sI M4 1 9 (nI k)) (E := "java/lang/IllegalStateException") (c := 2) (b := 0) hB' ?_ hC4 hM4 (by decide) (fun M => rfl) (fun M hC hM => ?_)
      · refine cl _ ?_
        rw [ok, if_pos rfl, if_neg (by decide), p1, b1_s]
        refine t1.trans ?_
        unfold pbK
        rw [r14', r10', k1, b1_s, lt_v]
      · obtain ⟨M5, -, s2, s3, s4, s5, s6⟩ := mrun M hM
        obtain ⟨u1, u2⟩ := s2 k ho
        have e12 := Same.sI M5 204 12 0
        obtain ⟨M9, k1, k2, k3⟩ := F_goesT (M := sI M5 204 12 0) (b := Z.1.1) ((hM.1.of s5).of rfl) (fun k hk => (mI_diff _ (Or.inl (by decide))).trans (s3 k hk))
        have e9 := Same.only k3
        have h18 : mI M9 204 18 = nI k := by rw [(e9 204 18 (by omega)).1, (e12 204 18 (by omega)).1, u2]
        have eF : Same (fun a k => ¬ (a = 204 ∧ (k = 0 ∨ k = 15))) M9 (sI (sI M9 204 15 (nI k)) 204 0 2) := ((Same.sI _ _ _ _).sub fun a k p => by omega).trans ((Same.sI _ _ _ _).sub fun a k p => by omega)
        have tt : Same (fun a k => a ≠ 205 ∧ a ≠ 206 ∧ a ≠ 208 ∧ a ≠ 212 ∧ ¬ (a = 204 ∧ (k = 0 ∨ k = 6 ∨ k = 7 ∨ k = 12 ∨ k = 13 ∨ k = 14 ∨ k = 15 ∨ k = 17 ∨ k = 18))) M (sI (sI M9 204 15 (nI k)) 204 0 2) := (((s4.sub fun a k p => by omega).trans (e12.sub fun a k p => by omega)).trans (e9.sub fun a k p => by omega)).trans (eF.sub fun a k p => by omega)
        have tt2 : Same (fun a k => a ≠ 205 ∧ a ≠ 208 ∧ a ≠ 212 ∧ ¬ (a = 204 ∧ (k = 0 ∨ k = 12 ∨ k = 13 ∨ k = 15 ∨ k = 17 ∨ k = 18))) M (sI (sI M9 204 15 (nI k)) 204 0 2) := (((s4.sub fun a k p => by omega).trans (e12.sub fun a k p => by omega)).trans (e9.sub fun a k p => by omega)).trans (eF.sub fun a k p => by omega)
        have ttR : (sI (sI M9 204 15 (nI k)) 204 0 2).2 = M.2 := by show M9.2 = M.2; rw [k3.2]; exact s5
        obtain ⟨hw, fc, v1, v2, v3, v4, v5⟩ := hM.2.1
        refine ⟨sI (sI M9 204 15 (nI k)) 204 0 2, ?_, mI_same _ _ _ _, hC.s hB'.r0 hB'.r1 (tt.sub fun a k p => by omega) (fun a k _ => by unfold mR; rw [ttR]), restM hM tt ttR ?_ ⟨fun j hj => ?_, fc, v1, v2, (tt2 204 6 (by omega)).1.trans v3, (tt2 204 7 (by omega)).1.trans v4, fun j hj k hk => (tt2 206 _ (by omega)).1.trans (v5 j hj k hk)⟩ ⟨(tt2 204 14 (by omega)).1.trans hM.2.2.2.2.2.1, ?_⟩⟩
        · rw [u1, k1, b1_s, h18, lt_v, F_failsT, b1_s]
        · rw [(eF 204 12 (by omega)).1, (e9 204 12 (by omega)).1, mI_same]; rfl
        · exact (eF 205 j (by omega)).1.trans (k2 j hj)
        · rw [mI_diff _ (Or.inr (by decide)), mI_same]
  · -- a script without it
    have pos60 : (allS (sg Tx) Tx.2 0 13).2.1 ≤ 60 := by
      obtain ⟨M', z', -, k2, k3, -⟩ := mrd M hM.1 (by rw [hTx]; exact hM.2.2.2.2.1)
      have := k2.2.2.1
      omega
    have e8 := Same.sI (sI M1 175 1 0) 1 8 (nI (allS (sg Tx) Tx.2 0 13).2.1)
    have t8 : Same (fun a k => KpS a k ∧ ¬ (a = 175 ∧ k = 1) ∧ ¬ (a = 1 ∧ k = 8)) M (sI (sI M1 175 1 0) 1 8 (nI (allS (sg Tx) Tx.2 0 13).2.1)) := (tot.sub fun a k p => by omega).trans (e8.sub fun a k p => by omega)
    have hB' : BI (B + 600) (Z.1, Z.2.1, Z.2.2.1, (Tx.1, 0), (nI (allS (sg Tx) Tx.2 0 13).2.1, Z.2.2.2.2.2)) := ⟨hB.1.mono (by omega), (hB.mono (show B ≤ B + 600 by omega)).2.1, hB.2.2.1, tb0, Or.inr ⟨_, by omega, rfl⟩, hB.2.2.2.2.2⟩
    refine callT (fc := F_X8_runScript 1) (kp := keepI) (Z := Z) (Z' := (Z.1, Z.2.1, Z.2.2.1, (Tx.1, 0), (nI (allS (sg Tx) Tx.2 0 13).2.1, Z.2.2.2.2.2))) (M1 := sI (sI M1 175 1 0) 1 8 (nI (allS (sg Tx) Tx.2 0 13).2.1)) (E := "java/lang/IllegalArgumentException") (c := 1) (b := 0) hB' ?_ ⟨LC1.r fun a k p => rfl, hC.2.1.s r0 (t8.sub fun a k p => by omega), hC.2.2.1.s hB.r1 (t8.sub fun a k p => by omega), hC.2.2.2.1.s (t8.sub fun a k p => by omega), hT0.s (e8.sub fun a k p => by omega), mI_same _ _ _ _, (t8 1 9 (by omega)).1.trans hC.2.2.2.2.2.2⟩ (hM1.s (e8.sub fun a k p => by omega) (fun a k p => rfl)) (by decide) (fun M => rfl) (fun M hC hM => ?_)
    · refine cl _ ?_
      rw [if_neg ok, if_pos rfl, lt_v, mI_diff _ (Or.inl (by decide)), g2]
    · obtain ⟨M6, z6, k1, k2, k3, k4, k5⟩ := mrd M hM.1 (by rw [hTx]; exact hM.2.2.2.2.1)
      rw [if_neg ok] at k1
      have h13 : mI M6 204 13 = nI (allS (sg Tx) Tx.2 0 13).2.1 := by rw [k2.2.2.2.1, k3]
      have eF : Same (fun a k => ¬ (a = 204 ∧ (k = 0 ∨ k = 12 ∨ k = 14))) M6 (sI (sI (sI M6 204 14 (nI (allS (sg Tx) Tx.2 0 13).2.1)) 204 12 0) 204 0 1) := (((Same.sI _ _ _ _).sub fun a k p => by omega).trans ((Same.sI _ _ _ _).sub fun a k p => by omega)).trans ((Same.sI _ _ _ _).sub fun a k p => by omega)
      have tt : Same (fun a k => a ≠ 212 ∧ ¬ (a = 204 ∧ (k = 0 ∨ k = 12 ∨ k = 13 ∨ k = 14 ∨ k = 17))) M (sI (sI (sI M6 204 14 (nI (allS (sg Tx) Tx.2 0 13).2.1)) 204 12 0) 204 0 1) := (((Same.sI M 204 0 0).sub fun a k p => by omega).trans (k4.sub fun a k p => by omega)).trans (eF.sub fun a k p => by omega)
      have ttR : (sI (sI (sI M6 204 14 (nI (allS (sg Tx) Tx.2 0 13).2.1)) 204 12 0) 204 0 1).2 = M.2 := k5
      refine ⟨_, ?_, mI_same _ _ _ _, hC.s hB'.r0 hB'.r1 (tt.sub fun a k p => by omega) (fun a k _ => by unfold mR; rw [ttR]), hM.1.of ttR, hM.2.1.s (tt.sub fun a k p => by omega), hM.2.2.1.s (tt.sub fun a k p => by omega), hM.2.2.2.1.s (tt.sub fun a k p => by omega), ⟨?_, fun k hk => absurd hk (Nat.not_lt_zero _)⟩, ?_, (tt 204 15 (by omega)).1.trans hM.2.2.2.2.2.2⟩
      · unfold F_X9_runScript
        rw [lt_v, k1, b1_s, if_pos rfl, h13, lt_v, lt_v, F_failsT, b1_s]
      · rw [mI_diff _ (Or.inr (by decide)), mI_same]; rfl
      · rw [mI_diff _ (Or.inr (by decide)), mI_diff _ (Or.inr (by decide)), mI_same]
end SCR
