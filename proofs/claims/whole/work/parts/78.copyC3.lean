/-! PURE LEVEL: our state copied, whole -/
def ShR (M : Mem) (x : Nat) : Prop := (mR M x 0 = x + 1 ∧ mR M x 8 = x + 2 ∧ mR M x 9 = x + 3) ∧ PermS M x
theorem pig5 : ∀ a b c d e f : Fin 5, a ≠ b → a ≠ c → a ≠ d → a ≠ e → b ≠ c → b ≠ d → b ≠ e → c ≠ d → c ≠ e → d ≠ e → f = a ∨ f = b ∨ f = c ∨ f = d ∨ f = e := by decide +kernel
theorem PermS.onto {M : Mem} {x : Nat} (h : PermS M x) {j : Nat} (hj : j < 5) : ∃ i, i < 5 ∧ mR M (x + 1) i = x + 4 + 2 * j := by
  obtain ⟨j0, b0, e0⟩ := h.1 0 (by decide)
  obtain ⟨j1, b1, e1⟩ := h.1 1 (by decide)
  obtain ⟨j2, b2, e2⟩ := h.1 2 (by decide)
  obtain ⟨j3, b3, e3⟩ := h.1 3 (by decide)
  obtain ⟨j4, b4, e4⟩ := h.1 4 (by decide)
  have d : ∀ a b, a < 5 → b < 5 → a ≠ b → mR M (x + 1) a ≠ mR M (x + 1) b := fun a b ha hb n z => n (h.2.1 a b ha hb z)
  have f : ∀ {a b u v : Nat} (hu : u < 5) (hv : v < 5), a < 5 → b < 5 → a ≠ b → mR M (x + 1) a = x + 4 + 2 * u → mR M (x + 1) b = x + 4 + 2 * v → (⟨u, hu⟩ : Fin 5) ≠ ⟨v, hv⟩ := fun hu hv ha hb n eu ev z => d _ _ ha hb n (by rw [eu, ev, Fin.mk.inj z])
  rcases pig5 ⟨j0, b0⟩ ⟨j1, b1⟩ ⟨j2, b2⟩ ⟨j3, b3⟩ ⟨j4, b4⟩ ⟨j, hj⟩ (f _ _ (by decide) (by decide) (by decide) e0 e1) (f _ _ (by decide) (by decide) (by decide) e0 e2) (f _ _ (by decide) (by decide) (by decide) e0 e3) (f _ _ (by decide) (by decide) (by decide) e0 e4) (f _ _ (by decide) (by decide) (by decide) e1 e2) (f _ _ (by decide) (by decide) (by decide) e1 e3) (f _ _ (by decide) (by decide) (by decide) e1 e4) (f _ _ (by decide) (by decide) (by decide) e2 e3) (f _ _ (by decide) (by decide) (by decide) e2 e4) (f _ _ (by decide) (by decide) (by decide) e3 e4) with z | z | z | z | z
  · exact ⟨0, by decide, by rw [e0, Fin.mk.inj z]⟩
  · exact ⟨1, by decide, by rw [e1, Fin.mk.inj z]⟩
  · exact ⟨2, by decide, by rw [e2, Fin.mk.inj z]⟩
  · exact ⟨3, by decide, by rw [e3, Fin.mk.inj z]⟩
  · exact ⟨4, by decide, by rw [e4, Fin.mk.inj z]⟩
theorem C_copy {M : Mem} {x y : Nat} {w : Row} (hxy : x + 14 ≤ y ∨ y + 14 ≤ x) (hx : ShR M x) (h : StR M y w) (h0 : w 0 ≤ 5) : ∃ M', F_X5_copyFrom x y M = some ((), M') ∧ StR M' x w ∧ Blk M M' x 14 := by
  obtain ⟨⟨rx0, rx8, rx9⟩, px⟩ := hx
  obtain ⟨⟨ry0, ry8, ry9⟩, ⟨n1, n2, n3, n4, n5, n6, n7⟩, py, hsec, hS, hlog, hko⟩ := h
  unfold F_X5_copyFrom
  obtain ⟨M1, g1, g2, g3, g4, -⟩ := C_copyL hxy (fun (x19 : Int32) (M20 : Mem) =>
  lt (sI M20 x 1 (mI M20 y 1)) (fun (M21 : Mem) =>
  lt (sI M21 x 2 (mI M21 y 2)) (fun (M22 : Mem) =>
  lt (sI M22 x 3 (mI M22 y 3)) (fun (M23 : Mem) =>
  lt (sI M23 x 4 (mI M23 y 4)) (fun (M24 : Mem) =>
  lt (sI M24 x 5 (mI M24 y 5)) (fun (M25 : Mem) =>
  lt (sI M25 x 6 (mI M25 y 6)) (fun (M26 : Mem) =>
  lt (sJ M26 x 7 (mJ M26 y 7)) (fun (M27 : Mem) =>
  b1 (F_X8_copyNumbers_21 (mR M27 y 8) (mR M27 x 8) M27) (fun u31 M32 =>
  b1 (F_X8_copyNumbers_22 (mR M32 y 9) (mR M32 x 9) M32) (fun u36 M37 =>
  some ((), M37))))))))))) 5 0 3000 M px py rx0 ry0 hko (by omega) (by omega)
  have hR : ∀ a k, mR M1 a k = mR M a k := fun a k => by unfold mR; rw [g2]
  have hJ : ∀ a k, mJ M1 a k = mJ M a k := fun a k => by unfold mJ; rw [g2]
  rw [show (0 : Int32) = nI 0 from rfl, g1]
  simp only [lt_v, F_X8_copyNumbers_21, F_X8_copyNumbers_22, b1_s, mR_sI, mR_sJ, mR_cpI, hR, rx8, rx9, ry8, ry9]
  have yx : ¬ y = x := by omega
  have fin : ∀ MF : Mem, (mI MF x 1 = mI M y 1 ∧ mI MF x 2 = mI M y 2 ∧ mI MF x 3 = mI M y 3 ∧ mI MF x 4 = mI M y 4 ∧ mI MF x 5 = mI M y 5 ∧ mI MF x 6 = mI M y 6 ∧ mJ MF x 7 = mJ M y 7) → (∀ k, k < 30 → mI MF (x + 2) k = mI M (y + 2) k) → (∀ k, k < 10 → mI MF (x + 3) k = mI M (y + 3) k) → (∀ o k, o ≠ x → o ≠ x + 2 → o ≠ x + 3 → mI MF o k = mI M1 o k) → (∀ o k, o ≠ x → mJ MF o k = mJ M o k) → MF.2.2 = M.2.2 → StR MF x w ∧ Blk M MF x 14 := by
    intro MF e1 e2 e3 e4 e5 e6
    have hF : ∀ a k, mR MF a k = mR M a k := fun a k => by unfold mR; rw [e6]
    refine ⟨⟨⟨by rw [hF]; exact rx0, by rw [hF]; exact rx8, by rw [hF]; exact rx9⟩, ⟨e1.1.trans n1, e1.2.1.trans n2, e1.2.2.1.trans n3, e1.2.2.2.1.trans n4, e1.2.2.2.2.1.trans n5, e1.2.2.2.2.2.1.trans n6, e1.2.2.2.2.2.2.trans n7⟩, px.of hF, fun i hi => ?_, fun k n hk hn => ?_, ⟨hlog.1, fun q hq => ?_⟩, fun j hj => ?_⟩, fun o k ho => ⟨?_, e5 o k (by omega)⟩, e6⟩
    · obtain ⟨jx, hjx, ex⟩ := px.1 i (by omega)
      obtain ⟨t1, t2⟩ := g4 i (by omega) (by omega)
      obtain ⟨s0, s1, s2, s4, s5, s6, s7, s8, s9⟩ := hsec i hi
      have hq : ∀ k, mI MF (mR M (x + 1) i) k = mI M1 (mR M (x + 1) i) k := fun k => e4 _ _ (by omega) (by omega) (by omega)
      have hq1 : ∀ k, mI MF (mR M (x + 1) i + 1) k = mI M1 (mR M (x + 1) i + 1) k := fun k => e4 _ _ (by omega) (by omega) (by omega)
      rw [hF]
      unfold SecR
      simp only [hq, hq1, hF]
      exact ⟨t1.1.trans s0, t1.2.1.trans s1, t1.2.2.1.trans s2, t1.2.2.2.1.trans s4, t1.2.2.2.2.1.trans s5, t1.2.2.2.2.2.1.trans s6, t1.2.2.2.2.2.2.trans s7, by rw [ex]; exact px.2.2 jx hjx, fun k hk => (t2 k hk).trans (s9 k hk)⟩
    · rw [e2 _ (by omega)]; exact hS k n hk hn
    · rw [e3 _ (Nat.mod_lt _ (by decide))]; exact hlog.2 q hq
    · obtain ⟨i, hi, ei⟩ := PermS.onto px hj
      obtain ⟨jy, hjy, ey⟩ := py.1 i hi
      have t := (g4 i (by omega) hi).1.1
      rw [e4 _ _ (by omega) (by omega) (by omega), ← ei, t, ey]
      exact hko jy hjy
    · rw [e4 _ _ (by omega) (by omega) (by omega), g3 _ _ (by omega)]
  have y1 := fun k => g3 y k (by omega)
  have y2 := fun k => g3 (y + 2) k (by omega)
  have y3 := fun k => g3 (y + 3) k (by omega)
  have a2 : ¬ y + 2 = x := by omega
  have a3 : ¬ y + 3 = x := by omega
  have a4 : ¬ y + 3 = x + 2 := by omega
  have a5 : ¬ y + 2 = x + 2 := by omega
  refine ⟨_, rfl, fin _ ⟨?_, ?_, ?_, ?_, ?_, ?_, ?_⟩ (fun k hk => ?_) (fun k hk => ?_) (fun o k h1 h2 h3 => ?_) (fun o k h1 => ?_) ?_⟩
  · simp [mI_cpI, mI_sJ, mI_sI, yx, y1]
  · simp [mI_cpI, mI_sJ, mI_sI, yx, y1]
  · simp [mI_cpI, mI_sJ, mI_sI, yx, y1]
  · simp [mI_cpI, mI_sJ, mI_sI, yx, y1]
  · simp [mI_cpI, mI_sJ, mI_sI, yx, y1]
  · simp [mI_cpI, mI_sJ, mI_sI, yx, y1]
  · simp [mJ_cpI, mJ_sJ, mJ_sI, hJ]
  · simp [mI_cpI, mI_sJ, mI_sI, hk, a2, y2]
  · simp [mI_cpI, mI_sJ, mI_sI, hk, a3, a4, y3]
  · simp [mI_cpI, mI_sJ, mI_sI, h1, h2, h3]
  · simp [mJ_cpI, mJ_sJ, mJ_sI, hJ, h1]
  · show M1.2.2 = M.2.2
    rw [g2]
