/-! PURE LEVEL: a command done on both sides -/
theorem b1_some {α : Type} (x : Option (α × Mem)) : b1 x (fun v M => some (v, M)) = x := by
  cases x with
  | none => rfl
  | some v => rfl
theorem ob_some {α : Type} (x : Option α) : Option.bind x (fun v => some v) = x := by
  cases x with
  | none => rfl
  | some v => rfl
def ExecP (B : Nat) (w : Row) (v : Nat) (xs : List Int32) : Prop :=
  ∃ (c u : Nat) (w' : Row), u < 2 ^ 31 ∧ c ≤ 3 ∧ (c = 0 → Inv (B + 40) w') ∧
    (∀ M nb, Norm v xs nb → LM M → WA M 205 260 w → (∀ k, k < 4 → mI M 212 k = nb k) → mI M 204 17 = soW v → F_X9_notNow 204 M = some (nI c) ∧ (c = 0 → ∃ M', F_X9_doesNow 204 M = some (nI u, M') ∧ WA M' 205 260 w' ∧ Only M M' 205)) ∧
    (∀ M j, j < 12 → StR M 2 w → mR M 1 0 = 2 → CmR M j v xs → (c = 0 → ∃ M', F_X8_perform 1 (178 + 2 * j) M = some (nI u, M') ∧ StR M' 2 w' ∧ FrS M M') ∧ (c ≠ 0 → ∃ x, F_X8_perform 1 (178 + 2 * j) M = some (x, M) ∧ x < 0))
theorem ExecP.of {N V B B' v : Nat} {w : Row} {xs : List Int32} {nt : Mem → Option Int32} {dm dc : Mem → Option (Int32 × Mem)} {cd : Nat → Int32} (h : CH N V B' w nt dm dc cd) (hV : V ≤ 2 ^ 31) (hN : N ≤ 3) (hB : B' ≤ B + 40) (hcd : ∀ c, cd c < 0)
    (hm : ∀ M nb, Norm v xs nb → LM M → (∀ k, k < 4 → mI M 212 k = nb k) → mI M 204 17 = soW v → F_X9_notNow 204 M = nt M ∧ F_X9_doesNow 204 M = dm M)
    (hc : ∀ M j, j < 12 → mR M 1 0 = 2 → CmR M j v xs → F_X8_perform 1 (178 + 2 * j) M = dc M)   : ExecP B w v xs := by
  obtain ⟨c, u, w', h1, h2, h3, h4, h5⟩ := h
  refine ⟨c, u, w', by omega, by omega, fun z => (h3 z).mono hB, fun M nb hN' hL hw hn hs => ?_, fun M j hj hS hr hC => ?_⟩
  · obtain ⟨e1, e2⟩ := hm M nb hN' hL hn hs
    rw [e1, e2]
    exact h4 M hL hw
  · rw [hc M j hj hr hC]
    exact ⟨(h5 M hS).1, fun z => ⟨cd c, (h5 M hS).2 z, hcd c⟩⟩
theorem C_val {M : Mem} {q : Nat} {xs : List Int32} (h : VR M q xs) (hl : xs.length ≤ 4) {j : Nat} (hj : j < 4) : F_X1_valueAt q (nI j) M = some (xs.getD j 0) := by
  obtain ⟨h1, h2, h3⟩ := h
  unfold F_X1_valueAt
  rw [if_neg (nI_pos (by omega)), h1]
  by_cases c : j < xs.length
  · rw [if_neg (nI_ge c (by omega)), show (4 : Int32) = nI 4 from rfl, if_neg (nI_ge hj (by omega)), chk_t (inb_n hj (by decide)), nI_clamp (by omega), h2, h3 j c, List.getD_eq_getElem?_getD, List.getElem?_eq_getElem c]; rfl
  · rw [if_pos (nI_le (by omega) (by omega)), List.getD_eq_getElem?_getD, List.getElem?_eq_none (by omega)]; rfl
theorem swv_n {v : Nat} (hv : v < 11) : swv v = nI (if v < 10 then v + 1 else 0) := by
  have h : ∀ v : Fin 11, swv v.val = nI (if v.val < 10 then v.val + 1 else 0) := by decide +kernel
  exact h ⟨v, hv⟩
/-- perform, up to the verb -/
def perfS (w : Int32) (v2 v4 v6 : Int32) (q : Nat) (M : Mem) : Option (Int32 × Mem) :=
  if w = 1 then F_X5_add 2 ((v2.toUInt32 % 65536).toInt32) v4 v6 M
  else if w = 2 then F_X5_drop 2 v2 M
  else if w = 3 then Option.bind (F_X1_valueAt q 3 M) (fun v24 => F_X5_write 2 v2 v4 v6 v24 M)
  else if w = 4 then (if v6 ≤ 0 then F_X5_mask 2 v2 v4 0 M else F_X5_mask 2 v2 v4 1 M)
  else if w = 5 then F_X5_flip 2 v2 M
  else if w = 6 then F_X5_turn 2 v2 M
  else if w = 7 then F_X5_lift 2 v2 (v4 * v6) M
  else if w = 8 then F_X5_changeTempo 2 v2 M
  else if w = 9 then F_X5_changeLimit 2 v2 M
  else if w = 10 then F_X5_play 2 (mI M 2 2) M
  else Option.bind (F_X8_isBeats v2) (fun v69 => if v69 = 0 then some (-2, M) else F_X5_play 2 v2 M)
theorem C_perf {M : Mem} {j v : Nat} {xs : List Int32} (hv : v < 11) (hr : mR M 1 0 = 2) (hC : CmR M j v xs) (hl : xs.length ≤ 4) : F_X8_perform 1 (178 + 2 * j) M = perfS (nI (if v < 10 then v + 1 else 0)) (xs.getD 0 0) (xs.getD 1 0) (xs.getD 2 0) (178 + 2 * j) M := by
  unfold F_X8_perform perfS F_Jx29ce0_ordinal_8abf5
  rw [show F_X1_valueAt (178 + 2 * j) 0 M = _ from C_val hC.2 hl (j := 0) (by decide), ob_s, show F_X1_valueAt (178 + 2 * j) 1 M = _ from C_val hC.2 hl (j := 1) (by decide), ob_s, show F_X1_valueAt (178 + 2 * j) 2 M = _ from C_val hC.2 hl (j := 2) (by decide), ob_s, hC.1, Nat.add_sub_cancel, ob_s, chk_t (inb_n hv (by decide)), nI_clamp (by omega), swv_n hv, hr]
  simp only [b1_some]
section EX
variable {B : Nat} {w : Row} {nb : Nat → Int32}
/-- the model's choice by the sort -/
def notS (x : Int32) (a b c d : Int32) (M : Mem) : Option Int32 :=
  if x = 97 then F_X9_notAdd 204 a b c M
  else if x = 98 then F_X9_notBeats a
  else if x = 100 then F_X9_notSection 204 a M
  else if x = 101 then F_X9_notTempo a
  else if x = 102 then F_X9_notSection 204 a M
  else if x = 108 then F_X9_notLimit a
  else if x = 109 then F_X9_notMask 204 a b M
  else if x = 110 then F_X9_notNote 204 a b c d M
  else if x = 114 then F_X9_notRaise 204 a b M
  else if x = 116 then F_X9_notSection 204 a M
  else some 0
def doS (x : Int32) (a b c d : Int32) (M : Mem) : Option (Int32 × Mem) :=
  if x = 97 then F_X9_addsSection 204 a b c M
  else if x = 100 then F_X9_removesSection 204 a M
  else if x = 101 then F_X9_sets 204 2 a M
  else if x = 102 then F_X9_transposes 204 a M
  else if x = 108 then F_X9_sets 204 3 a M
  else if x = 109 then F_X9_setsMasked 204 a b c M
  else if x = 110 then F_X9_setsNote 204 a b c d M
  else if x = 114 then F_X9_raises 204 a b M
  else if x = 116 then F_X9_reverses 204 a M
  else if x = 119 then F_X9_beatsTimes 204 (mI M 205 2) M
  else F_X9_beatsTimes 204 a M
theorem M_now {M : Mem} {x : Int32} (hL : LM M) (hn : ∀ k, k < 4 → mI M 212 k = nb k) (hs : mI M 204 17 = x) : F_X9_notNow 204 M = notS x (nb 0) (nb 1) (nb 2) (nb 3) M ∧ F_X9_doesNow 204 M = doS x (nb 0) (nb 1) (nb 2) (nb 3) M := by
  have c0 : inb 0 4 = true := by decide
  have c1 : inb 1 4 = true := by decide
  have c2 : inb 2 4 = true := by decide
  have c3 : inb 3 4 = true := by decide
  have c4 : inb 2 260 = true := by decide
  constructor
  · unfold F_X9_notNow notS
    simp only [hL.2.2.2.2.2.2.2, hn 0 (by decide), hn 1 (by decide), hn 2 (by decide), hn 3 (by decide), hs, chk_t c0, chk_t c1, chk_t c2, chk_t c3, lt_v, ob_some]
  · unfold F_X9_doesNow doS
    simp only [hL.2.2.2.2.2.2.2, hL.1, hn 0 (by decide), hn 1 (by decide), hn 2 (by decide), hn 3 (by decide), hs, chk_t c0, chk_t c1, chk_t c2, chk_t c3, chk_t c4, lt_v, b1_some]
theorem perf_1 (v2 v4 v6 : Int32) (q : Nat) (M : Mem) : perfS (nI 1) v2 v4 v6 q M = (F_X5_add 2 ((v2.toUInt32 % 65536).toInt32) v4 v6 M) := by
  unfold perfS
  rw [if_pos (by decide)]
theorem perf_2 (v2 v4 v6 : Int32) (q : Nat) (M : Mem) : perfS (nI 2) v2 v4 v6 q M = (F_X5_drop 2 v2 M) := by
  unfold perfS
  rw [if_neg (by decide), if_pos (by decide)]
theorem perf_3 (v2 v4 v6 : Int32) (q : Nat) (M : Mem) : perfS (nI 3) v2 v4 v6 q M = (Option.bind (F_X1_valueAt q 3 M) (fun v24 => F_X5_write 2 v2 v4 v6 v24 M)) := by
  unfold perfS
  rw [if_neg (by decide), if_neg (by decide), if_pos (by decide)]
theorem perf_4 (v2 v4 v6 : Int32) (q : Nat) (M : Mem) : perfS (nI 4) v2 v4 v6 q M = (if v6 ≤ 0 then F_X5_mask 2 v2 v4 0 M else F_X5_mask 2 v2 v4 1 M) := by
  unfold perfS
  rw [if_neg (by decide), if_neg (by decide), if_neg (by decide), if_pos (by decide)]
theorem perf_5 (v2 v4 v6 : Int32) (q : Nat) (M : Mem) : perfS (nI 5) v2 v4 v6 q M = (F_X5_flip 2 v2 M) := by
  unfold perfS
  rw [if_neg (by decide), if_neg (by decide), if_neg (by decide), if_neg (by decide), if_pos (by decide)]
theorem perf_6 (v2 v4 v6 : Int32) (q : Nat) (M : Mem) : perfS (nI 6) v2 v4 v6 q M = (F_X5_turn 2 v2 M) := by
  unfold perfS
  rw [if_neg (by decide), if_neg (by decide), if_neg (by decide), if_neg (by decide), if_neg (by decide), if_pos (by decide)]
theorem perf_7 (v2 v4 v6 : Int32) (q : Nat) (M : Mem) : perfS (nI 7) v2 v4 v6 q M = (F_X5_lift 2 v2 (v4 * v6) M) := by
  unfold perfS
  rw [if_neg (by decide), if_neg (by decide), if_neg (by decide), if_neg (by decide), if_neg (by decide), if_neg (by decide), if_pos (by decide)]
theorem perf_8 (v2 v4 v6 : Int32) (q : Nat) (M : Mem) : perfS (nI 8) v2 v4 v6 q M = (F_X5_changeTempo 2 v2 M) := by
  unfold perfS
  rw [if_neg (by decide), if_neg (by decide), if_neg (by decide), if_neg (by decide), if_neg (by decide), if_neg (by decide), if_neg (by decide), if_pos (by decide)]
theorem perf_9 (v2 v4 v6 : Int32) (q : Nat) (M : Mem) : perfS (nI 9) v2 v4 v6 q M = (F_X5_changeLimit 2 v2 M) := by
  unfold perfS
  rw [if_neg (by decide), if_neg (by decide), if_neg (by decide), if_neg (by decide), if_neg (by decide), if_neg (by decide), if_neg (by decide), if_neg (by decide), if_pos (by decide)]
theorem perf_10 (v2 v4 v6 : Int32) (q : Nat) (M : Mem) : perfS (nI 10) v2 v4 v6 q M = (F_X5_play 2 (mI M 2 2) M) := by
  unfold perfS
  rw [if_neg (by decide), if_neg (by decide), if_neg (by decide), if_neg (by decide), if_neg (by decide), if_neg (by decide), if_neg (by decide), if_neg (by decide), if_neg (by decide), if_pos (by decide)]
theorem perf_0 (v2 v4 v6 : Int32) (q : Nat) (M : Mem) : perfS (nI 0) v2 v4 v6 q M = Option.bind (F_X8_isBeats v2) (fun v69 => if v69 = 0 then some (-2, M) else F_X5_play 2 v2 M) := by
  unfold perfS
  rw [if_neg (by decide), if_neg (by decide), if_neg (by decide), if_neg (by decide), if_neg (by decide), if_neg (by decide), if_neg (by decide), if_neg (by decide), if_neg (by decide), if_neg (by decide)]
theorem not_97 (a b c d : Int32) (M : Mem) : notS 97 a b c d M = F_X9_notAdd 204 a b c M := by
  unfold notS
  rw [if_pos rfl]
theorem not_98 (a b c d : Int32) (M : Mem) : notS 98 a b c d M = F_X9_notBeats a := by
  unfold notS
  rw [if_neg (by decide), if_pos rfl]
theorem not_100 (a b c d : Int32) (M : Mem) : notS 100 a b c d M = F_X9_notSection 204 a M := by
  unfold notS
  rw [if_neg (by decide), if_neg (by decide), if_pos rfl]
theorem not_101 (a b c d : Int32) (M : Mem) : notS 101 a b c d M = F_X9_notTempo a := by
  unfold notS
  rw [if_neg (by decide), if_neg (by decide), if_neg (by decide), if_pos rfl]
theorem not_102 (a b c d : Int32) (M : Mem) : notS 102 a b c d M = F_X9_notSection 204 a M := by
  unfold notS
  rw [if_neg (by decide), if_neg (by decide), if_neg (by decide), if_neg (by decide), if_pos rfl]
theorem not_108 (a b c d : Int32) (M : Mem) : notS 108 a b c d M = F_X9_notLimit a := by
  unfold notS
  rw [if_neg (by decide), if_neg (by decide), if_neg (by decide), if_neg (by decide), if_neg (by decide), if_pos rfl]
theorem not_109 (a b c d : Int32) (M : Mem) : notS 109 a b c d M = F_X9_notMask 204 a b M := by
  unfold notS
  rw [if_neg (by decide), if_neg (by decide), if_neg (by decide), if_neg (by decide), if_neg (by decide), if_neg (by decide), if_pos rfl]
theorem not_110 (a b c d : Int32) (M : Mem) : notS 110 a b c d M = F_X9_notNote 204 a b c d M := by
  unfold notS
  rw [if_neg (by decide), if_neg (by decide), if_neg (by decide), if_neg (by decide), if_neg (by decide), if_neg (by decide), if_neg (by decide), if_pos rfl]
theorem not_114 (a b c d : Int32) (M : Mem) : notS 114 a b c d M = F_X9_notRaise 204 a b M := by
  unfold notS
  rw [if_neg (by decide), if_neg (by decide), if_neg (by decide), if_neg (by decide), if_neg (by decide), if_neg (by decide), if_neg (by decide), if_neg (by decide), if_pos rfl]
theorem not_116 (a b c d : Int32) (M : Mem) : notS 116 a b c d M = F_X9_notSection 204 a M := by
  unfold notS
  rw [if_neg (by decide), if_neg (by decide), if_neg (by decide), if_neg (by decide), if_neg (by decide), if_neg (by decide), if_neg (by decide), if_neg (by decide), if_neg (by decide), if_pos rfl]
theorem not_119 (a b c d : Int32) (M : Mem) : notS 119 a b c d M = some 0 := by
  unfold notS
  rw [if_neg (by decide), if_neg (by decide), if_neg (by decide), if_neg (by decide), if_neg (by decide), if_neg (by decide), if_neg (by decide), if_neg (by decide), if_neg (by decide), if_neg (by decide)]
theorem do_97 (a b c d : Int32) (M : Mem) : doS 97 a b c d M = F_X9_addsSection 204 a b c M := by
  unfold doS
  rw [if_pos rfl]
theorem do_100 (a b c d : Int32) (M : Mem) : doS 100 a b c d M = F_X9_removesSection 204 a M := by
  unfold doS
  rw [if_neg (by decide), if_pos rfl]
theorem do_101 (a b c d : Int32) (M : Mem) : doS 101 a b c d M = F_X9_sets 204 2 a M := by
  unfold doS
  rw [if_neg (by decide), if_neg (by decide), if_pos rfl]
theorem do_102 (a b c d : Int32) (M : Mem) : doS 102 a b c d M = F_X9_transposes 204 a M := by
  unfold doS
  rw [if_neg (by decide), if_neg (by decide), if_neg (by decide), if_pos rfl]
theorem do_108 (a b c d : Int32) (M : Mem) : doS 108 a b c d M = F_X9_sets 204 3 a M := by
  unfold doS
  rw [if_neg (by decide), if_neg (by decide), if_neg (by decide), if_neg (by decide), if_pos rfl]
theorem do_109 (a b c d : Int32) (M : Mem) : doS 109 a b c d M = F_X9_setsMasked 204 a b c M := by
  unfold doS
  rw [if_neg (by decide), if_neg (by decide), if_neg (by decide), if_neg (by decide), if_neg (by decide), if_pos rfl]
theorem do_110 (a b c d : Int32) (M : Mem) : doS 110 a b c d M = F_X9_setsNote 204 a b c d M := by
  unfold doS
  rw [if_neg (by decide), if_neg (by decide), if_neg (by decide), if_neg (by decide), if_neg (by decide), if_neg (by decide), if_pos rfl]
theorem do_114 (a b c d : Int32) (M : Mem) : doS 114 a b c d M = F_X9_raises 204 a b M := by
  unfold doS
  rw [if_neg (by decide), if_neg (by decide), if_neg (by decide), if_neg (by decide), if_neg (by decide), if_neg (by decide), if_neg (by decide), if_pos rfl]
theorem do_116 (a b c d : Int32) (M : Mem) : doS 116 a b c d M = F_X9_reverses 204 a M := by
  unfold doS
  rw [if_neg (by decide), if_neg (by decide), if_neg (by decide), if_neg (by decide), if_neg (by decide), if_neg (by decide), if_neg (by decide), if_neg (by decide), if_pos rfl]
theorem do_119 (a b c d : Int32) (M : Mem) : doS 119 a b c d M = F_X9_beatsTimes 204 (mI M 205 2) M := by
  unfold doS
  rw [if_neg (by decide), if_neg (by decide), if_neg (by decide), if_neg (by decide), if_neg (by decide), if_neg (by decide), if_neg (by decide), if_neg (by decide), if_neg (by decide), if_pos rfl]
theorem do_98 (a b c d : Int32) (M : Mem) : doS 98 a b c d M = F_X9_beatsTimes 204 a M := by
  unfold doS
  rw [if_neg (by decide), if_neg (by decide), if_neg (by decide), if_neg (by decide), if_neg (by decide), if_neg (by decide), if_neg (by decide), if_neg (by decide), if_neg (by decide), if_neg (by decide)]
theorem so_tab : soW 0 = 97 ∧ soW 1 = 100 ∧ soW 2 = 110 ∧ soW 3 = 109 ∧ soW 4 = 102 ∧ soW 5 = 116 ∧ soW 6 = 114 ∧ soW 7 = 101 ∧ soW 8 = 108 ∧ soW 9 = 119 ∧ soW 10 = 98 := by decide +kernel
theorem exec_ok (hI : Inv B w) (hB : B + 40 ≤ 2 ^ 20) {v : Nat} {xs : List Int32} (hv : v < 11) (hn : Norm v xs nb) : ExecP B w v xs := by
  have lN : ∀ M (nc : Nat → Int32), LM M → (∀ k, k < 4 → mI M 212 k = nc k) → ∀ x, mI M 204 17 = x → F_X9_notNow 204 M = notS x (nc 0) (nc 1) (nc 2) (nc 3) M ∧ F_X9_doesNow 204 M = doS x (nc 0) (nc 1) (nc 2) (nc 3) M := fun M nc hL h x hs => M_now hL h hs
  obtain ⟨s0, s1, s2, s3, s4, s5, s6, s7, s8, s9, s10⟩ := so_tab
  rcases (show v = 0 ∨ v = 1 ∨ v = 2 ∨ v = 3 ∨ v = 4 ∨ v = 5 ∨ v = 6 ∨ v = 7 ∨ v = 8 ∨ v = 9 ∨ v = 10 by omega) with rfl | rfl | rfl | rfl | rfl | rfl | rfl | rfl | rfl | rfl | rfl
  · obtain ⟨rfl, k, hk, hk2⟩ := hn
    have hl : lett k < 65536 := by unfold lett; split <;> (try split) <;> omega
    refine ExecP.of (ch_add B w hI (nb 0) (nb 1) (nb 2)) (Nat.le_refl _) (by decide) (by omega) (fun c => by show (if c = 1 then (-2 : Int32) else -3) < 0; split <;> decide) (fun M nc hc hL h hs => ?_) (fun M j hj hr hC => ?_)
    · have := lN M nc hL h 97 (hs.trans s0); rw [not_97, do_97] at this; obtain ⟨e, -⟩ := hc; simp only [List.cons.injEq, and_true] at e; obtain ⟨e0, e1, e2⟩ := e; rw [← e0, ← e1, ← e2] at this; exact this
    · rw [C_perf (by decide) hr hC (by simp)]
      refine (perf_1 _ _ _ _ _).trans ?_
      show F_X5_add 2 (((nb 0).toUInt32 % 65536).toInt32) (nb 1) (nb 2) M = _
      rw [hk2, cast16 hl]
  · obtain rfl : xs = [nb 0] := hn
    refine ExecP.of (ch_drop B w hI (nb 0)) (Nat.le_refl _) (by decide) (by omega) (fun c => by show (-1 : Int32) < 0; decide) (fun M nc hc hL h hs => ?_) (fun M j hj hr hC => ?_)
    · have := lN M nc hL h 100 (hs.trans s1); rw [not_100, do_100] at this; have e : nb 0 = nc 0 := (List.cons.inj hc).1; rw [← e] at this; exact this
    · rw [C_perf (by decide) hr hC (by simp)]; exact perf_2 _ _ _ _ _
  · obtain rfl : xs = [nb 0, nb 1, nb 2, nb 3] := hn
    refine ExecP.of (ch_write B w hI (nb 0) (nb 1) (nb 2) (nb 3)) (Nat.le_refl _) (by decide) (by omega) (fun c => by show (if c = 1 then (-1 : Int32) else -2) < 0; split <;> decide) (fun M nc hc hL h hs => ?_) (fun M j hj hr hC => ?_)
    · have := lN M nc hL h 110 (hs.trans s2); rw [not_110, do_110] at this; have e := hc; simp only [Norm, List.cons.injEq, and_true] at e; obtain ⟨e0, e1, e2, e3⟩ := e; rw [← e0, ← e1, ← e2, ← e3] at this; exact this
    · rw [C_perf (by decide) hr hC (by simp)]
      refine (perf_3 _ _ _ _ _).trans ?_
      show Option.bind (F_X1_valueAt (178 + 2 * j) 3 M) (fun v24 => F_X5_write 2 (nb 0) (nb 1) (nb 2) v24 M) = _
      rw [show F_X1_valueAt (178 + 2 * j) 3 M = _ from C_val hC.2 (by simp) (j := 3) (by decide), ob_s]; rfl
  · obtain ⟨o, ho, h2, rfl⟩ := hn
    refine ExecP.of (ch_mask B w hI (nb 0) (nb 1) ho) (by decide) (by decide) (by omega) (fun c => by show (if c = 1 then (-1 : Int32) else -2) < 0; split <;> decide) (fun M nc hc hL h hs => ?_) (fun M j hj hr hC => ?_)
    · obtain ⟨o', ho', h2', e⟩ := hc
      simp only [List.cons.injEq, and_true] at e
      obtain ⟨e0, e1, e2⟩ := e
      have eo : o = o' := by
        rcases (show o = 0 ∨ o = 1 by omega) with rfl | rfl <;> rcases (show o' = 0 ∨ o' = 1 by omega) with rfl | rfl
        · rfl
        · exact absurd e2 (by decide)
        · exact absurd e2 (by decide)
        · rfl
      have := lN M nc hL h 109 (hs.trans s3)
      rw [not_109, do_109, ← e0, ← e1, h2', ← eo] at this
      exact this
    · rw [C_perf (by decide) hr hC (by simp)]
      refine (perf_4 _ _ _ _ _).trans ?_
      show (if (if o = 1 then (1 : Int32) else -1) ≤ 0 then F_X5_mask 2 (nb 0) (nb 1) 0 M else F_X5_mask 2 (nb 0) (nb 1) 1 M) = _
      rcases (show o = 0 ∨ o = 1 by omega) with rfl | rfl
      · rw [if_pos (by decide)]; rfl
      · rw [if_neg (by decide)]; rfl
  · obtain rfl : xs = [nb 0] := hn
    refine ExecP.of (ch_flip B w hI (nb 0)) (Nat.le_refl _) (by decide) (by omega) (fun c => by show (-1 : Int32) < 0; decide) (fun M nc hc hL h hs => ?_) (fun M j hj hr hC => ?_)
    · have := lN M nc hL h 102 (hs.trans s4); rw [not_102, do_102] at this; have e : nb 0 = nc 0 := (List.cons.inj hc).1; rw [← e] at this; exact this
    · rw [C_perf (by decide) hr hC (by simp)]; exact perf_5 _ _ _ _ _
  · obtain rfl : xs = [nb 0] := hn
    refine ExecP.of (ch_turn B w hI (nb 0)) (Nat.le_refl _) (by decide) (by omega) (fun c => by show (-1 : Int32) < 0; decide) (fun M nc hc hL h hs => ?_) (fun M j hj hr hC => ?_)
    · have := lN M nc hL h 116 (hs.trans s5); rw [not_116, do_116] at this; have e : nb 0 = nc 0 := (List.cons.inj hc).1; rw [← e] at this; exact this
    · rw [C_perf (by decide) hr hC (by simp)]; exact perf_6 _ _ _ _ _
  · obtain ⟨d, hd⟩ := hn
    refine ExecP.of (ch_lift B w hI (nb 0) (nb 1)) (Nat.le_refl _) (by decide) (by omega) (fun c => by show (if c = 1 then (-1 : Int32) else if c = 2 then -2 else -4) < 0; split <;> (try split) <;> decide) (fun M nc hc hL h hs => ?_) (fun M j hj hr hC => ?_)
    · obtain ⟨d', hd'⟩ := hc
      have e01 : nb 0 = nc 0 ∧ nb 1 = nc 1 := by
        rcases hd with ⟨rfl, h1⟩ | ⟨rfl, h1⟩
        · rcases hd' with ⟨e, h1'⟩ | ⟨e, h1'⟩
          · simp only [List.cons.injEq, and_true] at e
            exact ⟨e.1, by rw [h1, h1', e.2.2]⟩
          · simp only [List.cons.injEq, and_true] at e
            exact absurd e.2.1 (by decide)
        · rcases hd' with ⟨e, h1'⟩ | ⟨e, h1'⟩
          · simp only [List.cons.injEq, and_true] at e
            exact absurd e.2.1 (by decide)
          · simp only [List.cons.injEq, and_true] at e
            exact ⟨e.1, by rw [h1, h1', e.2.2]⟩
      have := lN M nc hL h 114 (hs.trans s6)
      rw [not_114, do_114, ← e01.1, ← e01.2] at this
      exact this
    · rcases hd with ⟨rfl, h1⟩ | ⟨rfl, h1⟩
      · rw [C_perf (by decide) hr hC (by simp)]
        refine (perf_7 _ _ _ _ _).trans ?_
        show F_X5_lift 2 (nb 0) (1 * d) M = _
        rw [Int32.one_mul, h1]
      · rw [C_perf (by decide) hr hC (by simp)]
        refine (perf_7 _ _ _ _ _).trans ?_
        show F_X5_lift 2 (nb 0) (-1 * d) M = _
        rw [Int32.neg_mul, Int32.one_mul, h1]
  · obtain rfl : xs = [nb 0] := hn
    refine ExecP.of (ch_tempo B w hI (nb 0)) (Nat.le_refl _) (by decide) (by omega) (fun c => by show (-2 : Int32) < 0; decide) (fun M nc hc hL h hs => ?_) (fun M j hj hr hC => ?_)
    · have := lN M nc hL h 101 (hs.trans s7); rw [not_101, do_101] at this; have e : nb 0 = nc 0 := (List.cons.inj hc).1; rw [← e] at this; exact this
    · rw [C_perf (by decide) hr hC (by simp)]; exact perf_8 _ _ _ _ _
  · obtain rfl : xs = [nb 0] := hn
    refine ExecP.of (ch_limit B w hI (nb 0)) (Nat.le_refl _) (by decide) (by omega) (fun c => by show (-2 : Int32) < 0; decide) (fun M nc hc hL h hs => ?_) (fun M j hj hr hC => ?_)
    · have := lN M nc hL h 108 (hs.trans s8); rw [not_108, do_108] at this; have e : nb 0 = nc 0 := (List.cons.inj hc).1; rw [← e] at this; exact this
    · rw [C_perf (by decide) hr hC (by simp)]; exact perf_9 _ _ _ _ _
  · obtain rfl : xs = [] := hn
    refine ExecP.of (ch_wave hB w hI) (Nat.le_refl _) (by decide) (by omega) (fun c => by show (-2 : Int32) < 0; decide) (fun M nc hc hL h hs => ?_) (fun M j hj hr hC => ?_)
    · have := lN M nc hL h 119 (hs.trans s9); rw [not_119, do_119] at this; exact this
    · rw [C_perf (by decide) hr hC (by simp)]; exact perf_10 _ _ _ _ _
  · obtain rfl : xs = [nb 0] := hn
    refine ExecP.of (ch_beats hB w hI (nb 0)) (Nat.le_refl _) (by decide) (by omega) (fun c => by show (-2 : Int32) < 0; decide) (fun M nc hc hL h hs => ?_) (fun M j hj hr hC => ?_)
    · have := lN M nc hL h 98 (hs.trans s10); rw [not_98, do_98] at this; have e : nb 0 = nc 0 := (List.cons.inj hc).1; rw [← e] at this; exact this
    · rw [C_perf (by decide) hr hC (by simp)]; exact perf_0 _ _ _ _ _
end EX
