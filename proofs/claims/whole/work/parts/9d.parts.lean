/-! PURE LEVEL: scripts read, ours: parts and forms -/
abbrev PR : Type := Bool × Nat × List Int32
def numS (s : Nat → Nat) (p : Nat) (xs : List Int32) : PR := if digS (s p) then (if digS (s (p + 1)) then (true, p + 2, xs ++ [nI (10 * (s p - 48) + (s (p + 1) - 48))]) else (true, p + 1, xs ++ [nI (s p - 48)])) else (false, p, xs)
def pS (s : Nat → Nat) (f p : Nat) (xs : List Int32) : PR :=
  if f = 43 then (if s p = 43 then (true, p + 1, xs ++ [1]) else if s p = 45 then (true, p + 1, xs ++ [-1]) else (false, p, xs))
  else if f = 98 then (if s p = 32 then numS s (p + 1) xs else (true, p, xs ++ [1]))
  else if f = 100 then (if digS (s p) then (true, p + 1, xs ++ [nI (s p - 48)]) else (false, p, xs))
  else if f = 107 then (if s p = 115 ∨ s p = 119 ∨ s p = 100 then (true, p + 1, xs ++ [nI (s p)]) else (false, p, xs))
  else if f = 110 then numS s p xs
  else if s p = f then (true, p + 1, xs) else (false, p, xs)
/-- what reading a part of ours may touch -/
abbrev KpP (q : Nat) (a k : Nat) : Prop := ¬ (a = 174 ∧ k = 3) ∧ ¬ (a = q ∧ k = 2) ∧ a ≠ q + 1
section PA
variable {T : TS} {q : Nat}
theorem CP.mv {M M' : Mem} {p p' : Nat} (h : CP M T p) (e : Same (fun a _ => a = 175 ∨ a = 176) M M') (er : ∀ a k, mR M' a k = mR M a k) (h3 : mI M' 174 3 = nI p') : CP M' T p' := ⟨(er 174 0).trans h.1, (er 175 0).trans h.2.1, h.2.2.1.s e, h3⟩
theorem CP.put {M : Mem} {p : Nat} (h : CP M T p) (p' : Nat) : CP (sI M 174 3 (nI p')) T p' := h.mv ((Same.sI _ _ _ _).sub fun a k p => by omega) (fun _ _ => rfl) (mI_same _ _ _ _)
theorem VR.put {M : Mem} {xs : List Int32} (h : VR M q xs) (hq : 178 ≤ q) (x : Int32) : VR (sI M 174 3 x) q xs := ⟨by rw [mI_diff _ (Or.inl (by omega))]; exact h.1, h.2.1, fun j hj => by rw [mI_diff _ (Or.inl (by omega))]; exact h.2.2 j hj⟩
/-- the result of reading a part: b whether it went well -/
def PRes (T : TS) (q : Nat) (M : Mem) (r : Option (Int32 × Mem)) (v : PR) : Prop := ∃ M', r = some (if v.1 then 1 else 0, M') ∧ CP M' T v.2.1 ∧ VR M' q v.2.2 ∧ Same (KpP q) M M' ∧ M'.2 = M.2
theorem C_takeD (hT : TB T) {M : Mem} {p : Nat} (hP : CP M T p) (hp : p < 900) : (digS (sg T p) → F_X3_takeDigit 174 M = some (nI (sg T p - 48), sI M 174 3 (nI (p + 1)))) ∧ (¬ digS (sg T p) → F_X3_takeDigit 174 M = some (-1, M)) := by
  have hs := sg_lt hT p
  unfold F_X3_takeDigit
  rw [hP.1, hP.2.2.2, C_sign hT hP.2.2.1 hP.2.1 (by omega), ob_s, nI_1, lt_v]
  refine ⟨fun ⟨h1, h2⟩ => ?_, fun h => ?_⟩
  · rw [show (48 : Int32) = nI 48 from rfl, if_neg (nI_nlt h1 (by omega)), show (57 : Int32) = nI 57 from rfl, if_pos (nI_le h2 (by omega)), nI_sub h1]
  · by_cases c : sg T p < 48
    · rw [show (48 : Int32) = nI 48 from rfl, if_pos (nI_lt c (by omega))]
    · have : 57 < sg T p := by unfold digS at h; omega
      rw [show (48 : Int32) = nI 48 from rfl, if_neg (nI_nlt (by omega) (by omega)), show (57 : Int32) = nI 57 from rfl, if_neg (nI_ge this (by omega))]
theorem C_take (hT : TB T) {M : Mem} {p c : Nat} (hP : CP M T p) (hp : p < 900) (hc : c < 128) : F_X3_take 174 (nI c) M = if sg T p = c then some (1, sI M 174 3 (nI (p + 1))) else some (0, M) := by
  have hs := sg_lt hT p
  unfold F_X3_take
  rw [hP.1, hP.2.2.2, C_sign hT hP.2.2.1 hP.2.1 (by omega), ob_s, nI_1, lt_v]
  by_cases z : sg T p = c
  · rw [if_pos (congrArg nI z), if_pos z]
  · rw [if_neg (fun y => z ((nI_eq (by omega) (by omega)).mp y)), if_neg z]
theorem C_num (hT : TB T) {M : Mem} {p : Nat} {xs : List Int32} (hP : CP M T p) (hp : p < 800) (hV : VR M q xs) (hq : 178 ≤ q) (hl : xs.length < 4) : PRes T q M (F_X3_readNumber 174 q M) (numS (sg T) p xs) := by
  have hs := sg_lt hT p
  obtain ⟨t1, t2⟩ := C_takeD hT hP (by omega)
  unfold F_X3_readNumber numS
  rcases digS_or (sg T p) with d | d
  · have hP1 := hP.put (p + 1)
    have hV1 := hV.put hq (nI (p + 1))
    have e1 := Same.sI M 174 3 (nI (p + 1))
    obtain ⟨u1, u2⟩ := C_takeD hT hP1 (by omega)
    rw [t1 d, b1_s, if_neg (nI_nneg (by omega)).1, if_pos d]
    rcases digS_or (sg T (p + 1)) with d2 | d2
    · have hs2 := sg_lt hT (p + 1)
      have e2 := Same.sI (sI M 174 3 (nI (p + 1))) 174 3 (nI (p + 1 + 1))
      obtain ⟨M', g1, g2, g3, g4⟩ := C_put (hV1.put hq (nI (p + 1 + 1))) hl (nI (10 * (sg T p - 48) + (sg T (p + 1) - 48)))
      refine ⟨M', ?_, ?_, ?_, ?_, by rw [g4]; rfl⟩
      · rw [u1 d2, b1_s, if_neg (nI_nneg (by omega)).1, if_pos d2, show (10 : Int32) = nI 10 from rfl, nI_mul, nI_add, g1, b1_s]; rfl
      · rw [if_pos d2]
        exact (hP1.put (p + 1 + 1)).mv (g3.sub fun a k p => by omega) (fun a k => by unfold mR; rw [g4]) ((g3 174 3 (by omega)).1.trans (mI_same _ _ _ _))
      · rw [if_pos d2]; exact g2
      · exact ((e1.sub fun a k p => by omega).trans (e2.sub fun a k p => by omega)).trans (g3.sub fun a k p => by omega)
    · obtain ⟨M', g1, g2, g3, g4⟩ := C_put hV1 hl (nI (sg T p - 48))
      refine ⟨M', ?_, ?_, ?_, ?_, by rw [g4]; rfl⟩
      · rw [u2 d2, b1_s, if_pos rfl, if_neg d2, g1, b1_s]; rfl
      · rw [if_neg d2]
        exact hP1.mv (g3.sub fun a k p => by omega) (fun a k => by unfold mR; rw [g4]) ((g3 174 3 (by omega)).1.trans (mI_same _ _ _ _))
      · rw [if_neg d2]; exact g2
      · exact (e1.sub fun a k p => by omega).trans (g3.sub fun a k p => by omega)
  · rw [t2 d, b1_s, if_pos rfl, if_neg d]
    exact ⟨M, rfl, hP, hV, Same.refl _ _, rfl⟩
theorem PRes.z {M : Mem} {r : Option (Int32 × Mem)} {v : PR} (h : PRes T q M r v) : PRes T q M (b1 r (fun v3 M4 => chk (nokZ v3) (some (v3, M4)))) v := by
  obtain ⟨M', h1, h2⟩ := h
  refine ⟨M', ?_, h2⟩
  rw [h1, b1_s]
  by_cases c : v.1 = true
  · rw [if_pos c]; rfl
  · rw [if_neg c]; rfl
theorem C_takeP (hT : TB T) {M : Mem} {p c : Nat} {xs : List Int32} (hP : CP M T p) (hp : p < 800) (hV : VR M q xs) (hq : 178 ≤ q) (hc : c < 128) : PRes T q M (F_X3_take 174 (nI c) M) (if sg T p = c then (true, p + 1, xs) else (false, p, xs)) := by
  rw [C_take hT hP (by omega) hc]
  by_cases z : sg T p = c
  · rw [if_pos z, if_pos z]
    exact ⟨_, rfl, hP.put _, hV.put hq _, (Same.sI _ _ _ _).sub fun a k p => by omega, rfl⟩
  · rw [if_neg z, if_neg z]
    exact ⟨M, rfl, hP, hV, Same.refl _ _, rfl⟩
/-- a value put, and a sign taken -/
theorem C_putTake {M : Mem} {p : Nat} {xs : List Int32} (hP : CP M T p) (hV : VR M q xs) (hq : 178 ≤ q) (hl : xs.length < 4) (x : Int32) : ∃ M', b1 (F_X1_put q x M) (fun u8 M9 => lt (sI M9 174 3 ((mI M9 174 3) + 1)) (fun (M10 : Mem) => some ((1 : Int32), M10))) = some (1, M') ∧ CP M' T (p + 1) ∧ VR M' q (xs ++ [x]) ∧ Same (KpP q) M M' ∧ M'.2 = M.2 := by
  obtain ⟨M', g1, g2, g3, g4⟩ := C_put hV hl x
  have h3 : mI M' 174 3 = nI p := (g3 174 3 (by omega)).1.trans hP.2.2.2
  refine ⟨sI M' 174 3 (nI (p + 1)), ?_, (hP.mv (p' := p) (g3.sub fun a k p => by omega) (fun a k => by unfold mR; rw [g4]) h3).put (p + 1), g2.put hq _, (g3.sub fun a k p => by omega).trans ((Same.sI _ _ _ _).sub fun a k p => by omega), g4⟩
  rw [g1, b1_s, h3, nI_1, lt_v]
theorem C_sgnP (hT : TB T) {M : Mem} {p : Nat} {xs : List Int32} (hP : CP M T p) (hp : p < 800) (hV : VR M q xs) (hq : 178 ≤ q) (hl : xs.length < 4) : PRes T q M (F_X3_readSign 174 q M) (if sg T p = 43 then (true, p + 1, xs ++ [1]) else if sg T p = 45 then (true, p + 1, xs ++ [-1]) else (false, p, xs)) := by
  have hs := sg_lt hT p
  unfold F_X3_readSign
  rw [hP.1, hP.2.2.2, C_sign hT hP.2.2.1 hP.2.1 (by omega), ob_s]
  by_cases z : sg T p = 43
  · obtain ⟨M', g1, g2⟩ := C_putTake hP hV hq hl 1
    rw [z, if_pos (show nI 43 = 43 from rfl), if_pos (show nI 43 = 43 from rfl), if_pos rfl]
    exact ⟨M', g1, g2⟩
  · have z' : ¬ nI (sg T p) = 43 := fun y => z ((nI_eq (b := 43) (by omega) (by omega)).mp y)
    rw [if_neg z', if_neg z]
    by_cases z2 : sg T p = 45
    · obtain ⟨M', g1, g2⟩ := C_putTake hP hV hq hl (-1)
      rw [if_pos (show nI (sg T p) = 45 by rw [z2]; rfl), if_neg z', if_pos z2]
      exact ⟨M', g1, g2⟩
    · rw [if_neg (show ¬ nI (sg T p) = 45 from fun y => z2 ((nI_eq (b := 45) (by omega) (by omega)).mp y)), if_neg z2]
      exact ⟨M, rfl, hP, hV, Same.refl _ _, rfl⟩
theorem kind_s (x : Nat) (hx : x < 127) : (x = 115 ∨ x = 119 ∨ x = 100 → ∃ k, k < 3 ∧ F_X8_kindIndex (nI x) = some (nI k)) ∧ (¬ (x = 115 ∨ x = 119 ∨ x = 100) → F_X8_kindIndex (nI x) = some (-1)) := by
  refine ⟨fun h => ?_, fun h => ?_⟩
  · rcases h with rfl | rfl | rfl
    · exact ⟨0, by decide, C_kind (k := 0) (by decide)⟩
    · exact ⟨1, by decide, C_kind (k := 1) (by decide)⟩
    · exact ⟨2, by decide, C_kind (k := 2) (by decide)⟩
  · unfold F_X8_kindIndex
    rw [if_neg (show ¬ nI x = 100 from fun y => h (Or.inr (Or.inr ((nI_eq (b := 100) (by omega) (by omega)).mp y)))), if_neg (show ¬ nI x = 115 from fun y => h (Or.inl ((nI_eq (b := 115) (by omega) (by omega)).mp y))), if_neg (show ¬ nI x = 119 from fun y => h (Or.inr (Or.inl ((nI_eq (b := 119) (by omega) (by omega)).mp y))))]
theorem C_kindP (hT : TB T) {M : Mem} {p : Nat} {xs : List Int32} (hP : CP M T p) (hp : p < 800) (hV : VR M q xs) (hq : 178 ≤ q) (hl : xs.length < 4) : PRes T q M (F_X3_readKind 174 q M) (if sg T p = 115 ∨ sg T p = 119 ∨ sg T p = 100 then (true, p + 1, xs ++ [nI (sg T p)]) else (false, p, xs)) := by
  have hs := sg_lt hT p
  obtain ⟨k1, k2⟩ := kind_s (sg T p) hs
  unfold F_X3_readKind
  rw [hP.1, hP.2.2.2, C_sign hT hP.2.2.1 hP.2.1 (by omega), ob_s]
  by_cases z : sg T p = 115 ∨ sg T p = 119 ∨ sg T p = 100
  · obtain ⟨k, hk, e⟩ := k1 z
    obtain ⟨M', g1, g2⟩ := C_putTake hP hV hq hl (nI (sg T p))
    rw [e, ob_s, if_pos (nI_pos' (by omega)), if_pos z]
    exact ⟨M', g1, g2⟩
  · rw [k2 z, ob_s, if_neg (by decide), if_neg z]
    exact ⟨M, rfl, hP, hV, Same.refl _ _, rfl⟩
theorem C_digP (hT : TB T) {M : Mem} {p : Nat} {xs : List Int32} (hP : CP M T p) (hp : p < 800) (hV : VR M q xs) (hq : 178 ≤ q) (hl : xs.length < 4) : PRes T q M (F_X3_readDigit 174 q M) (if digS (sg T p) then (true, p + 1, xs ++ [nI (sg T p - 48)]) else (false, p, xs)) := by
  have hs := sg_lt hT p
  obtain ⟨t1, t2⟩ := C_takeD hT hP (by omega)
  unfold F_X3_readDigit
  rcases digS_or (sg T p) with d | d
  · obtain ⟨M', g1, g2, g3, g4⟩ := C_put (hV.put hq (nI (p + 1))) hl (nI (sg T p - 48))
    rw [t1 d, b1_s, if_neg (nI_nneg (by omega)).1, if_pos d, g1, b1_s]
    exact ⟨M', rfl, (hP.put (p + 1)).mv (g3.sub fun a k p => by omega) (fun a k => by unfold mR; rw [g4]) ((g3 174 3 (by omega)).1.trans (mI_same _ _ _ _)), g2, ((Same.sI _ _ _ _).sub fun a k p => by omega).trans (g3.sub fun a k p => by omega), by rw [g4]; rfl⟩
  · rw [t2 d, b1_s, if_pos rfl, if_neg d]
    exact ⟨M, rfl, hP, hV, Same.refl _ _, rfl⟩
theorem C_part (hT : TB T) {M : Mem} {p f : Nat} {xs : List Int32} (hP : CP M T p) (hp : p < 700) (hV : VR M q xs) (hq : 178 ≤ q) (hf : f < 128) (hl : xs.length < 4 ∨ (f ≠ 43 ∧ f ≠ 98 ∧ f ≠ 100 ∧ f ≠ 107 ∧ f ≠ 110)) : PRes T q M (F_X3_readPart 174 q (nI f) M) (pS (sg T) f p xs) := by
  unfold F_X3_readPart pS
  have ne : ∀ c : Nat, c < 128 → f ≠ c → ¬ nI f = nI c := fun c hc h y => h ((nI_eq (by omega) (by omega)).mp y)
  by_cases f1 : f = 43
  · rw [if_pos (show nI f = 43 by rw [f1]; rfl), if_pos f1]
    exact (C_sgnP hT hP (by omega) hV hq (by omega)).z
  rw [if_neg (show ¬ nI f = 43 from ne 43 (by decide) f1), if_neg f1]
  by_cases f2 : f = 98
  · rw [if_pos (show nI f = 98 by rw [f2]; rfl), if_pos f2, show (32 : Int32) = nI 32 from rfl, C_take hT hP (by omega) (by omega)]
    by_cases z : sg T p = 32
    · rw [if_pos z, if_pos z, b1_s, if_neg (by decide)]
      obtain ⟨M', h1, h2, h3, h4, h5⟩ := (C_num hT (hP.put (p + 1)) (by omega) (hV.put hq (nI (p + 1))) hq (by omega)).z
      exact ⟨M', h1, h2, h3, ((Same.sI _ _ _ _).sub fun a k p => by omega).trans h4, h5⟩
    · rw [if_neg z, if_neg z, b1_s, if_pos rfl]
      obtain ⟨M', g1, g2, g3, g4⟩ := C_put hV (by omega) 1
      rw [g1, b1_s]
      exact ⟨M', rfl, hP.mv (g3.sub fun a k p => by omega) (fun a k => by unfold mR; rw [g4]) ((g3 174 3 (by omega)).1.trans hP.2.2.2), g2, g3.sub fun a k p => by omega, g4⟩
  rw [if_neg (show ¬ nI f = 98 from ne 98 (by decide) f2), if_neg f2]
  by_cases f3 : f = 100
  · rw [if_pos (show nI f = 100 by rw [f3]; rfl), if_pos f3]
    exact (C_digP hT hP (by omega) hV hq (by omega)).z
  rw [if_neg (show ¬ nI f = 100 from ne 100 (by decide) f3), if_neg f3]
  by_cases f4 : f = 107
  · rw [if_pos (show nI f = 107 by rw [f4]; rfl), if_pos f4]
    exact (C_kindP hT hP (by omega) hV hq (by omega)).z
  rw [if_neg (show ¬ nI f = 107 from ne 107 (by decide) f4), if_neg f4]
  by_cases f5 : f = 110
  · rw [if_pos (show nI f = 110 by rw [f5]; rfl), if_pos f5]
    exact (C_num hT hP (by omega) hV hq (by omega)).z
  rw [if_neg (show ¬ nI f = 110 from ne 110 (by decide) f5), if_neg f5]
  exact (C_takeP hT hP (by omega) hV hq hf).z
end PA
