/-! the enum's constants, its texts, the switch's table: rows -/
section MYK
variable {p : Program} {l : Launch} {e : Env} {R : Room} {s : State} {m : MethodId} {args : Array Value} {below : List Frame} {meth : Method} {c : Code} {H : Heap} {locs : List Loc} {cells slots : Nat} {Q : State → Prop}
variable {cc cy : ByteArray} {pc : Nat} {ls : Array Slot} {rest st : List Value} {g : GP} {own : String} {nL nY t n idx fr lo : Nat} {M M1 : Mem} {y : MethodName} {ret : Option FieldType} {As : List Value}
theorem inb_lt {i : Int32} {n : Nat} (h : inb i n = true) : i.toNatClampNeg < n := Nat.not_le.mp fun q => inb_in h (Or.inr q)
theorem my_kv (X : CX g l p s m args meth c own cc nL) : KV g s := X.2.2.2.2.2.1.2.2.2.2.2.2.2.1
theorem my_at (X : CX g l p s m args meth c own cc nL) (q : Nat) (h1 : q < (gH g).size) (_ : ¬ gN g ≤ q) : s.heap[q]? = (gH g)[q]? := X.2.2.2.2.2.2.2.2 q h1
theorem m_kS {C n d : String} {v : Value} (X : CX g l p s m args meth c own cc nL) (hH : HR g M H) (hL : LK g s H locs) (hZ : va_Z C n d v (fun q => gN g ≤ q) s (gH g)) (hlk : Cond.fieldLink own idx C n d ∈ BIG) (hdg : decode cc pc = .ok (.getstatic idx, 3))
    (kk : W p l e R s m args below meth c H locs cells slots Q (F0 m (pc + 3) ls (v :: rest))) : W p l e R s m args below meth c H locs cells slots Q (F0 m pc ls rest) :=
  va_gets X.1 X.2.1 (hZ.kept (my_at X)) (my_sz X hH hL) X.2.2.2.1 (X.2.2.2.2.1 _ hlk) (fun _ h => h) hdg kk
theorem m_kVerbs (X : CX g l p s m args meth c own cc nL) (hH : HR g M H) (hL : LK g s H locs) (hO : own = "ScoreOrchestra$Script") (hdg : decode cc pc = .ok (.getstatic 47, 3))
    (kk : W p l e R s m args below meth c H locs cells slots Q (F0 m (pc + 3) ls (.ref (gV g 50) :: rest))) : W p l e R s m args below meth c H locs cells slots Q (F0 m pc ls rest) := by
  subst hO
  exact va_getsN X.1 X.2.1 ((my_kv X).1.kept (my_at X)) (my_sz X hH hL) X.2.2.2.1 (va_Nw.use rfl X.2.2.2.2.2.1.2.2.2.2.2.2.2.2.1) (fun _ h => h) hdg kk
theorem m_kF {o n d : String} {v : Value} {q : Nat} (X : CX g l p s m args meth c own cc nL) (hH : HR g M H) (hL : LK g s H locs) (hE : va_OF o n d v q (fun q => gN g ≤ q) s (gH g)) (hlk : Cond.fieldLink own idx o n d ∈ BIG) (hdg : decode cc pc = .ok (.getfield idx, 3))
    (kk : W p l e R s m args below meth c H locs cells slots Q (F0 m (pc + 3) ls (v :: rest))) : W p l e R s m args below meth c H locs cells slots Q (F0 m pc ls (.ref q :: rest)) :=
  vk_getf X.1 X.2.1 (hE.kept (my_at X)) (my_sz X hH hL) X.2.2.2.1 (X.2.2.2.2.1 _ hlk) (fun _ h => h) hdg kk
theorem m_kLen {ty : FieldType} {t N : Nat} {f : Nat → Value} {v : Int32} (X : CX g l p s m args meth c own cc nL) (hH : HR g M H) (hL : LK g s H locs) (hT : va_T ty t N f (fun q => gN g ≤ q) s (gH g)) (hv : Int32.ofNat N = v) (hdg : decode cc pc = .ok (.arraylength, 1))
    (kk : W p l e R s m args below meth c H locs cells slots Q (F0 m (pc + 1) ls (.int v :: rest))) : W p l e R s m args below meth c H locs cells slots Q (F0 m pc ls (.ref t :: rest)) :=
  va_tlen X.1 X.2.1 (hT.kept (my_at X)) (my_sz X hH hL) hv hdg kk
theorem m_kVerb {i : Int32} (X : CX g l p s m args meth c own cc nL) (hH : HR g M H) (hL : LK g s H locs) (hin : inb i 11 = true) (hdg : decode cc pc = .ok (.aaload, 1))
    (kk : W p l e R s m args below meth c H locs cells slots Q (F0 m (pc + 1) ls (.ref (gV g i.toNatClampNeg) :: rest))) : W p l e R s m args below meth c H locs cells slots Q (F0 m pc ls (.int i :: .ref (gV g 50) :: rest)) :=
  vb_tq X.1 X.2.1 ((my_kv X).2.1.kept (my_at X)) (my_sz X hH hL) (inb_in hin) rfl hdg kk
theorem m_kSw {i : Int32} (X : CX g l p s m args meth c own cc nL) (hH : HR g M H) (hL : LK g s H locs) (hin : inb i 11 = true) (hdg : decode cc pc = .ok (.iaload, 1))
    (kk : W p l e R s m args below meth c H locs cells slots Q (F0 m (pc + 1) ls (.int (swv i.toNatClampNeg) :: rest))) : W p l e R s m args below meth c H locs cells slots Q (F0 m pc ls (.int i :: .ref (gV g 51) :: rest)) :=
  va_ti X.1 X.2.1 ((my_kv X).2.2.2.1.kept (my_at X)) (my_sz X hH hL) (inb_in hin) rfl hdg kk
theorem kv_word {s : State} (K : KV g s) {i : Nat} (hi : i < 11) : va_OF "ScoreOrchestra$Verb" "word" "Ljava/lang/String;" (.ref (gV g (100 + 2 * i))) (gV g i) (fun q => gN g ≤ q) s (gH g) := (K.2.2.2.2.2.1 i hi).2.1
theorem kv_form {s : State} (K : KV g s) {i : Nat} (hi : i < 11) : va_OF "ScoreOrchestra$Verb" "form" "Ljava/lang/String;" (.ref (gV g (100 + (2 * i + 1)))) (gV g i) (fun q => gN g ≤ q) s (gH g) := (K.2.2.2.2.2.1 i hi).2.2.1
theorem kv_ord {s : State} (K : KV g s) {i : Nat} (hi : i < 11) : va_OF "java/lang/Enum" "ordinal" "I" (.int (nI i)) (gV g i) (fun q => gN g ≤ q) s (gH g) := (K.2.2.2.2.2.1 i hi).2.2.2
theorem kv_verb {s : State} (K : KV g s) {i : Nat} (hi : i < 11) : va_O "ScoreOrchestra$Verb" (gV g i) (fun q => gN g ≤ q) s (gH g) := (K.2.2.2.2.2.1 i hi).1
theorem kv_str {s : State} (K : KV g s) {j : Nat} (hj : j < 22) : va_O "java/lang/String" (gV g (100 + j)) (fun q => gN g ≤ q) s (gH g) := (K.2.2.2.2.2.2.1 j hj).1
theorem kv_value {s : State} (K : KV g s) {j : Nat} (hj : j < 22) : va_OF "java/lang/String" "value" "[B" (.ref (gV g (200 + j))) (gV g (100 + j)) (fun q => gN g ≤ q) s (gH g) := (K.2.2.2.2.2.2.1 j hj).2.1
theorem kv_coder {s : State} (K : KV g s) {j : Nat} (hj : j < 22) : va_OF "java/lang/String" "coder" "B" (.int 0) (gV g (100 + j)) (fun q => gN g ≤ q) s (gH g) := (K.2.2.2.2.2.2.1 j hj).2.2.1
theorem kv_bytes {s : State} (K : KV g s) {j : Nat} (hj : j < 22) : va_T .byte (gV g (200 + j)) (sLen j) (fun k => .int (sAt j k)) (fun q => gN g ≤ q) s (gH g) := (K.2.2.2.2.2.2.1 j hj).2.2.2
theorem q_vb {r : Nat} (h : 1 ≤ r ∧ r ≤ 11) : r - 1 < 11 := by omega
theorem kv_w {i : Nat} (h : i < 11) : 2 * i < 22 := by omega
theorem kv_f {i : Nat} (h : i < 11) : 2 * i + 1 < 22 := by omega
theorem m_kByte {j : Nat} {i : Int32} (X : CX g l p s m args meth c own cc nL) (hH : HR g M H) (hL : LK g s H locs) (hj : j < 22) (hin : inb i (sLen j) = true) (hdg : decode cc pc = .ok (.baload, 1))
    (kk : W p l e R s m args below meth c H locs cells slots Q (F0 m (pc + 1) ls (.int (sAt j i.toNatClampNeg) :: rest))) : W p l e R s m args below meth c H locs cells slots Q (F0 m pc ls (.int i :: .ref (gV g (200 + j)) :: rest)) :=
  va_tb X.1 X.2.1 ((kv_bytes (my_kv X) hj).kept (my_at X)) (my_sz X hH hL) (inb_in hin) rfl hdg kk
theorem my_recK {C : String} {b : Nat} (X : CX g l p s m args meth c own cc nL) (hH : HR g M H) (hO : va_O C b (fun q => gN g ≤ q) s (gH g)) : ∃ cellB : Cell, H[b]? = some cellB ∧ cellB.vm.isStatics = false ∧ s.vm.findClass C = some cellB.cls := by
  obtain ⟨cell, h1, h2, h3, h4⟩ := hO
  exact ⟨cell, by rw [hH.1.1 b (Nat.lt_of_not_le h4)]; exact h1, h2, h3⟩
theorem my_runK {τ : Type} {rv : τ → Option Value} {o : τ ⊕ String} {C : String} {b : Nat} (X : CX g l p s m args meth c own cc nL) (hH : HR g M H) (hL : LK g s H locs) (hls : ls.size = nL) (hO : va_O C b (fun q => gN g ≤ q) s (gH g)) (hM : CO g l y cy nY ret fr lo rv (.ref b :: As) M o M1) (hy : okV y cy nY ret n) (hlk : Cond.methodLink own idx y ∈ BIG) (hcl : y.cls = C) (hn : As.length = n) (hst : st = As.reverse ++ .ref b :: rest)
    (hR : fr + 1 ≤ R.frames ∧ 8 + (nY + 11) + lo ≤ R.locals) (hf : cells + mcO o ≤ R.cells ∧ slots + msO o ≤ R.slots) (hW : (rest.map fun v => v.category).sum ≤ 8) (hdg : decode cc pc = .ok (.invokevirtual idx, 3)) :
    vx_Run p l e R s m args below meth c H locs cells slots (mcO o) (msO o) (F0 m pc ls st) rest (QcO g rv o M1 (Value.ref b :: As).toArray) (XcO g o M1) (fun q => gN g ≤ q) := by
  have hrc := my_recK X hH hO
  have hts := X.2.2.2.2.1
  refine vx_runV (C := C) (As := As) (rest := rest) (my_fix X) hM ⟨my_cwB X hy.1 hlk hR, hts _ hy.2.1, ?_⟩ ⟨my_blind, hrc, fun U hU hW1 => ⟨rfl, by rw [hU]; exact hH, X.2.2.2.2.2.1.warm hW1⟩⟩ rfl hn hls hst (by show 2 * 0 + _ ≤ _; omega) hdg hf
  have h9 := hts _ hy.2.2
  rw [hcl] at h9
  exact h9
def okOrd : Prop := Cond.code yJx29ce0_ordinal_8abf5 cJx29ce0_ordinal_8abf5 1 (some .int) ∈ BIG ∧ Cond.initialized "java/lang/Enum" ∈ BIG ∧ Cond.instanceMethod yJx29ce0_ordinal_8abf5 ∈ BIG ∧ Cond.selects "ScoreOrchestra$Verb" ⟨"ScoreOrchestra$Verb", "ordinal", "()I"⟩ yJx29ce0_ordinal_8abf5 ∈ BIG ∧ Cond.sameMethod "ScoreOrchestra$Verb" "java/lang/Enum" "ordinal" "()I" ∈ BIG ∧ Cond.declares ⟨"java/lang/Enum", "ordinal", "()I"⟩ ∈ FACE
theorem my_runOrdO {τ : Type} {rv : τ → Option Value} {o : τ ⊕ String} {b : Nat} (okO : okOrd) (X : CX g l p s m args meth c own cc nL) (hH : HR g M H) (hls : ls.size = nL) (hO : va_O "ScoreOrchestra$Verb" b (fun q => gN g ≤ q) s (gH g)) (hM : CO g l yJx29ce0_ordinal_8abf5 cJx29ce0_ordinal_8abf5 1 (some .int) fr lo rv [.ref b] M o M1) (hlk : Cond.methodLink own idx ⟨"ScoreOrchestra$Verb", "ordinal", "()I"⟩ ∈ BIG)
    (hR : fr + 1 ≤ R.frames ∧ 8 + (1 + 11) + lo ≤ R.locals) (hf : cells + mcO o ≤ R.cells ∧ slots + msO o ≤ R.slots) (hW : (rest.map fun v => v.category).sum ≤ 8) (hdg : decode cc pc = .ok (.invokevirtual idx, 3)) :
    vx_Run p l e R s m args below meth c H locs cells slots (mcO o) (msO o) (F0 m pc ls (.ref b :: rest)) rest (QcO g rv o M1 [Value.ref b].toArray) (XcO g o M1) (fun q => gN g ≤ q) := by
  have hrc := my_recK X hH hO
  have hts := X.2.2.2.2.1
  obtain ⟨h1, h2, h3, h4, h5, h6⟩ := okO
  have hgood : ∀ w ∈ va_wsU own idx "ScoreOrchestra$Verb" "java/lang/Enum" ⟨"ScoreOrchestra$Verb", "ordinal", "()I"⟩ yJx29ce0_ordinal_8abf5 (.code yJx29ce0_ordinal_8abf5 cJx29ce0_ordinal_8abf5 1 (some .int) :: BIG), w ∈ BIG := by
    intro w hw
    unfold va_wsU at hw
    simp only [List.mem_append, List.mem_cons, List.not_mem_nil, or_false] at hw
    rcases hw with (rfl | rfl | rfl | rfl | rfl) | rfl | hw
    · exact hlk
    · exact h5
    · exact h4
    · exact h3
    · exact h2
    · exact h1
    · exact hw
  refine vx_runU (C := "ScoreOrchestra$Verb") (owner := "java/lang/Enum") (x := ⟨"ScoreOrchestra$Verb", "ordinal", "()I"⟩) (As := []) (rest := rest) (n := 0) (my_fix X) hM
    (va_cwA 0 hts (fun w hw => ⟨hgood w hw, good_of_word (big_good (hgood w hw))⟩) rfl rfl rfl (X.2.2.2.2.2.1.2.2.2.2.1 _ h6) ⟨by decide, by decide, by decide +kernel⟩ hR)
    ⟨my_blind, hrc, fun U hU hW1 => ⟨rfl, by rw [hU]; exact hH, X.2.2.2.2.2.1.warm hW1⟩⟩ rfl rfl hls rfl (by show 2 * 0 + _ ≤ _; omega) hdg hf
end MYK
