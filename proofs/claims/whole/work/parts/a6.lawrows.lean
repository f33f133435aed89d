/-! THE LAW'S ROWS -/
section MYLAW
variable {p : Program} {l : Launch} {e : Env} {R : Room} {s : State} {m : MethodId} {args : Array Value} {below : List Frame} {meth : Method} {c : Code} {H : Heap} {locs : List Loc} {cells slots : Nat} {Q : State → Prop}
variable {cc cy : ByteArray} {pc : Nat} {ls : Array Slot} {rest st : List Value} {g : GP} {own : String} {nL nY a t k n idx fr lo : Nat} {M M1 M2 : Mem} {y : MethodName} {ret : Option FieldType} {As : List Value} {hh : List (Nat × Nat × Nat × Nat)}
/-- a wrapper called: it may have made one exception -/
theorem w_call {v : Int32} (X : CX g l p s m args meth c own cc nL) (hH : HR g M H) (hL : LK g s H locs) (hls : ls.size = nL) (hM : COW g l y cy nY hh fr lo As M v M1) (hy : okL y cy nY hh n) (hlk : Cond.methodLink own idx y ∈ BIG) (hn : As.length = n) (hst : st = As.reverse ++ rest)
    (hR : fr + 1 ≤ R.frames ∧ 8 + (nY + 11) + lo ≤ R.locals) (hf : cells + 1 ≤ R.cells ∧ slots + 6 ≤ R.slots) (hW : (rest.map fun v => v.category).sum ≤ 8) (hdg : decode cc pc = .ok (.invokestatic idx, 3))
    (kk : ∀ H1 locs1, HR g M1 H1 → LK g s H1 locs1 → W p l e R s m args below meth c H1 locs1 (cells + 1) (slots + 6) Q (F0 m (pc + 3) ls (.int v :: rest))) : W p l e R s m args below meth c H locs cells slots Q (F0 m pc ls st) := by
  have hts := X.2.2.2.2.1
  have hK := X.2.2.2.2.2.1
  obtain ⟨h1, h2, h3, h4, h5, h6⟩ := hy
  have hmw : mw v ≤ 1 := by unfold mw; split <;> omega
  have hG : GoodIn BIG (va_wsS own idx y (Cond.codeWith y cy nY (some .int) hh :: BIG)) := fun w hw => by
    unfold va_wsS at hw
    rcases List.mem_append.mp hw with hw | hw
    · have : w ∈ BIG := by
        rcases List.mem_cons.mp hw with e | hw
        · rw [e]; exact hlk
        · rcases List.mem_cons.mp hw with e | hw
          · rw [e]; exact h3
          · rw [List.mem_singleton.mp hw]; exact h2
      exact ⟨this, good_of_word (big_good this)⟩
    · rcases List.mem_cons.mp hw with e | h
      · rw [e]; exact ⟨h1, good_of_word (big_good h1)⟩
      · exact ⟨h, good_of_word (big_good h)⟩
  have hr : vx_Run p l e R s m args below meth c H locs cells slots (mw v) (6 * mw v) (F0 m pc ls st) rest (QcW g v M1 As.toArray) (XcW g v M1) (fun q => gN g ≤ q) :=
    vx_runSX (As := As) (rest := rest) (my_fix X) hM (vx_cwSW n hts hG rfl rfl rfl ⟨h4, h5, h6⟩ hR) ⟨my_blind, fun U hU hW1 => ⟨rfl, by rw [hU]; exact hH, hK.warm hW1⟩⟩ rfl hn hls hst (by show 2 * 0 + _ ≤ _; omega) hdg ⟨by omega, by omega⟩
  intro T hT XX
  rcases hr T hT XX with ⟨w, st₀, t, T', L, h0, X', hL2, e1, e2, ⟨v2, e3, e4, hH1, hz⟩, go⟩ | ⟨q, st₀, t, T', L, E, ce, h0, X', hL2, e1, e2, ⟨e3, -, -⟩, -⟩
  · cases e3
    cases Outcome.returned.inj e4
    obtain ⟨t2, a1, b1⟩ := W.widen (k := cells + 1) (n := slots + 6) (by omega) (by omega) (kk T'.heap (locs ++ L) (by rw [e1]; exact hH1) ⟨Nat.le_trans hL.1 (by rw [e1, ← h0]; exact hz), fun q hq => (List.mem_append.mp hq).elim (hL.2 q) (hL2 q)⟩) T' rfl X'
    exact ⟨t2, go t2 a1, b1⟩
  · cases e3
/-- the script's int -/
theorem w_arg {b L : Nat} {xs : Nat → Int32} {i j : Int32} {jj : Int} {lv : List (Nat × Value)} {p5 : Nat} (X : CX g l p s m args meth c own cc nL) (hH : HR g M H) (hX : va_X b L xs s (gH g)) (hbl : b < gN g) (hl : lv_has ls nL lv) (k0 : Nat) (h0 : lv[k0]? = some (0, .ref b)) (k5 : Nat) (h5 : lv[k5]? = some (5, .int i)) (hj : Int32.ofInt jj = j)
    (d1 : decode cc pc = .ok (.aload_n 0, 1)) (d2 : decode cc (pc + 1) = .ok (.iload 5, 2)) (d3 : decode cc (pc + 3) = .ok (.iconst jj, 1)) (d4 : decode cc (pc + 4) = .ok (.iadd, 1)) (d5 : decode cc (pc + 5) = .ok (.iaload, 1)) (hin : (i + j).toNatClampNeg = p5) (h9 : 0 ≤ i + j) (hlt : p5 < L)
    (kk : W p l e R s m args below meth c H locs cells slots Q (F0 m (pc + 6) ls (.int (xs p5) :: st))) : W p l e R s m args below meth c H locs cells slots Q (F0 m pc ls st) := by
  have hx := X.1
  have hb := X.2.1
  refine lv_aload_n hx hb d1 rfl (lv_at hl k0 h0) ?_
  refine lv_iload hx hb d2 (lv_at hl k5 h5) ?_
  refine lv_iconst hx hb d3 hj ?_
  refine lv_iadd hx hb d4 ?_
  subst hin
  obtain ⟨scr, h1, h2, h3, h4, h6⟩ := hX
  exact W.iald (v := .int (xs (i + j).toNatClampNeg)) hx hb (by rw [hH.1.1 b hbl]; exact h1) h2 h3 (by rw [h4]; intro q; rcases q with q | q; exact absurd h9 (Int32.not_le.mpr q); omega) (h6 _ hlt) rfl rfl d5 kk
end MYLAW
