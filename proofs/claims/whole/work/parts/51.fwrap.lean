def F_L_addSection (q1_ : Nat) (p2_ : Int32) (p3_ : Int32) (p4_ : Int32) (q5_ : Nat) (M : Mem) : Option (Int32 × Mem) :=
  bw (F_X8_addSection q1_ p2_ p3_ p4_ M) (fun v2 M3 =>
  chk (inb 0 1) (
    lt (sJ M3 q5_ 0 (v2.toInt64)) (fun (M6 : Mem) =>
    some (0, M6))))
  (fun E4 M3 => if E4 = "java/lang/IllegalArgumentException" then some (1, M3) else if E4 = "java/lang/IllegalStateException" then some (2, M3) else none)
def F_L_removeSection (q1_ : Nat) (p2_ : Int32) (q3_ : Nat) (M : Mem) : Option (Int32 × Mem) :=
  bw (F_X8_removeSection q1_ p2_ M) (fun v2 M3 =>
  chk (inb 0 1) (
    lt (sJ M3 q3_ 0 (v2.toInt64)) (fun (M6 : Mem) =>
    some (0, M6))))
  (fun E4 M3 => if E4 = "java/lang/IndexOutOfBoundsException" then some (1, M3) else none)
def F_L_setNote (q1_ : Nat) (p2_ : Int32) (p3_ : Int32) (p4_ : Int32) (p5_ : Int32) (q6_ : Nat) (M : Mem) : Option (Int32 × Mem) :=
  bw (F_X8_setNote q1_ p2_ p3_ p4_ p5_ M) (fun v2 M3 =>
  chk (inb 0 1) (
    lt (sJ M3 q6_ 0 (v2.toInt64)) (fun (M6 : Mem) =>
    some (0, M6))))
  (fun E4 M3 => if E4 = "java/lang/IndexOutOfBoundsException" then some (1, M3) else if E4 = "java/lang/IllegalArgumentException" then some (2, M3) else none)
def F_L_setMasked (q1_ : Nat) (p2_ : Int32) (p3_ : Int32) (p4_ : Int32) (q5_ : Nat) (M : Mem) : Option (Int32 × Mem) :=
  bw (F_X8_setMasked q1_ p2_ p3_ p4_ M) (fun v2 M3 =>
  if v2 = 0 then
      chk (inb 0 1) (
      lt (sJ M3 q5_ 0 0) (fun (M7 : Mem) =>
      some (0, M7)))
    else
      chk (inb 0 1) (
      lt (sJ M3 q5_ 0 1) (fun (M9 : Mem) =>
      some (0, M9))))
  (fun E4 M3 => if E4 = "java/lang/IndexOutOfBoundsException" then some (1, M3) else if E4 = "java/lang/IllegalArgumentException" then some (2, M3) else none)
def F_L_transpose (q1_ : Nat) (p2_ : Int32) (q3_ : Nat) (M : Mem) : Option (Int32 × Mem) :=
  bw (F_X8_transpose q1_ p2_ M) (fun v2 M3 =>
  chk (inb 0 1) (
    lt (sJ M3 q3_ 0 (v2.toInt64)) (fun (M6 : Mem) =>
    some (0, M6))))
  (fun E4 M3 => if E4 = "java/lang/IndexOutOfBoundsException" then some (1, M3) else none)
def F_L_reverse (q1_ : Nat) (p2_ : Int32) (q3_ : Nat) (M : Mem) : Option (Int32 × Mem) :=
  bw (F_X8_reverse q1_ p2_ M) (fun v2 M3 =>
  chk (inb 0 1) (
    lt (sJ M3 q3_ 0 (v2.toInt64)) (fun (M6 : Mem) =>
    some (0, M6))))
  (fun E4 M3 => if E4 = "java/lang/IndexOutOfBoundsException" then some (1, M3) else none)
def F_L_raise (q1_ : Nat) (p2_ : Int32) (p3_ : Int32) (q4_ : Nat) (M : Mem) : Option (Int32 × Mem) :=
  bw (F_X8_raise q1_ p2_ p3_ M) (fun v2 M3 =>
  chk (inb 0 1) (
    lt (sJ M3 q4_ 0 (v2.toInt64)) (fun (M6 : Mem) =>
    some (0, M6))))
  (fun E4 M3 => if E4 = "java/lang/IndexOutOfBoundsException" then some (1, M3) else if E4 = "java/lang/IllegalArgumentException" then some (2, M3) else if E4 = "java/lang/UnsupportedOperationException" then some (3, M3) else none)
def F_L_setTempo (q1_ : Nat) (p2_ : Int32) (q3_ : Nat) (M : Mem) : Option (Int32 × Mem) :=
  bw (F_X8_setTempo q1_ p2_ M) (fun v2 M3 =>
  chk (inb 0 1) (
    lt (sJ M3 q3_ 0 (v2.toInt64)) (fun (M6 : Mem) =>
    some (0, M6))))
  (fun E4 M3 => if E4 = "java/lang/IllegalArgumentException" then some (1, M3) else none)
def F_L_setLimit (q1_ : Nat) (p2_ : Int32) (q3_ : Nat) (M : Mem) : Option (Int32 × Mem) :=
  bw (F_X8_setLimit q1_ p2_ M) (fun v2 M3 =>
  chk (inb 0 1) (
    lt (sJ M3 q3_ 0 (v2.toInt64)) (fun (M6 : Mem) =>
    some (0, M6))))
  (fun E4 M3 => if E4 = "java/lang/IllegalArgumentException" then some (1, M3) else none)
def F_L_conductBeats (q1_ : Nat) (p2_ : Int32) (q3_ : Nat) (M : Mem) : Option (Int32 × Mem) :=
  bw (F_X8_conductBeats q1_ p2_ M) (fun v2 M3 =>
  chk (inb 0 1) (
    lt (sJ M3 q3_ 0 (v2.toInt64)) (fun (M6 : Mem) =>
    some (0, M6))))
  (fun E4 M3 => if E4 = "java/lang/IllegalArgumentException" then some (1, M3) else none)
def F_L_kind (q1_ : Nat) (p2_ : Int32) (q3_ : Nat) (M : Mem) : Option (Int32 × Mem) :=
  bw (F_X8_kind q1_ p2_ M) (fun v2 M3 =>
  chk (inb 0 1) (
    lt (sJ M3 q3_ 0 (v2.toInt64)) (fun (M6 : Mem) =>
    some (0, M6))))
  (fun E4 M3 => if E4 = "java/lang/IndexOutOfBoundsException" then some (1, M3) else none)
def F_L_rows (q1_ : Nat) (p2_ : Int32) (q3_ : Nat) (M : Mem) : Option (Int32 × Mem) :=
  bw (F_X8_rows q1_ p2_ M) (fun v2 M3 =>
  chk (inb 0 1) (
    lt (sJ M3 q3_ 0 (v2.toInt64)) (fun (M6 : Mem) =>
    some (0, M6))))
  (fun E4 M3 => if E4 = "java/lang/IndexOutOfBoundsException" then some (1, M3) else none)
def F_L_columns (q1_ : Nat) (p2_ : Int32) (q3_ : Nat) (M : Mem) : Option (Int32 × Mem) :=
  bw (F_X8_columns q1_ p2_ M) (fun v2 M3 =>
  chk (inb 0 1) (
    lt (sJ M3 q3_ 0 (v2.toInt64)) (fun (M6 : Mem) =>
    some (0, M6))))
  (fun E4 M3 => if E4 = "java/lang/IndexOutOfBoundsException" then some (1, M3) else none)
def F_L_note (q1_ : Nat) (p2_ : Int32) (p3_ : Int32) (p4_ : Int32) (q5_ : Nat) (M : Mem) : Option (Int32 × Mem) :=
  bw (F_X8_note q1_ p2_ p3_ p4_ M) (fun v2 M3 =>
  chk (inb 0 1) (
    lt (sJ M3 q5_ 0 (v2.toInt64)) (fun (M6 : Mem) =>
    some (0, M6))))
  (fun E4 M3 => if E4 = "java/lang/IndexOutOfBoundsException" then some (1, M3) else none)
def F_L_isMasked (q1_ : Nat) (p2_ : Int32) (p3_ : Int32) (q4_ : Nat) (M : Mem) : Option (Int32 × Mem) :=
  bw (F_X8_isMasked q1_ p2_ p3_ M) (fun v2 M3 =>
  if v2 = 0 then
      chk (inb 0 1) (
      lt (sJ M3 q4_ 0 0) (fun (M7 : Mem) =>
      some (0, M7)))
    else
      chk (inb 0 1) (
      lt (sJ M3 q4_ 0 1) (fun (M9 : Mem) =>
      some (0, M9))))
  (fun E4 M3 => if E4 = "java/lang/IndexOutOfBoundsException" then some (1, M3) else if E4 = "java/lang/IllegalArgumentException" then some (2, M3) else none)
def F_L_fatigue (q1_ : Nat) (p2_ : Int32) (q3_ : Nat) (M : Mem) : Option (Int32 × Mem) :=
  bw (F_X8_fatigue q1_ p2_ M) (fun v2 M3 =>
  chk (inb 0 1) (
    lt (sJ M3 q3_ 0 (v2.toInt64)) (fun (M6 : Mem) =>
    some (0, M6))))
  (fun E4 M3 => if E4 = "java/lang/IndexOutOfBoundsException" then some (1, M3) else none)
def F_L_restingBeats (q1_ : Nat) (p2_ : Int32) (q3_ : Nat) (M : Mem) : Option (Int32 × Mem) :=
  bw (F_X8_restingBeats q1_ p2_ M) (fun v2 M3 =>
  chk (inb 0 1) (
    lt (sJ M3 q3_ 0 (v2.toInt64)) (fun (M6 : Mem) =>
    some (0, M6))))
  (fun E4 M3 => if E4 = "java/lang/IndexOutOfBoundsException" then some (1, M3) else none)
def F_L_isSymmetric (q1_ : Nat) (p2_ : Int32) (q3_ : Nat) (M : Mem) : Option (Int32 × Mem) :=
  bw (F_X8_isSymmetric q1_ p2_ M) (fun v2 M3 =>
  if v2 = 0 then
      chk (inb 0 1) (
      lt (sJ M3 q3_ 0 0) (fun (M7 : Mem) =>
      some (0, M7)))
    else
      chk (inb 0 1) (
      lt (sJ M3 q3_ 0 1) (fun (M9 : Mem) =>
      some (0, M9))))
  (fun E4 M3 => if E4 = "java/lang/IndexOutOfBoundsException" then some (1, M3) else none)
def F_L_areAlike (q1_ : Nat) (p2_ : Int32) (p3_ : Int32) (q4_ : Nat) (M : Mem) : Option (Int32 × Mem) :=
  bw (F_X8_areAlike q1_ p2_ p3_ M) (fun v2 M3 =>
  if v2 = 0 then
      chk (inb 0 1) (
      lt (sJ M3 q4_ 0 0) (fun (M7 : Mem) =>
      some (0, M7)))
    else
      chk (inb 0 1) (
      lt (sJ M3 q4_ 0 1) (fun (M9 : Mem) =>
      some (0, M9))))
  (fun E4 M3 => if E4 = "java/lang/IndexOutOfBoundsException" then some (1, M3) else none)
def F_L_noteVolume (q1_ : Nat) (p2_ : Int32) (p3_ : Int32) (q4_ : Nat) (M : Mem) : Option (Int32 × Mem) :=
  bw (F_X8_noteVolume q1_ p2_ p3_ M) (fun v2 M3 =>
  chk (inb 0 1) (
    lt (sJ M3 q4_ 0 (v2.toInt64)) (fun (M6 : Mem) =>
    some (0, M6))))
  (fun E4 M3 => if E4 = "java/lang/IllegalArgumentException" then some (1, M3) else none)
def F_L_columnVolume (q1_ : Nat) (p2_ : Int32) (p3_ : Int32) (q4_ : Nat) (M : Mem) : Option (Int32 × Mem) :=
  bw (F_X8_columnVolume q1_ p2_ p3_ M) (fun v2 M3 =>
  chk (inb 0 1) (
    lt (sJ M3 q4_ 0 (v2.toInt64)) (fun (M6 : Mem) =>
    some (0, M6))))
  (fun E4 M3 => if E4 = "java/lang/IndexOutOfBoundsException" then some (1, M3) else none)
def F_L_columnVolumeByTransposing (q1_ : Nat) (p2_ : Int32) (p3_ : Int32) (q4_ : Nat) (M : Mem) : Option (Int32 × Mem) :=
  bw (F_X8_columnVolumeByTransposing q1_ p2_ p3_ M) (fun v2 M3 =>
  chk (inb 0 1) (
    lt (sJ M3 q4_ 0 (v2.toInt64)) (fun (M6 : Mem) =>
    some (0, M6))))
  (fun E4 M3 => if E4 = "java/lang/IndexOutOfBoundsException" then some (1, M3) else none)
def F_L_nextVolume (q1_ : Nat) (p2_ : Int32) (q3_ : Nat) (M : Mem) : Option (Int32 × Mem) :=
  bw (F_X8_nextVolume q1_ p2_ M) (fun v2 M3 =>
  chk (inb 0 1) (
    lt (sJ M3 q3_ 0 (v2.toInt64)) (fun (M6 : Mem) =>
    some (0, M6))))
  (fun E4 M3 => if E4 = "java/lang/IndexOutOfBoundsException" then some (1, M3) else none)
def F_L_beatsUntilBreak (q1_ : Nat) (q2_ : Nat) (M : Mem) : Option (Int32 × Mem) :=
  bw (F_X8_beatsUntilBreak q1_ M) (fun v2 M3 =>
  chk (inb 0 1) (
    lt (sJ M3 q2_ 0 (v2.toInt64)) (fun (M6 : Mem) =>
    some (0, M6))))
  (fun E4 M3 => if E4 = "java/util/NoSuchElementException" then some (1, M3) else none)
def F_L_totalWithin (q1_ : Nat) (p2_ : Int32) (q3_ : Nat) (M : Mem) : Option (Int32 × Mem) :=
  bw (F_X8_totalWithin q1_ p2_ M) (fun v2 M3 =>
  chk (inb 0 1) (
    lt (sJ M3 q3_ 0 (v2.toInt64)) (fun (M6 : Mem) =>
    some (0, M6))))
  (fun E4 M3 => if E4 = "java/lang/IllegalArgumentException" then some (1, M3) else none)
def F_L_playedVolume (q1_ : Nat) (p2_ : Int32) (q3_ : Nat) (M : Mem) : Option (Int32 × Mem) :=
  bw (F_X8_playedVolume q1_ p2_ M) (fun v2 M3 =>
  chk (inb 0 1) (
    lt (sJ M3 q3_ 0 (v2.toInt64)) (fun (M6 : Mem) =>
    some (0, M6))))
  (fun E4 M3 => if E4 = "java/lang/IndexOutOfBoundsException" then some (1, M3) else none)
def F_L_soundCount (q1_ : Nat) (p2_ : Int32) (p3_ : Int32) (q4_ : Nat) (M : Mem) : Option (Int32 × Mem) :=
  bw (F_X8_soundCount q1_ p2_ p3_ M) (fun v2 M3 =>
  chk (inb 0 1) (
    lt (sJ M3 q4_ 0 (v2.toInt64)) (fun (M6 : Mem) =>
    some (0, M6))))
  (fun E4 M3 => if E4 = "java/lang/IllegalArgumentException" then some (1, M3) else none)
def F_L_greatestTotal (q1_ : Nat) (q2_ : Nat) (M : Mem) : Option (Int32 × Mem) :=
  bw (F_X8_greatestTotal q1_ M) (fun v2 M3 =>
  chk (inb 0 1) (
    lt (sJ M3 q2_ 0 (v2.toInt64)) (fun (M6 : Mem) =>
    some (0, M6))))
  (fun E4 M3 => if E4 = "java/util/NoSuchElementException" then some (1, M3) else none)
def F_L_loggedTotal (q1_ : Nat) (p2_ : Int32) (q3_ : Nat) (M : Mem) : Option (Int32 × Mem) :=
  bw (F_X8_loggedTotal q1_ p2_ M) (fun v2 M3 =>
  chk (inb 0 1) (
    lt (sJ M3 q3_ 0 (v2.toInt64)) (fun (M6 : Mem) =>
    some (0, M6))))
  (fun E4 M3 => if E4 = "java/util/NoSuchElementException" then some (1, M3) else none)
def F_L_sectionByVolume (q1_ : Nat) (p2_ : Int32) (q3_ : Nat) (M : Mem) : Option (Int32 × Mem) :=
  bw (F_X8_sectionByVolume q1_ p2_ M) (fun v2 M3 =>
  chk (inb 0 1) (
    lt (sJ M3 q3_ 0 (v2.toInt64)) (fun (M6 : Mem) =>
    some (0, M6))))
  (fun E4 M3 => if E4 = "java/util/NoSuchElementException" then some (1, M3) else none)
def F_L_noteBySounds (q1_ : Nat) (p2_ : Int32) (q3_ : Nat) (M : Mem) : Option (Int32 × Mem) :=
  bw (F_X8_noteBySounds q1_ p2_ M) (fun v2 M3 =>
  chk (inb 0 1) (
    lt (sJ M3 q3_ 0 (v2.toInt64)) (fun (M6 : Mem) =>
    some (0, M6))))
  (fun E4 M3 => if E4 = "java/util/NoSuchElementException" then some (1, M3) else none)
def F_L_meanTotal (q1_ : Nat) (q2_ : Nat) (M : Mem) : Option (Int32 × Mem) :=
  bw (F_X8_meanTotal q1_ M) (fun f2 M3 =>
  chk (inb 0 1) (
    lt (sD M3 q2_ 0 f2) (fun (M6 : Mem) =>
    some (0, M6))))
  (fun E4 M3 => if E4 = "java/lang/ArithmeticException" then some (1, M3) else none)
def F_L_maskedShare (q1_ : Nat) (p2_ : Int32) (q3_ : Nat) (M : Mem) : Option (Int32 × Mem) :=
  bw (F_X8_maskedShare q1_ p2_ M) (fun f2 M3 =>
  chk (nn64 (FP.f2d f2)) (
    chk (inb 0 1) (
    lt (sD M3 q3_ 0 (FP.f2d f2)) (fun (M7 : Mem) =>
    some (0, M7)))))
  (fun E4 M3 => if E4 = "java/lang/IndexOutOfBoundsException" then some (1, M3) else none)
def F_L_renderScore (q1_ : Nat) (p2_ : Int32) (q3_ : Nat) (M : Mem) : Option (Int32 × Mem) :=
  bw (F_X8_renderScore q1_ p2_ M) (fun v2 M3 =>
  chk (inb 0 1) (
    lt (sJ M3 q3_ 0 (v2.toInt64)) (fun (M6 : Mem) =>
    some (0, M6))))
  (fun E4 M3 => if E4 = "java/lang/IndexOutOfBoundsException" then some (1, M3) else none)
def F_L_renderMask (q1_ : Nat) (p2_ : Int32) (q3_ : Nat) (M : Mem) : Option (Int32 × Mem) :=
  bw (F_X8_renderMask q1_ p2_ M) (fun v2 M3 =>
  chk (inb 0 1) (
    lt (sJ M3 q3_ 0 (v2.toInt64)) (fun (M6 : Mem) =>
    some (0, M6))))
  (fun E4 M3 => if E4 = "java/lang/IndexOutOfBoundsException" then some (1, M3) else none)
def F_L_outputAt (q1_ : Nat) (p2_ : Int32) (q3_ : Nat) (M : Mem) : Option (Int32 × Mem) :=
  bw (F_X8_outputAt q1_ p2_ M) (fun v2 M3 =>
  chk (inb 0 1) (
    lt (sJ M3 q3_ 0 (v2.toInt64)) (fun (M6 : Mem) =>
    some (0, M6))))
  (fun E4 M3 => if E4 = "java/lang/IndexOutOfBoundsException" then some (1, M3) else none)
def F_L_type (q1_ : Nat) (p2_ : Int32) (q3_ : Nat) (M : Mem) : Option (Int32 × Mem) :=
  bw (F_X8_type q1_ p2_ M) (fun v2 M3 =>
  chk (inb 0 1) (
    lt (sJ M3 q3_ 0 (v2.toInt64)) (fun (M6 : Mem) =>
    some (0, M6))))
  (fun E4 M3 => if E4 = "java/lang/IllegalArgumentException" then some (1, M3) else if E4 = "java/lang/IllegalStateException" then some (2, M3) else none)
def F_L_runScript (q1_ : Nat) (q2_ : Nat) (M : Mem) : Option (Int32 × Mem) :=
  bw (F_X8_runScript q1_ M) (fun v2 M3 =>
  chk (inb 0 1) (
    lt (sJ M3 q2_ 0 (v2.toInt64)) (fun (M6 : Mem) =>
    some (0, M6))))
  (fun E4 M3 => if E4 = "java/lang/IllegalArgumentException" then some (1, M3) else if E4 = "java/lang/IllegalStateException" then some (2, M3) else none)
def F_L_errorPosition (q1_ : Nat) (q2_ : Nat) (M : Mem) : Option (Int32 × Mem) :=
  bw (F_X8_errorPosition q1_ M) (fun v2 M3 =>
  chk (inb 0 1) (
    lt (sJ M3 q2_ 0 (v2.toInt64)) (fun (M6 : Mem) =>
    some (0, M6))))
  (fun E4 M3 => if E4 = "java/util/NoSuchElementException" then some (1, M3) else none)
def F_L_failedCommand (q1_ : Nat) (q2_ : Nat) (M : Mem) : Option (Int32 × Mem) :=
  bw (F_X8_failedCommand q1_ M) (fun v2 M3 =>
  chk (inb 0 1) (
    lt (sJ M3 q2_ 0 (v2.toInt64)) (fun (M6 : Mem) =>
    some (0, M6))))
  (fun E4 M3 => if E4 = "java/util/NoSuchElementException" then some (1, M3) else none)
def F_L_undo (q1_ : Nat) (q2_ : Nat) (M : Mem) : Option (Int32 × Mem) :=
  bw (F_X8_undo q1_ M) (fun v2 M3 =>
  chk (inb 0 1) (
    lt (sJ M3 q2_ 0 (v2.toInt64)) (fun (M6 : Mem) =>
    some (0, M6))))
  (fun E4 M3 => if E4 = "java/lang/IllegalStateException" then some (1, M3) else none)
def F_L_restore (q1_ : Nat) (q2_ : Nat) (M : Mem) : Option (Int32 × Mem) :=
  bw (F_X8_restore q1_ M) (fun v2 M3 =>
  chk (inb 0 1) (
    lt (sJ M3 q2_ 0 (v2.toInt64)) (fun (M6 : Mem) =>
    some (0, M6))))
  (fun E4 M3 => if E4 = "java/lang/IllegalStateException" then some (1, M3) else none)
theorem ok_L_addSection : okL yL_addSection cL_addSection 6 [(0, 12, 15, 13), (0, 12, 19, 15)] 5 := ⟨W652, W71, W651, by decide +kernel, by decide +kernel, by decide +kernel⟩
theorem ok_L_removeSection : okL yL_removeSection cL_removeSection 4 [(0, 9, 12, 21)] 3 := ⟨W672, W71, W671, by decide +kernel, by decide +kernel, by decide +kernel⟩
theorem ok_L_setNote : okL yL_setNote cL_setNote 7 [(0, 14, 17, 21), (0, 14, 21, 13)] 6 := ⟨W705, W71, W704, by decide +kernel, by decide +kernel, by decide +kernel⟩
theorem ok_L_setMasked : okL yL_setMasked cL_setMasked 6 [(0, 19, 22, 21), (0, 19, 26, 13)] 5 := ⟨W722, W71, W721, by decide +kernel, by decide +kernel, by decide +kernel⟩
theorem ok_L_transpose : okL yL_transpose cL_transpose 4 [(0, 9, 12, 21)] 3 := ⟨W740, W71, W739, by decide +kernel, by decide +kernel, by decide +kernel⟩
theorem ok_L_reverse : okL yL_reverse cL_reverse 4 [(0, 9, 12, 21)] 3 := ⟨W752, W71, W751, by decide +kernel, by decide +kernel, by decide +kernel⟩
theorem ok_L_raise : okL yL_raise cL_raise 5 [(0, 10, 13, 21), (0, 10, 17, 13), (0, 10, 21, 41)] 4 := ⟨W768, W71, W767, by decide +kernel, by decide +kernel, by decide +kernel⟩
theorem ok_L_setTempo : okL yL_setTempo cL_setTempo 4 [(0, 9, 12, 13)] 3 := ⟨W788, W71, W787, by decide +kernel, by decide +kernel, by decide +kernel⟩
theorem ok_L_setLimit : okL yL_setLimit cL_setLimit 4 [(0, 9, 12, 13)] 3 := ⟨W799, W71, W798, by decide +kernel, by decide +kernel, by decide +kernel⟩
theorem ok_L_conductBeats : okL yL_conductBeats cL_conductBeats 4 [(0, 9, 12, 13)] 3 := ⟨W810, W71, W809, by decide +kernel, by decide +kernel, by decide +kernel⟩
theorem ok_L_kind : okL yL_kind cL_kind 4 [(0, 9, 12, 21)] 3 := ⟨W820, W71, W819, by decide +kernel, by decide +kernel, by decide +kernel⟩
theorem ok_L_rows : okL yL_rows cL_rows 4 [(0, 9, 12, 21)] 3 := ⟨W827, W71, W826, by decide +kernel, by decide +kernel, by decide +kernel⟩
theorem ok_L_columns : okL yL_columns cL_columns 4 [(0, 9, 12, 21)] 3 := ⟨W834, W71, W833, by decide +kernel, by decide +kernel, by decide +kernel⟩
theorem ok_L_note : okL yL_note cL_note 6 [(0, 12, 15, 21)] 5 := ⟨W838, W71, W837, by decide +kernel, by decide +kernel, by decide +kernel⟩
theorem ok_L_isMasked : okL yL_isMasked cL_isMasked 5 [(0, 17, 20, 21), (0, 17, 24, 13)] 4 := ⟨W848, W71, W847, by decide +kernel, by decide +kernel, by decide +kernel⟩
theorem ok_L_fatigue : okL yL_fatigue cL_fatigue 4 [(0, 9, 12, 21)] 3 := ⟨W858, W71, W857, by decide +kernel, by decide +kernel, by decide +kernel⟩
theorem ok_L_restingBeats : okL yL_restingBeats cL_restingBeats 4 [(0, 9, 12, 21)] 3 := ⟨W865, W71, W864, by decide +kernel, by decide +kernel, by decide +kernel⟩
theorem ok_L_isSymmetric : okL yL_isSymmetric cL_isSymmetric 4 [(0, 16, 19, 21)] 3 := ⟨W872, W71, W871, by decide +kernel, by decide +kernel, by decide +kernel⟩
theorem ok_L_areAlike : okL yL_areAlike cL_areAlike 5 [(0, 17, 20, 21)] 4 := ⟨W883, W71, W882, by decide +kernel, by decide +kernel, by decide +kernel⟩
theorem ok_L_noteVolume : okL yL_noteVolume cL_noteVolume 5 [(0, 10, 13, 13)] 4 := ⟨W890, W71, W889, by decide +kernel, by decide +kernel, by decide +kernel⟩
theorem ok_L_columnVolume : okL yL_columnVolume cL_columnVolume 5 [(0, 10, 13, 21)] 4 := ⟨W899, W71, W898, by decide +kernel, by decide +kernel, by decide +kernel⟩
theorem ok_L_columnVolumeByTransposing : okL yL_columnVolumeByTransposing cL_columnVolumeByTransposing 5 [(0, 10, 13, 21)] 4 := ⟨W903, W71, W902, by decide +kernel, by decide +kernel, by decide +kernel⟩
theorem ok_L_nextVolume : okL yL_nextVolume cL_nextVolume 4 [(0, 9, 12, 21)] 3 := ⟨W907, W71, W906, by decide +kernel, by decide +kernel, by decide +kernel⟩
theorem ok_L_beatsUntilBreak : okL yL_beatsUntilBreak cL_beatsUntilBreak 3 [(0, 8, 11, 100)] 2 := ⟨W911, W71, W910, by decide +kernel, by decide +kernel, by decide +kernel⟩
theorem ok_L_totalWithin : okL yL_totalWithin cL_totalWithin 4 [(0, 9, 12, 13)] 3 := ⟨W936, W71, W935, by decide +kernel, by decide +kernel, by decide +kernel⟩
theorem ok_L_playedVolume : okL yL_playedVolume cL_playedVolume 4 [(0, 9, 12, 21)] 3 := ⟨W944, W71, W943, by decide +kernel, by decide +kernel, by decide +kernel⟩
theorem ok_L_soundCount : okL yL_soundCount cL_soundCount 5 [(0, 10, 13, 13)] 4 := ⟨W951, W71, W950, by decide +kernel, by decide +kernel, by decide +kernel⟩
theorem ok_L_greatestTotal : okL yL_greatestTotal cL_greatestTotal 3 [(0, 8, 11, 100)] 2 := ⟨W958, W71, W957, by decide +kernel, by decide +kernel, by decide +kernel⟩
theorem ok_L_loggedTotal : okL yL_loggedTotal cL_loggedTotal 4 [(0, 9, 12, 100)] 3 := ⟨W966, W71, W965, by decide +kernel, by decide +kernel, by decide +kernel⟩
theorem ok_L_sectionByVolume : okL yL_sectionByVolume cL_sectionByVolume 4 [(0, 9, 12, 100)] 3 := ⟨W978, W71, W977, by decide +kernel, by decide +kernel, by decide +kernel⟩
theorem ok_L_noteBySounds : okL yL_noteBySounds cL_noteBySounds 4 [(0, 9, 12, 100)] 3 := ⟨W996, W71, W995, by decide +kernel, by decide +kernel, by decide +kernel⟩
theorem ok_L_meanTotal : okL yL_meanTotal cL_meanTotal 3 [(0, 7, 10, 127)] 2 := ⟨W1013, W71, W1012, by decide +kernel, by decide +kernel, by decide +kernel⟩
theorem ok_L_maskedShare : okL yL_maskedShare cL_maskedShare 4 [(0, 9, 12, 21)] 3 := ⟨W1036, W71, W1035, by decide +kernel, by decide +kernel, by decide +kernel⟩
theorem ok_L_renderScore : okL yL_renderScore cL_renderScore 4 [(0, 9, 12, 21)] 3 := ⟨W1047, W71, W1046, by decide +kernel, by decide +kernel, by decide +kernel⟩
theorem ok_L_renderMask : okL yL_renderMask cL_renderMask 4 [(0, 9, 12, 21)] 3 := ⟨W1065, W71, W1064, by decide +kernel, by decide +kernel, by decide +kernel⟩
theorem ok_L_outputAt : okL yL_outputAt cL_outputAt 4 [(0, 9, 12, 21)] 3 := ⟨W1072, W71, W1071, by decide +kernel, by decide +kernel, by decide +kernel⟩
theorem ok_L_type : okL yL_type cL_type 4 [(0, 9, 12, 13), (0, 9, 15, 15)] 3 := ⟨W1088, W71, W1087, by decide +kernel, by decide +kernel, by decide +kernel⟩
theorem ok_L_runScript : okL yL_runScript cL_runScript 3 [(0, 8, 11, 13), (0, 8, 14, 15)] 2 := ⟨W1101, W71, W1100, by decide +kernel, by decide +kernel, by decide +kernel⟩
theorem ok_L_errorPosition : okL yL_errorPosition cL_errorPosition 3 [(0, 8, 11, 100)] 2 := ⟨W1235, W71, W1234, by decide +kernel, by decide +kernel, by decide +kernel⟩
theorem ok_L_failedCommand : okL yL_failedCommand cL_failedCommand 3 [(0, 8, 11, 100)] 2 := ⟨W1243, W71, W1242, by decide +kernel, by decide +kernel, by decide +kernel⟩
theorem ok_L_undo : okL yL_undo cL_undo 3 [(0, 8, 11, 15)] 2 := ⟨W1251, W71, W1250, by decide +kernel, by decide +kernel, by decide +kernel⟩
theorem ok_L_restore : okL yL_restore cL_restore 3 [(0, 8, 11, 15)] 2 := ⟨W1264, W71, W1263, by decide +kernel, by decide +kernel, by decide +kernel⟩
