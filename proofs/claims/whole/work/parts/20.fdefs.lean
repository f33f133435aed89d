/-! F: what each method answers, by program out of its bytecode -/
def F_J0_coder_7d493 (a0 : Nat) : Option Int32 :=
  some 0
def F_J0_length_8abf5 (a0 : Nat) : Option Int32 :=
  Option.bind (F_J0_coder_7d493 a0) (fun v2 =>
  some ((nI (sLen a0)) >>> (v2 &&& 31)))
def F_J0_isLatin1_aae02 (a0 : Nat) : Option Int32 :=
  some 1
def F_J3_checkIndex_8e157 (p1_ : Int32) (p2_ : Int32) : Option Int32 :=
  if p1_ < 0 then
    none
  else
    if p1_ < p2_ then
      some p1_
    else
      none
def F_J0_checkIndex_df160 (p1_ : Int32) (p2_ : Int32) : Option Unit :=
  Option.bind (F_J3_checkIndex_8e157 p1_ p2_) (fun v2 =>
    some ())
def F_J1_charAt_3b067 (q1_ : Nat) (p2_ : Int32) : Option Int32 :=
  Option.bind (F_J0_checkIndex_df160 p2_ (nI (sLen q1_))) (fun u2 =>
  chk (inb p2_ (sLen q1_)) (
  chk (nokC ((((sAt q1_ (p2_.toNatClampNeg)) &&& 255).toUInt32 % 65536).toInt32)) (some ((((sAt q1_ (p2_.toNatClampNeg)) &&& 255).toUInt32 % 65536).toInt32))))
def F_J0_charAt_5068e (a0 : Nat) (p1_ : Int32) : Option Int32 :=
  Option.bind (F_J0_isLatin1_aae02 a0) (fun v2 =>
  if v2 = 0 then
    none
  else
    Option.bind (F_J1_charAt_3b067 a0 p1_) (fun v5 =>
    chk (nokC v5) (some v5)))
def F_Jx29ce0_ordinal_8abf5 (a0 : Nat) : Option Int32 :=
  some (nI a0)
def F_X9_thrown (a0 : Nat) (M : Mem) : Option Int32 :=
  some (mI M a0 0)
def F_X9_fails (a0 : Nat) (p1_ : Int32) (M : Mem) : Option (Int32 × Mem) :=
  lt (sI M a0 0 p1_) (fun (M1 : Mem) =>
  some (0, M1))
def F_X9_isBetween (p1_ : Int32) (p2_ : Int32) (p3_ : Int32) : Option Int32 :=
  if p1_ < p2_ then
    some 0
  else
    if p3_ < p1_ then
      some 0
    else
      some 1
def F_X9_copies_L1 (a0 : Nat) (K : Int32 → Mem → Option (Unit × Mem)) : Nat → Int32 → Mem → Option (Unit × Mem)
  | 0, _, _ => none
  | n+1, i1, M2 =>
    if 260 ≤ i1 then
        K i1 M2
      else
        chk (inb i1 260) (
        chk (inb i1 260) (
        lt (sI M2 (mR M2 a0 4) (i1.toNatClampNeg) (mI M2 (mR M2 a0 1) i1.toNatClampNeg)) (fun (M9 : Mem) =>
        lt (i1 + 1) (fun (v10 : Int32) =>
        F_X9_copies_L1 a0 K n v10 M9))))
def F_X9_copies (a0 : Nat) (M : Mem) : Option (Unit × Mem) :=
  F_X9_copies_L1 a0 (fun (x12 : Int32) (M13 : Mem) =>
  some ((), M13)) 3000 0 M
def F_X9_goesBack_L1 (a0 : Nat) (K : Int32 → Mem → Option (Unit × Mem)) : Nat → Int32 → Mem → Option (Unit × Mem)
  | 0, _, _ => none
  | n+1, i1, M2 =>
    if 260 ≤ i1 then
        K i1 M2
      else
        chk (inb i1 260) (
        chk (inb i1 260) (
        lt (sI M2 (mR M2 a0 1) (i1.toNatClampNeg) (mI M2 (mR M2 a0 4) i1.toNatClampNeg)) (fun (M9 : Mem) =>
        lt (i1 + 1) (fun (v10 : Int32) =>
        F_X9_goesBack_L1 a0 K n v10 M9))))
def F_X9_goesBack (a0 : Nat) (M : Mem) : Option (Unit × Mem) :=
  F_X9_goesBack_L1 a0 (fun (x12 : Int32) (M13 : Mem) =>
  some ((), M13)) 3000 0 M
def F_X9_keeps_L1 (a0 : Nat) (v2 : Int32) (K : Int32 → Mem → Option (Unit × Mem)) : Nat → Int32 → Mem → Option (Unit × Mem)
  | 0, _, _ => none
  | n+1, i3, M4 =>
    if 260 ≤ i3 then
          K i3 M4
        else
          chk (inb i3 260) (
          chk (inb ((260 * v2) + i3) 2080) (
          lt (sI M4 (mR M4 a0 2) (((260 * v2) + i3).toNatClampNeg) (mI M4 (mR M4 a0 4) i3.toNatClampNeg)) (fun (M11 : Mem) =>
          lt (i3 + 1) (fun (v12 : Int32) =>
          F_X9_keeps_L1 a0 v2 K n v12 M11))))
def F_X9_keeps_L2 (a0 : Nat) (v19 : Int32) (K : Int32 → Mem → Option (Unit × Mem)) : Nat → Int32 → Mem → Option (Unit × Mem)
  | 0, _, _ => none
  | n+1, i20, M21 =>
    if 260 ≤ i20 then
          K i20 M21
        else
          chk (inb i20 260) (
          chk (inb ((260 * v19) + i20) 2080) (
          lt (sI M21 (mR M21 a0 2) (((260 * v19) + i20).toNatClampNeg) (mI M21 (mR M21 a0 4) i20.toNatClampNeg)) (fun (M28 : Mem) =>
          lt (i20 + 1) (fun (v29 : Int32) =>
          F_X9_keeps_L2 a0 v19 K n v29 M28))))
def F_X9_keeps (a0 : Nat) (M : Mem) : Option (Unit × Mem) :=
  if (mI M a0 6) = 8 then
    lt (sI M a0 7 (((mI M a0 7) + 1) - ((mI M a0 7) + 1) / 8 * 8)) (fun (M17 : Mem) =>
    lt (sI M17 a0 6 ((mI M17 a0 6) - 1)) (fun (M18 : Mem) =>
    lt (((mI M18 a0 7) + (mI M18 a0 6)) - ((mI M18 a0 7) + (mI M18 a0 6)) / 8 * 8) (fun (v19 : Int32) =>
    F_X9_keeps_L2 a0 v19 (fun (x31 : Int32) (M32 : Mem) =>
    lt (sI M32 a0 6 ((mI M32 a0 6) + 1)) (fun (M33 : Mem) =>
    some ((), M33))) 3000 0 M18)))
  else
    lt (((mI M a0 7) + (mI M a0 6)) - ((mI M a0 7) + (mI M a0 6)) / 8 * 8) (fun (v2 : Int32) =>
    F_X9_keeps_L1 a0 v2 (fun (x14 : Int32) (M15 : Mem) =>
    lt (sI M15 a0 6 ((mI M15 a0 6) + 1)) (fun (M16 : Mem) =>
    some ((), M16))) 3000 0 M)
def F_X9_remembers (a0 : Nat) (M : Mem) : Option (Unit × Mem) :=
  b1 (F_X9_copies a0 M) (fun u2 M3 =>
  b1 (F_X9_keeps a0 M3) (fun u5 M6 =>
  some ((), M6)))
def F_X9_isSection (a0 : Nat) (p1_ : Int32) (M : Mem) : Option Int32 :=
  chk (inb 0 260) (
  Option.bind (F_X9_isBetween p1_ 0 ((mI M (mR M a0 1) 0) - 1)) (fun v4 =>
  chk (nokZ v4) (some v4)))
def F_X9_of (a0 : Nat) (p1_ : Int32) (p2_ : Int32) (M : Mem) : Option Int32 :=
  chk (inb ((45 + (43 * p1_)) + p2_) 260) (
  some (mI M (mR M a0 1) ((45 + (43 * p1_)) + p2_).toNatClampNeg))
def F_X9_puts (a0 : Nat) (p1_ : Int32) (p2_ : Int32) (p3_ : Int32) (M : Mem) : Option (Unit × Mem) :=
  chk (inb ((45 + (43 * p1_)) + p2_) 260) (
  lt (sI M (mR M a0 1) (((45 + (43 * p1_)) + p2_).toNatClampNeg) p3_) (fun (M3 : Mem) =>
  some ((), M3)))
def F_X9_noteAt (a0 : Nat) (p1_ : Int32) (p2_ : Int32) (p3_ : Int32) (M : Mem) : Option Int32 :=
  Option.bind (F_X9_of a0 p1_ ((7 + (6 * p2_)) + p3_) M) (fun v2 =>
  some v2)
def F_X9_putsNote (a0 : Nat) (p1_ : Int32) (p2_ : Int32) (p3_ : Int32) (p4_ : Int32) (M : Mem) : Option (Unit × Mem) :=
  b1 (F_X9_puts a0 p1_ ((7 + (6 * p2_)) + p3_) p4_ M) (fun u2 M3 =>
  some ((), M3))
def F_X9_isCell (a0 : Nat) (p1_ : Int32) (p2_ : Int32) (p3_ : Int32) (M : Mem) : Option Int32 :=
  Option.bind (F_X9_isSection a0 p1_ M) (fun v2 =>
  if v2 = 0 then
    some 0
  else
    Option.bind (F_X9_of a0 p1_ 1 M) (fun v5 =>
    Option.bind (F_X9_isBetween p2_ 0 (v5 - 1)) (fun v7 =>
    if v7 = 0 then
      some 0
    else
      Option.bind (F_X9_of a0 p1_ 2 M) (fun v10 =>
      Option.bind (F_X9_isBetween p3_ 0 (v10 - 1)) (fun v12 =>
      if v12 = 0 then
        some 0
      else
        some 1)))))
def F_X9_isMaskedAt (a0 : Nat) (p1_ : Int32) (p2_ : Int32) (M : Mem) : Option Int32 :=
  Option.bind (F_X9_of a0 p1_ 3 M) (fun v2 =>
  if ((v2 >>> (p2_ &&& 31)) &&& 1) = 1 then
    some 1
  else
    some 0)
def F_X9_kindOf (p1_ : Int32) : Option Int32 :=
  if p1_ = 115 then
    some 0
  else
    if p1_ = 119 then
      some 1
    else
      if p1_ = 100 then
        some 2
      else
        some (-1)
def F_X9_letterOf (p1_ : Int32) : Option Int32 :=
  if p1_ = 0 then
    some 115
  else
    if p1_ = 1 then
      some 119
    else
      some 100
def F_X9_volumeOf (p1_ : Int32) (p2_ : Int32) : Option Int32 :=
  if p2_ = 0 then
    some p2_
  else
    if p1_ = 0 then
      some p2_
    else
      if p1_ = 2 then
        if (p2_ - p2_ / 2 * 2) = 1 then
          some 5
        else
          some 1
      else
        if p2_ ≤ 6 then
          some (2 * p2_)
        else
          some 12
def F_X9_volumeOfColumn_L1 (a0 : Nat) (p1_ : Int32) (p2_ : Int32) (M : Mem) (K : Int32 → Int32 → Option Int32) : Nat → Int32 → Int32 → Option Int32
  | 0, _, _ => none
  | n+1, i1, i2 =>
    Option.bind (F_X9_of a0 p1_ 1 M) (fun v5 =>
      if v5 ≤ i2 then
        K i1 i2
      else
        Option.bind (F_X9_of a0 p1_ 0 M) (fun v8 =>
        Option.bind (F_X9_noteAt a0 p1_ i2 p2_ M) (fun v10 =>
        Option.bind (F_X9_volumeOf v8 v10) (fun v12 =>
        lt (i1 + v12) (fun (v13 : Int32) =>
        lt (i2 + 1) (fun (v14 : Int32) =>
        F_X9_volumeOfColumn_L1 a0 p1_ p2_ M K n v13 v14))))))
def F_X9_volumeOfColumn (a0 : Nat) (p1_ : Int32) (p2_ : Int32) (M : Mem) : Option Int32 :=
  F_X9_volumeOfColumn_L1 a0 p1_ p2_ M (fun (x16 : Int32) (x17 : Int32) =>
  some x16) 3000 0 0
def F_X9_notAdd (a0 : Nat) (p1_ : Int32) (p2_ : Int32) (p3_ : Int32) (M : Mem) : Option Int32 :=
  Option.bind (F_X9_kindOf p1_) (fun v2 =>
  if v2 < 0 then
    some 1
  else
    Option.bind (F_X9_isBetween p2_ 1 6) (fun v5 =>
    if v5 = 0 then
      some 1
    else
      Option.bind (F_X9_isBetween p3_ 1 6) (fun v8 =>
      if v8 = 0 then
        some 1
      else
        chk (inb 0 260) (
        if (mI M (mR M a0 1) 0) = 5 then
          some 2
        else
          some 0))))
def F_X9_addsSection_L1 (a0 : Nat) (v3 : Int32) (K : Int32 → Mem → Option (Int32 × Mem)) : Nat → Int32 → Mem → Option (Int32 × Mem)
  | 0, _, _ => none
  | n+1, i8, M9 =>
    if 43 ≤ i8 then
        K i8 M9
      else
        b1 (F_X9_puts a0 v3 i8 0 M9) (fun u13 M14 =>
        lt (i8 + 1) (fun (v15 : Int32) =>
        F_X9_addsSection_L1 a0 v3 K n v15 M14))
def F_X9_addsSection (a0 : Nat) (p1_ : Int32) (p2_ : Int32) (p3_ : Int32) (M : Mem) : Option (Int32 × Mem) :=
  chk (inb 0 260) (
  lt (mI M (mR M a0 1) 0) (fun (v3 : Int32) =>
  chk (inb 0 260) (
  chk (inb 0 260) (
  lt (sI M (mR M a0 1) (0) ((mI M (mR M a0 1) 0) + 1)) (fun (M7 : Mem) =>
  F_X9_addsSection_L1 a0 v3 (fun (x17 : Int32) (M18 : Mem) =>
  Option.bind (F_X9_kindOf p1_) (fun v20 =>
  b1 (F_X9_puts a0 v3 0 v20 M18) (fun u22 M23 =>
  b1 (F_X9_puts a0 v3 1 p2_ M23) (fun u25 M26 =>
  b1 (F_X9_puts a0 v3 2 p3_ M26) (fun u28 M29 =>
  some (v3, M29)))))) 3000 0 M7)))))
def F_X9_addSection (a0 : Nat) (p1_ : Int32) (p2_ : Int32) (p3_ : Int32) (M : Mem) : Option (Int32 × Mem) :=
  lt (sI M a0 0 0) (fun (M1 : Mem) =>
  Option.bind (F_X9_notAdd a0 p1_ p2_ p3_ M1) (fun v3 =>
  if v3 = 0 then
    b1 (F_X9_remembers a0 M1) (fun u6 M7 =>
    b1 (F_X9_addsSection a0 p1_ p2_ p3_ M7) (fun v9 M10 =>
    some (v9, M10)))
  else
    b1 (F_X9_fails a0 v3 M1) (fun v12 M13 =>
    some (v12, M13))))
def F_X9_notSection (a0 : Nat) (p1_ : Int32) (M : Mem) : Option Int32 :=
  Option.bind (F_X9_isSection a0 p1_ M) (fun v2 =>
  if v2 = 0 then
    some 1
  else
    some 0)
def F_X9_removesSection_L1 (a0 : Nat) (v7 : Int32) (K : Int32 → Mem → Option (Int32 × Mem)) : Nat → Int32 → Mem → Option (Int32 × Mem)
  | 0, _, _ => none
  | n+1, i9, M10 =>
    if v7 ≤ i9 then
        K i9 M10
      else
        chk (inb (i9 + 43) 260) (
        chk (inb i9 260) (
        lt (sI M10 (mR M10 a0 1) (i9.toNatClampNeg) (mI M10 (mR M10 a0 1) (i9 + 43).toNatClampNeg)) (fun (M17 : Mem) =>
        lt (i9 + 1) (fun (v18 : Int32) =>
        F_X9_removesSection_L1 a0 v7 K n v18 M17))))
def F_X9_removesSection_L2 (a0 : Nat) (v7 : Int32) (K : Int32 → Mem → Option (Int32 × Mem)) : Nat → Int32 → Mem → Option (Int32 × Mem)
  | 0, _, _ => none
  | n+1, i22, M23 =>
    if 43 ≤ i22 then
        K i22 M23
      else
        chk (inb (v7 + i22) 260) (
        lt (sI M23 (mR M23 a0 1) ((v7 + i22).toNatClampNeg) 0) (fun (M28 : Mem) =>
        lt (i22 + 1) (fun (v29 : Int32) =>
        F_X9_removesSection_L2 a0 v7 K n v29 M28)))
def F_X9_removesSection (a0 : Nat) (p1_ : Int32) (M : Mem) : Option (Int32 × Mem) :=
  chk (inb 0 260) (
  chk (inb 0 260) (
  lt (sI M (mR M a0 1) (0) ((mI M (mR M a0 1) 0) - 1)) (fun (M4 : Mem) =>
  chk (inb 0 260) (
  lt (45 + (43 * (mI M4 (mR M4 a0 1) 0))) (fun (v7 : Int32) =>
  lt (45 + (43 * p1_)) (fun (v8 : Int32) =>
  F_X9_removesSection_L1 a0 v7 (fun (x20 : Int32) (M21 : Mem) =>
  F_X9_removesSection_L2 a0 v7 (fun (x31 : Int32) (M32 : Mem) =>
  chk (inb 0 260) (
  some (mI M32 (mR M32 a0 1) 0, M32))) 3000 0 M21) 3000 v8 M4))))))
def F_X9_removeSection (a0 : Nat) (p1_ : Int32) (M : Mem) : Option (Int32 × Mem) :=
  lt (sI M a0 0 0) (fun (M1 : Mem) =>
  Option.bind (F_X9_isSection a0 p1_ M1) (fun v3 =>
  if v3 = 0 then
    b1 (F_X9_fails a0 1 M1) (fun v12 M13 =>
    some (v12, M13))
  else
    b1 (F_X9_remembers a0 M1) (fun u6 M7 =>
    b1 (F_X9_removesSection a0 p1_ M7) (fun v9 M10 =>
    some (v9, M10)))))
def F_X9_notNote (a0 : Nat) (p1_ : Int32) (p2_ : Int32) (p3_ : Int32) (p4_ : Int32) (M : Mem) : Option Int32 :=
  Option.bind (F_X9_isCell a0 p1_ p2_ p3_ M) (fun v2 =>
  if v2 = 0 then
    some 1
  else
    Option.bind (F_X9_isBetween p4_ 0 9) (fun v5 =>
    if v5 = 0 then
      some 2
    else
      some 0))
def F_X9_setsNote (a0 : Nat) (p1_ : Int32) (p2_ : Int32) (p3_ : Int32) (p4_ : Int32) (M : Mem) : Option (Int32 × Mem) :=
  Option.bind (F_X9_noteAt a0 p1_ p2_ p3_ M) (fun v2 =>
  b1 (F_X9_putsNote a0 p1_ p2_ p3_ p4_ M) (fun u4 M5 =>
  some (v2, M5)))
def F_X9_setNote (a0 : Nat) (p1_ : Int32) (p2_ : Int32) (p3_ : Int32) (p4_ : Int32) (M : Mem) : Option (Int32 × Mem) :=
  lt (sI M a0 0 0) (fun (M1 : Mem) =>
  Option.bind (F_X9_notNote a0 p1_ p2_ p3_ p4_ M1) (fun v3 =>
  if v3 = 0 then
    b1 (F_X9_remembers a0 M1) (fun u6 M7 =>
    b1 (F_X9_setsNote a0 p1_ p2_ p3_ p4_ M7) (fun v9 M10 =>
    some (v9, M10)))
  else
    b1 (F_X9_fails a0 v3 M1) (fun v12 M13 =>
    some (v12, M13))))
def F_X9_notMask (a0 : Nat) (p1_ : Int32) (p2_ : Int32) (M : Mem) : Option Int32 :=
  Option.bind (F_X9_isSection a0 p1_ M) (fun v2 =>
  if v2 = 0 then
    some 1
  else
    Option.bind (F_X9_isBetween p2_ 0 5) (fun v5 =>
    if v5 = 0 then
      some 2
    else
      some 0))
def F_X9_setsMasked (a0 : Nat) (p1_ : Int32) (p2_ : Int32) (p3_ : Int32) (M : Mem) : Option (Int32 × Mem) :=
  Option.bind (F_X9_isMaskedAt a0 p1_ p2_ M) (fun v2 =>
  Option.bind (F_X9_of a0 p1_ 3 M) (fun v4 =>
  if v2 = 0 then
    lt (v4 - 0) (fun (v6 : Int32) =>
    b1 (F_X9_puts a0 p1_ 3 (v6 + (p3_ <<< (p2_ &&& 31))) M) (fun u8 M9 =>
    if v2 = 0 then
      some (0, M9)
    else
      some (1, M9)))
  else
    lt (v4 - (1 <<< (p2_ &&& 31))) (fun (v11 : Int32) =>
    b1 (F_X9_puts a0 p1_ 3 (v11 + (p3_ <<< (p2_ &&& 31))) M) (fun u13 M14 =>
    if v2 = 0 then
      some (0, M14)
    else
      some (1, M14)))))
def F_X9_setMasked (a0 : Nat) (p1_ : Int32) (p2_ : Int32) (p3_ : Int32) (M : Mem) : Option (Int32 × Mem) :=
  lt (sI M a0 0 0) (fun (M1 : Mem) =>
  Option.bind (F_X9_notMask a0 p1_ p2_ M1) (fun v3 =>
  if v3 = 0 then
    b1 (F_X9_remembers a0 M1) (fun u6 M7 =>
    if p3_ = 0 then
      b1 (F_X9_setsMasked a0 p1_ p2_ 0 M7) (fun v10 M11 =>
      if v10 = 1 then
        some (1, M11)
      else
        some (0, M11))
    else
      b1 (F_X9_setsMasked a0 p1_ p2_ 1 M7) (fun v14 M15 =>
      if v14 = 1 then
        some (1, M15)
      else
        some (0, M15)))
  else
    b1 (F_X9_fails a0 v3 M1) (fun v18 M19 =>
    if v18 ≤ 0 then
      some (0, M19)
    else
      some (1, M19))))
def F_X9_transposes_L2 (a0 : Nat) (p1_ : Int32) (i1 : Int32) (K : Int32 → Mem → Option (Int32 × Mem)) : Nat → Int32 → Mem → Option (Int32 × Mem)
  | 0, _, _ => none
  | n+1, i5, M6 =>
    if i1 ≤ i5 then
              K i5 M6
            else
              Option.bind (F_X9_noteAt a0 p1_ i1 i5 M6) (fun v10 =>
              Option.bind (F_X9_noteAt a0 p1_ i5 i1 M6) (fun v12 =>
              b1 (F_X9_putsNote a0 p1_ i1 i5 v12 M6) (fun u14 M15 =>
              b1 (F_X9_putsNote a0 p1_ i5 i1 v10 M15) (fun u17 M18 =>
              lt (i5 + 1) (fun (v19 : Int32) =>
              F_X9_transposes_L2 a0 p1_ i1 K n v19 M18)))))
def F_X9_transposes_L1 (a0 : Nat) (p1_ : Int32) (K : Int32 → Mem → Option (Int32 × Mem)) : Nat → Int32 → Mem → Option (Int32 × Mem)
  | 0, _, _ => none
  | n+1, i1, M2 =>
    if 6 ≤ i1 then
        K i1 M2
      else
        F_X9_transposes_L2 a0 p1_ i1 (fun (x21 : Int32) (M22 : Mem) =>
        lt (i1 + 1) (fun (v23 : Int32) =>
        F_X9_transposes_L1 a0 p1_ K n v23 M22)) 3000 0 M2
def F_X9_transposes (a0 : Nat) (p1_ : Int32) (M : Mem) : Option (Int32 × Mem) :=
  F_X9_transposes_L1 a0 p1_ (fun (x25 : Int32) (M26 : Mem) =>
  Option.bind (F_X9_of a0 p1_ 1 M26) (fun v28 =>
  Option.bind (F_X9_of a0 p1_ 2 M26) (fun v30 =>
  b1 (F_X9_puts a0 p1_ 1 v30 M26) (fun u32 M33 =>
  b1 (F_X9_puts a0 p1_ 2 v28 M33) (fun u35 M36 =>
  some (v28, M36)))))) 3000 0 M
def F_X9_transpose (a0 : Nat) (p1_ : Int32) (M : Mem) : Option (Int32 × Mem) :=
  lt (sI M a0 0 0) (fun (M1 : Mem) =>
  Option.bind (F_X9_isSection a0 p1_ M1) (fun v3 =>
  if v3 = 0 then
    b1 (F_X9_fails a0 1 M1) (fun v12 M13 =>
    some (v12, M13))
  else
    b1 (F_X9_remembers a0 M1) (fun u6 M7 =>
    b1 (F_X9_transposes a0 p1_ M7) (fun v9 M10 =>
    some (v9, M10)))))
def F_X9_reverses_L2 (a0 : Nat) (p1_ : Int32) (v2 : Int32) (i4 : Int32) (K : Int32 → Int32 → Mem → Option (Int32 × Mem)) : Nat → Int32 → Int32 → Mem → Option (Int32 × Mem)
  | 0, _, _, _ => none
  | n+1, i10, i11, M12 =>
    if v2 ≤ ((2 * i11) + 1) then
              K i10 i11 M12
            else
              Option.bind (F_X9_noteAt a0 p1_ i4 i11 M12) (fun v16 =>
              Option.bind (F_X9_noteAt a0 p1_ i4 ((v2 - 1) - i11) M12) (fun v18 =>
              b1 (F_X9_putsNote a0 p1_ i4 i11 v18 M12) (fun u20 M21 =>
              b1 (F_X9_putsNote a0 p1_ i4 ((v2 - 1) - i11) v16 M21) (fun u23 M24 =>
              if v16 = v18 then
                lt (i10 + 0) (fun (v28 : Int32) =>
                lt (i11 + 1) (fun (v29 : Int32) =>
                F_X9_reverses_L2 a0 p1_ v2 i4 K n v28 v29 M24))
              else
                lt (i10 + 2) (fun (v26 : Int32) =>
                lt (i11 + 1) (fun (v27 : Int32) =>
                F_X9_reverses_L2 a0 p1_ v2 i4 K n v26 v27 M24))))))
def F_X9_reverses_L1 (a0 : Nat) (p1_ : Int32) (v2 : Int32) (K : Int32 → Int32 → Mem → Option (Int32 × Mem)) : Nat → Int32 → Int32 → Mem → Option (Int32 × Mem)
  | 0, _, _, _ => none
  | n+1, i3, i4, M5 =>
    Option.bind (F_X9_of a0 p1_ 1 M5) (fun v8 =>
      if v8 ≤ i4 then
        K i3 i4 M5
      else
        F_X9_reverses_L2 a0 p1_ v2 i4 (fun (x31 : Int32) (x32 : Int32) (M33 : Mem) =>
        lt (i4 + 1) (fun (v34 : Int32) =>
        F_X9_reverses_L1 a0 p1_ v2 K n x31 v34 M33)) 3000 i3 0 M5)
def F_X9_reverses (a0 : Nat) (p1_ : Int32) (M : Mem) : Option (Int32 × Mem) :=
  Option.bind (F_X9_of a0 p1_ 2 M) (fun v2 =>
  F_X9_reverses_L1 a0 p1_ v2 (fun (x36 : Int32) (x37 : Int32) (M38 : Mem) =>
  some (x36, M38)) 3000 0 0 M)
def F_X9_reverse (a0 : Nat) (p1_ : Int32) (M : Mem) : Option (Int32 × Mem) :=
  lt (sI M a0 0 0) (fun (M1 : Mem) =>
  Option.bind (F_X9_isSection a0 p1_ M1) (fun v3 =>
  if v3 = 0 then
    b1 (F_X9_fails a0 1 M1) (fun v12 M13 =>
    some (v12, M13))
  else
    b1 (F_X9_remembers a0 M1) (fun u6 M7 =>
    b1 (F_X9_reverses a0 p1_ M7) (fun v9 M10 =>
    some (v9, M10)))))
def F_X9_notRaise_L1 (a0 : Nat) (p1_ : Int32) (p2_ : Int32) (M : Mem) (K : Int32 → Option Int32) : Nat → Int32 → Option Int32
  | 0, _ => none
  | n+1, i7 =>
    if 43 ≤ i7 then
            K i7
          else
            Option.bind (F_X9_of a0 p1_ i7 M) (fun v11 =>
            if v11 = 0 then
              lt (i7 + 1) (fun (v13 : Int32) =>
              F_X9_notRaise_L1 a0 p1_ p2_ M K n v13)
            else
              Option.bind (F_X9_of a0 p1_ i7 M) (fun v15 =>
              Option.bind (F_X9_isBetween (v15 + p2_) 1 9) (fun v17 =>
              if v17 = 0 then
                some 3
              else
                lt (i7 + 1) (fun (v19 : Int32) =>
                F_X9_notRaise_L1 a0 p1_ p2_ M K n v19))))
def F_X9_notRaise (a0 : Nat) (p1_ : Int32) (p2_ : Int32) (M : Mem) : Option Int32 :=
  Option.bind (F_X9_isSection a0 p1_ M) (fun v2 =>
  if v2 = 0 then
    some 1
  else
    Option.bind (F_X9_isBetween p2_ (-9) 9) (fun v5 =>
    if v5 = 0 then
      some 2
    else
      F_X9_notRaise_L1 a0 p1_ p2_ M (fun (x21 : Int32) =>
      some 0) 3000 7))
def F_X9_raises_L1 (a0 : Nat) (p1_ : Int32) (p2_ : Int32) (K : Int32 → Int32 → Mem → Option (Int32 × Mem)) : Nat → Int32 → Int32 → Mem → Option (Int32 × Mem)
  | 0, _, _, _ => none
  | n+1, i1, i2, M3 =>
    if 43 ≤ i2 then
        K i1 i2 M3
      else
        Option.bind (F_X9_of a0 p1_ i2 M3) (fun v7 =>
        if v7 = 0 then
          lt (i2 + 1) (fun (v16 : Int32) =>
          F_X9_raises_L1 a0 p1_ p2_ K n i1 v16 M3)
        else
          Option.bind (F_X9_of a0 p1_ i2 M3) (fun v10 =>
          b1 (F_X9_puts a0 p1_ i2 (v10 + p2_) M3) (fun u12 M13 =>
          lt (i1 + 1) (fun (v14 : Int32) =>
          lt (i2 + 1) (fun (v15 : Int32) =>
          F_X9_raises_L1 a0 p1_ p2_ K n v14 v15 M13)))))
def F_X9_raises (a0 : Nat) (p1_ : Int32) (p2_ : Int32) (M : Mem) : Option (Int32 × Mem) :=
  F_X9_raises_L1 a0 p1_ p2_ (fun (x18 : Int32) (x19 : Int32) (M20 : Mem) =>
  some (x18, M20)) 3000 0 7 M
def F_X9_raise (a0 : Nat) (p1_ : Int32) (p2_ : Int32) (M : Mem) : Option (Int32 × Mem) :=
  lt (sI M a0 0 0) (fun (M1 : Mem) =>
  Option.bind (F_X9_notRaise a0 p1_ p2_ M1) (fun v3 =>
  if v3 = 0 then
    b1 (F_X9_remembers a0 M1) (fun u6 M7 =>
    b1 (F_X9_raises a0 p1_ p2_ M7) (fun v9 M10 =>
    some (v9, M10)))
  else
    b1 (F_X9_fails a0 v3 M1) (fun v12 M13 =>
    some (v12, M13))))
def F_X9_notTempo (p1_ : Int32) : Option Int32 :=
  Option.bind (F_X9_isBetween p1_ 1 5) (fun v2 =>
  if v2 = 0 then
    some 1
  else
    some 0)
def F_X9_sets (a0 : Nat) (p1_ : Int32) (p2_ : Int32) (M : Mem) : Option (Int32 × Mem) :=
  chk (inb p1_ 260) (
  lt (mI M (mR M a0 1) p1_.toNatClampNeg) (fun (v3 : Int32) =>
  chk (inb p1_ 260) (
  lt (sI M (mR M a0 1) (p1_.toNatClampNeg) p2_) (fun (M6 : Mem) =>
  some (v3, M6)))))
def F_X9_setTempo (a0 : Nat) (p1_ : Int32) (M : Mem) : Option (Int32 × Mem) :=
  lt (sI M a0 0 0) (fun (M1 : Mem) =>
  Option.bind (F_X9_notTempo p1_) (fun v3 =>
  if v3 = 0 then
    b1 (F_X9_remembers a0 M1) (fun u6 M7 =>
    b1 (F_X9_sets a0 2 p1_ M7) (fun v9 M10 =>
    some (v9, M10)))
  else
    b1 (F_X9_fails a0 1 M1) (fun v12 M13 =>
    some (v12, M13))))
def F_X9_notLimit (p1_ : Int32) : Option Int32 :=
  Option.bind (F_X9_isBetween p1_ 1 99) (fun v2 =>
  if v2 = 0 then
    some 1
  else
    some 0)
def F_X9_setLimit (a0 : Nat) (p1_ : Int32) (M : Mem) : Option (Int32 × Mem) :=
  lt (sI M a0 0 0) (fun (M1 : Mem) =>
  Option.bind (F_X9_notLimit p1_) (fun v3 =>
  if v3 = 0 then
    b1 (F_X9_remembers a0 M1) (fun u6 M7 =>
    b1 (F_X9_sets a0 3 p1_ M7) (fun v9 M10 =>
    some (v9, M10)))
  else
    b1 (F_X9_fails a0 1 M1) (fun v12 M13 =>
    some (v12, M13))))
def F_X9_columnNow (a0 : Nat) (p1_ : Int32) (M : Mem) : Option Int32 :=
  chk (inb 1 260) (
  Option.bind (F_X9_of a0 p1_ 2 M) (fun v4 =>
  chk (nz v4) (
  some ((mI M (mR M a0 1) 1) - (mI M (mR M a0 1) 1) / v4 * v4))))
def F_X9_plays (a0 : Nat) (p1_ : Int32) (M : Mem) : Option Int32 :=
  Option.bind (F_X9_of a0 p1_ 5 M) (fun v2 =>
  if v2 = 0 then
    Option.bind (F_X9_columnNow a0 p1_ M) (fun v5 =>
    Option.bind (F_X9_isMaskedAt a0 p1_ v5 M) (fun v7 =>
    if v7 = 0 then
      some 1
    else
      some 0))
  else
    some 0)
def F_X9_volumeNow (a0 : Nat) (p1_ : Int32) (M : Mem) : Option Int32 :=
  Option.bind (F_X9_plays a0 p1_ M) (fun v2 =>
  if v2 = 0 then
    some 0
  else
    Option.bind (F_X9_columnNow a0 p1_ M) (fun v5 =>
    Option.bind (F_X9_volumeOfColumn a0 p1_ v5 M) (fun v7 =>
    some v7)))
def F_X9_sounds_L1 (a0 : Nat) (p1_ : Int32) (p2_ : Int32) (K : Int32 → Mem → Option (Unit × Mem)) : Nat → Int32 → Mem → Option (Unit × Mem)
  | 0, _, _ => none
  | n+1, i1, M2 =>
    Option.bind (F_X9_of a0 p1_ 1 M2) (fun v5 =>
      if v5 ≤ i1 then
        K i1 M2
      else
        Option.bind (F_X9_noteAt a0 p1_ i1 p2_ M2) (fun v8 =>
        if v8 ≤ 0 then
          lt (i1 + 1) (fun (v10 : Int32) =>
          F_X9_sounds_L1 a0 p1_ p2_ K n v10 M2)
        else
          Option.bind (F_X9_of a0 p1_ 0 M2) (fun v13 =>
          chk (inb (((18 + (9 * v13)) + v8) - 1) 260) (
          chk (inb (((18 + (9 * v13)) + v8) - 1) 260) (
          lt (sI M2 (mR M2 a0 1) ((((18 + (9 * v13)) + v8) - 1).toNatClampNeg) ((mI M2 (mR M2 a0 1) (((18 + (9 * v13)) + v8) - 1).toNatClampNeg) + 1)) (fun (M16 : Mem) =>
          lt (i1 + 1) (fun (v17 : Int32) =>
          F_X9_sounds_L1 a0 p1_ p2_ K n v17 M16)))))))
def F_X9_sounds (a0 : Nat) (p1_ : Int32) (p2_ : Int32) (M : Mem) : Option (Unit × Mem) :=
  F_X9_sounds_L1 a0 p1_ p2_ (fun (x19 : Int32) (M20 : Mem) =>
  some ((), M20)) 3000 0 M
def F_X9_tires (a0 : Nat) (p1_ : Int32) (M : Mem) : Option (Unit × Mem) :=
  Option.bind (F_X9_of a0 p1_ 4 M) (fun v2 =>
  b1 (F_X9_puts a0 p1_ 4 (v2 + 1) M) (fun u4 M5 =>
  Option.bind (F_X9_of a0 p1_ 4 M5) (fun v7 =>
  if 3 ≤ v7 then
    b1 (F_X9_puts a0 p1_ 4 0 M5) (fun u10 M11 =>
    b1 (F_X9_puts a0 p1_ 5 2 M11) (fun u13 M14 =>
    some ((), M14)))
  else
    some ((), M5))))
def F_X9_logs_L1 (a0 : Nat) (K : Int32 → Mem → Option (Unit × Mem)) : Nat → Int32 → Mem → Option (Unit × Mem)
  | 0, _, _ => none
  | n+1, i7, M8 =>
    if i7 ≤ 0 then
          K i7 M8
        else
          chk (inb ((8 + i7) - 1) 260) (
          chk (inb (8 + i7) 260) (
          lt (sI M8 (mR M8 a0 1) ((8 + i7).toNatClampNeg) (mI M8 (mR M8 a0 1) ((8 + i7) - 1).toNatClampNeg)) (fun (M15 : Mem) =>
          lt (i7 + (-1)) (fun (v16 : Int32) =>
          F_X9_logs_L1 a0 K n v16 M15))))
def F_X9_logs_L2 (a0 : Nat) (K : Int32 → Mem → Option (Unit × Mem)) : Nat → Int32 → Mem → Option (Unit × Mem)
  | 0, _, _ => none
  | n+1, i36, M37 =>
    if i36 ≤ 0 then
          K i36 M37
        else
          chk (inb ((8 + i36) - 1) 260) (
          chk (inb (8 + i36) 260) (
          lt (sI M37 (mR M37 a0 1) ((8 + i36).toNatClampNeg) (mI M37 (mR M37 a0 1) ((8 + i36) - 1).toNatClampNeg)) (fun (M44 : Mem) =>
          lt (i36 + (-1)) (fun (v45 : Int32) =>
          F_X9_logs_L2 a0 K n v45 M44))))
def F_X9_logs (a0 : Nat) (p1_ : Int32) (M : Mem) : Option (Unit × Mem) :=
  chk (inb 7 260) (
  if 10 ≤ (mI M (mR M a0 1) 7) then
    chk (inb 7 260) (
    lt ((mI M (mR M a0 1) 7) - 1) (fun (v6 : Int32) =>
    F_X9_logs_L1 a0 (fun (x18 : Int32) (M19 : Mem) =>
    chk (inb 8 260) (
    lt (sI M19 (mR M19 a0 1) (8) p1_) (fun (M22 : Mem) =>
    chk (inb 6 260) (
    if p1_ ≤ (mI M22 (mR M22 a0 1) 6) then
      some ((), M22)
    else
      chk (inb 6 260) (
      lt (sI M22 (mR M22 a0 1) (6) p1_) (fun (M28 : Mem) =>
      some ((), M28))))))) 3000 v6 M))
  else
    chk (inb 7 260) (
    chk (inb 7 260) (
    lt (sI M (mR M a0 1) (7) ((mI M (mR M a0 1) 7) + 1)) (fun (M32 : Mem) =>
    chk (inb 7 260) (
    lt ((mI M32 (mR M32 a0 1) 7) - 1) (fun (v35 : Int32) =>
    F_X9_logs_L2 a0 (fun (x47 : Int32) (M48 : Mem) =>
    chk (inb 8 260) (
    lt (sI M48 (mR M48 a0 1) (8) p1_) (fun (M51 : Mem) =>
    chk (inb 6 260) (
    if p1_ ≤ (mI M51 (mR M51 a0 1) 6) then
      some ((), M51)
    else
      chk (inb 6 260) (
      lt (sI M51 (mR M51 a0 1) (6) p1_) (fun (M57 : Mem) =>
      some ((), M57))))))) 3000 v35 M32))))))
def F_X9_beats_L1 (a0 : Nat) (K : Int32 → Int32 → Int32 → Int32 → Mem → Option (Int32 × Mem)) : Nat → Int32 → Int32 → Int32 → Int32 → Mem → Option (Int32 × Mem)
  | 0, _, _, _, _, _ => none
  | n+1, i1, i2, i3, i4, M5 =>
    chk (inb 0 260) (
      if (mI M5 (mR M5 a0 1) 0) ≤ i4 then
        K i1 i2 i3 i4 M5
      else
        Option.bind (F_X9_volumeNow a0 i4 M5) (fun v11 =>
        Option.bind (F_X9_plays a0 i4 M5) (fun v13 =>
        if v13 = 0 then
          Option.bind (F_X9_of a0 i4 5 M5) (fun v16 =>
          if v16 ≤ 0 then
            Option.bind (F_X9_of a0 i4 6 M5) (fun v19 =>
            b1 (F_X9_puts a0 i4 6 (v19 + v11) M5) (fun u21 M22 =>
            lt (i1 + v11) (fun (v23 : Int32) =>
            if v11 ≤ i3 then
              lt (i4 + 1) (fun (v25 : Int32) =>
              F_X9_beats_L1 a0 K n v23 i2 i3 v25 M22)
            else
              lt (i4 + 1) (fun (v26 : Int32) =>
              F_X9_beats_L1 a0 K n v23 i4 v11 v26 M22))))
          else
            Option.bind (F_X9_of a0 i4 5 M5) (fun v28 =>
            b1 (F_X9_puts a0 i4 5 (v28 - 1) M5) (fun u30 M31 =>
            Option.bind (F_X9_of a0 i4 6 M31) (fun v33 =>
            b1 (F_X9_puts a0 i4 6 (v33 + v11) M31) (fun u35 M36 =>
            lt (i1 + v11) (fun (v37 : Int32) =>
            if v11 ≤ i3 then
              lt (i4 + 1) (fun (v39 : Int32) =>
              F_X9_beats_L1 a0 K n v37 i2 i3 v39 M36)
            else
              lt (i4 + 1) (fun (v40 : Int32) =>
              F_X9_beats_L1 a0 K n v37 i4 v11 v40 M36)))))))
        else
          Option.bind (F_X9_columnNow a0 i4 M5) (fun v42 =>
          b1 (F_X9_sounds a0 i4 v42 M5) (fun u44 M45 =>
          Option.bind (F_X9_of a0 i4 5 M45) (fun v47 =>
          if v47 ≤ 0 then
            Option.bind (F_X9_of a0 i4 6 M45) (fun v50 =>
            b1 (F_X9_puts a0 i4 6 (v50 + v11) M45) (fun u52 M53 =>
            lt (i1 + v11) (fun (v54 : Int32) =>
            if v11 ≤ i3 then
              lt (i4 + 1) (fun (v56 : Int32) =>
              F_X9_beats_L1 a0 K n v54 i2 i3 v56 M53)
            else
              lt (i4 + 1) (fun (v57 : Int32) =>
              F_X9_beats_L1 a0 K n v54 i4 v11 v57 M53))))
          else
            Option.bind (F_X9_of a0 i4 5 M45) (fun v59 =>
            b1 (F_X9_puts a0 i4 5 (v59 - 1) M45) (fun u61 M62 =>
            Option.bind (F_X9_of a0 i4 6 M62) (fun v64 =>
            b1 (F_X9_puts a0 i4 6 (v64 + v11) M62) (fun u66 M67 =>
            lt (i1 + v11) (fun (v68 : Int32) =>
            if v11 ≤ i3 then
              lt (i4 + 1) (fun (v70 : Int32) =>
              F_X9_beats_L1 a0 K n v68 i2 i3 v70 M67)
            else
              lt (i4 + 1) (fun (v71 : Int32) =>
              F_X9_beats_L1 a0 K n v68 i4 v11 v71 M67))))))))))))
def F_X9_beats (a0 : Nat) (M : Mem) : Option (Int32 × Mem) :=
  F_X9_beats_L1 a0 (fun (x73 : Int32) (x74 : Int32) (x75 : Int32) (x76 : Int32) (M77 : Mem) =>
  chk (inb 3 260) (
  if x73 ≤ (mI M77 (mR M77 a0 1) 3) then
    chk (inb 1 260) (
    chk (inb 1 260) (
    lt (sI M77 (mR M77 a0 1) (1) ((mI M77 (mR M77 a0 1) 1) + 1)) (fun (M84 : Mem) =>
    chk (inb 5 260) (
    chk (inb 5 260) (
    lt (sI M84 (mR M84 a0 1) (5) ((mI M84 (mR M84 a0 1) 5) + x73)) (fun (M88 : Mem) =>
    b1 (F_X9_logs a0 x73 M88) (fun u90 M91 =>
    some (x73, M91))))))))
  else
    chk (inb 4 260) (
    chk (inb 4 260) (
    lt (sI M77 (mR M77 a0 1) (4) ((mI M77 (mR M77 a0 1) 4) + 1)) (fun (M95 : Mem) =>
    b1 (F_X9_tires a0 x74 M95) (fun u97 M98 =>
    chk (inb 1 260) (
    chk (inb 1 260) (
    lt (sI M98 (mR M98 a0 1) (1) ((mI M98 (mR M98 a0 1) 1) + 1)) (fun (M102 : Mem) =>
    chk (inb 5 260) (
    chk (inb 5 260) (
    lt (sI M102 (mR M102 a0 1) (5) ((mI M102 (mR M102 a0 1) 5) + x73)) (fun (M106 : Mem) =>
    b1 (F_X9_logs a0 x73 M106) (fun u108 M109 =>
    some (x73, M109)))))))))))))) 3000 0 0 (-1) 0 M
def F_X9_beatsTimes_L1 (a0 : Nat) (p1_ : Int32) (K : Int32 → Int32 → Mem → Option (Int32 × Mem)) : Nat → Int32 → Int32 → Mem → Option (Int32 × Mem)
  | 0, _, _, _ => none
  | n+1, i1, i2, M3 =>
    if p1_ ≤ i2 then
        K i1 i2 M3
      else
        b1 (F_X9_beats a0 M3) (fun v7 M8 =>
        lt (i1 + v7) (fun (v9 : Int32) =>
        lt (i2 + 1) (fun (v10 : Int32) =>
        F_X9_beatsTimes_L1 a0 p1_ K n v9 v10 M8)))
def F_X9_beatsTimes (a0 : Nat) (p1_ : Int32) (M : Mem) : Option (Int32 × Mem) :=
  F_X9_beatsTimes_L1 a0 p1_ (fun (x12 : Int32) (x13 : Int32) (M14 : Mem) =>
  some (x12, M14)) 3000 0 0 M
def F_X9_conductWave (a0 : Nat) (M : Mem) : Option (Int32 × Mem) :=
  lt (sI M a0 0 0) (fun (M1 : Mem) =>
  b1 (F_X9_remembers a0 M1) (fun u3 M4 =>
  chk (inb 2 260) (
  b1 (F_X9_beatsTimes a0 (mI M4 (mR M4 a0 1) 2) M4) (fun v8 M9 =>
  some (v8, M9)))))
def F_X9_notBeats (p1_ : Int32) : Option Int32 :=
  Option.bind (F_X9_isBetween p1_ 1 40) (fun v2 =>
  if v2 = 0 then
    some 1
  else
    some 0)
def F_X9_conductBeats (a0 : Nat) (p1_ : Int32) (M : Mem) : Option (Int32 × Mem) :=
  lt (sI M a0 0 0) (fun (M1 : Mem) =>
  Option.bind (F_X9_notBeats p1_) (fun v3 =>
  if v3 = 0 then
    b1 (F_X9_remembers a0 M1) (fun u6 M7 =>
    b1 (F_X9_beatsTimes a0 p1_ M7) (fun v9 M10 =>
    some (v9, M10)))
  else
    b1 (F_X9_fails a0 1 M1) (fun v12 M13 =>
    some (v12, M13))))
def F_X9_asks (a0 : Nat) (p1_ : Int32) (M : Mem) : Option (Int32 × Mem) :=
  lt (sI M a0 0 0) (fun (M1 : Mem) =>
  chk (inb p1_ 260) (
  some (mI M1 (mR M1 a0 1) p1_.toNatClampNeg, M1)))
def F_X9_beatCount (a0 : Nat) (M : Mem) : Option (Int32 × Mem) :=
  b1 (F_X9_asks a0 1 M) (fun v2 M3 =>
  some (v2, M3))
def F_X9_sectionCount (a0 : Nat) (M : Mem) : Option (Int32 × Mem) :=
  b1 (F_X9_asks a0 0 M) (fun v2 M3 =>
  some (v2, M3))
def F_X9_tempo (a0 : Nat) (M : Mem) : Option (Int32 × Mem) :=
  b1 (F_X9_asks a0 2 M) (fun v2 M3 =>
  some (v2, M3))
def F_X9_limit (a0 : Nat) (M : Mem) : Option (Int32 × Mem) :=
  b1 (F_X9_asks a0 3 M) (fun v2 M3 =>
  some (v2, M3))
def F_X9_asksSection (a0 : Nat) (p1_ : Int32) (p2_ : Int32) (M : Mem) : Option (Int32 × Mem) :=
  lt (sI M a0 0 0) (fun (M1 : Mem) =>
  Option.bind (F_X9_isSection a0 p1_ M1) (fun v3 =>
  if v3 = 0 then
    b1 (F_X9_fails a0 1 M1) (fun v6 M7 =>
    some (v6, M7))
  else
    Option.bind (F_X9_of a0 p1_ p2_ M1) (fun v9 =>
    some (v9, M1))))
def F_X9_kind (a0 : Nat) (p1_ : Int32) (M : Mem) : Option (Int32 × Mem) :=
  b1 (F_X9_asksSection a0 p1_ 0 M) (fun v2 M3 =>
  if (mI M3 a0 0) = 0 then
    Option.bind (F_X9_letterOf v2) (fun v6 =>
    chk (nokC v6) (some (v6, M3)))
  else
    some (0, M3))
def F_X9_rows (a0 : Nat) (p1_ : Int32) (M : Mem) : Option (Int32 × Mem) :=
  b1 (F_X9_asksSection a0 p1_ 1 M) (fun v2 M3 =>
  some (v2, M3))
def F_X9_columns (a0 : Nat) (p1_ : Int32) (M : Mem) : Option (Int32 × Mem) :=
  b1 (F_X9_asksSection a0 p1_ 2 M) (fun v2 M3 =>
  some (v2, M3))
def F_X9_note (a0 : Nat) (p1_ : Int32) (p2_ : Int32) (p3_ : Int32) (M : Mem) : Option (Int32 × Mem) :=
  lt (sI M a0 0 0) (fun (M1 : Mem) =>
  Option.bind (F_X9_isCell a0 p1_ p2_ p3_ M1) (fun v3 =>
  if v3 = 0 then
    b1 (F_X9_fails a0 1 M1) (fun v6 M7 =>
    some (v6, M7))
  else
    Option.bind (F_X9_noteAt a0 p1_ p2_ p3_ M1) (fun v9 =>
    some (v9, M1))))
def F_X9_isMasked (a0 : Nat) (p1_ : Int32) (p2_ : Int32) (M : Mem) : Option (Int32 × Mem) :=
  lt (sI M a0 0 0) (fun (M1 : Mem) =>
  Option.bind (F_X9_notMask a0 p1_ p2_ M1) (fun v3 =>
  if v3 = 0 then
    Option.bind (F_X9_isMaskedAt a0 p1_ p2_ M1) (fun v6 =>
    chk (nokZ v6) (some (v6, M1)))
  else
    b1 (F_X9_fails a0 v3 M1) (fun v9 M10 =>
    if v9 ≤ 0 then
      some (0, M10)
    else
      some (1, M10))))
def F_X9_fatigue (a0 : Nat) (p1_ : Int32) (M : Mem) : Option (Int32 × Mem) :=
  b1 (F_X9_asksSection a0 p1_ 4 M) (fun v2 M3 =>
  some (v2, M3))
def F_X9_restingBeats (a0 : Nat) (p1_ : Int32) (M : Mem) : Option (Int32 × Mem) :=
  b1 (F_X9_asksSection a0 p1_ 5 M) (fun v2 M3 =>
  some (v2, M3))
def F_X9_isSymmetric_L2 (a0 : Nat) (p1_ : Int32) (M1 : Mem) (i10 : Int32) (K : Int32 → Option (Int32 × Mem)) : Nat → Int32 → Option (Int32 × Mem)
  | 0, _ => none
  | n+1, i15 =>
    if i10 ≤ i15 then
                  K i15
                else
                  Option.bind (F_X9_noteAt a0 p1_ i10 i15 M1) (fun v19 =>
                  Option.bind (F_X9_noteAt a0 p1_ i15 i10 M1) (fun v21 =>
                  if v19 = v21 then
                    lt (i15 + 1) (fun (v23 : Int32) =>
                    F_X9_isSymmetric_L2 a0 p1_ M1 i10 K n v23)
                  else
                    some (0, M1)))
def F_X9_isSymmetric_L1 (a0 : Nat) (p1_ : Int32) (M1 : Mem) (K : Int32 → Option (Int32 × Mem)) : Nat → Int32 → Option (Int32 × Mem)
  | 0, _ => none
  | n+1, i10 =>
    Option.bind (F_X9_of a0 p1_ 1 M1) (fun v13 =>
          if v13 ≤ i10 then
            K i10
          else
            F_X9_isSymmetric_L2 a0 p1_ M1 i10 (fun (x25 : Int32) =>
            lt (i10 + 1) (fun (v26 : Int32) =>
            F_X9_isSymmetric_L1 a0 p1_ M1 K n v26)) 3000 0)
def F_X9_isSymmetric (a0 : Nat) (p1_ : Int32) (M : Mem) : Option (Int32 × Mem) :=
  lt (sI M a0 0 0) (fun (M1 : Mem) =>
  Option.bind (F_X9_isSection a0 p1_ M1) (fun v3 =>
  if v3 = 0 then
    b1 (F_X9_fails a0 1 M1) (fun v30 M31 =>
    if v30 ≤ 0 then
      some (0, M31)
    else
      some (1, M31))
  else
    Option.bind (F_X9_of a0 p1_ 1 M1) (fun v6 =>
    Option.bind (F_X9_of a0 p1_ 2 M1) (fun v8 =>
    if v6 = v8 then
      F_X9_isSymmetric_L1 a0 p1_ M1 (fun (x28 : Int32) =>
      some (1, M1)) 3000 0
    else
      some (0, M1)))))
def F_X9_areAlike_L1 (a0 : Nat) (p1_ : Int32) (p2_ : Int32) (M1 : Mem) (K : Int32 → Option (Int32 × Mem)) : Nat → Int32 → Option (Int32 × Mem)
  | 0, _ => none
  | n+1, i22 =>
    if 43 ≤ i22 then
                K i22
              else
                Option.bind (F_X9_of a0 p1_ i22 M1) (fun v26 =>
                Option.bind (F_X9_of a0 p2_ i22 M1) (fun v28 =>
                if v26 = v28 then
                  lt (i22 + 1) (fun (v30 : Int32) =>
                  F_X9_areAlike_L1 a0 p1_ p2_ M1 K n v30)
                else
                  some (0, M1)))
def F_X9_areAlike (a0 : Nat) (p1_ : Int32) (p2_ : Int32) (M : Mem) : Option (Int32 × Mem) :=
  lt (sI M a0 0 0) (fun (M1 : Mem) =>
  Option.bind (F_X9_isSection a0 p1_ M1) (fun v3 =>
  if v3 = 0 then
    b1 (F_X9_fails a0 1 M1) (fun v6 M7 =>
    if v6 ≤ 0 then
      some (0, M7)
    else
      some (1, M7))
  else
    Option.bind (F_X9_isSection a0 p2_ M1) (fun v10 =>
    if v10 = 0 then
      b1 (F_X9_fails a0 1 M1) (fun v34 M35 =>
      if v34 ≤ 0 then
        some (0, M35)
      else
        some (1, M35))
    else
      Option.bind (F_X9_of a0 p1_ 1 M1) (fun v13 =>
      Option.bind (F_X9_of a0 p2_ 1 M1) (fun v15 =>
      if v13 = v15 then
        Option.bind (F_X9_of a0 p1_ 2 M1) (fun v18 =>
        Option.bind (F_X9_of a0 p2_ 2 M1) (fun v20 =>
        if v18 = v20 then
          F_X9_areAlike_L1 a0 p1_ p2_ M1 (fun (x32 : Int32) =>
          some (1, M1)) 3000 7
        else
          some (0, M1)))
      else
        some (0, M1))))))
def F_X9_noteVolume (a0 : Nat) (p1_ : Int32) (p2_ : Int32) (M : Mem) : Option (Int32 × Mem) :=
  lt (sI M a0 0 0) (fun (M1 : Mem) =>
  Option.bind (F_X9_kindOf p1_) (fun v3 =>
  if v3 < 0 then
    b1 (F_X9_fails a0 1 M1) (fun v6 M7 =>
    some (v6, M7))
  else
    Option.bind (F_X9_isBetween p2_ 0 9) (fun v9 =>
    if v9 = 0 then
      b1 (F_X9_fails a0 1 M1) (fun v16 M17 =>
      some (v16, M17))
    else
      Option.bind (F_X9_kindOf p1_) (fun v12 =>
      Option.bind (F_X9_volumeOf v12 p2_) (fun v14 =>
      some (v14, M1))))))
def F_X9_columnVolume (a0 : Nat) (p1_ : Int32) (p2_ : Int32) (M : Mem) : Option (Int32 × Mem) :=
  lt (sI M a0 0 0) (fun (M1 : Mem) =>
  Option.bind (F_X9_isCell a0 p1_ 0 p2_ M1) (fun v3 =>
  if v3 = 0 then
    b1 (F_X9_fails a0 1 M1) (fun v6 M7 =>
    some (v6, M7))
  else
    Option.bind (F_X9_volumeOfColumn a0 p1_ p2_ M1) (fun v9 =>
    some (v9, M1))))
def F_X9_columnVolumeByTransposing (a0 : Nat) (p1_ : Int32) (p2_ : Int32) (M : Mem) : Option (Int32 × Mem) :=
  b1 (F_X9_columnVolume a0 p1_ p2_ M) (fun v2 M3 =>
  some (v2, M3))
def F_X9_nextVolume (a0 : Nat) (p1_ : Int32) (M : Mem) : Option (Int32 × Mem) :=
  lt (sI M a0 0 0) (fun (M1 : Mem) =>
  Option.bind (F_X9_isSection a0 p1_ M1) (fun v3 =>
  if v3 = 0 then
    b1 (F_X9_fails a0 1 M1) (fun v6 M7 =>
    some (v6, M7))
  else
    Option.bind (F_X9_volumeNow a0 p1_ M1) (fun v9 =>
    some (v9, M1))))
def F_X9_nextTotal_L1 (a0 : Nat) (M1 : Mem) (K : Int32 → Int32 → Option (Int32 × Mem)) : Nat → Int32 → Int32 → Option (Int32 × Mem)
  | 0, _, _ => none
  | n+1, i2, i3 =>
    chk (inb 0 260) (
      if (mI M1 (mR M1 a0 1) 0) ≤ i3 then
        K i2 i3
      else
        Option.bind (F_X9_volumeNow a0 i3 M1) (fun v9 =>
        lt (i2 + v9) (fun (v10 : Int32) =>
        lt (i3 + 1) (fun (v11 : Int32) =>
        F_X9_nextTotal_L1 a0 M1 K n v10 v11))))
def F_X9_nextTotal (a0 : Nat) (M : Mem) : Option (Int32 × Mem) :=
  lt (sI M a0 0 0) (fun (M1 : Mem) =>
  F_X9_nextTotal_L1 a0 M1 (fun (x13 : Int32) (x14 : Int32) =>
  some (x13, M1)) 3000 0 0)
def F_X9_isPeriod_L1 (a0 : Nat) (p1_ : Int32) (M : Mem) (K : Int32 → Option Int32) : Nat → Int32 → Option Int32
  | 0, _ => none
  | n+1, i1 =>
    chk (inb 0 260) (
      if (mI M (mR M a0 1) 0) ≤ i1 then
        K i1
      else
        Option.bind (F_X9_of a0 i1 2 M) (fun v7 =>
        chk (nz v7) (
        if (p1_ - p1_ / v7 * v7) = 0 then
          lt (i1 + 1) (fun (v10 : Int32) =>
          F_X9_isPeriod_L1 a0 p1_ M K n v10)
        else
          some 0)))
def F_X9_isPeriod (a0 : Nat) (p1_ : Int32) (M : Mem) : Option Int32 :=
  F_X9_isPeriod_L1 a0 p1_ M (fun (x12 : Int32) =>
  some 1) 3000 0
def F_X9_period_L1 (a0 : Nat) (M1 : Mem) (K : Int32 → Option (Int32 × Mem)) : Nat → Int32 → Option (Int32 × Mem)
  | 0, _ => none
  | n+1, i2 =>
    Option.bind (F_X9_isPeriod a0 i2 M1) (fun v5 =>
      if v5 = 0 then
        lt (i2 + 1) (fun (v7 : Int32) =>
        F_X9_period_L1 a0 M1 K n v7)
      else
        K i2)
def F_X9_period (a0 : Nat) (M : Mem) : Option (Int32 × Mem) :=
  lt (sI M a0 0 0) (fun (M1 : Mem) =>
  F_X9_period_L1 a0 M1 (fun (x9 : Int32) =>
  some (x9, M1)) 3000 1)
def F_X9_periodBySearch (a0 : Nat) (M : Mem) : Option (Int32 × Mem) :=
  b1 (F_X9_period a0 M) (fun v2 M3 =>
  some (v2, M3))
def F_X9_looksAhead_L1 (a0 : Nat) (K : Int32 → Mem → Option (Unit × Mem)) : Nat → Int32 → Mem → Option (Unit × Mem)
  | 0, _, _ => none
  | n+1, i1, M2 =>
    if 260 ≤ i1 then
        K i1 M2
      else
        chk (inb i1 260) (
        chk (inb i1 260) (
        lt (sI M2 (mR M2 a0 5) (i1.toNatClampNeg) (mI M2 (mR M2 a0 1) i1.toNatClampNeg)) (fun (M9 : Mem) =>
        lt (i1 + 1) (fun (v10 : Int32) =>
        F_X9_looksAhead_L1 a0 K n v10 M9))))
def F_X9_looksAhead (a0 : Nat) (M : Mem) : Option (Unit × Mem) :=
  F_X9_looksAhead_L1 a0 (fun (x12 : Int32) (M13 : Mem) =>
  some ((), M13)) 3000 0 M
def F_X9_looksBack_L1 (a0 : Nat) (K : Int32 → Mem → Option (Unit × Mem)) : Nat → Int32 → Mem → Option (Unit × Mem)
  | 0, _, _ => none
  | n+1, i1, M2 =>
    if 260 ≤ i1 then
        K i1 M2
      else
        chk (inb i1 260) (
        chk (inb i1 260) (
        lt (sI M2 (mR M2 a0 1) (i1.toNatClampNeg) (mI M2 (mR M2 a0 5) i1.toNatClampNeg)) (fun (M9 : Mem) =>
        lt (i1 + 1) (fun (v10 : Int32) =>
        F_X9_looksBack_L1 a0 K n v10 M9))))
def F_X9_looksBack (a0 : Nat) (M : Mem) : Option (Unit × Mem) :=
  F_X9_looksBack_L1 a0 (fun (x12 : Int32) (M13 : Mem) =>
  some ((), M13)) 3000 0 M
def F_X9_beatsUntilBreak_L1 (a0 : Nat) (v7 : Int32) (K : Int32 → Mem → Option (Int32 × Mem)) : Nat → Int32 → Mem → Option (Int32 × Mem)
  | 0, _, _ => none
  | n+1, i8, M9 =>
    if 60 ≤ i8 then
        K i8 M9
      else
        chk (inb 4 260) (
        if (mI M9 (mR M9 a0 1) 4) = v7 then
          b1 (F_X9_beats a0 M9) (fun v16 M17 =>
          lt (i8 + 1) (fun (v18 : Int32) =>
          F_X9_beatsUntilBreak_L1 a0 v7 K n v18 M17))
        else
          K i8 M9)
def F_X9_beatsUntilBreak (a0 : Nat) (M : Mem) : Option (Int32 × Mem) :=
  lt (sI M a0 0 0) (fun (M1 : Mem) =>
  b1 (F_X9_looksAhead a0 M1) (fun u3 M4 =>
  chk (inb 4 260) (
  lt (mI M4 (mR M4 a0 1) 4) (fun (v7 : Int32) =>
  F_X9_beatsUntilBreak_L1 a0 v7 (fun (x20 : Int32) (M21 : Mem) =>
  chk (inb 4 260) (
  if (mI M21 (mR M21 a0 1) 4) ≤ v7 then
    b1 (F_X9_looksBack a0 M21) (fun u26 M27 =>
    b1 (F_X9_fails a0 1 M27) (fun v30 M31 =>
    some (v30, M31)))
  else
    b1 (F_X9_looksBack a0 M21) (fun u33 M34 =>
    some (x20, M34)))) 3000 0 M4))))
def F_X9_totalWithin (a0 : Nat) (p1_ : Int32) (M : Mem) : Option (Int32 × Mem) :=
  lt (sI M a0 0 0) (fun (M1 : Mem) =>
  Option.bind (F_X9_isBetween p1_ 0 60) (fun v3 =>
  if v3 = 0 then
    b1 (F_X9_fails a0 1 M1) (fun v15 M16 =>
    some (v15, M16))
  else
    b1 (F_X9_looksAhead a0 M1) (fun u6 M7 =>
    b1 (F_X9_beatsTimes a0 p1_ M7) (fun v9 M10 =>
    b1 (F_X9_looksBack a0 M10) (fun u12 M13 =>
    some (v9, M13))))))
def F_X9_breakCount (a0 : Nat) (M : Mem) : Option (Int32 × Mem) :=
  b1 (F_X9_asks a0 4 M) (fun v2 M3 =>
  some (v2, M3))
def F_X9_playedVolume (a0 : Nat) (p1_ : Int32) (M : Mem) : Option (Int32 × Mem) :=
  b1 (F_X9_asksSection a0 p1_ 6 M) (fun v2 M3 =>
  some (v2, M3))
def F_X9_totalVolume (a0 : Nat) (M : Mem) : Option (Int64 × Mem) :=
  lt (sI M a0 0 0) (fun (M1 : Mem) =>
  chk (inb 5 260) (
  some ((mI M1 (mR M1 a0 1) 5).toInt64, M1)))
def F_X9_soundsOf (a0 : Nat) (p1_ : Int32) (p2_ : Int32) (M : Mem) : Option Int32 :=
  chk (inb (((18 + (9 * p1_)) + p2_) - 1) 260) (
  some (mI M (mR M a0 1) (((18 + (9 * p1_)) + p2_) - 1).toNatClampNeg))
def F_X9_volumeBySounds_L2 (a0 : Nat) (M : Mem) (i2 : Int32) (K : Int32 → Int32 → Option Int32) : Nat → Int32 → Int32 → Option Int32
  | 0, _, _ => none
  | n+1, i5, i6 =>
    if 9 < i6 then
              K i5 i6
            else
              Option.bind (F_X9_soundsOf a0 i2 i6 M) (fun v10 =>
              Option.bind (F_X9_volumeOf i2 i6) (fun v12 =>
              lt (i5 + (v10 * v12)) (fun (v13 : Int32) =>
              lt (i6 + 1) (fun (v14 : Int32) =>
              F_X9_volumeBySounds_L2 a0 M i2 K n v13 v14))))
def F_X9_volumeBySounds_L1 (a0 : Nat) (M : Mem) (K : Int32 → Int32 → Option Int32) : Nat → Int32 → Int32 → Option Int32
  | 0, _, _ => none
  | n+1, i1, i2 =>
    if 3 ≤ i2 then
        K i1 i2
      else
        F_X9_volumeBySounds_L2 a0 M i2 (fun (x16 : Int32) (x17 : Int32) =>
        lt (i2 + 1) (fun (v18 : Int32) =>
        F_X9_volumeBySounds_L1 a0 M K n x16 v18)) 3000 i1 1
def F_X9_volumeBySounds (a0 : Nat) (M : Mem) : Option Int32 :=
  F_X9_volumeBySounds_L1 a0 M (fun (x20 : Int32) (x21 : Int32) =>
  some x20) 3000 0 0
def F_X9_totalVolumeBySounds (a0 : Nat) (M : Mem) : Option (Int64 × Mem) :=
  lt (sI M a0 0 0) (fun (M1 : Mem) =>
  Option.bind (F_X9_volumeBySounds a0 M1) (fun v3 =>
  some (v3.toInt64, M1)))
def F_X9_soundCount (a0 : Nat) (p1_ : Int32) (p2_ : Int32) (M : Mem) : Option (Int32 × Mem) :=
  lt (sI M a0 0 0) (fun (M1 : Mem) =>
  Option.bind (F_X9_kindOf p1_) (fun v3 =>
  if v3 < 0 then
    b1 (F_X9_fails a0 1 M1) (fun v6 M7 =>
    some (v6, M7))
  else
    Option.bind (F_X9_isBetween p2_ 1 9) (fun v9 =>
    if v9 = 0 then
      b1 (F_X9_fails a0 1 M1) (fun v16 M17 =>
      some (v16, M17))
    else
      Option.bind (F_X9_kindOf p1_) (fun v12 =>
      Option.bind (F_X9_soundsOf a0 v12 p2_ M1) (fun v14 =>
      some (v14, M1))))))
def F_X9_greatestTotal (a0 : Nat) (M : Mem) : Option (Int32 × Mem) :=
  lt (sI M a0 0 0) (fun (M1 : Mem) =>
  chk (inb 1 260) (
  if (mI M1 (mR M1 a0 1) 1) = 0 then
    b1 (F_X9_fails a0 1 M1) (fun v8 M9 =>
    some (v8, M9))
  else
    chk (inb 6 260) (
    some (mI M1 (mR M1 a0 1) 6, M1))))
def F_X9_loggedTotal (a0 : Nat) (p1_ : Int32) (M : Mem) : Option (Int32 × Mem) :=
  lt (sI M a0 0 0) (fun (M1 : Mem) =>
  chk (inb 7 260) (
  Option.bind (F_X9_isBetween p1_ 0 ((mI M1 (mR M1 a0 1) 7) - 1)) (fun v5 =>
  if v5 = 0 then
    b1 (F_X9_fails a0 1 M1) (fun v8 M9 =>
    some (v8, M9))
  else
    chk (inb (8 + p1_) 260) (
    some (mI M1 (mR M1 a0 1) (8 + p1_).toNatClampNeg, M1)))))
def F_X9_isAhead (a0 : Nat) (p1_ : Int32) (p2_ : Int32) (M : Mem) : Option Int32 :=
  Option.bind (F_X9_of a0 p1_ 6 M) (fun v2 =>
  Option.bind (F_X9_of a0 p2_ 6 M) (fun v4 =>
  lt (v2 - v4) (fun (v5 : Int32) =>
  Option.bind (F_X9_of a0 p2_ 4 M) (fun v7 =>
  Option.bind (F_X9_of a0 p1_ 4 M) (fun v9 =>
  lt (v7 - v9) (fun (v10 : Int32) =>
  if v5 = 0 then
    if v10 = 0 then
      if p2_ ≤ p1_ then
        some 0
      else
        some 1
    else
      if v10 ≤ 0 then
        some 0
      else
        some 1
  else
    if v5 ≤ 0 then
      some 0
    else
      some 1))))))
def F_X9_sectionByVolume_L2 (a0 : Nat) (M1 : Mem) (i2 : Int32) (K : Int32 → Int32 → Option (Int32 × Mem)) : Nat → Int32 → Int32 → Option (Int32 × Mem)
  | 0, _, _ => none
  | n+1, i7, i8 =>
    chk (inb 0 260) (
            if (mI M1 (mR M1 a0 1) 0) ≤ i8 then
              K i7 i8
            else
              Option.bind (F_X9_isAhead a0 i8 i2 M1) (fun v14 =>
              if v14 = 0 then
                lt (i7 + 0) (fun (v16 : Int32) =>
                lt (i8 + 1) (fun (v17 : Int32) =>
                F_X9_sectionByVolume_L2 a0 M1 i2 K n v16 v17))
              else
                lt (i7 + 1) (fun (v18 : Int32) =>
                lt (i8 + 1) (fun (v19 : Int32) =>
                F_X9_sectionByVolume_L2 a0 M1 i2 K n v18 v19))))
def F_X9_sectionByVolume_L1 (a0 : Nat) (p1_ : Int32) (M1 : Mem) (K : Int32 → Option (Int32 × Mem)) : Nat → Int32 → Option (Int32 × Mem)
  | 0, _ => none
  | n+1, i2 =>
    chk (inb 0 260) (
      if (mI M1 (mR M1 a0 1) 0) ≤ i2 then
        K i2
      else
        F_X9_sectionByVolume_L2 a0 M1 i2 (fun (x21 : Int32) (x22 : Int32) =>
        if x21 = p1_ then
          some (i2, M1)
        else
          lt (i2 + 1) (fun (v24 : Int32) =>
          F_X9_sectionByVolume_L1 a0 p1_ M1 K n v24)) 3000 0 0)
def F_X9_sectionByVolume (a0 : Nat) (p1_ : Int32) (M : Mem) : Option (Int32 × Mem) :=
  lt (sI M a0 0 0) (fun (M1 : Mem) =>
  F_X9_sectionByVolume_L1 a0 p1_ M1 (fun (x26 : Int32) =>
  b1 (F_X9_fails a0 1 M1) (fun v28 M29 =>
  some (v28, M29))) 3000 0)
def F_X9_soundsAll (a0 : Nat) (p1_ : Int32) (M : Mem) : Option Int32 :=
  Option.bind (F_X9_soundsOf a0 0 p1_ M) (fun v2 =>
  Option.bind (F_X9_soundsOf a0 1 p1_ M) (fun v4 =>
  Option.bind (F_X9_soundsOf a0 2 p1_ M) (fun v6 =>
  some ((v2 + v4) + v6))))
def F_X9_noteBySounds_L2 (a0 : Nat) (M1 : Mem) (i2 : Int32) (K : Int32 → Int32 → Option (Int32 × Mem)) : Nat → Int32 → Int32 → Option (Int32 × Mem)
  | 0, _, _ => none
  | n+1, i5, i6 =>
    if 9 < i6 then
              K i5 i6
            else
              Option.bind (F_X9_soundsAll a0 i6 M1) (fun v10 =>
              Option.bind (F_X9_soundsAll a0 i2 M1) (fun v12 =>
              lt (v10 - v12) (fun (v13 : Int32) =>
              if 0 < v13 then
                lt (i5 + 1) (fun (v15 : Int32) =>
                lt (i6 + 1) (fun (v16 : Int32) =>
                F_X9_noteBySounds_L2 a0 M1 i2 K n v15 v16))
              else
                if v13 = 0 then
                  if i6 ≤ i2 then
                    lt (i5 + 0) (fun (v21 : Int32) =>
                    lt (i6 + 1) (fun (v22 : Int32) =>
                    F_X9_noteBySounds_L2 a0 M1 i2 K n v21 v22))
                  else
                    lt (i5 + 1) (fun (v23 : Int32) =>
                    lt (i6 + 1) (fun (v24 : Int32) =>
                    F_X9_noteBySounds_L2 a0 M1 i2 K n v23 v24))
                else
                  lt (i5 + 0) (fun (v18 : Int32) =>
                  lt (i6 + 1) (fun (v19 : Int32) =>
                  F_X9_noteBySounds_L2 a0 M1 i2 K n v18 v19)))))
def F_X9_noteBySounds_L1 (a0 : Nat) (p1_ : Int32) (M1 : Mem) (K : Int32 → Option (Int32 × Mem)) : Nat → Int32 → Option (Int32 × Mem)
  | 0, _ => none
  | n+1, i2 =>
    if 9 < i2 then
        K i2
      else
        F_X9_noteBySounds_L2 a0 M1 i2 (fun (x26 : Int32) (x27 : Int32) =>
        if x26 = p1_ then
          some (i2, M1)
        else
          lt (i2 + 1) (fun (v29 : Int32) =>
          F_X9_noteBySounds_L1 a0 p1_ M1 K n v29)) 3000 0 1
def F_X9_noteBySounds (a0 : Nat) (p1_ : Int32) (M : Mem) : Option (Int32 × Mem) :=
  lt (sI M a0 0 0) (fun (M1 : Mem) =>
  F_X9_noteBySounds_L1 a0 p1_ M1 (fun (x31 : Int32) =>
  b1 (F_X9_fails a0 1 M1) (fun v33 M34 =>
  some (v33, M34))) 3000 1)
def F_X9_meanTotal (a0 : Nat) (M : Mem) : Option (UInt64 × Mem) :=
  lt (sI M a0 0 0) (fun (M1 : Mem) =>
  chk (inb 1 260) (
  if (mI M1 (mR M1 a0 1) 1) = 0 then
    b1 (F_X9_fails a0 1 M1) (fun v11 M12 =>
    some (FP.i2d v11, M12))
  else
    chk (inb 5 260) (
    chk (inb 1 260) (
    chk (nn64 (FP.ddiv (FP.i2d (mI M1 (mR M1 a0 1) 5)) (FP.i2d (mI M1 (mR M1 a0 1) 1)))) (
    some (FP.ddiv (FP.i2d (mI M1 (mR M1 a0 1) 5)) (FP.i2d (mI M1 (mR M1 a0 1) 1)), M1))))))
def F_X9_maskedShare_L1 (a0 : Nat) (p1_ : Int32) (M1 : Mem) (K : Int32 → Int32 → Option (UInt32 × Mem)) : Nat → Int32 → Int32 → Option (UInt32 × Mem)
  | 0, _, _ => none
  | n+1, i5, i6 =>
    Option.bind (F_X9_of a0 p1_ 2 M1) (fun v9 =>
        if v9 ≤ i6 then
          K i5 i6
        else
          Option.bind (F_X9_isMaskedAt a0 p1_ i6 M1) (fun v12 =>
          if v12 = 0 then
            lt (i5 + 0) (fun (v14 : Int32) =>
            lt (i6 + 1) (fun (v15 : Int32) =>
            F_X9_maskedShare_L1 a0 p1_ M1 K n v14 v15))
          else
            lt (i5 + 1) (fun (v16 : Int32) =>
            lt (i6 + 1) (fun (v17 : Int32) =>
            F_X9_maskedShare_L1 a0 p1_ M1 K n v16 v17))))
def F_X9_maskedShare (a0 : Nat) (p1_ : Int32) (M : Mem) : Option (UInt32 × Mem) :=
  lt (sI M a0 0 0) (fun (M1 : Mem) =>
  Option.bind (F_X9_isSection a0 p1_ M1) (fun v3 =>
  if v3 = 0 then
    b1 (F_X9_fails a0 1 M1) (fun v25 M26 =>
    some (FP.i2f v25, M26))
  else
    F_X9_maskedShare_L1 a0 p1_ M1 (fun (x19 : Int32) (x20 : Int32) =>
    Option.bind (F_X9_of a0 p1_ 2 M1) (fun v22 =>
    chk (nn32 (FP.fdiv (FP.i2f x19) (FP.i2f v22))) (
    some (FP.fdiv (FP.i2f x19) (FP.i2f v22), M1)))) 3000 0 0))
def F_X9_isConsistent (a0 : Nat) (M : Mem) : Option (Int32 × Mem) :=
  lt (sI M a0 0 0) (fun (M1 : Mem) =>
  chk (inb 5 260) (
  Option.bind (F_X9_volumeBySounds a0 M1) (fun v5 =>
  if (mI M1 (mR M1 a0 1) 5) = v5 then
    some (1, M1)
  else
    some (0, M1))))
def F_X9_writes (a0 : Nat) (p1_ : Int32) (M : Mem) : Option (Unit × Mem) :=
  chk (inb (mI M a0 10) 60) (
  lt (sI M (mR M a0 9) ((mI M a0 10).toNatClampNeg) (vp_nar .char ((p1_.toUInt32 % 65536).toInt32))) (fun (M3 : Mem) =>
  lt (sI M3 a0 10 ((mI M3 a0 10) + 1)) (fun (M4 : Mem) =>
  some ((), M4))))
def F_X9_renderScore_L2 (a0 : Nat) (p1_ : Int32) (i16 : Int32) (K : Int32 → Mem → Option (Int32 × Mem)) : Nat → Int32 → Mem → Option (Int32 × Mem)
  | 0, _, _ => none
  | n+1, i23, M24 =>
    Option.bind (F_X9_of a0 p1_ 2 M24) (fun v27 =>
                if v27 ≤ i23 then
                  K i23 M24
                else
                  Option.bind (F_X9_noteAt a0 p1_ i16 i23 M24) (fun v30 =>
                  b1 (F_X9_writes a0 (48 + v30) M24) (fun u32 M33 =>
                  lt (i23 + 1) (fun (v34 : Int32) =>
                  F_X9_renderScore_L2 a0 p1_ i16 K n v34 M33))))
def F_X9_renderScore_L3 (a0 : Nat) (p1_ : Int32) (i16 : Int32) (K : Int32 → Mem → Option (Int32 × Mem)) : Nat → Int32 → Mem → Option (Int32 × Mem)
  | 0, _, _ => none
  | n+1, i42, M43 =>
    Option.bind (F_X9_of a0 p1_ 2 M43) (fun v46 =>
                if v46 ≤ i42 then
                  K i42 M43
                else
                  Option.bind (F_X9_noteAt a0 p1_ i16 i42 M43) (fun v49 =>
                  b1 (F_X9_writes a0 (48 + v49) M43) (fun u51 M52 =>
                  lt (i42 + 1) (fun (v53 : Int32) =>
                  F_X9_renderScore_L3 a0 p1_ i16 K n v53 M52))))
def F_X9_renderScore_L1 (a0 : Nat) (p1_ : Int32) (K : Int32 → Mem → Option (Int32 × Mem)) : Nat → Int32 → Mem → Option (Int32 × Mem)
  | 0, _, _ => none
  | n+1, i16, M17 =>
    Option.bind (F_X9_of a0 p1_ 1 M17) (fun v20 =>
        if v20 ≤ i16 then
          K i16 M17
        else
          if i16 ≤ 0 then
            F_X9_renderScore_L2 a0 p1_ i16 (fun (x36 : Int32) (M37 : Mem) =>
            lt (i16 + 1) (fun (v38 : Int32) =>
            F_X9_renderScore_L1 a0 p1_ K n v38 M37)) 3000 0 M17
          else
            b1 (F_X9_writes a0 47 M17) (fun u40 M41 =>
            F_X9_renderScore_L3 a0 p1_ i16 (fun (x55 : Int32) (M56 : Mem) =>
            lt (i16 + 1) (fun (v57 : Int32) =>
            F_X9_renderScore_L1 a0 p1_ K n v57 M56)) 3000 0 M41))
def F_X9_renderScore (a0 : Nat) (p1_ : Int32) (M : Mem) : Option (Int32 × Mem) :=
  lt (sI M a0 0 0) (fun (M1 : Mem) =>
  Option.bind (F_X9_isSection a0 p1_ M1) (fun v3 =>
  if v3 = 0 then
    b1 (F_X9_fails a0 1 M1) (fun v62 M63 =>
    some (v62, M63))
  else
    lt (sI M1 a0 10 0) (fun (M5 : Mem) =>
    Option.bind (F_X9_of a0 p1_ 0 M5) (fun v7 =>
    Option.bind (F_X9_letterOf v7) (fun v9 =>
    b1 (F_X9_writes a0 v9 M5) (fun u11 M12 =>
    b1 (F_X9_writes a0 58 M12) (fun u14 M15 =>
    F_X9_renderScore_L1 a0 p1_ (fun (x59 : Int32) (M60 : Mem) =>
    some (mI M60 a0 10, M60)) 3000 0 M15)))))))
def F_X9_renderMask_L1 (a0 : Nat) (p1_ : Int32) (K : Int32 → Mem → Option (Int32 × Mem)) : Nat → Int32 → Mem → Option (Int32 × Mem)
  | 0, _, _ => none
  | n+1, i6, M7 =>
    Option.bind (F_X9_of a0 p1_ 2 M7) (fun v10 =>
        if v10 ≤ i6 then
          K i6 M7
        else
          Option.bind (F_X9_isMaskedAt a0 p1_ i6 M7) (fun v13 =>
          if v13 = 0 then
            b1 (F_X9_writes a0 46 M7) (fun u16 M17 =>
            lt (i6 + 1) (fun (v18 : Int32) =>
            F_X9_renderMask_L1 a0 p1_ K n v18 M17))
          else
            b1 (F_X9_writes a0 120 M7) (fun u20 M21 =>
            lt (i6 + 1) (fun (v22 : Int32) =>
            F_X9_renderMask_L1 a0 p1_ K n v22 M21))))
def F_X9_renderMask (a0 : Nat) (p1_ : Int32) (M : Mem) : Option (Int32 × Mem) :=
  lt (sI M a0 0 0) (fun (M1 : Mem) =>
  Option.bind (F_X9_isSection a0 p1_ M1) (fun v3 =>
  if v3 = 0 then
    b1 (F_X9_fails a0 1 M1) (fun v46 M47 =>
    some (v46, M47))
  else
    lt (sI M1 a0 10 0) (fun (M5 : Mem) =>
    F_X9_renderMask_L1 a0 p1_ (fun (x24 : Int32) (M25 : Mem) =>
    b1 (F_X9_writes a0 102 M25) (fun u27 M28 =>
    Option.bind (F_X9_of a0 p1_ 4 M28) (fun v30 =>
    b1 (F_X9_writes a0 (48 + v30) M28) (fun u32 M33 =>
    Option.bind (F_X9_of a0 p1_ 5 M33) (fun v35 =>
    if v35 ≤ 0 then
      some (mI M33 a0 10, M33)
    else
      b1 (F_X9_writes a0 114 M33) (fun u38 M39 =>
      Option.bind (F_X9_of a0 p1_ 5 M39) (fun v41 =>
      b1 (F_X9_writes a0 (48 + v41) M39) (fun u43 M44 =>
      some (mI M44 a0 10, M44))))))))) 3000 0 M5)))
def F_X9_outputAt (a0 : Nat) (p1_ : Int32) (M : Mem) : Option (Int32 × Mem) :=
  lt (sI M a0 0 0) (fun (M1 : Mem) =>
  Option.bind (F_X9_isBetween p1_ 0 ((mI M1 a0 10) - 1)) (fun v3 =>
  if v3 = 0 then
    b1 (F_X9_fails a0 1 M1) (fun v6 M7 =>
    chk (nokC ((v6.toUInt32 % 65536).toInt32)) (some ((v6.toUInt32 % 65536).toInt32, M7)))
  else
    chk (inb p1_ 60) (
    chk (nokC (mI M1 (mR M1 a0 9) p1_.toNatClampNeg)) (some (mI M1 (mR M1 a0 9) p1_.toNatClampNeg, M1)))))
def F_X9_type (a0 : Nat) (p1_ : Int32) (M : Mem) : Option (Int32 × Mem) :=
  lt (sI M a0 0 0) (fun (M1 : Mem) =>
  Option.bind (F_X9_isBetween p1_ 32 126) (fun v3 =>
  if v3 = 0 then
    b1 (F_X9_fails a0 1 M1) (fun v14 M15 =>
    some (v14, M15))
  else
    if (mI M1 a0 12) = 60 then
      b1 (F_X9_fails a0 2 M1) (fun v11 M12 =>
      some (v11, M12))
    else
      chk (inb (mI M1 a0 12) 60) (
      lt (sI M1 (mR M1 a0 11) ((mI M1 a0 12).toNatClampNeg) (vp_nar .char p1_)) (fun (M8 : Mem) =>
      lt (sI M8 a0 12 ((mI M8 a0 12) + 1)) (fun (M9 : Mem) =>
      some (mI M9 a0 12, M9))))))
def F_X9_nextChar (a0 : Nat) (M : Mem) : Option Int32 :=
  if (mI M a0 12) ≤ (mI M a0 13) then
    some (-1)
  else
    chk (inb (mI M a0 13) 60) (
    some (mI M (mR M a0 11) (mI M a0 13).toNatClampNeg))
def F_X9_reads (a0 : Nat) (p1_ : Int32) (M : Mem) : Option (Int32 × Mem) :=
  Option.bind (F_X9_nextChar a0 M) (fun v2 =>
  if v2 = p1_ then
    lt (sI M a0 13 ((mI M a0 13) + 1)) (fun (M4 : Mem) =>
    some (1, M4))
  else
    some (0, M))
def F_X9_readsDigit (a0 : Nat) (p1_ : Int32) (M : Mem) : Option (Int32 × Mem) :=
  Option.bind (F_X9_nextChar a0 M) (fun v2 =>
  Option.bind (F_X9_isBetween v2 48 57) (fun v4 =>
  if v4 = 0 then
    some (0, M)
  else
    Option.bind (F_X9_nextChar a0 M) (fun v8 =>
    chk (inb p1_ 4) (
    lt (sI M (mR M a0 16) (p1_.toNatClampNeg) (v8 - 48)) (fun (M10 : Mem) =>
    lt (sI M10 a0 13 ((mI M10 a0 13) + 1)) (fun (M11 : Mem) =>
    some (1, M11)))))))
def F_X9_readsNumber (a0 : Nat) (p1_ : Int32) (M : Mem) : Option (Int32 × Mem) :=
  b1 (F_X9_readsDigit a0 p1_ M) (fun v2 M3 =>
  if v2 = 0 then
    some (0, M3)
  else
    Option.bind (F_X9_nextChar a0 M3) (fun v6 =>
    Option.bind (F_X9_isBetween v6 48 57) (fun v8 =>
    if v8 = 0 then
      some (1, M3)
    else
      chk (inb p1_ 4) (
      Option.bind (F_X9_nextChar a0 M3) (fun v14 =>
      chk (inb p1_ 4) (
      lt (sI M3 (mR M3 a0 16) (p1_.toNatClampNeg) (((10 * (mI M3 (mR M3 a0 16) p1_.toNatClampNeg)) + v14) - 48)) (fun (M16 : Mem) =>
      lt (sI M16 a0 13 ((mI M16 a0 13) + 1)) (fun (M17 : Mem) =>
      some (1, M17)))))))))
def F_X9_readsSign (a0 : Nat) (p1_ : Int32) (M : Mem) : Option (Int32 × Mem) :=
  Option.bind (F_X9_nextChar a0 M) (fun v3 =>
  if v3 = 43 then
    chk (inb p1_ 4) (
    lt (sI M (mR M a0 16) (p1_.toNatClampNeg) 1) (fun (M16 : Mem) =>
    b1 (F_X9_reads a0 43 M16) (fun v18 M19 =>
    if v18 = 0 then
      b1 (F_X9_reads a0 45 M19) (fun v22 M23 =>
      if v22 = 0 then
        some (0, M23)
      else
        some (1, M23))
    else
      some (1, M19))))
  else
    chk (inb p1_ 4) (
    lt (sI M (mR M a0 16) (p1_.toNatClampNeg) 0) (fun (M6 : Mem) =>
    b1 (F_X9_reads a0 43 M6) (fun v8 M9 =>
    if v8 = 0 then
      b1 (F_X9_reads a0 45 M9) (fun v12 M13 =>
      if v12 = 0 then
        some (0, M13)
      else
        some (1, M13))
    else
      some (1, M9)))))
def F_X9_readsAdd (a0 : Nat) (M : Mem) : Option (Int32 × Mem) :=
  b1 (F_X9_reads a0 100 M) (fun v2 M3 =>
  if v2 = 0 then
    some (0, M3)
  else
    b1 (F_X9_reads a0 100 M3) (fun v6 M7 =>
    if v6 = 0 then
      some (0, M7)
    else
      b1 (F_X9_reads a0 32 M7) (fun v10 M11 =>
      if v10 = 0 then
        some (0, M11)
      else
        Option.bind (F_X9_nextChar a0 M11) (fun v15 =>
        chk (inb 0 4) (
        lt (sI M11 (mR M11 a0 16) (0) v15) (fun (M17 : Mem) =>
        b1 (F_X9_reads a0 115 M17) (fun v19 M20 =>
        if v19 = 0 then
          b1 (F_X9_reads a0 119 M20) (fun v31 M32 =>
          if v31 = 0 then
            b1 (F_X9_reads a0 100 M32) (fun v43 M44 =>
            if v43 = 0 then
              some (0, M44)
            else
              b1 (F_X9_readsDigit a0 1 M44) (fun v47 M48 =>
              if v47 = 0 then
                some (0, M48)
              else
                b1 (F_X9_readsDigit a0 2 M48) (fun v51 M52 =>
                if v51 = 0 then
                  some (0, M52)
                else
                  some (1, M52))))
          else
            b1 (F_X9_readsDigit a0 1 M32) (fun v35 M36 =>
            if v35 = 0 then
              some (0, M36)
            else
              b1 (F_X9_readsDigit a0 2 M36) (fun v39 M40 =>
              if v39 = 0 then
                some (0, M40)
              else
                some (1, M40))))
        else
          b1 (F_X9_readsDigit a0 1 M20) (fun v23 M24 =>
          if v23 = 0 then
            some (0, M24)
          else
            b1 (F_X9_readsDigit a0 2 M24) (fun v27 M28 =>
            if v27 = 0 then
              some (0, M28)
            else
              some (1, M28))))))))))
def F_X9_readsNote (a0 : Nat) (M : Mem) : Option (Int32 × Mem) :=
  b1 (F_X9_reads a0 111 M) (fun v2 M3 =>
  if v2 = 0 then
    some (0, M3)
  else
    b1 (F_X9_reads a0 116 M3) (fun v6 M7 =>
    if v6 = 0 then
      some (0, M7)
    else
      b1 (F_X9_reads a0 101 M7) (fun v10 M11 =>
      if v10 = 0 then
        some (0, M11)
      else
        b1 (F_X9_reads a0 32 M11) (fun v14 M15 =>
        if v14 = 0 then
          some (0, M15)
        else
          b1 (F_X9_readsDigit a0 0 M15) (fun v18 M19 =>
          if v18 = 0 then
            some (0, M19)
          else
            b1 (F_X9_reads a0 32 M19) (fun v22 M23 =>
            if v22 = 0 then
              some (0, M23)
            else
              b1 (F_X9_readsDigit a0 1 M23) (fun v26 M27 =>
              if v26 = 0 then
                some (0, M27)
              else
                b1 (F_X9_readsDigit a0 2 M27) (fun v30 M31 =>
                if v30 = 0 then
                  some (0, M31)
                else
                  b1 (F_X9_reads a0 61 M31) (fun v34 M35 =>
                  if v34 = 0 then
                    some (0, M35)
                  else
                    b1 (F_X9_readsDigit a0 3 M35) (fun v38 M39 =>
                    if v38 = 0 then
                      some (0, M39)
                    else
                      some (1, M39)))))))))))
def F_X9_readsMask (a0 : Nat) (M : Mem) : Option (Int32 × Mem) :=
  b1 (F_X9_reads a0 97 M) (fun v2 M3 =>
  if v2 = 0 then
    some (0, M3)
  else
    b1 (F_X9_reads a0 115 M3) (fun v6 M7 =>
    if v6 = 0 then
      some (0, M7)
    else
      b1 (F_X9_reads a0 107 M7) (fun v10 M11 =>
      if v10 = 0 then
        some (0, M11)
      else
        b1 (F_X9_reads a0 32 M11) (fun v14 M15 =>
        if v14 = 0 then
          some (0, M15)
        else
          b1 (F_X9_readsDigit a0 0 M15) (fun v18 M19 =>
          if v18 = 0 then
            some (0, M19)
          else
            b1 (F_X9_reads a0 32 M19) (fun v22 M23 =>
            if v22 = 0 then
              some (0, M23)
            else
              b1 (F_X9_readsDigit a0 1 M23) (fun v26 M27 =>
              if v26 = 0 then
                some (0, M27)
              else
                b1 (F_X9_readsSign a0 2 M27) (fun v30 M31 =>
                if v30 = 0 then
                  some (0, M31)
                else
                  some (1, M31)))))))))
def F_X9_readsRaise (a0 : Nat) (M : Mem) : Option (Int32 × Mem) :=
  b1 (F_X9_reads a0 97 M) (fun v2 M3 =>
  if v2 = 0 then
    some (0, M3)
  else
    b1 (F_X9_reads a0 105 M3) (fun v6 M7 =>
    if v6 = 0 then
      some (0, M7)
    else
      b1 (F_X9_reads a0 115 M7) (fun v10 M11 =>
      if v10 = 0 then
        some (0, M11)
      else
        b1 (F_X9_reads a0 101 M11) (fun v14 M15 =>
        if v14 = 0 then
          some (0, M15)
        else
          b1 (F_X9_reads a0 32 M15) (fun v18 M19 =>
          if v18 = 0 then
            some (0, M19)
          else
            b1 (F_X9_readsDigit a0 0 M19) (fun v22 M23 =>
            if v22 = 0 then
              some (0, M23)
            else
              b1 (F_X9_reads a0 32 M23) (fun v26 M27 =>
              if v26 = 0 then
                some (0, M27)
              else
                b1 (F_X9_readsSign a0 2 M27) (fun v30 M31 =>
                if v30 = 0 then
                  some (0, M31)
                else
                  b1 (F_X9_readsDigit a0 1 M31) (fun v34 M35 =>
                  if v34 = 0 then
                    some (0, M35)
                  else
                    chk (inb 2 4) (
                    if (mI M35 (mR M35 a0 16) 2) = 0 then
                      chk (inb 1 4) (
                      chk (inb 1 4) (
                      lt (sI M35 (mR M35 a0 16) (1) (-(mI M35 (mR M35 a0 16) 1))) (fun (M44 : Mem) =>
                      some (1, M44))))
                    else
                      some (1, M35)))))))))))
def F_X9_readsT (a0 : Nat) (M : Mem) : Option (Int32 × Mem) :=
  b1 (F_X9_reads a0 117 M) (fun v2 M3 =>
  if v2 = 0 then
    lt (sI M3 a0 17 101) (fun (M5 : Mem) =>
    b1 (F_X9_reads a0 101 M5) (fun v7 M8 =>
    if v7 = 0 then
      some (0, M8)
    else
      b1 (F_X9_reads a0 109 M8) (fun v11 M12 =>
      if v11 = 0 then
        some (0, M12)
      else
        b1 (F_X9_reads a0 112 M12) (fun v15 M16 =>
        if v15 = 0 then
          some (0, M16)
        else
          b1 (F_X9_reads a0 111 M16) (fun v19 M20 =>
          if v19 = 0 then
            some (0, M20)
          else
            b1 (F_X9_reads a0 32 M20) (fun v23 M24 =>
            if v23 = 0 then
              some (0, M24)
            else
              b1 (F_X9_readsDigit a0 0 M24) (fun v27 M28 =>
              if v27 = 0 then
                some (0, M28)
              else
                some (1, M28))))))))
  else
    b1 (F_X9_reads a0 114 M3) (fun v31 M32 =>
    if v31 = 0 then
      some (0, M32)
    else
      b1 (F_X9_reads a0 110 M32) (fun v35 M36 =>
      if v35 = 0 then
        some (0, M36)
      else
        b1 (F_X9_reads a0 32 M36) (fun v39 M40 =>
        if v39 = 0 then
          some (0, M40)
        else
          b1 (F_X9_readsDigit a0 0 M40) (fun v43 M44 =>
          if v43 = 0 then
            some (0, M44)
          else
            some (1, M44))))))
def F_X9_readsBeat (a0 : Nat) (M : Mem) : Option (Int32 × Mem) :=
  b1 (F_X9_reads a0 101 M) (fun v2 M3 =>
  if v2 = 0 then
    some (0, M3)
  else
    b1 (F_X9_reads a0 97 M3) (fun v6 M7 =>
    if v6 = 0 then
      some (0, M7)
    else
      b1 (F_X9_reads a0 116 M7) (fun v10 M11 =>
      if v10 = 0 then
        some (0, M11)
      else
        chk (inb 0 4) (
        lt (sI M11 (mR M11 a0 16) (0) 1) (fun (M15 : Mem) =>
        b1 (F_X9_reads a0 32 M15) (fun v17 M18 =>
        if v17 = 0 then
          some (1, M18)
        else
          b1 (F_X9_readsNumber a0 0 M18) (fun v21 M22 =>
          if v21 = 0 then
            some (0, M22)
          else
            some (1, M22))))))))
def F_X9_readsCommand (a0 : Nat) (M : Mem) : Option (Int32 × Mem) :=
  Option.bind (F_X9_nextChar a0 M) (fun v2 =>
  lt (sI M a0 17 v2) (fun (M3 : Mem) =>
  b1 (F_X9_reads a0 97 M3) (fun v5 M6 =>
  if v5 = 0 then
    b1 (F_X9_reads a0 100 M6) (fun v9 M10 =>
    if v9 = 0 then
      b1 (F_X9_reads a0 110 M10) (fun v13 M14 =>
      if v13 = 0 then
        b1 (F_X9_reads a0 109 M14) (fun v17 M18 =>
        if v17 = 0 then
          b1 (F_X9_reads a0 102 M18) (fun v21 M22 =>
          if v21 = 0 then
            b1 (F_X9_reads a0 116 M22) (fun v25 M26 =>
            if v25 = 0 then
              b1 (F_X9_reads a0 114 M26) (fun v29 M30 =>
              if v29 = 0 then
                b1 (F_X9_reads a0 108 M30) (fun v33 M34 =>
                if v33 = 0 then
                  b1 (F_X9_reads a0 119 M34) (fun v37 M38 =>
                  if v37 = 0 then
                    b1 (F_X9_reads a0 98 M38) (fun v41 M42 =>
                    if v41 = 0 then
                      some (0, M42)
                    else
                      b1 (F_X9_readsBeat a0 M42) (fun v45 M46 =>
                      if v45 = 0 then
                        some (0, M46)
                      else
                        some (1, M46)))
                  else
                    b1 (F_X9_reads a0 97 M38) (fun v49 M50 =>
                    if v49 = 0 then
                      some (0, M50)
                    else
                      b1 (F_X9_reads a0 118 M50) (fun v53 M54 =>
                      if v53 = 0 then
                        some (0, M54)
                      else
                        b1 (F_X9_reads a0 101 M54) (fun v57 M58 =>
                        if v57 = 0 then
                          some (0, M58)
                        else
                          some (1, M58)))))
                else
                  b1 (F_X9_reads a0 105 M34) (fun v61 M62 =>
                  if v61 = 0 then
                    some (0, M62)
                  else
                    b1 (F_X9_reads a0 109 M62) (fun v65 M66 =>
                    if v65 = 0 then
                      some (0, M66)
                    else
                      b1 (F_X9_reads a0 105 M66) (fun v69 M70 =>
                      if v69 = 0 then
                        some (0, M70)
                      else
                        b1 (F_X9_reads a0 116 M70) (fun v73 M74 =>
                        if v73 = 0 then
                          some (0, M74)
                        else
                          b1 (F_X9_reads a0 32 M74) (fun v77 M78 =>
                          if v77 = 0 then
                            some (0, M78)
                          else
                            b1 (F_X9_readsNumber a0 0 M78) (fun v81 M82 =>
                            if v81 = 0 then
                              some (0, M82)
                            else
                              some (1, M82))))))))
              else
                b1 (F_X9_readsRaise a0 M30) (fun v85 M86 =>
                chk (nokZ v85) (some (v85, M86))))
            else
              b1 (F_X9_readsT a0 M26) (fun v89 M90 =>
              chk (nokZ v89) (some (v89, M90))))
          else
            b1 (F_X9_reads a0 108 M22) (fun v93 M94 =>
            if v93 = 0 then
              some (0, M94)
            else
              b1 (F_X9_reads a0 105 M94) (fun v97 M98 =>
              if v97 = 0 then
                some (0, M98)
              else
                b1 (F_X9_reads a0 112 M98) (fun v101 M102 =>
                if v101 = 0 then
                  some (0, M102)
                else
                  b1 (F_X9_reads a0 32 M102) (fun v105 M106 =>
                  if v105 = 0 then
                    some (0, M106)
                  else
                    b1 (F_X9_readsDigit a0 0 M106) (fun v109 M110 =>
                    if v109 = 0 then
                      some (0, M110)
                    else
                      some (1, M110)))))))
        else
          b1 (F_X9_readsMask a0 M18) (fun v113 M114 =>
          chk (nokZ v113) (some (v113, M114))))
      else
        b1 (F_X9_readsNote a0 M14) (fun v117 M118 =>
        chk (nokZ v117) (some (v117, M118))))
    else
      b1 (F_X9_reads a0 114 M10) (fun v121 M122 =>
      if v121 = 0 then
        some (0, M122)
      else
        b1 (F_X9_reads a0 111 M122) (fun v125 M126 =>
        if v125 = 0 then
          some (0, M126)
        else
          b1 (F_X9_reads a0 112 M126) (fun v129 M130 =>
          if v129 = 0 then
            some (0, M130)
          else
            b1 (F_X9_reads a0 32 M130) (fun v133 M134 =>
            if v133 = 0 then
              some (0, M134)
            else
              b1 (F_X9_readsDigit a0 0 M134) (fun v137 M138 =>
              if v137 = 0 then
                some (0, M138)
              else
                some (1, M138)))))))
  else
    b1 (F_X9_readsAdd a0 M6) (fun v141 M142 =>
    chk (nokZ v141) (some (v141, M142))))))
def F_X9_readsAll_L1 (a0 : Nat) (K : Int32 → Mem → Option (Int32 × Mem)) : Nat → Int32 → Mem → Option (Int32 × Mem)
  | 0, _, _ => none
  | n+1, i2, M3 =>
    if i2 = 0 then
        K i2 M3
      else
        b1 (F_X9_readsCommand a0 M3) (fun v7 M8 =>
        if v7 = 0 then
          some (0, M8)
        else
          b1 (F_X9_reads a0 59 M8) (fun v11 M12 =>
          F_X9_readsAll_L1 a0 K n v11 M12))
def F_X9_readsAll (a0 : Nat) (M : Mem) : Option (Int32 × Mem) :=
  lt (sI M a0 13 0) (fun (M1 : Mem) =>
  F_X9_readsAll_L1 a0 (fun (x14 : Int32) (M15 : Mem) =>
  if (mI M15 a0 13) = (mI M15 a0 12) then
    some (1, M15)
  else
    some (0, M15)) 3000 1 M1)
def F_X9_notNow (a0 : Nat) (M : Mem) : Option Int32 :=
  chk (inb 0 4) (
  lt (mI M (mR M a0 16) 0) (fun (v3 : Int32) =>
  chk (inb 1 4) (
  lt (mI M (mR M a0 16) 1) (fun (v6 : Int32) =>
  if (mI M a0 17) = 97 then
    chk (inb 2 4) (
    Option.bind (F_X9_notAdd a0 v3 v6 (mI M (mR M a0 16) 2) M) (fun v11 =>
    some v11))
  else
  if (mI M a0 17) = 98 then
    Option.bind (F_X9_notBeats v3) (fun v14 =>
    some v14)
  else
  if (mI M a0 17) = 100 then
    Option.bind (F_X9_notSection a0 v3 M) (fun v17 =>
    some v17)
  else
  if (mI M a0 17) = 101 then
    Option.bind (F_X9_notTempo v3) (fun v20 =>
    some v20)
  else
  if (mI M a0 17) = 102 then
    Option.bind (F_X9_notSection a0 v3 M) (fun v23 =>
    some v23)
  else
  if (mI M a0 17) = 108 then
    Option.bind (F_X9_notLimit v3) (fun v26 =>
    some v26)
  else
  if (mI M a0 17) = 109 then
    Option.bind (F_X9_notMask a0 v3 v6 M) (fun v29 =>
    some v29)
  else
  if (mI M a0 17) = 110 then
    chk (inb 2 4) (
    chk (inb 3 4) (
    Option.bind (F_X9_notNote a0 v3 v6 (mI M (mR M a0 16) 2) (mI M (mR M a0 16) 3) M) (fun v36 =>
    some v36)))
  else
  if (mI M a0 17) = 114 then
    Option.bind (F_X9_notRaise a0 v3 v6 M) (fun v39 =>
    some v39)
  else
  if (mI M a0 17) = 116 then
    Option.bind (F_X9_notSection a0 v3 M) (fun v42 =>
    some v42)
  else
  some 0))))
def F_X9_doesNow (a0 : Nat) (M : Mem) : Option (Int32 × Mem) :=
  chk (inb 0 4) (
  lt (mI M (mR M a0 16) 0) (fun (v3 : Int32) =>
  chk (inb 1 4) (
  lt (mI M (mR M a0 16) 1) (fun (v6 : Int32) =>
  if (mI M a0 17) = 97 then
    chk (inb 2 4) (
    b1 (F_X9_addsSection a0 v3 v6 (mI M (mR M a0 16) 2) M) (fun v11 M12 =>
    some (v11, M12)))
  else
  if (mI M a0 17) = 100 then
    b1 (F_X9_removesSection a0 v3 M) (fun v15 M16 =>
    some (v15, M16))
  else
  if (mI M a0 17) = 101 then
    b1 (F_X9_sets a0 2 v3 M) (fun v19 M20 =>
    some (v19, M20))
  else
  if (mI M a0 17) = 102 then
    b1 (F_X9_transposes a0 v3 M) (fun v23 M24 =>
    some (v23, M24))
  else
  if (mI M a0 17) = 108 then
    b1 (F_X9_sets a0 3 v3 M) (fun v27 M28 =>
    some (v27, M28))
  else
  if (mI M a0 17) = 109 then
    chk (inb 2 4) (
    b1 (F_X9_setsMasked a0 v3 v6 (mI M (mR M a0 16) 2) M) (fun v33 M34 =>
    some (v33, M34)))
  else
  if (mI M a0 17) = 110 then
    chk (inb 2 4) (
    chk (inb 3 4) (
    b1 (F_X9_setsNote a0 v3 v6 (mI M (mR M a0 16) 2) (mI M (mR M a0 16) 3) M) (fun v41 M42 =>
    some (v41, M42))))
  else
  if (mI M a0 17) = 114 then
    b1 (F_X9_raises a0 v3 v6 M) (fun v45 M46 =>
    some (v45, M46))
  else
  if (mI M a0 17) = 116 then
    b1 (F_X9_reverses a0 v3 M) (fun v49 M50 =>
    some (v49, M50))
  else
  if (mI M a0 17) = 119 then
    chk (inb 2 260) (
    b1 (F_X9_beatsTimes a0 (mI M (mR M a0 1) 2) M) (fun v55 M56 =>
    some (v55, M56)))
  else
  b1 (F_X9_beatsTimes a0 v3 M) (fun v58 M59 =>
  some (v58, M59))))))
def F_X9_doesAll_L1 (a0 : Nat) (K : Int32 → Mem → Option (Int32 × Mem)) : Nat → Int32 → Mem → Option (Int32 × Mem)
  | 0, _, _ => none
  | n+1, i3, M4 =>
    if i3 = 0 then
        K i3 M4
      else
        b1 (F_X9_readsCommand a0 M4) (fun v8 M9 =>
        Option.bind (F_X9_notNow a0 M9) (fun v11 =>
        if v11 = 0 then
          b1 (F_X9_doesNow a0 M9) (fun v14 M15 =>
          lt (sI M15 a0 18 ((mI M15 a0 18) + 1)) (fun (M16 : Mem) =>
          b1 (F_X9_reads a0 59 M16) (fun v18 M19 =>
          F_X9_doesAll_L1 a0 K n v18 M19)))
        else
          some (0, M9)))
def F_X9_doesAll (a0 : Nat) (M : Mem) : Option (Int32 × Mem) :=
  lt (sI M a0 18 0) (fun (M1 : Mem) =>
  lt (sI M1 a0 13 0) (fun (M2 : Mem) =>
  F_X9_doesAll_L1 a0 (fun (x21 : Int32) (M22 : Mem) =>
  some (1, M22)) 3000 1 M2))
def F_X9_runScript (a0 : Nat) (M : Mem) : Option (Int32 × Mem) :=
  lt (sI M a0 0 0) (fun (M1 : Mem) =>
  b1 (F_X9_readsAll a0 M1) (fun v3 M4 =>
  if v3 = 0 then
    lt (sI M4 a0 14 (mI M4 a0 13)) (fun (M24 : Mem) =>
    lt (sI M24 a0 12 0) (fun (M25 : Mem) =>
    b1 (F_X9_fails a0 1 M25) (fun v27 M28 =>
    some (v27, M28))))
  else
    b1 (F_X9_copies a0 M4) (fun u7 M8 =>
    b1 (F_X9_doesAll a0 M8) (fun v10 M11 =>
    lt (sI M11 a0 12 0) (fun (M12 : Mem) =>
    if v10 = 0 then
      b1 (F_X9_goesBack a0 M12) (fun u15 M16 =>
      lt (sI M16 a0 15 (mI M16 a0 18)) (fun (M17 : Mem) =>
      b1 (F_X9_fails a0 2 M17) (fun v19 M20 =>
      some (v19, M20))))
    else
      b1 (F_X9_keeps a0 M12) (fun u22 M23 =>
      some (mI M23 a0 18, M23)))))))
def F_X9_errorPosition (a0 : Nat) (M : Mem) : Option (Int32 × Mem) :=
  lt (sI M a0 0 0) (fun (M1 : Mem) =>
  if 0 ≤ (mI M1 a0 14) then
    some (mI M1 a0 14, M1)
  else
    b1 (F_X9_fails a0 1 M1) (fun v4 M5 =>
    some (v4, M5)))
def F_X9_failedCommand (a0 : Nat) (M : Mem) : Option (Int32 × Mem) :=
  lt (sI M a0 0 0) (fun (M1 : Mem) =>
  if 0 ≤ (mI M1 a0 15) then
    some (mI M1 a0 15, M1)
  else
    b1 (F_X9_fails a0 1 M1) (fun v4 M5 =>
    some (v4, M5)))
def F_X9_undo_L1 (a0 : Nat) (v4 : Int32) (K : Int32 → Mem → Option (Int32 × Mem)) : Nat → Int32 → Mem → Option (Int32 × Mem)
  | 0, _, _ => none
  | n+1, i5, M6 =>
    if 260 ≤ i5 then
          K i5 M6
        else
          chk (inb ((260 * v4) + i5) 2080) (
          chk (inb i5 260) (
          lt (sI M6 (mR M6 a0 1) (i5.toNatClampNeg) (mI M6 (mR M6 a0 2) ((260 * v4) + i5).toNatClampNeg)) (fun (M13 : Mem) =>
          lt (i5 + 1) (fun (v14 : Int32) =>
          F_X9_undo_L1 a0 v4 K n v14 M13))))
def F_X9_undo (a0 : Nat) (M : Mem) : Option (Int32 × Mem) :=
  lt (sI M a0 0 0) (fun (M1 : Mem) =>
  if (mI M1 a0 6) = 0 then
    b1 (F_X9_fails a0 1 M1) (fun v19 M20 =>
    some (v19, M20))
  else
    lt (sI M1 a0 6 ((mI M1 a0 6) - 1)) (fun (M3 : Mem) =>
    lt (((mI M3 a0 7) + (mI M3 a0 6)) - ((mI M3 a0 7) + (mI M3 a0 6)) / 8 * 8) (fun (v4 : Int32) =>
    F_X9_undo_L1 a0 v4 (fun (x16 : Int32) (M17 : Mem) =>
    some (mI M17 a0 6, M17)) 3000 0 M3)))
def F_X9_save_L1 (a0 : Nat) (K : Int32 → Mem → Option (Int32 × Mem)) : Nat → Int32 → Mem → Option (Int32 × Mem)
  | 0, _, _ => none
  | n+1, i2, M3 =>
    if 260 ≤ i2 then
        K i2 M3
      else
        chk (inb i2 260) (
        chk (inb i2 260) (
        lt (sI M3 (mR M3 a0 3) (i2.toNatClampNeg) (mI M3 (mR M3 a0 1) i2.toNatClampNeg)) (fun (M10 : Mem) =>
        lt (i2 + 1) (fun (v11 : Int32) =>
        F_X9_save_L1 a0 K n v11 M10))))
def F_X9_save (a0 : Nat) (M : Mem) : Option (Int32 × Mem) :=
  lt (sI M a0 0 0) (fun (M1 : Mem) =>
  F_X9_save_L1 a0 (fun (x13 : Int32) (M14 : Mem) =>
  lt (sI M14 a0 8 1) (fun (M15 : Mem) =>
  chk (inb 0 260) (
  some (mI M15 (mR M15 a0 1) 0, M15)))) 3000 0 M1)
def F_X9_restore_L1 (a0 : Nat) (K : Int32 → Mem → Option (Int32 × Mem)) : Nat → Int32 → Mem → Option (Int32 × Mem)
  | 0, _, _ => none
  | n+1, i3, M4 =>
    if 260 ≤ i3 then
          K i3 M4
        else
          chk (inb i3 260) (
          chk (inb i3 260) (
          lt (sI M4 (mR M4 a0 1) (i3.toNatClampNeg) (mI M4 (mR M4 a0 3) i3.toNatClampNeg)) (fun (M11 : Mem) =>
          lt (i3 + 1) (fun (v12 : Int32) =>
          F_X9_restore_L1 a0 K n v12 M11))))
def F_X9_restore (a0 : Nat) (M : Mem) : Option (Int32 × Mem) :=
  lt (sI M a0 0 0) (fun (M1 : Mem) =>
  if (mI M1 a0 8) = 0 then
    b1 (F_X9_fails a0 1 M1) (fun v21 M22 =>
    some (v21, M22))
  else
    F_X9_restore_L1 a0 (fun (x14 : Int32) (M15 : Mem) =>
    lt (sI M15 a0 6 0) (fun (M16 : Mem) =>
    lt (sI M16 a0 7 0) (fun (M17 : Mem) =>
    chk (inb 0 260) (
    some (mI M17 (mR M17 a0 1) 0, M17))))) 3000 0 M1)
def F_X8_copyNumbers_20 (q1_ : Nat) (q2_ : Nat) (M : Mem) : Option (Unit × Mem) :=
  lt (cpI M q1_ 0 q2_ 0 36) (fun (M1 : Mem) =>
  some ((), M1))
def F_X8_copyNumbers_21 (q1_ : Nat) (q2_ : Nat) (M : Mem) : Option (Unit × Mem) :=
  lt (cpI M q1_ 0 q2_ 0 30) (fun (M1 : Mem) =>
  some ((), M1))
def F_X8_copyNumbers_22 (q1_ : Nat) (q2_ : Nat) (M : Mem) : Option (Unit × Mem) :=
  lt (cpI M q1_ 0 q2_ 0 10) (fun (M1 : Mem) =>
  some ((), M1))
def F_X4_copyFrom (a0 : Nat) (q1_ : Nat) (M : Mem) : Option (Unit × Mem) :=
  chk (nokC (mI M q1_ 0)) (
  lt (sI M a0 0 (mI M q1_ 0)) (fun (M1 : Mem) =>
  lt (sI M1 a0 1 (mI M1 q1_ 1)) (fun (M3 : Mem) =>
  lt (sI M3 a0 2 (mI M3 q1_ 2)) (fun (M4 : Mem) =>
  b1 (F_X8_copyNumbers_20 (mR M4 q1_ 3) (mR M4 a0 3) M4) (fun u8 M9 =>
  lt (sI M9 a0 4 (mI M9 q1_ 4)) (fun (M10 : Mem) =>
  lt (sI M10 a0 5 (mI M10 q1_ 5)) (fun (M11 : Mem) =>
  lt (sI M11 a0 6 (mI M11 q1_ 6)) (fun (M12 : Mem) =>
  lt (sI M12 a0 7 (mI M12 q1_ 7)) (fun (M13 : Mem) =>
  some ((), M13))))))))))
def F_X5_copyFrom_L1 (a0 : Nat) (q1_ : Nat) (K : Int32 → Mem → Option (Unit × Mem)) : Nat → Int32 → Mem → Option (Unit × Mem)
  | 0, _, _ => none
  | n+1, i1, M2 =>
    if 5 ≤ i1 then
        K i1 M2
      else
        if 5 ≤ i1 then
          K i1 M2
        else
          chk (inb i1 5) (
          chk (inb i1 5) (
          b1 (F_X4_copyFrom (mR M2 (mR M2 a0 0) i1.toNatClampNeg) (mR M2 (mR M2 q1_ 0) i1.toNatClampNeg) M2) (fun u15 M16 =>
          lt (i1 + 1) (fun (v17 : Int32) =>
          F_X5_copyFrom_L1 a0 q1_ K n v17 M16))))
def F_X5_copyFrom (a0 : Nat) (q1_ : Nat) (M : Mem) : Option (Unit × Mem) :=
  F_X5_copyFrom_L1 a0 q1_ (fun (x19 : Int32) (M20 : Mem) =>
  lt (sI M20 a0 1 (mI M20 q1_ 1)) (fun (M21 : Mem) =>
  lt (sI M21 a0 2 (mI M21 q1_ 2)) (fun (M22 : Mem) =>
  lt (sI M22 a0 3 (mI M22 q1_ 3)) (fun (M23 : Mem) =>
  lt (sI M23 a0 4 (mI M23 q1_ 4)) (fun (M24 : Mem) =>
  lt (sI M24 a0 5 (mI M24 q1_ 5)) (fun (M25 : Mem) =>
  lt (sI M25 a0 6 (mI M25 q1_ 6)) (fun (M26 : Mem) =>
  lt (sJ M26 a0 7 (mJ M26 q1_ 7)) (fun (M27 : Mem) =>
  b1 (F_X8_copyNumbers_21 (mR M27 q1_ 8) (mR M27 a0 8) M27) (fun u31 M32 =>
  b1 (F_X8_copyNumbers_22 (mR M32 q1_ 9) (mR M32 a0 9) M32) (fun u36 M37 =>
  some ((), M37))))))))))) 3000 0 M
def F_X2_prepare (a0 : Nat) (q1_ : Nat) (M : Mem) : Option (Unit × Mem) :=
  if (mI M a0 1) < 0 then
    some ((), M)
  else
    if 9 ≤ (mI M a0 1) then
      some ((), M)
    else
      chk (inb (mI M a0 1) 9) (
      b1 (F_X5_copyFrom (mR M (mR M a0 0) (mI M a0 1).toNatClampNeg) q1_ M) (fun u8 M9 =>
      some ((), M9)))
def F_X8_kindIndex (p1_ : Int32) : Option Int32 :=
  if p1_ = 100 then
    some 2
  else
  if p1_ = 115 then
    some 0
  else
  if p1_ = 119 then
    some 1
  else
  some (-1)
def F_X8_isSide (p1_ : Int32) : Option Int32 :=
  if p1_ < 1 then
    some 0
  else
    if 6 < p1_ then
      some 0
    else
      some 1
def F_X4_begin_L1 (a0 : Nat) (K : Int32 → Mem → Option (Unit × Mem)) : Nat → Int32 → Mem → Option (Unit × Mem)
  | 0, _, _ => none
  | n+1, i5, M6 =>
    if 36 ≤ i5 then
        K i5 M6
      else
        chk (inb i5 36) (
        lt (sI M6 (mR M6 a0 3) (i5.toNatClampNeg) 0) (fun (M12 : Mem) =>
        lt (i5 + 1) (fun (v13 : Int32) =>
        F_X4_begin_L1 a0 K n v13 M12)))
def F_X4_begin (a0 : Nat) (p1_ : Int32) (p2_ : Int32) (p3_ : Int32) (M : Mem) : Option (Unit × Mem) :=
  chk (nokC p1_) (
  lt (sI M a0 0 p1_) (fun (M1 : Mem) =>
  lt (sI M1 a0 1 p2_) (fun (M3 : Mem) =>
  lt (sI M3 a0 2 p3_) (fun (M4 : Mem) =>
  F_X4_begin_L1 a0 (fun (x15 : Int32) (M16 : Mem) =>
  lt (sI M16 a0 4 0) (fun (M17 : Mem) =>
  lt (sI M17 a0 5 0) (fun (M18 : Mem) =>
  lt (sI M18 a0 6 0) (fun (M19 : Mem) =>
  lt (sI M19 a0 7 0) (fun (M20 : Mem) =>
  some ((), M20)))))) 3000 0 M4))))
def F_X5_add (a0 : Nat) (p1_ : Int32) (p2_ : Int32) (p3_ : Int32) (M : Mem) : Option (Int32 × Mem) :=
  Option.bind (F_X8_kindIndex p1_) (fun v2 =>
  if v2 < 0 then
    some ((-2), M)
  else
    Option.bind (F_X8_isSide p2_) (fun v5 =>
    if v5 = 0 then
      some ((-2), M)
    else
      Option.bind (F_X8_isSide p3_) (fun v8 =>
      if v8 = 0 then
        some ((-2), M)
      else
        if (mI M a0 1) < 0 then
          some ((-3), M)
        else
          if (mI M a0 1) < 5 then
            chk (inb (mI M a0 1) 5) (
            b1 (F_X4_begin (mR M (mR M a0 0) (mI M a0 1).toNatClampNeg) p1_ p2_ p3_ M) (fun u17 M18 =>
            lt (sI M18 a0 1 ((mI M18 a0 1) + 1)) (fun (M19 : Mem) =>
            some ((mI M19 a0 1) - 1, M19))))
          else
            some ((-3), M))))
def F_X2_keep (a0 : Nat) (M : Mem) : Option (Unit × Mem) :=
  if 9 ≤ ((mI M a0 1) + 1) then
    lt (sI M a0 1 0) (fun (M3 : Mem) =>
    lt (sI M3 a0 2 (if 8 < ((mI M3 a0 2) + 1) then 8 else ((mI M3 a0 2) + 1))) (fun (M4 : Mem) =>
    some ((), M4)))
  else
    lt (sI M a0 1 ((mI M a0 1) + 1)) (fun (M5 : Mem) =>
    lt (sI M5 a0 2 (if 8 < ((mI M5 a0 2) + 1) then 8 else ((mI M5 a0 2) + 1))) (fun (M6 : Mem) =>
    some ((), M6)))
def F_X8_settled (a0 : Nat) (p1_ : Int32) (M : Mem) : Option ((Int32 ⊕ String) × Mem) :=
  if p1_ = (-1) then
    some (.inr "java/lang/IndexOutOfBoundsException", M)
  else
    if p1_ = (-2) then
      some (.inr "java/lang/IllegalArgumentException", M)
    else
      if p1_ = (-3) then
        some (.inr "java/lang/IllegalStateException", M)
      else
        if p1_ = (-4) then
          some (.inr "java/lang/UnsupportedOperationException", M)
        else
          b1 (F_X2_keep (mR M a0 4) M) (fun u7 M8 =>
          some (.inl p1_, M8))
def F_X8_addSection (a0 : Nat) (p1_ : Int32) (p2_ : Int32) (p3_ : Int32) (M : Mem) : Option ((Int32 ⊕ String) × Mem) :=
  b1 (F_X2_prepare (mR M a0 4) (mR M a0 0) M) (fun u4 M5 =>
  b1 (F_X5_add (mR M5 a0 0) p1_ p2_ p3_ M5) (fun v8 M9 =>
  bx (F_X8_settled a0 v8 M9) (fun v11 M12 =>
  some (.inl v11, M12))))
def F_X5_hasSection (a0 : Nat) (p1_ : Int32) (M : Mem) : Option Int32 :=
  if p1_ < 0 then
    some 0
  else
    if (mI M a0 1) ≤ p1_ then
      some 0
    else
      if 5 ≤ p1_ then
        some 0
      else
        some 1
def F_X5_drop_L1 (a0 : Nat) (K : Int32 → Mem → Option (Int32 × Mem)) : Nat → Int32 → Mem → Option (Int32 × Mem)
  | 0, _, _ => none
  | n+1, i8, M9 =>
    if 5 ≤ (i8 + 1) then
          K i8 M9
        else
          chk (inb (i8 + 1) 5) (
          chk (inb i8 5) (
          lt (sR M9 (mR M9 a0 0) (i8.toNatClampNeg) (mR M9 (mR M9 a0 0) (i8 + 1).toNatClampNeg)) (fun (M18 : Mem) =>
          lt (i8 + 1) (fun (v19 : Int32) =>
          F_X5_drop_L1 a0 K n v19 M18))))
def F_X5_drop (a0 : Nat) (p1_ : Int32) (M : Mem) : Option (Int32 × Mem) :=
  Option.bind (F_X5_hasSection a0 p1_ M) (fun v2 =>
  if v2 = 0 then
    some ((-1), M)
  else
    chk (inb p1_ 5) (
    lt (mR M (mR M a0 0) p1_.toNatClampNeg) (fun (q7 : Nat) =>
    F_X5_drop_L1 a0 (fun (x21 : Int32) (M22 : Mem) =>
    chk (inb ((5 : Int32) - 1) 5) (
    lt (sR M22 (mR M22 a0 0) (((5 : Int32) - 1).toNatClampNeg) q7) (fun (M26 : Mem) =>
    lt (sI M26 a0 1 ((mI M26 a0 1) - 1)) (fun (M27 : Mem) =>
    some (mI M27 a0 1, M27))))) 3000 p1_ M)))
def F_X8_removeSection (a0 : Nat) (p1_ : Int32) (M : Mem) : Option ((Int32 ⊕ String) × Mem) :=
  b1 (F_X2_prepare (mR M a0 4) (mR M a0 0) M) (fun u4 M5 =>
  b1 (F_X5_drop (mR M5 a0 0) p1_ M5) (fun v8 M9 =>
  bx (F_X8_settled a0 v8 M9) (fun v11 M12 =>
  some (.inl v11, M12))))
def F_X4_hasRow (a0 : Nat) (p1_ : Int32) (M : Mem) : Option Int32 :=
  if p1_ < 0 then
    some 0
  else
    if (mI M a0 1) ≤ p1_ then
      some 0
    else
      if 6 ≤ p1_ then
        some 0
      else
        some 1
def F_X4_hasColumn (a0 : Nat) (p1_ : Int32) (M : Mem) : Option Int32 :=
  if p1_ < 0 then
    some 0
  else
    if (mI M a0 2) ≤ p1_ then
      some 0
    else
      if 6 ≤ p1_ then
        some 0
      else
        some 1
def F_X4_hasPlace (a0 : Nat) (p1_ : Int32) (p2_ : Int32) (M : Mem) : Option Int32 :=
  Option.bind (F_X4_hasRow a0 p1_ M) (fun v2 =>
  if v2 = 0 then
    some 0
  else
    Option.bind (F_X4_hasColumn a0 p2_ M) (fun v5 =>
    if v5 = 0 then
      some 0
    else
      some 1))
def F_X4_noteAt (a0 : Nat) (p1_ : Int32) (p2_ : Int32) (M : Mem) : Option Int32 :=
  Option.bind (F_X4_hasPlace a0 p1_ p2_ M) (fun v2 =>
  if v2 = 0 then
    some 0
  else
    chk (inb ((p1_ * 6) + p2_) 36) (
    some (mI M (mR M a0 3) ((p1_ * 6) + p2_).toNatClampNeg)))
def F_X4_putNote (a0 : Nat) (p1_ : Int32) (p2_ : Int32) (p3_ : Int32) (M : Mem) : Option (Unit × Mem) :=
  Option.bind (F_X4_hasPlace a0 p1_ p2_ M) (fun v2 =>
  if v2 = 0 then
    some ((), M)
  else
    chk (inb ((p1_ * 6) + p2_) 36) (
    lt (sI M (mR M a0 3) (((p1_ * 6) + p2_).toNatClampNeg) p3_) (fun (M6 : Mem) =>
    some ((), M6))))
def F_X5_write (a0 : Nat) (p1_ : Int32) (p2_ : Int32) (p3_ : Int32) (p4_ : Int32) (M : Mem) : Option (Int32 × Mem) :=
  Option.bind (F_X5_hasSection a0 p1_ M) (fun v2 =>
  if v2 = 0 then
    some ((-1), M)
  else
    chk (inb p1_ 5) (
    Option.bind (F_X4_hasPlace (mR M (mR M a0 0) p1_.toNatClampNeg) p2_ p3_ M) (fun v8 =>
    if v8 = 0 then
      some ((-1), M)
    else
      if p4_ < 0 then
        some ((-2), M)
      else
        if p4_ ≤ 9 then
          chk (inb p1_ 5) (
          Option.bind (F_X4_noteAt (mR M (mR M a0 0) p1_.toNatClampNeg) p2_ p3_ M) (fun v16 =>
          chk (inb p1_ 5) (
          b1 (F_X4_putNote (mR M (mR M a0 0) p1_.toNatClampNeg) p2_ p3_ p4_ M) (fun u21 M22 =>
          some (v16, M22)))))
        else
          some ((-2), M))))
def F_X8_setNote (a0 : Nat) (p1_ : Int32) (p2_ : Int32) (p3_ : Int32) (p4_ : Int32) (M : Mem) : Option ((Int32 ⊕ String) × Mem) :=
  b1 (F_X2_prepare (mR M a0 4) (mR M a0 0) M) (fun u4 M5 =>
  b1 (F_X5_write (mR M5 a0 0) p1_ p2_ p3_ p4_ M5) (fun v8 M9 =>
  bx (F_X8_settled a0 v8 M9) (fun v11 M12 =>
  some (.inl v11, M12))))
def F_X8_isMaskColumn (p1_ : Int32) : Option Int32 :=
  if p1_ < 0 then
    some 0
  else
    if 6 ≤ p1_ then
      some 0
    else
      some 1
def F_X4_masks (a0 : Nat) (p1_ : Int32) (M : Mem) : Option Int32 :=
  if (((mI M a0 4) >>> (p1_ &&& 31)) &&& 1) = 0 then
    some 0
  else
    some 1
def F_X4_putMask (a0 : Nat) (p1_ : Int32) (p2_ : Int32) (M : Mem) : Option (Unit × Mem) :=
  if p2_ = 0 then
    lt (sI M a0 4 ((mI M a0 4) &&& ((1 <<< (p1_ &&& 31)) ^^^ (-1)))) (fun (M2 : Mem) =>
    some ((), M2))
  else
    lt (sI M a0 4 ((mI M a0 4) ||| (1 <<< (p1_ &&& 31)))) (fun (M3 : Mem) =>
    some ((), M3))
def F_X5_mask (a0 : Nat) (p1_ : Int32) (p2_ : Int32) (p3_ : Int32) (M : Mem) : Option (Int32 × Mem) :=
  Option.bind (F_X5_hasSection a0 p1_ M) (fun v2 =>
  if v2 = 0 then
    some ((-1), M)
  else
    Option.bind (F_X8_isMaskColumn p2_) (fun v5 =>
    if v5 = 0 then
      some ((-2), M)
    else
      chk (inb p1_ 5) (
      Option.bind (F_X4_masks (mR M (mR M a0 0) p1_.toNatClampNeg) p2_ M) (fun v11 =>
      chk (inb p1_ 5) (
      b1 (F_X4_putMask (mR M (mR M a0 0) p1_.toNatClampNeg) p2_ p3_ M) (fun u16 M17 =>
      if v11 = 0 then
        some (0, M17)
      else
        some (1, M17)))))))
def F_X8_setMasked (a0 : Nat) (p1_ : Int32) (p2_ : Int32) (p3_ : Int32) (M : Mem) : Option ((Int32 ⊕ String) × Mem) :=
  b1 (F_X2_prepare (mR M a0 4) (mR M a0 0) M) (fun u4 M5 =>
  b1 (F_X5_mask (mR M5 a0 0) p1_ p2_ p3_ M5) (fun v8 M9 =>
  bx (F_X8_settled a0 v8 M9) (fun v11 M12 =>
  if v11 = 0 then
    some (.inl 0, M12)
  else
    some (.inl 1, M12))))
def F_X4_flip_L2 (a0 : Nat) (i1 : Int32) (K : Int32 → Mem → Option (Unit × Mem)) : Nat → Int32 → Mem → Option (Unit × Mem)
  | 0, _, _ => none
  | n+1, i5, M6 =>
    if i1 ≤ i5 then
              K i5 M6
            else
              lt ((i1 * 6) + i5) (fun (v9 : Int32) =>
              lt ((i5 * 6) + i1) (fun (v10 : Int32) =>
              chk (inb v9 36) (
              lt (mI M6 (mR M6 a0 3) v9.toNatClampNeg) (fun (v13 : Int32) =>
              chk (inb v10 36) (
              chk (inb v9 36) (
              lt (sI M6 (mR M6 a0 3) (v9.toNatClampNeg) (mI M6 (mR M6 a0 3) v10.toNatClampNeg)) (fun (M18 : Mem) =>
              chk (inb v10 36) (
              lt (sI M18 (mR M18 a0 3) (v10.toNatClampNeg) v13) (fun (M21 : Mem) =>
              lt (i5 + 1) (fun (v22 : Int32) =>
              F_X4_flip_L2 a0 i1 K n v22 M21))))))))))
def F_X4_flip_L1 (a0 : Nat) (K : Int32 → Mem → Option (Unit × Mem)) : Nat → Int32 → Mem → Option (Unit × Mem)
  | 0, _, _ => none
  | n+1, i1, M2 =>
    if 6 ≤ i1 then
        K i1 M2
      else
        F_X4_flip_L2 a0 i1 (fun (x24 : Int32) (M25 : Mem) =>
        lt (i1 + 1) (fun (v26 : Int32) =>
        F_X4_flip_L1 a0 K n v26 M25)) 3000 0 M2
def F_X4_flip (a0 : Nat) (M : Mem) : Option (Unit × Mem) :=
  F_X4_flip_L1 a0 (fun (x28 : Int32) (M29 : Mem) =>
  lt (mI M29 a0 1) (fun (v30 : Int32) =>
  lt (sI M29 a0 1 (mI M29 a0 2)) (fun (M31 : Mem) =>
  lt (sI M31 a0 2 v30) (fun (M32 : Mem) =>
  some ((), M32))))) 3000 0 M
def F_X5_flip (a0 : Nat) (p1_ : Int32) (M : Mem) : Option (Int32 × Mem) :=
  Option.bind (F_X5_hasSection a0 p1_ M) (fun v2 =>
  if v2 = 0 then
    some ((-1), M)
  else
    chk (inb p1_ 5) (
    b1 (F_X4_flip (mR M (mR M a0 0) p1_.toNatClampNeg) M) (fun u8 M9 =>
    chk (inb p1_ 5) (
    some (mI M9 (mR M9 (mR M9 a0 0) p1_.toNatClampNeg) 2, M9)))))
def F_X8_transpose (a0 : Nat) (p1_ : Int32) (M : Mem) : Option ((Int32 ⊕ String) × Mem) :=
  b1 (F_X2_prepare (mR M a0 4) (mR M a0 0) M) (fun u4 M5 =>
  b1 (F_X5_flip (mR M5 a0 0) p1_ M5) (fun v8 M9 =>
  bx (F_X8_settled a0 v8 M9) (fun v11 M12 =>
  some (.inl v11, M12))))
def F_X4_turn_L2 (a0 : Nat) (i2 : Int32) (K : Int32 → Int32 → Mem → Option (Int32 × Mem)) : Nat → Int32 → Int32 → Mem → Option (Int32 × Mem)
  | 0, _, _, _ => none
  | n+1, i6, i7, M8 =>
    if ((mI M8 a0 2) / 2) ≤ i7 then
              K i6 i7 M8
            else
              lt (((mI M8 a0 2) - 1) - i7) (fun (v11 : Int32) =>
              Option.bind (F_X4_noteAt a0 i2 i7 M8) (fun v13 =>
              Option.bind (F_X4_noteAt a0 i2 v11 M8) (fun v15 =>
              b1 (F_X4_putNote a0 i2 i7 v15 M8) (fun u17 M18 =>
              b1 (F_X4_putNote a0 i2 v11 v13 M18) (fun u20 M21 =>
              Option.bind (F_X4_noteAt a0 i2 i7 M21) (fun v23 =>
              if v23 = v13 then
                lt (i7 + 1) (fun (v25 : Int32) =>
                F_X4_turn_L2 a0 i2 K n i6 v25 M21)
              else
                lt (i6 + 2) (fun (v26 : Int32) =>
                lt (i7 + 1) (fun (v27 : Int32) =>
                F_X4_turn_L2 a0 i2 K n v26 v27 M21))))))))
def F_X4_turn_L1 (a0 : Nat) (K : Int32 → Int32 → Mem → Option (Int32 × Mem)) : Nat → Int32 → Int32 → Mem → Option (Int32 × Mem)
  | 0, _, _, _ => none
  | n+1, i1, i2, M3 =>
    if (mI M3 a0 1) ≤ i2 then
        K i1 i2 M3
      else
        F_X4_turn_L2 a0 i2 (fun (x29 : Int32) (x30 : Int32) (M31 : Mem) =>
        lt (i2 + 1) (fun (v32 : Int32) =>
        F_X4_turn_L1 a0 K n x29 v32 M31)) 3000 i1 0 M3
def F_X4_turn (a0 : Nat) (M : Mem) : Option (Int32 × Mem) :=
  F_X4_turn_L1 a0 (fun (x34 : Int32) (x35 : Int32) (M36 : Mem) =>
  some (x34, M36)) 3000 0 0 M
def F_X5_turn (a0 : Nat) (p1_ : Int32) (M : Mem) : Option (Int32 × Mem) :=
  Option.bind (F_X5_hasSection a0 p1_ M) (fun v2 =>
  if v2 = 0 then
    some ((-1), M)
  else
    chk (inb p1_ 5) (
    b1 (F_X4_turn (mR M (mR M a0 0) p1_.toNatClampNeg) M) (fun v8 M9 =>
    some (v8, M9))))
def F_X8_reverse (a0 : Nat) (p1_ : Int32) (M : Mem) : Option ((Int32 ⊕ String) × Mem) :=
  b1 (F_X2_prepare (mR M a0 4) (mR M a0 0) M) (fun u4 M5 =>
  b1 (F_X5_turn (mR M5 a0 0) p1_ M5) (fun v8 M9 =>
  bx (F_X8_settled a0 v8 M9) (fun v11 M12 =>
  some (.inl v11, M12))))
def F_X4_canLift_L1 (a0 : Nat) (p1_ : Int32) (M : Mem) (K : Int32 → Option Int32) : Nat → Int32 → Option Int32
  | 0, _ => none
  | n+1, i1 =>
    if 36 ≤ i1 then
        K i1
      else
        chk (inb i1 36) (
        lt ((mI M (mR M a0 3) i1.toNatClampNeg) + p1_) (fun (v7 : Int32) =>
        chk (inb i1 36) (
        if (mI M (mR M a0 3) i1.toNatClampNeg) = 0 then
          lt (i1 + 1) (fun (v11 : Int32) =>
          F_X4_canLift_L1 a0 p1_ M K n v11)
        else
          if v7 < 1 then
            some 0
          else
            if v7 ≤ 9 then
              lt (i1 + 1) (fun (v14 : Int32) =>
              F_X4_canLift_L1 a0 p1_ M K n v14)
            else
              some 0)))
def F_X4_canLift (a0 : Nat) (p1_ : Int32) (M : Mem) : Option Int32 :=
  F_X4_canLift_L1 a0 p1_ M (fun (x16 : Int32) =>
  some 1) 3000 0
def F_X4_lift_L1 (a0 : Nat) (p1_ : Int32) (K : Int32 → Int32 → Mem → Option (Int32 × Mem)) : Nat → Int32 → Int32 → Mem → Option (Int32 × Mem)
  | 0, _, _, _ => none
  | n+1, i1, i2, M3 =>
    if 36 ≤ i2 then
        K i1 i2 M3
      else
        chk (inb i2 36) (
        if (mI M3 (mR M3 a0 3) i2.toNatClampNeg) = 0 then
          lt (i2 + 1) (fun (v10 : Int32) =>
          F_X4_lift_L1 a0 p1_ K n i1 v10 M3)
        else
          chk (inb i2 36) (
          chk (inb i2 36) (
          lt (sI M3 (mR M3 a0 3) (i2.toNatClampNeg) ((mI M3 (mR M3 a0 3) i2.toNatClampNeg) + p1_)) (fun (M14 : Mem) =>
          lt (i1 + 1) (fun (v15 : Int32) =>
          lt (i2 + 1) (fun (v16 : Int32) =>
          F_X4_lift_L1 a0 p1_ K n v15 v16 M14))))))
def F_X4_lift (a0 : Nat) (p1_ : Int32) (M : Mem) : Option (Int32 × Mem) :=
  F_X4_lift_L1 a0 p1_ (fun (x18 : Int32) (x19 : Int32) (M20 : Mem) =>
  some (x18, M20)) 3000 0 0 M
def F_X5_lift (a0 : Nat) (p1_ : Int32) (p2_ : Int32) (M : Mem) : Option (Int32 × Mem) :=
  Option.bind (F_X5_hasSection a0 p1_ M) (fun v2 =>
  if v2 = 0 then
    some ((-1), M)
  else
    if p2_ < (-9) then
      some ((-2), M)
    else
      if p2_ ≤ 9 then
        chk (inb p1_ 5) (
        Option.bind (F_X4_canLift (mR M (mR M a0 0) p1_.toNatClampNeg) p2_ M) (fun v10 =>
        if v10 = 0 then
          some ((-4), M)
        else
          chk (inb p1_ 5) (
          b1 (F_X4_lift (mR M (mR M a0 0) p1_.toNatClampNeg) p2_ M) (fun v16 M17 =>
          some (v16, M17)))))
      else
        some ((-2), M))
def F_X8_raise (a0 : Nat) (p1_ : Int32) (p2_ : Int32) (M : Mem) : Option ((Int32 ⊕ String) × Mem) :=
  b1 (F_X2_prepare (mR M a0 4) (mR M a0 0) M) (fun u4 M5 =>
  b1 (F_X5_lift (mR M5 a0 0) p1_ p2_ M5) (fun v8 M9 =>
  bx (F_X8_settled a0 v8 M9) (fun v11 M12 =>
  some (.inl v11, M12))))
def F_X5_changeTempo (a0 : Nat) (p1_ : Int32) (M : Mem) : Option (Int32 × Mem) :=
  if p1_ < 1 then
    some ((-2), M)
  else
    if p1_ ≤ 5 then
      lt (mI M a0 2) (fun (v3 : Int32) =>
      lt (sI M a0 2 p1_) (fun (M4 : Mem) =>
      some (v3, M4)))
    else
      some ((-2), M)
def F_X8_setTempo (a0 : Nat) (p1_ : Int32) (M : Mem) : Option ((Int32 ⊕ String) × Mem) :=
  b1 (F_X2_prepare (mR M a0 4) (mR M a0 0) M) (fun u4 M5 =>
  b1 (F_X5_changeTempo (mR M5 a0 0) p1_ M5) (fun v8 M9 =>
  bx (F_X8_settled a0 v8 M9) (fun v11 M12 =>
  some (.inl v11, M12))))
def F_X5_changeLimit (a0 : Nat) (p1_ : Int32) (M : Mem) : Option (Int32 × Mem) :=
  if p1_ < 1 then
    some ((-2), M)
  else
    if p1_ ≤ 99 then
      lt (mI M a0 3) (fun (v3 : Int32) =>
      lt (sI M a0 3 p1_) (fun (M4 : Mem) =>
      some (v3, M4)))
    else
      some ((-2), M)
def F_X8_setLimit (a0 : Nat) (p1_ : Int32) (M : Mem) : Option ((Int32 ⊕ String) × Mem) :=
  b1 (F_X2_prepare (mR M a0 4) (mR M a0 0) M) (fun u4 M5 =>
  b1 (F_X5_changeLimit (mR M5 a0 0) p1_ M5) (fun v8 M9 =>
  bx (F_X8_settled a0 v8 M9) (fun v11 M12 =>
  some (.inl v11, M12))))
def F_X4_columnIn (a0 : Nat) (p1_ : Int32) (M : Mem) : Option Int32 :=
  if (mI M a0 2) ≤ 0 then
    some 0
  else
    chk (nz (mI M a0 2)) (
    some (p1_ - p1_ / (mI M a0 2) * (mI M a0 2)))
def F_X5_recordSounds_L1 (a0 : Nat) (q1_ : Nat) (v3 : Int32) (K : Int32 → Mem → Option (Unit × Mem)) : Nat → Int32 → Mem → Option (Unit × Mem)
  | 0, _, _ => none
  | n+1, i4, M5 =>
    if i4 < 0 then
        K i4 M5
      else
        if 36 ≤ i4 then
          K i4 M5
        else
          chk (inb i4 36) (
          lt (v3 + (mI M5 (mR M5 q1_ 3) i4.toNatClampNeg)) (fun (v12 : Int32) =>
          chk (inb i4 36) (
          if (mI M5 (mR M5 q1_ 3) i4.toNatClampNeg) = 0 then
            lt (i4 + 6) (fun (v16 : Int32) =>
            F_X5_recordSounds_L1 a0 q1_ v3 K n v16 M5)
          else
            if v12 < 0 then
              lt (i4 + 6) (fun (v18 : Int32) =>
              F_X5_recordSounds_L1 a0 q1_ v3 K n v18 M5)
            else
              if 30 ≤ v12 then
                lt (i4 + 6) (fun (v21 : Int32) =>
                F_X5_recordSounds_L1 a0 q1_ v3 K n v21 M5)
              else
                chk (inb v12 30) (
                chk (inb v12 30) (
                lt (sI M5 (mR M5 a0 8) (v12.toNatClampNeg) ((mI M5 (mR M5 a0 8) v12.toNatClampNeg) + 1)) (fun (M25 : Mem) =>
                lt (i4 + 6) (fun (v26 : Int32) =>
                F_X5_recordSounds_L1 a0 q1_ v3 K n v26 M25)))))))
def F_X5_recordSounds (a0 : Nat) (q1_ : Nat) (p2_ : Int32) (M : Mem) : Option (Unit × Mem) :=
  Option.bind (F_X8_kindIndex (mI M q1_ 0)) (fun v2 =>
  lt (v2 * 10) (fun (v3 : Int32) =>
  F_X5_recordSounds_L1 a0 q1_ v3 (fun (x28 : Int32) (M29 : Mem) =>
  some ((), M29)) 3000 p2_ M))
def F_X8_volumeOf (p1_ : Int32) (p2_ : Int32) : Option Int32 :=
  if p2_ = 0 then
    some p2_
  else
    if p1_ = 115 then
      some p2_
    else
      if p1_ = 119 then
        if p2_ ≤ 6 then
          some (2 * p2_)
        else
          some 12
      else
        if (p2_ - p2_ / 2 * 2) = 0 then
          some 1
        else
          some 5
def F_X4_volumeOfColumn_L1 (a0 : Nat) (M : Mem) (K : Int32 → Int32 → Option Int32) : Nat → Int32 → Int32 → Option Int32
  | 0, _, _ => none
  | n+1, i1, i2 =>
    if i2 < 0 then
        K i1 i2
      else
        if 36 ≤ i2 then
          K i1 i2
        else
          chk (inb i2 36) (
          Option.bind (F_X8_volumeOf (mI M a0 0) (mI M (mR M a0 3) i2.toNatClampNeg)) (fun v10 =>
          lt (i1 + v10) (fun (v11 : Int32) =>
          lt (i2 + 6) (fun (v12 : Int32) =>
          F_X4_volumeOfColumn_L1 a0 M K n v11 v12))))
def F_X4_volumeOfColumn (a0 : Nat) (p1_ : Int32) (M : Mem) : Option Int32 :=
  F_X4_volumeOfColumn_L1 a0 M (fun (x14 : Int32) (x15 : Int32) =>
  some x14) 3000 0 p1_
def F_X5_playSection (a0 : Nat) (q1_ : Nat) (M : Mem) : Option (Int32 × Mem) :=
  if (mI M q1_ 6) ≤ 0 then
    Option.bind (F_X4_columnIn q1_ (mI M a0 4) M) (fun v3 =>
    Option.bind (F_X4_masks q1_ v3 M) (fun v5 =>
    if v5 = 0 then
      b1 (F_X5_recordSounds a0 q1_ v3 M) (fun u8 M9 =>
      Option.bind (F_X4_volumeOfColumn q1_ v3 M9) (fun v11 =>
      lt (sI M9 q1_ 7 ((mI M9 q1_ 7) + v11)) (fun (M12 : Mem) =>
      some (v11, M12))))
    else
      some (0, M)))
  else
    lt (sI M q1_ 6 ((mI M q1_ 6) - 1)) (fun (M13 : Mem) =>
    some (0, M13))
def F_X4_tire (a0 : Nat) (M : Mem) : Option (Unit × Mem) :=
  lt (sI M a0 5 ((mI M a0 5) + 1)) (fun (M1 : Mem) =>
  if (mI M1 a0 5) = 3 then
    lt (sI M1 a0 5 0) (fun (M3 : Mem) =>
    lt (sI M3 a0 6 2) (fun (M4 : Mem) =>
    some ((), M4)))
  else
    some ((), M1))
def F_X5_logTotal (a0 : Nat) (p1_ : Int32) (M : Mem) : Option (Unit × Mem) :=
  lt ((mI M a0 4) - (mI M a0 4) / 10 * 10) (fun (v1 : Int32) =>
  if v1 < 0 then
    lt (sI M a0 6 (if (mI M a0 6) < p1_ then p1_ else (mI M a0 6))) (fun (M3 : Mem) =>
    lt (sJ M3 a0 7 ((mJ M3 a0 7) + (p1_.toInt64))) (fun (M4 : Mem) =>
    lt (sI M4 a0 4 ((mI M4 a0 4) + 1)) (fun (M5 : Mem) =>
    some ((), M5))))
  else
    if 10 ≤ v1 then
      lt (sI M a0 6 (if (mI M a0 6) < p1_ then p1_ else (mI M a0 6))) (fun (M8 : Mem) =>
      lt (sJ M8 a0 7 ((mJ M8 a0 7) + (p1_.toInt64))) (fun (M9 : Mem) =>
      lt (sI M9 a0 4 ((mI M9 a0 4) + 1)) (fun (M10 : Mem) =>
      some ((), M10))))
    else
      chk (inb v1 10) (
      lt (sI M (mR M a0 9) (v1.toNatClampNeg) p1_) (fun (M13 : Mem) =>
      lt (sI M13 a0 6 (if (mI M13 a0 6) < p1_ then p1_ else (mI M13 a0 6))) (fun (M14 : Mem) =>
      lt (sJ M14 a0 7 ((mJ M14 a0 7) + (p1_.toInt64))) (fun (M15 : Mem) =>
      lt (sI M15 a0 4 ((mI M15 a0 4) + 1)) (fun (M16 : Mem) =>
      some ((), M16)))))))
def F_X5_playBeat_L1 (a0 : Nat) (K : Int32 → Nat → Int32 → Int32 → Mem → Option (Int32 × Mem)) : Nat → Int32 → Nat → Int32 → Int32 → Mem → Option (Int32 × Mem)
  | 0, _, _, _, _, _ => none
  | n+1, i1, q2, i3, i4, M5 =>
    if (mI M5 a0 1) ≤ i4 then
        K i1 q2 i3 i4 M5
      else
        if 5 ≤ i4 then
          K i1 q2 i3 i4 M5
        else
          chk (inb i4 5) (
          b1 (F_X5_playSection a0 (mR M5 (mR M5 a0 0) i4.toNatClampNeg) M5) (fun v14 M15 =>
          lt (i1 + v14) (fun (v16 : Int32) =>
          if v14 ≤ i3 then
            lt (i4 + 1) (fun (v18 : Int32) =>
            F_X5_playBeat_L1 a0 K n v16 q2 i3 v18 M15)
          else
            chk (inb i4 5) (
            lt (mR M15 (mR M15 a0 0) i4.toNatClampNeg) (fun (q22 : Nat) =>
            lt (i4 + 1) (fun (v23 : Int32) =>
            F_X5_playBeat_L1 a0 K n v16 q22 v14 v23 M15))))))
def F_X5_playBeat (a0 : Nat) (M : Mem) : Option (Int32 × Mem) :=
  F_X5_playBeat_L1 a0 (fun (x25 : Int32) (q26 : Nat) (x27 : Int32) (x28 : Int32) (M29 : Mem) =>
  if x25 ≤ (mI M29 a0 3) then
    b1 (F_X5_logTotal a0 x25 M29) (fun u32 M33 =>
    some (x25, M33))
  else
    if q26 = 0 then
      b1 (F_X5_logTotal a0 x25 M29) (fun u36 M37 =>
      some (x25, M37))
    else
      lt (sI M29 a0 5 ((mI M29 a0 5) + 1)) (fun (M39 : Mem) =>
      b1 (F_X4_tire q26 M39) (fun u41 M42 =>
      b1 (F_X5_logTotal a0 x25 M42) (fun u44 M45 =>
      some (x25, M45))))) 3000 0 0 0 0 M
def F_X5_play_L1 (a0 : Nat) (p1_ : Int32) (K : Int32 → Int32 → Mem → Option (Int32 × Mem)) : Nat → Int32 → Int32 → Mem → Option (Int32 × Mem)
  | 0, _, _, _ => none
  | n+1, i1, i2, M3 =>
    if p1_ ≤ i2 then
        K i1 i2 M3
      else
        b1 (F_X5_playBeat a0 M3) (fun v7 M8 =>
        lt (i1 + v7) (fun (v9 : Int32) =>
        lt (i2 + 1) (fun (v10 : Int32) =>
        F_X5_play_L1 a0 p1_ K n v9 v10 M8)))
def F_X5_play (a0 : Nat) (p1_ : Int32) (M : Mem) : Option (Int32 × Mem) :=
  F_X5_play_L1 a0 p1_ (fun (x12 : Int32) (x13 : Int32) (M14 : Mem) =>
  some (x12, M14)) 3000 0 0 M
def F_X8_conductWave (a0 : Nat) (M : Mem) : Option ((Int32 ⊕ String) × Mem) :=
  b1 (F_X2_prepare (mR M a0 4) (mR M a0 0) M) (fun u4 M5 =>
  b1 (F_X5_play (mR M5 a0 0) (mI M5 (mR M5 a0 0) 2) M5) (fun v9 M10 =>
  bx (F_X8_settled a0 v9 M10) (fun v12 M13 =>
  some (.inl v12, M13))))
def F_X8_isBeats (p1_ : Int32) : Option Int32 :=
  if p1_ < 1 then
    some 0
  else
    if 40 < p1_ then
      some 0
    else
      some 1
def F_X8_conductBeats (a0 : Nat) (p1_ : Int32) (M : Mem) : Option ((Int32 ⊕ String) × Mem) :=
  b1 (F_X2_prepare (mR M a0 4) (mR M a0 0) M) (fun u4 M5 =>
  Option.bind (F_X8_isBeats p1_) (fun v7 =>
  if v7 = 0 then
    bx (F_X8_settled a0 (-2) M5) (fun v10 M11 =>
    some (.inl v10, M11))
  else
    b1 (F_X5_play (mR M5 a0 0) p1_ M5) (fun v15 M16 =>
    bx (F_X8_settled a0 v15 M16) (fun v18 M19 =>
    some (.inl v18, M19)))))
def F_X8_beatCount (a0 : Nat) (M : Mem) : Option Int32 :=
  some (mI M (mR M a0 0) 4)
def F_X8_sectionCount (a0 : Nat) (M : Mem) : Option Int32 :=
  some (mI M (mR M a0 0) 1)
def F_X8_tempo (a0 : Nat) (M : Mem) : Option Int32 :=
  some (mI M (mR M a0 0) 2)
def F_X8_limit (a0 : Nat) (M : Mem) : Option Int32 :=
  some (mI M (mR M a0 0) 3)
def F_X8_presentSection (a0 : Nat) (p1_ : Int32) (M : Mem) : Option ((Nat ⊕ String) × Mem) :=
  Option.bind (F_X5_hasSection (mR M a0 0) p1_ M) (fun v3 =>
  if v3 = 0 then
    some (.inr "java/lang/IndexOutOfBoundsException", M)
  else
    chk (inb p1_ 5) (
    some (.inl (mR M (mR M (mR M a0 0) 0) p1_.toNatClampNeg), M)))
def F_X8_kind (a0 : Nat) (p1_ : Int32) (M : Mem) : Option ((Int32 ⊕ String) × Mem) :=
  bx (F_X8_presentSection a0 p1_ M) (fun q2 M3 =>
  chk (Nat.beq (tyT q2) 4) (
  chk (nokC (mI M3 q2 0)) (some (.inl (mI M3 q2 0), M3))))
def F_X8_rows (a0 : Nat) (p1_ : Int32) (M : Mem) : Option ((Int32 ⊕ String) × Mem) :=
  bx (F_X8_presentSection a0 p1_ M) (fun q2 M3 =>
  chk (Nat.beq (tyT q2) 4) (
  some (.inl (mI M3 q2 1), M3)))
def F_X8_columns (a0 : Nat) (p1_ : Int32) (M : Mem) : Option ((Int32 ⊕ String) × Mem) :=
  bx (F_X8_presentSection a0 p1_ M) (fun q2 M3 =>
  chk (Nat.beq (tyT q2) 4) (
  some (.inl (mI M3 q2 2), M3)))
def F_X8_note (a0 : Nat) (p1_ : Int32) (p2_ : Int32) (p3_ : Int32) (M : Mem) : Option ((Int32 ⊕ String) × Mem) :=
  bx (F_X8_presentSection a0 p1_ M) (fun q2 M3 =>
  chk (Nat.beq (tyT q2) 4) (
  Option.bind (F_X4_hasPlace q2 p2_ p3_ M3) (fun v7 =>
  if v7 = 0 then
    some (.inr "java/lang/IndexOutOfBoundsException", M3)
  else
    Option.bind (F_X4_noteAt q2 p2_ p3_ M3) (fun v10 =>
    some (.inl v10, M3)))))
def F_X8_isMasked (a0 : Nat) (p1_ : Int32) (p2_ : Int32) (M : Mem) : Option ((Int32 ⊕ String) × Mem) :=
  bx (F_X8_presentSection a0 p1_ M) (fun q2 M3 =>
  chk (Nat.beq (tyT q2) 4) (
  Option.bind (F_X8_isMaskColumn p2_) (fun v7 =>
  if v7 = 0 then
    some (.inr "java/lang/IllegalArgumentException", M3)
  else
    Option.bind (F_X4_masks q2 p2_ M3) (fun v10 =>
    chk (nokZ v10) (some (.inl v10, M3))))))
def F_X8_fatigue (a0 : Nat) (p1_ : Int32) (M : Mem) : Option ((Int32 ⊕ String) × Mem) :=
  bx (F_X8_presentSection a0 p1_ M) (fun q2 M3 =>
  chk (Nat.beq (tyT q2) 4) (
  some (.inl (mI M3 q2 5), M3)))
def F_X8_restingBeats (a0 : Nat) (p1_ : Int32) (M : Mem) : Option ((Int32 ⊕ String) × Mem) :=
  bx (F_X8_presentSection a0 p1_ M) (fun q2 M3 =>
  chk (Nat.beq (tyT q2) 4) (
  some (.inl (mI M3 q2 6), M3)))
def F_X4_hasScoreOf_L1 (a0 : Nat) (q1_ : Nat) (M : Mem) (K : Int32 → Option Int32) : Nat → Int32 → Option Int32
  | 0, _ => none
  | n+1, i3 =>
    if 36 ≤ i3 then
            K i3
          else
            if 36 ≤ i3 then
              K i3
            else
              chk (inb i3 36) (
              chk (inb i3 36) (
              if (mI M (mR M a0 3) i3.toNatClampNeg) = (mI M (mR M q1_ 3) i3.toNatClampNeg) then
                lt (i3 + 1) (fun (v14 : Int32) =>
                F_X4_hasScoreOf_L1 a0 q1_ M K n v14)
              else
                some 0))
def F_X4_hasScoreOf (a0 : Nat) (q1_ : Nat) (M : Mem) : Option Int32 :=
  if (mI M a0 1) = (mI M q1_ 1) then
    if (mI M a0 2) = (mI M q1_ 2) then
      F_X4_hasScoreOf_L1 a0 q1_ M (fun (x16 : Int32) =>
      some 1) 3000 0
    else
      some 0
  else
    some 0
def F_X8_isSymmetric (a0 : Nat) (p1_ : Int32) (M : Mem) : Option ((Int32 ⊕ String) × Mem) :=
  bx (F_X8_presentSection a0 p1_ M) (fun q2 M3 =>
  chk (Nat.beq (tyT q2) 4) (
  b1 (F_X4_copyFrom (mR M3 a0 5) q2 M3) (fun u8 M9 =>
  b1 (F_X4_flip (mR M9 a0 5) M9) (fun u12 M13 =>
  Option.bind (F_X4_hasScoreOf (mR M13 a0 5) q2 M13) (fun v16 =>
  chk (nokZ v16) (some (.inl v16, M13)))))))
def F_X8_areAlike (a0 : Nat) (p1_ : Int32) (p2_ : Int32) (M : Mem) : Option ((Int32 ⊕ String) × Mem) :=
  bx (F_X8_presentSection a0 p1_ M) (fun q2 M3 =>
  chk (Nat.beq (tyT q2) 4) (
  bx (F_X8_presentSection a0 p2_ M3) (fun q7 M8 =>
  chk (Nat.beq (tyT q7) 4) (
  Option.bind (F_X4_hasScoreOf q2 q7 M8) (fun v12 =>
  chk (nokZ v12) (some (.inl v12, M8)))))))
def F_X8_noteVolume (a0 : Nat) (p1_ : Int32) (p2_ : Int32) (M : Mem) : Option ((Int32 ⊕ String) × Mem) :=
  Option.bind (F_X8_kindIndex p1_) (fun v2 =>
  if v2 < 0 then
    some (.inr "java/lang/IllegalArgumentException", M)
  else
    if p2_ < 0 then
      some (.inr "java/lang/IllegalArgumentException", M)
    else
      if p2_ ≤ 9 then
        Option.bind (F_X8_volumeOf p1_ p2_) (fun v7 =>
        some (.inl v7, M))
      else
        some (.inr "java/lang/IllegalArgumentException", M))
def F_X8_sectionWithColumn (a0 : Nat) (p1_ : Int32) (p2_ : Int32) (M : Mem) : Option ((Nat ⊕ String) × Mem) :=
  bx (F_X8_presentSection a0 p1_ M) (fun q2 M3 =>
  chk (Nat.beq (tyT q2) 4) (
  Option.bind (F_X4_hasColumn q2 p2_ M3) (fun v7 =>
  if v7 = 0 then
    some (.inr "java/lang/IndexOutOfBoundsException", M3)
  else
    some (.inl q2, M3))))
def F_X8_columnVolume (a0 : Nat) (p1_ : Int32) (p2_ : Int32) (M : Mem) : Option ((Int32 ⊕ String) × Mem) :=
  bx (F_X8_sectionWithColumn a0 p1_ p2_ M) (fun q2 M3 =>
  chk (Nat.beq (tyT q2) 4) (
  Option.bind (F_X4_volumeOfColumn q2 p2_ M3) (fun v7 =>
  some (.inl v7, M3))))
def F_X4_volumeOfRow_L1 (a0 : Nat) (p1_ : Int32) (M : Mem) (K : Int32 → Int32 → Option Int32) : Nat → Int32 → Int32 → Option Int32
  | 0, _, _ => none
  | n+1, i1, i2 =>
    if (mI M a0 2) ≤ i2 then
        K i1 i2
      else
        Option.bind (F_X4_noteAt a0 p1_ i2 M) (fun v6 =>
        Option.bind (F_X8_volumeOf (mI M a0 0) v6) (fun v8 =>
        lt (i1 + v8) (fun (v9 : Int32) =>
        lt (i2 + 1) (fun (v10 : Int32) =>
        F_X4_volumeOfRow_L1 a0 p1_ M K n v9 v10))))
def F_X4_volumeOfRow (a0 : Nat) (p1_ : Int32) (M : Mem) : Option Int32 :=
  F_X4_volumeOfRow_L1 a0 p1_ M (fun (x12 : Int32) (x13 : Int32) =>
  some x12) 3000 0 0
def F_X8_columnVolumeByTransposing (a0 : Nat) (p1_ : Int32) (p2_ : Int32) (M : Mem) : Option ((Int32 ⊕ String) × Mem) :=
  bx (F_X8_sectionWithColumn a0 p1_ p2_ M) (fun q3 M4 =>
  chk (Nat.beq (tyT q3) 4) (
  b1 (F_X4_copyFrom (mR M a0 5) q3 M4) (fun u8 M9 =>
  b1 (F_X4_flip (mR M9 a0 5) M9) (fun u12 M13 =>
  Option.bind (F_X4_volumeOfRow (mR M13 a0 5) p2_ M13) (fun v16 =>
  some (.inl v16, M13))))))
def F_X4_volumeIn (a0 : Nat) (p1_ : Int32) (M : Mem) : Option Int32 :=
  Option.bind (F_X4_columnIn a0 p1_ M) (fun v2 =>
  if 0 < (mI M a0 6) then
    some 0
  else
    Option.bind (F_X4_masks a0 v2 M) (fun v5 =>
    if v5 = 0 then
      Option.bind (F_X4_volumeOfColumn a0 v2 M) (fun v8 =>
      some v8)
    else
      some 0))
def F_X8_nextVolume (a0 : Nat) (p1_ : Int32) (M : Mem) : Option ((Int32 ⊕ String) × Mem) :=
  bx (F_X8_presentSection a0 p1_ M) (fun q2 M3 =>
  chk (Nat.beq (tyT q2) 4) (
  Option.bind (F_X4_volumeIn q2 (mI M3 (mR M3 a0 0) 4) M3) (fun v8 =>
  some (.inl v8, M3))))
def F_X8_nextTotal_L1 (a0 : Nat) (K : Int32 → Int32 → Mem → Option ((Int32 ⊕ String) × Mem)) : Nat → Int32 → Int32 → Mem → Option ((Int32 ⊕ String) × Mem)
  | 0, _, _, _ => none
  | n+1, i1, i2, M3 =>
    if (mI M3 (mR M3 a0 0) 1) ≤ i2 then
        K i1 i2 M3
      else
        bx (F_X8_nextVolume a0 i2 M3) (fun v8 M9 =>
        lt (i1 + v8) (fun (v11 : Int32) =>
        lt (i2 + 1) (fun (v12 : Int32) =>
        F_X8_nextTotal_L1 a0 K n v11 v12 M9)))
def F_X8_nextTotal (a0 : Nat) (M : Mem) : Option ((Int32 ⊕ String) × Mem) :=
  F_X8_nextTotal_L1 a0 (fun (x14 : Int32) (x15 : Int32) (M16 : Mem) =>
  some (.inl x14, M16)) 3000 0 0 M
def F_X8_greatestCommonDivisor_L1  (K : Int32 → Int32 → Int32 → Option Int32) : Nat → Int32 → Int32 → Int32 → Option Int32
  | 0, _, _, _ => none
  | n+1, i1, i2, i3 =>
    if 100 ≤ i3 then
        K i1 i2 i3
      else
        if i2 = 0 then
          K i1 i2 i3
        else
          chk (nz i2) (
          lt (i1 - i1 / i2 * i2) (fun (v8 : Int32) =>
          lt (i3 + 1) (fun (v9 : Int32) =>
          F_X8_greatestCommonDivisor_L1 K n i2 v8 v9)))
def F_X8_greatestCommonDivisor (p1_ : Int32) (p2_ : Int32) : Option Int32 :=
  F_X8_greatestCommonDivisor_L1 (fun (x11 : Int32) (x12 : Int32) (x13 : Int32) =>
  some x11) 3000 p1_ p2_ 0
def F_X8_leastCommonMultiple (p1_ : Int32) (p2_ : Int32) : Option Int32 :=
  Option.bind (F_X8_greatestCommonDivisor p1_ p2_) (fun v2 =>
  if v2 = 0 then
    some 0
  else
    chk (nz v2) (
    some ((p1_ / v2) * p2_)))
def F_X8_period_L1 (a0 : Nat) (K : Int32 → Int32 → Mem → Option ((Int32 ⊕ String) × Mem)) : Nat → Int32 → Int32 → Mem → Option ((Int32 ⊕ String) × Mem)
  | 0, _, _, _ => none
  | n+1, i1, i2, M3 =>
    if (mI M3 (mR M3 a0 0) 1) ≤ i2 then
        K i1 i2 M3
      else
        bx (F_X8_columns a0 i2 M3) (fun v8 M9 =>
        Option.bind (F_X8_leastCommonMultiple i1 v8) (fun v12 =>
        lt (i2 + 1) (fun (v13 : Int32) =>
        F_X8_period_L1 a0 K n v12 v13 M9)))
def F_X8_period (a0 : Nat) (M : Mem) : Option ((Int32 ⊕ String) × Mem) :=
  F_X8_period_L1 a0 (fun (x15 : Int32) (x16 : Int32) (M17 : Mem) =>
  some (.inl x15, M17)) 3000 1 0 M
def F_X8_isPeriod_L1 (a0 : Nat) (p1_ : Int32) (K : Int32 → Mem → Option ((Int32 ⊕ String) × Mem)) : Nat → Int32 → Mem → Option ((Int32 ⊕ String) × Mem)
  | 0, _, _ => none
  | n+1, i1, M2 =>
    if (mI M2 (mR M2 a0 0) 1) ≤ i1 then
        K i1 M2
      else
        bx (F_X8_columns a0 i1 M2) (fun v7 M8 =>
        if v7 = 0 then
          some (.inl 0, M8)
        else
          chk (nz v7) (
          if (p1_ - p1_ / v7 * v7) = 0 then
            lt (i1 + 1) (fun (v13 : Int32) =>
            F_X8_isPeriod_L1 a0 p1_ K n v13 M8)
          else
            some (.inl 0, M8)))
def F_X8_isPeriod (a0 : Nat) (p1_ : Int32) (M : Mem) : Option ((Int32 ⊕ String) × Mem) :=
  F_X8_isPeriod_L1 a0 p1_ (fun (x15 : Int32) (M16 : Mem) =>
  some (.inl 1, M16)) 3000 0 M
def F_X8_periodBySearch_L1 (a0 : Nat) (K : Int32 → Mem → Option ((Int32 ⊕ String) × Mem)) : Nat → Int32 → Mem → Option ((Int32 ⊕ String) × Mem)
  | 0, _, _ => none
  | n+1, i1, M2 =>
    if 60 ≤ i1 then
        K i1 M2
      else
        bx (F_X8_isPeriod a0 i1 M2) (fun v6 M7 =>
        if v6 = 0 then
          lt (i1 + 1) (fun (v10 : Int32) =>
          F_X8_periodBySearch_L1 a0 K n v10 M7)
        else
          some (.inl i1, M7))
def F_X8_periodBySearch (a0 : Nat) (M : Mem) : Option ((Int32 ⊕ String) × Mem) :=
  F_X8_periodBySearch_L1 a0 (fun (x12 : Int32) (M13 : Mem) =>
  some (.inl 60, M13)) 3000 1 M
def F_X8_beatsUntilBreak_L1 (a0 : Nat) (K : Int32 → Mem → Option ((Int32 ⊕ String) × Mem)) : Nat → Int32 → Mem → Option ((Int32 ⊕ String) × Mem)
  | 0, _, _ => none
  | n+1, i6, M7 =>
    if 60 < i6 then
        K i6 M7
      else
        b1 (F_X5_playBeat (mR M7 a0 1) M7) (fun v12 M13 =>
        if v12 ≤ (mI M13 (mR M13 a0 1) 3) then
          lt (i6 + 1) (fun (v16 : Int32) =>
          F_X8_beatsUntilBreak_L1 a0 K n v16 M13)
        else
          some (.inl i6, M13))
def F_X8_beatsUntilBreak (a0 : Nat) (M : Mem) : Option ((Int32 ⊕ String) × Mem) :=
  b1 (F_X5_copyFrom (mR M a0 1) (mR M a0 0) M) (fun u4 M5 =>
  F_X8_beatsUntilBreak_L1 a0 (fun (x18 : Int32) (M19 : Mem) =>
  some (.inr "java/util/NoSuchElementException", M19)) 3000 1 M5)
def F_X8_totalWithin (a0 : Nat) (p1_ : Int32) (M : Mem) : Option ((Int32 ⊕ String) × Mem) :=
  if p1_ < 0 then
    some (.inr "java/lang/IllegalArgumentException", M)
  else
    if p1_ ≤ 60 then
      b1 (F_X5_copyFrom (mR M a0 1) (mR M a0 0) M) (fun u6 M7 =>
      b1 (F_X5_play (mR M7 a0 1) p1_ M7) (fun v10 M11 =>
      some (.inl v10, M11)))
    else
      some (.inr "java/lang/IllegalArgumentException", M)
def F_X8_breakCount (a0 : Nat) (M : Mem) : Option Int32 :=
  some (mI M (mR M a0 0) 5)
def F_X8_playedVolume (a0 : Nat) (p1_ : Int32) (M : Mem) : Option ((Int32 ⊕ String) × Mem) :=
  bx (F_X8_presentSection a0 p1_ M) (fun q2 M3 =>
  chk (Nat.beq (tyT q2) 4) (
  some (.inl (mI M3 q2 7), M3)))
def F_X8_totalVolume (a0 : Nat) (M : Mem) : Option Int64 :=
  some (mJ M (mR M a0 0) 7)
def F_X5_soundsOf (a0 : Nat) (p1_ : Int32) (p2_ : Int32) (M : Mem) : Option Int32 :=
  Option.bind (F_X8_kindIndex p1_) (fun v2 =>
  lt ((v2 * 10) + p2_) (fun (v3 : Int32) =>
  if v3 < 0 then
    some 0
  else
    if 30 ≤ v3 then
      some 0
    else
      chk (inb v3 30) (
      some (mI M (mR M a0 8) v3.toNatClampNeg))))
def F_X8_soundsVolume_L1 (a0 : Nat) (p1_ : Int32) (M : Mem) (K : Int64 → Int32 → Option Int64) : Nat → Int64 → Int32 → Option Int64
  | 0, _, _ => none
  | n+1, w1, i2 =>
    if 9 < i2 then
        K w1 i2
      else
        Option.bind (F_X5_soundsOf (mR M a0 0) p1_ i2 M) (fun v7 =>
        Option.bind (F_X8_volumeOf p1_ i2) (fun v9 =>
        lt (w1 + ((v7.toInt64) * (v9.toInt64))) (fun (w10 : Int64) =>
        lt (i2 + 1) (fun (v11 : Int32) =>
        F_X8_soundsVolume_L1 a0 p1_ M K n w10 v11))))
def F_X8_soundsVolume (a0 : Nat) (p1_ : Int32) (M : Mem) : Option Int64 :=
  F_X8_soundsVolume_L1 a0 p1_ M (fun (w13 : Int64) (x14 : Int32) =>
  some w13) 3000 0 1
def F_X8_totalVolumeBySounds (a0 : Nat) (M : Mem) : Option Int64 :=
  Option.bind (F_X8_soundsVolume a0 115 M) (fun w2 =>
  Option.bind (F_X8_soundsVolume a0 119 M) (fun w4 =>
  Option.bind (F_X8_soundsVolume a0 100 M) (fun w6 =>
  some ((w2 + w4) + w6))))
def F_X8_soundCount (a0 : Nat) (p1_ : Int32) (p2_ : Int32) (M : Mem) : Option ((Int32 ⊕ String) × Mem) :=
  Option.bind (F_X8_kindIndex p1_) (fun v2 =>
  if v2 < 0 then
    some (.inr "java/lang/IllegalArgumentException", M)
  else
    if p2_ < 1 then
      some (.inr "java/lang/IllegalArgumentException", M)
    else
      if p2_ ≤ 9 then
        Option.bind (F_X5_soundsOf (mR M a0 0) p1_ p2_ M) (fun v8 =>
        some (.inl v8, M))
      else
        some (.inr "java/lang/IllegalArgumentException", M))
def F_X8_greatestTotal (a0 : Nat) (M : Mem) : Option ((Int32 ⊕ String) × Mem) :=
  if (mI M (mR M a0 0) 4) = 0 then
    some (.inr "java/util/NoSuchElementException", M)
  else
    some (.inl (mI M (mR M a0 0) 6), M)
def F_X5_totalOf (a0 : Nat) (p1_ : Int32) (M : Mem) : Option Int32 :=
  lt (p1_ - p1_ / 10 * 10) (fun (v1 : Int32) =>
  if v1 < 0 then
    some 0
  else
    if 10 ≤ v1 then
      some 0
    else
      chk (inb v1 10) (
      some (mI M (mR M a0 9) v1.toNatClampNeg)))
def F_X8_loggedTotal (a0 : Nat) (p1_ : Int32) (M : Mem) : Option ((Int32 ⊕ String) × Mem) :=
  if p1_ < 0 then
    some (.inr "java/util/NoSuchElementException", M)
  else
    if 10 ≤ p1_ then
      some (.inr "java/util/NoSuchElementException", M)
    else
      if p1_ < (mI M (mR M a0 0) 4) then
        Option.bind (F_X5_totalOf (mR M a0 0) (((mI M (mR M a0 0) 4) - 1) - p1_) M) (fun v8 =>
        some (.inl v8, M))
      else
        some (.inr "java/util/NoSuchElementException", M)
def F_X8_precedes (a0 : Nat) (p1_ : Int32) (p2_ : Int32) (M : Mem) : Option ((Int32 ⊕ String) × Mem) :=
  bx (F_X8_playedVolume a0 p1_ M) (fun v2 M3 =>
  bx (F_X8_playedVolume a0 p2_ M3) (fun v6 M7 =>
  if v2 = v6 then
    bx (F_X8_fatigue a0 p1_ M7) (fun v11 M12 =>
    bx (F_X8_fatigue a0 p2_ M12) (fun v15 M16 =>
    if v11 = v15 then
      if p2_ ≤ p1_ then
        some (.inl 0, M16)
      else
        some (.inl 1, M16)
    else
      bx (F_X8_fatigue a0 p1_ M16) (fun v21 M22 =>
      bx (F_X8_fatigue a0 p2_ M22) (fun v25 M26 =>
      if v25 ≤ v21 then
        some (.inl 0, M26)
      else
        some (.inl 1, M26)))))
  else
    bx (F_X8_playedVolume a0 p1_ M7) (fun v30 M31 =>
    bx (F_X8_playedVolume a0 p2_ M31) (fun v34 M35 =>
    if v30 ≤ v34 then
      some (.inl 0, M35)
    else
      some (.inl 1, M35)))))
def F_X8_sectionRank_L1 (a0 : Nat) (p1_ : Int32) (K : Int32 → Int32 → Mem → Option ((Int32 ⊕ String) × Mem)) : Nat → Int32 → Int32 → Mem → Option ((Int32 ⊕ String) × Mem)
  | 0, _, _, _ => none
  | n+1, i1, i2, M3 =>
    if (mI M3 (mR M3 a0 0) 1) ≤ i2 then
        K i1 i2 M3
      else
        bx (F_X8_precedes a0 i2 p1_ M3) (fun v8 M9 =>
        if v8 = 0 then
          lt (i2 + 1) (fun (v12 : Int32) =>
          F_X8_sectionRank_L1 a0 p1_ K n i1 v12 M9)
        else
          lt (i1 + 1) (fun (v13 : Int32) =>
          lt (i2 + 1) (fun (v14 : Int32) =>
          F_X8_sectionRank_L1 a0 p1_ K n v13 v14 M9)))
def F_X8_sectionRank (a0 : Nat) (p1_ : Int32) (M : Mem) : Option ((Int32 ⊕ String) × Mem) :=
  F_X8_sectionRank_L1 a0 p1_ (fun (x16 : Int32) (x17 : Int32) (M18 : Mem) =>
  some (.inl x16, M18)) 3000 0 0 M
def F_X8_sectionByVolume_L1 (a0 : Nat) (p1_ : Int32) (K : Int32 → Mem → Option ((Int32 ⊕ String) × Mem)) : Nat → Int32 → Mem → Option ((Int32 ⊕ String) × Mem)
  | 0, _, _ => none
  | n+1, i1, M2 =>
    if (mI M2 (mR M2 a0 0) 1) ≤ i1 then
        K i1 M2
      else
        bx (F_X8_sectionRank a0 i1 M2) (fun v7 M8 =>
        if v7 = p1_ then
          some (.inl i1, M8)
        else
          lt (i1 + 1) (fun (v11 : Int32) =>
          F_X8_sectionByVolume_L1 a0 p1_ K n v11 M8))
def F_X8_sectionByVolume (a0 : Nat) (p1_ : Int32) (M : Mem) : Option ((Int32 ⊕ String) × Mem) :=
  F_X8_sectionByVolume_L1 a0 p1_ (fun (x13 : Int32) (M14 : Mem) =>
  some (.inr "java/util/NoSuchElementException", M14)) 3000 0 M
def F_X5_soundsOfAllKinds (a0 : Nat) (p1_ : Int32) (M : Mem) : Option Int32 :=
  Option.bind (F_X5_soundsOf a0 115 p1_ M) (fun v2 =>
  Option.bind (F_X5_soundsOf a0 119 p1_ M) (fun v4 =>
  Option.bind (F_X5_soundsOf a0 100 p1_ M) (fun v6 =>
  some ((v2 + v4) + v6))))
def F_X8_noteRank_L1 (a0 : Nat) (p1_ : Int32) (M : Mem) (v3 : Int32) (K : Int32 → Int32 → Option Int32) : Nat → Int32 → Int32 → Option Int32
  | 0, _, _ => none
  | n+1, i4, i5 =>
    if 9 < i5 then
        K i4 i5
      else
        Option.bind (F_X5_soundsOfAllKinds (mR M a0 0) i5 M) (fun v10 =>
        if v3 < v10 then
          lt (i4 + 1) (fun (v12 : Int32) =>
          lt (i5 + 1) (fun (v13 : Int32) =>
          F_X8_noteRank_L1 a0 p1_ M v3 K n v12 v13))
        else
          if v10 = v3 then
            if i5 ≤ p1_ then
              lt (i5 + 1) (fun (v17 : Int32) =>
              F_X8_noteRank_L1 a0 p1_ M v3 K n i4 v17)
            else
              lt (i4 + 1) (fun (v18 : Int32) =>
              lt (i5 + 1) (fun (v19 : Int32) =>
              F_X8_noteRank_L1 a0 p1_ M v3 K n v18 v19))
          else
            lt (i5 + 1) (fun (v15 : Int32) =>
            F_X8_noteRank_L1 a0 p1_ M v3 K n i4 v15))
def F_X8_noteRank (a0 : Nat) (p1_ : Int32) (M : Mem) : Option Int32 :=
  Option.bind (F_X5_soundsOfAllKinds (mR M a0 0) p1_ M) (fun v3 =>
  F_X8_noteRank_L1 a0 p1_ M v3 (fun (x21 : Int32) (x22 : Int32) =>
  some x21) 3000 0 1)
def F_X8_noteBySounds_L1 (a0 : Nat) (p1_ : Int32) (M : Mem) (K : Int32 → Option ((Int32 ⊕ String) × Mem)) : Nat → Int32 → Option ((Int32 ⊕ String) × Mem)
  | 0, _ => none
  | n+1, i1 =>
    if 9 < i1 then
        K i1
      else
        Option.bind (F_X8_noteRank a0 i1 M) (fun v5 =>
        if v5 = p1_ then
          some (.inl i1, M)
        else
          lt (i1 + 1) (fun (v7 : Int32) =>
          F_X8_noteBySounds_L1 a0 p1_ M K n v7))
def F_X8_noteBySounds (a0 : Nat) (p1_ : Int32) (M : Mem) : Option ((Int32 ⊕ String) × Mem) :=
  F_X8_noteBySounds_L1 a0 p1_ M (fun (x9 : Int32) =>
  some (.inr "java/util/NoSuchElementException", M)) 3000 1
def F_X8_meanTotal (a0 : Nat) (M : Mem) : Option ((UInt64 ⊕ String) × Mem) :=
  if (mI M (mR M a0 0) 4) = 0 then
    some (.inr "java/lang/ArithmeticException", M)
  else
    chk (nn64 (FP.ddiv (FP.l2d (mJ M (mR M a0 0) 7)) (FP.i2d (mI M (mR M a0 0) 4)))) (
    some (.inl (FP.ddiv (FP.l2d (mJ M (mR M a0 0) 7)) (FP.i2d (mI M (mR M a0 0) 4))), M))
def F_X4_maskedColumns_L1 (a0 : Nat) (M : Mem) (K : Int32 → Int32 → Option Int32) : Nat → Int32 → Int32 → Option Int32
  | 0, _, _ => none
  | n+1, i1, i2 =>
    if (mI M a0 2) ≤ i2 then
        K i1 i2
      else
        Option.bind (F_X4_masks a0 i2 M) (fun v6 =>
        if v6 = 0 then
          lt (i2 + 1) (fun (v8 : Int32) =>
          F_X4_maskedColumns_L1 a0 M K n i1 v8)
        else
          lt (i1 + 1) (fun (v9 : Int32) =>
          lt (i2 + 1) (fun (v10 : Int32) =>
          F_X4_maskedColumns_L1 a0 M K n v9 v10)))
def F_X4_maskedColumns (a0 : Nat) (M : Mem) : Option Int32 :=
  F_X4_maskedColumns_L1 a0 M (fun (x12 : Int32) (x13 : Int32) =>
  some x12) 3000 0 0
def F_X8_maskedShare (a0 : Nat) (p1_ : Int32) (M : Mem) : Option ((UInt32 ⊕ String) × Mem) :=
  bx (F_X8_presentSection a0 p1_ M) (fun q2 M3 =>
  chk (Nat.beq (tyT q2) 4) (
  if (mI M3 q2 2) = 0 then
    some (.inl (FP.fconst0), M3)
  else
    Option.bind (F_X4_maskedColumns q2 M3) (fun v8 =>
    chk (nn32 (FP.fdiv (FP.i2f v8) (FP.i2f (mI M3 q2 2)))) (
    some (.inl (FP.fdiv (FP.i2f v8) (FP.i2f (mI M3 q2 2))), M3)))))
def F_X8_columnVolumesAgree_L2 (a0 : Nat) (i1 : Int32) (K : Int32 → Mem → Option ((Int32 ⊕ String) × Mem)) : Nat → Int32 → Mem → Option ((Int32 ⊕ String) × Mem)
  | 0, _, _ => none
  | n+1, i6, M7 =>
    bx (F_X8_columns a0 i1 M7) (fun v10 M11 =>
            if v10 ≤ i6 then
              K i6 M11
            else
              bx (F_X8_columnVolume a0 i1 i6 M11) (fun v15 M16 =>
              bx (F_X8_columnVolumeByTransposing a0 i1 i6 M16) (fun v19 M20 =>
              if v15 = v19 then
                lt (i6 + 1) (fun (v23 : Int32) =>
                F_X8_columnVolumesAgree_L2 a0 i1 K n v23 M20)
              else
                some (.inl 0, M20))))
def F_X8_columnVolumesAgree_L1 (a0 : Nat) (K : Int32 → Mem → Option ((Int32 ⊕ String) × Mem)) : Nat → Int32 → Mem → Option ((Int32 ⊕ String) × Mem)
  | 0, _, _ => none
  | n+1, i1, M2 =>
    if (mI M2 (mR M2 a0 0) 1) ≤ i1 then
        K i1 M2
      else
        F_X8_columnVolumesAgree_L2 a0 i1 (fun (x25 : Int32) (M26 : Mem) =>
        lt (i1 + 1) (fun (v27 : Int32) =>
        F_X8_columnVolumesAgree_L1 a0 K n v27 M26)) 3000 0 M2
def F_X8_columnVolumesAgree (a0 : Nat) (M : Mem) : Option ((Int32 ⊕ String) × Mem) :=
  F_X8_columnVolumesAgree_L1 a0 (fun (x29 : Int32) (M30 : Mem) =>
  some (.inl 1, M30)) 3000 0 M
def F_X8_isConsistent (a0 : Nat) (M : Mem) : Option ((Int32 ⊕ String) × Mem) :=
  Option.bind (F_X8_totalVolume a0 M) (fun w2 =>
  Option.bind (F_X8_totalVolumeBySounds a0 M) (fun w4 =>
  if (lg_cmp w2 w4) = 0 then
    bx (F_X8_period a0 M) (fun v7 M8 =>
    bx (F_X8_periodBySearch a0 M8) (fun v11 M12 =>
    if v7 = v11 then
      bx (F_X8_columnVolumesAgree a0 M12) (fun v16 M17 =>
      if v16 = 0 then
        some (.inl 0, M17)
      else
        some (.inl 1, M17))
    else
      some (.inl 0, M12)))
  else
    some (.inl 0, M)))
def F_X6_clear (a0 : Nat) (M : Mem) : Option (Unit × Mem) :=
  lt (sI M a0 1 0) (fun (M1 : Mem) =>
  some ((), M1))
def F_X6_append (a0 : Nat) (p1_ : Int32) (M : Mem) : Option (Unit × Mem) :=
  if (mI M a0 1) < 0 then
    some ((), M)
  else
    if 60 ≤ (mI M a0 1) then
      some ((), M)
    else
      chk (inb (mI M a0 1) 60) (
      lt (sI M (mR M a0 0) ((mI M a0 1).toNatClampNeg) (vp_nar .char p1_)) (fun (M6 : Mem) =>
      lt (sI M6 a0 1 ((mI M6 a0 1) + 1)) (fun (M7 : Mem) =>
      some ((), M7))))
def F_X8_digitSign (p1_ : Int32) : Option Int32 :=
  chk (nokC (((48 + p1_).toUInt32 % 65536).toInt32)) (some (((48 + p1_).toUInt32 % 65536).toInt32))
def F_X8_renderScore_L2 (a0 : Nat) (q2 : Nat) (i18 : Int32) (K : Int32 → Mem → Option ((Int32 ⊕ String) × Mem)) : Nat → Int32 → Mem → Option ((Int32 ⊕ String) × Mem)
  | 0, _, _ => none
  | n+1, i23, M24 =>
    if (mI M24 q2 2) ≤ i23 then
                K i23 M24
              else
                Option.bind (F_X4_noteAt q2 i18 i23 M24) (fun v29 =>
                Option.bind (F_X8_digitSign v29) (fun v31 =>
                b1 (F_X6_append (mR M24 a0 7) v31 M24) (fun u33 M34 =>
                lt (i23 + 1) (fun (v35 : Int32) =>
                F_X8_renderScore_L2 a0 q2 i18 K n v35 M34))))
def F_X8_renderScore_L3 (a0 : Nat) (q2 : Nat) (i18 : Int32) (K : Int32 → Mem → Option ((Int32 ⊕ String) × Mem)) : Nat → Int32 → Mem → Option ((Int32 ⊕ String) × Mem)
  | 0, _, _ => none
  | n+1, i44, M45 =>
    if (mI M45 q2 2) ≤ i44 then
                K i44 M45
              else
                Option.bind (F_X4_noteAt q2 i18 i44 M45) (fun v50 =>
                Option.bind (F_X8_digitSign v50) (fun v52 =>
                b1 (F_X6_append (mR M45 a0 7) v52 M45) (fun u54 M55 =>
                lt (i44 + 1) (fun (v56 : Int32) =>
                F_X8_renderScore_L3 a0 q2 i18 K n v56 M55))))
def F_X8_renderScore_L1 (a0 : Nat) (q2 : Nat) (K : Int32 → Mem → Option ((Int32 ⊕ String) × Mem)) : Nat → Int32 → Mem → Option ((Int32 ⊕ String) × Mem)
  | 0, _, _ => none
  | n+1, i18, M19 =>
    if (mI M19 q2 1) ≤ i18 then
        K i18 M19
      else
        if i18 ≤ 0 then
          F_X8_renderScore_L2 a0 q2 i18 (fun (x37 : Int32) (M38 : Mem) =>
          lt (i18 + 1) (fun (v39 : Int32) =>
          F_X8_renderScore_L1 a0 q2 K n v39 M38)) 3000 0 M19
        else
          b1 (F_X6_append (mR M19 a0 7) 47 M19) (fun u42 M43 =>
          F_X8_renderScore_L3 a0 q2 i18 (fun (x58 : Int32) (M59 : Mem) =>
          lt (i18 + 1) (fun (v60 : Int32) =>
          F_X8_renderScore_L1 a0 q2 K n v60 M59)) 3000 0 M43)
def F_X8_renderScore (a0 : Nat) (p1_ : Int32) (M : Mem) : Option ((Int32 ⊕ String) × Mem) :=
  bx (F_X8_presentSection a0 p1_ M) (fun q2 M3 =>
  chk (Nat.beq (tyT q2) 4) (
  b1 (F_X6_clear (mR M3 a0 7) M3) (fun u8 M9 =>
  b1 (F_X6_append (mR M9 a0 7) (mI M9 q2 0) M9) (fun u12 M13 =>
  b1 (F_X6_append (mR M13 a0 7) 58 M13) (fun u16 M17 =>
  F_X8_renderScore_L1 a0 q2 (fun (x62 : Int32) (M63 : Mem) =>
  some (.inl (mI M63 (mR M63 a0 7) 1), M63)) 3000 0 M17)))))
def F_X8_renderMask_L1 (a0 : Nat) (q2 : Nat) (K : Int32 → Mem → Option ((Int32 ⊕ String) × Mem)) : Nat → Int32 → Mem → Option ((Int32 ⊕ String) × Mem)
  | 0, _, _ => none
  | n+1, i10, M11 =>
    if (mI M11 q2 2) ≤ i10 then
        K i10 M11
      else
        Option.bind (F_X4_masks q2 i10 M11) (fun v16 =>
        if v16 = 0 then
          b1 (F_X6_append (mR M11 a0 7) 46 M11) (fun u19 M20 =>
          lt (i10 + 1) (fun (v21 : Int32) =>
          F_X8_renderMask_L1 a0 q2 K n v21 M20))
        else
          b1 (F_X6_append (mR M11 a0 7) 120 M11) (fun u23 M24 =>
          lt (i10 + 1) (fun (v25 : Int32) =>
          F_X8_renderMask_L1 a0 q2 K n v25 M24)))
def F_X8_renderMask (a0 : Nat) (p1_ : Int32) (M : Mem) : Option ((Int32 ⊕ String) × Mem) :=
  bx (F_X8_presentSection a0 p1_ M) (fun q2 M3 =>
  chk (Nat.beq (tyT q2) 4) (
  b1 (F_X6_clear (mR M3 a0 7) M3) (fun u8 M9 =>
  F_X8_renderMask_L1 a0 q2 (fun (x27 : Int32) (M28 : Mem) =>
  b1 (F_X6_append (mR M28 a0 7) 102 M28) (fun u31 M32 =>
  Option.bind (F_X8_digitSign (mI M32 q2 5)) (fun v35 =>
  b1 (F_X6_append (mR M32 a0 7) v35 M32) (fun u37 M38 =>
  if (mI M38 q2 6) ≤ 0 then
    some (.inl (mI M38 (mR M38 a0 7) 1), M38)
  else
    b1 (F_X6_append (mR M38 a0 7) 114 M38) (fun u43 M44 =>
    Option.bind (F_X8_digitSign (mI M44 q2 6)) (fun v47 =>
    b1 (F_X6_append (mR M44 a0 7) v47 M44) (fun u49 M50 =>
    some (.inl (mI M50 (mR M50 a0 7) 1), M50)))))))) 3000 0 M9)))
def F_X6_has (a0 : Nat) (p1_ : Int32) (M : Mem) : Option Int32 :=
  if p1_ < 0 then
    some 0
  else
    if (mI M a0 1) ≤ p1_ then
      some 0
    else
      if 60 ≤ p1_ then
        some 0
      else
        some 1
def F_X6_signAt (a0 : Nat) (p1_ : Int32) (M : Mem) : Option Int32 :=
  if p1_ < 0 then
    some 0
  else
    if (mI M a0 1) ≤ p1_ then
      some 0
    else
      if 60 ≤ p1_ then
        some 0
      else
        chk (inb p1_ 60) (
        chk (nokC (mI M (mR M a0 0) p1_.toNatClampNeg)) (some (mI M (mR M a0 0) p1_.toNatClampNeg)))
def F_X8_outputAt (a0 : Nat) (p1_ : Int32) (M : Mem) : Option ((Int32 ⊕ String) × Mem) :=
  Option.bind (F_X6_has (mR M a0 7) p1_ M) (fun v3 =>
  if v3 = 0 then
    some (.inr "java/lang/IndexOutOfBoundsException", M)
  else
    Option.bind (F_X6_signAt (mR M a0 7) p1_ M) (fun v7 =>
    chk (nokC v7) (some (.inl v7, M))))
def F_X6_isFull (a0 : Nat) (M : Mem) : Option Int32 :=
  if (mI M a0 1) < 60 then
    some 0
  else
    some 1
def F_X8_type (a0 : Nat) (p1_ : Int32) (M : Mem) : Option ((Int32 ⊕ String) × Mem) :=
  if p1_ < 32 then
    some (.inr "java/lang/IllegalArgumentException", M)
  else
    if p1_ ≤ 126 then
      Option.bind (F_X6_isFull (mR M (mR M a0 6) 0) M) (fun v6 =>
      if v6 = 0 then
        b1 (F_X6_append (mR M (mR M a0 6) 0) p1_ M) (fun u11 M12 =>
        some (.inl (mI M12 (mR M12 (mR M12 a0 6) 0) 1), M12))
      else
        some (.inr "java/lang/IllegalStateException", M))
    else
      some (.inr "java/lang/IllegalArgumentException", M)
def F_X3_commonLength_L1 (a0 : Nat) (q1_ : Nat) (M : Mem) (K : Int32 → Option Int32) : Nat → Int32 → Option Int32
  | 0, _ => none
  | n+1, i1 =>
    Option.bind (F_J0_length_8abf5 q1_) (fun v4 =>
      if v4 ≤ i1 then
        K i1
      else
        Option.bind (F_X6_signAt (mR M a0 0) ((mI M a0 3) + i1) M) (fun v8 =>
        Option.bind (F_J0_charAt_5068e q1_ i1) (fun v10 =>
        if v8 = v10 then
          lt (i1 + 1) (fun (v12 : Int32) =>
          F_X3_commonLength_L1 a0 q1_ M K n v12)
        else
          some i1)))
def F_X3_commonLength (a0 : Nat) (q1_ : Nat) (M : Mem) : Option Int32 :=
  F_X3_commonLength_L1 a0 q1_ M (fun (x14 : Int32) =>
  Option.bind (F_J0_length_8abf5 q1_) (fun v16 =>
  some v16)) 3000 0
def F_X3_readWord_L1 (a0 : Nat) (M : Mem) (K : Int32 → Int32 → Option (Int32 × Mem)) : Nat → Int32 → Int32 → Option (Int32 × Mem)
  | 0, _, _ => none
  | n+1, i1, i2 =>
    if 11 ≤ i2 then
        K i1 i2
      else
        chk (inb i2 11) (
        Option.bind (F_X3_commonLength a0 (2 * (i2.toNatClampNeg)) M) (fun v7 =>
        chk (inb i2 11) (
        Option.bind (F_J0_length_8abf5 (2 * (i2.toNatClampNeg))) (fun v10 =>
        if v7 = v10 then
          lt (sI M a0 3 ((mI M a0 3) + v7)) (fun (M14 : Mem) =>
          some (i2, M14))
        else
          lt (if i1 < v7 then v7 else i1) (fun (v12 : Int32) =>
          lt (i2 + 1) (fun (v13 : Int32) =>
          F_X3_readWord_L1 a0 M K n v12 v13))))))
def F_X3_readWord (a0 : Nat) (M : Mem) : Option (Int32 × Mem) :=
  F_X3_readWord_L1 a0 M (fun (x16 : Int32) (x17 : Int32) =>
  lt (sI M a0 3 ((mI M a0 3) + x16)) (fun (M18 : Mem) =>
  some ((-1), M18))) 3000 0 0
def F_X1_begin (a0 : Nat) (q1_ : Nat) (M : Mem) : Option (Unit × Mem) :=
  lt (sR M a0 0 (q1_ + 1)) (fun (M1 : Mem) =>
  lt (sI M1 a0 2 0) (fun (M2 : Mem) =>
  some ((), M2)))
def F_X1_put (a0 : Nat) (p1_ : Int32) (M : Mem) : Option (Unit × Mem) :=
  if (mI M a0 2) < 0 then
    some ((), M)
  else
    if 4 ≤ (mI M a0 2) then
      some ((), M)
    else
      chk (inb (mI M a0 2) 4) (
      lt (sI M (mR M a0 1) ((mI M a0 2).toNatClampNeg) p1_) (fun (M6 : Mem) =>
      lt (sI M6 a0 2 ((mI M6 a0 2) + 1)) (fun (M7 : Mem) =>
      some ((), M7))))
def F_X3_readKind (a0 : Nat) (q1_ : Nat) (M : Mem) : Option (Int32 × Mem) :=
  Option.bind (F_X6_signAt (mR M a0 0) (mI M a0 3) M) (fun v3 =>
  Option.bind (F_X8_kindIndex v3) (fun v5 =>
  if 0 ≤ v5 then
    b1 (F_X1_put q1_ v3 M) (fun u8 M9 =>
    lt (sI M9 a0 3 ((mI M9 a0 3) + 1)) (fun (M10 : Mem) =>
    some (1, M10)))
  else
    some (0, M)))
def F_X3_takeDigit (a0 : Nat) (M : Mem) : Option (Int32 × Mem) :=
  Option.bind (F_X6_signAt (mR M a0 0) (mI M a0 3) M) (fun v3 =>
  if v3 < 48 then
    some ((-1), M)
  else
    if v3 ≤ 57 then
      lt (sI M a0 3 ((mI M a0 3) + 1)) (fun (M6 : Mem) =>
      some (v3 - 48, M6))
    else
      some ((-1), M))
def F_X3_readDigit (a0 : Nat) (q1_ : Nat) (M : Mem) : Option (Int32 × Mem) :=
  b1 (F_X3_takeDigit a0 M) (fun v2 M3 =>
  if v2 = (-1) then
    some (0, M3)
  else
    b1 (F_X1_put q1_ v2 M3) (fun u6 M7 =>
    some (1, M7)))
def F_X3_readNumber (a0 : Nat) (q1_ : Nat) (M : Mem) : Option (Int32 × Mem) :=
  b1 (F_X3_takeDigit a0 M) (fun v2 M3 =>
  if v2 = (-1) then
    some (0, M3)
  else
    b1 (F_X3_takeDigit a0 M3) (fun v6 M7 =>
    if v6 = (-1) then
      b1 (F_X1_put q1_ v2 M7) (fun u13 M14 =>
      some (1, M14))
    else
      b1 (F_X1_put q1_ ((10 * v2) + v6) M7) (fun u10 M11 =>
      some (1, M11))))
def F_X3_readSign (a0 : Nat) (q1_ : Nat) (M : Mem) : Option (Int32 × Mem) :=
  Option.bind (F_X6_signAt (mR M a0 0) (mI M a0 3) M) (fun v3 =>
  if v3 = 43 then
    if v3 = 43 then
      b1 (F_X1_put q1_ 1 M) (fun u11 M12 =>
      lt (sI M12 a0 3 ((mI M12 a0 3) + 1)) (fun (M13 : Mem) =>
      some (1, M13)))
    else
      b1 (F_X1_put q1_ (-1) M) (fun u7 M8 =>
      lt (sI M8 a0 3 ((mI M8 a0 3) + 1)) (fun (M9 : Mem) =>
      some (1, M9)))
  else
    if v3 = 45 then
      if v3 = 43 then
        b1 (F_X1_put q1_ 1 M) (fun u21 M22 =>
        lt (sI M22 a0 3 ((mI M22 a0 3) + 1)) (fun (M23 : Mem) =>
        some (1, M23)))
      else
        b1 (F_X1_put q1_ (-1) M) (fun u17 M18 =>
        lt (sI M18 a0 3 ((mI M18 a0 3) + 1)) (fun (M19 : Mem) =>
        some (1, M19)))
    else
      some (0, M))
def F_X3_take (a0 : Nat) (p1_ : Int32) (M : Mem) : Option (Int32 × Mem) :=
  Option.bind (F_X6_signAt (mR M a0 0) (mI M a0 3) M) (fun v3 =>
  if v3 = p1_ then
    lt (sI M a0 3 ((mI M a0 3) + 1)) (fun (M5 : Mem) =>
    some (1, M5))
  else
    some (0, M))
def F_X3_readPart (a0 : Nat) (q1_ : Nat) (p2_ : Int32) (M : Mem) : Option (Int32 × Mem) :=
  if p2_ = 43 then
    b1 (F_X3_readSign a0 q1_ M) (fun v3 M4 =>
    chk (nokZ v3) (some (v3, M4)))
  else
  if p2_ = 98 then
    b1 (F_X3_take a0 32 M) (fun v8 M9 =>
    if v8 = 0 then
      b1 (F_X1_put q1_ 1 M9) (fun u12 M13 =>
      some (1, M13))
    else
      b1 (F_X3_readNumber a0 q1_ M9) (fun v15 M16 =>
      chk (nokZ v15) (some (v15, M16))))
  else
  if p2_ = 100 then
    b1 (F_X3_readDigit a0 q1_ M) (fun v20 M21 =>
    chk (nokZ v20) (some (v20, M21)))
  else
  if p2_ = 107 then
    b1 (F_X3_readKind a0 q1_ M) (fun v25 M26 =>
    chk (nokZ v25) (some (v25, M26)))
  else
  if p2_ = 110 then
    b1 (F_X3_readNumber a0 q1_ M) (fun v30 M31 =>
    chk (nokZ v30) (some (v30, M31)))
  else
  b1 (F_X3_take a0 p2_ M) (fun v34 M35 =>
  chk (nokZ v34) (some (v34, M35)))
def F_X3_readCommand_L1 (a0 : Nat) (v2 : Int32) (K : Int32 → Mem → Option (Int32 × Mem)) : Nat → Int32 → Mem → Option (Int32 × Mem)
  | 0, _, _ => none
  | n+1, i17, M18 =>
    Option.bind (F_J0_length_8abf5 (2 * (v2.toNatClampNeg) + 1)) (fun v21 =>
              if v21 ≤ i17 then
                K i17 M18
              else
                chk (inb (mI M18 a0 2) 12) (
                Option.bind (F_J0_charAt_5068e (2 * (v2.toNatClampNeg) + 1) i17) (fun v27 =>
                b1 (F_X3_readPart a0 (mR M18 (mR M18 a0 1) (mI M18 a0 2).toNatClampNeg) v27 M18) (fun v29 M30 =>
                if v29 = 0 then
                  some (0, M30)
                else
                  lt (i17 + 1) (fun (v32 : Int32) =>
                  F_X3_readCommand_L1 a0 v2 K n v32 M30)))))
def F_X3_readCommand (a0 : Nat) (M : Mem) : Option (Int32 × Mem) :=
  b1 (F_X3_readWord a0 M) (fun v2 M3 =>
  if v2 < 0 then
    some (0, M3)
  else
    if 11 ≤ v2 then
      some (0, M3)
    else
      if (mI M3 a0 2) < 0 then
        some (0, M3)
      else
        if (mI M3 a0 2) < 12 then
          chk (inb v2 11) (
          chk (inb (mI M3 a0 2) 12) (
          chk (inb v2 11) (
          b1 (F_X1_begin (mR M3 (mR M3 a0 1) (mI M3 a0 2).toNatClampNeg) (v2.toNatClampNeg) M3) (fun u15 M16 =>
          F_X3_readCommand_L1 a0 v2 (fun (x34 : Int32) (M35 : Mem) =>
          lt (sI M35 a0 2 ((mI M35 a0 2) + 1)) (fun (M36 : Mem) =>
          some (1, M36))) 3000 0 M16))))
        else
          some (0, M3))
def F_X3_read_L1 (a0 : Nat) (K : Int32 → Mem → Option (Int32 × Mem)) : Nat → Int32 → Mem → Option (Int32 × Mem)
  | 0, _, _ => none
  | n+1, i3, M4 =>
    if 60 < i3 then
        K i3 M4
      else
        b1 (F_X3_readCommand a0 M4) (fun v8 M9 =>
        if v8 = 0 then
          some (0, M9)
        else
          if (mI M9 a0 3) = (mI M9 (mR M9 a0 0) 1) then
            some (1, M9)
          else
            b1 (F_X3_take a0 59 M9) (fun v14 M15 =>
            if v14 = 0 then
              some (0, M15)
            else
              lt (i3 + 1) (fun (v17 : Int32) =>
              F_X3_read_L1 a0 K n v17 M15)))
def F_X3_read (a0 : Nat) (M : Mem) : Option (Int32 × Mem) :=
  lt (sI M a0 3 0) (fun (M1 : Mem) =>
  lt (sI M1 a0 2 0) (fun (M2 : Mem) =>
  F_X3_read_L1 a0 (fun (x19 : Int32) (M20 : Mem) =>
  some (0, M20)) 3000 0 M2))
def F_X1_valueAt (a0 : Nat) (p1_ : Int32) (M : Mem) : Option Int32 :=
  if p1_ < 0 then
    some 0
  else
    if (mI M a0 2) ≤ p1_ then
      some 0
    else
      if 4 ≤ p1_ then
        some 0
      else
        chk (inb p1_ 4) (
        some (mI M (mR M a0 1) p1_.toNatClampNeg))
def F_X8_perform (a0 : Nat) (q1_ : Nat) (M : Mem) : Option (Int32 × Mem) :=
  Option.bind (F_X1_valueAt q1_ 0 M) (fun v2 =>
  Option.bind (F_X1_valueAt q1_ 1 M) (fun v4 =>
  Option.bind (F_X1_valueAt q1_ 2 M) (fun v6 =>
  Option.bind (F_Jx29ce0_ordinal_8abf5 (mR M q1_ 0 - 1)) (fun v9 =>
  chk (inb v9 11) (
  if (swv (v9.toNatClampNeg)) = 1 then
    b1 (F_X5_add (mR M a0 0) ((v2.toUInt32 % 65536).toInt32) v4 v6 M) (fun v14 M15 =>
    some (v14, M15))
  else
  if (swv (v9.toNatClampNeg)) = 2 then
    b1 (F_X5_drop (mR M a0 0) v2 M) (fun v19 M20 =>
    some (v19, M20))
  else
  if (swv (v9.toNatClampNeg)) = 3 then
    Option.bind (F_X1_valueAt q1_ 3 M) (fun v24 =>
    b1 (F_X5_write (mR M a0 0) v2 v4 v6 v24 M) (fun v26 M27 =>
    some (v26, M27)))
  else
  if (swv (v9.toNatClampNeg)) = 4 then
    if v6 ≤ 0 then
      b1 (F_X5_mask (mR M a0 0) v2 v4 0 M) (fun v32 M33 =>
      some (v32, M33))
    else
      b1 (F_X5_mask (mR M a0 0) v2 v4 1 M) (fun v35 M36 =>
      some (v35, M36))
  else
  if (swv (v9.toNatClampNeg)) = 5 then
    b1 (F_X5_flip (mR M a0 0) v2 M) (fun v40 M41 =>
    some (v40, M41))
  else
  if (swv (v9.toNatClampNeg)) = 6 then
    b1 (F_X5_turn (mR M a0 0) v2 M) (fun v45 M46 =>
    some (v45, M46))
  else
  if (swv (v9.toNatClampNeg)) = 7 then
    b1 (F_X5_lift (mR M a0 0) v2 (v4 * v6) M) (fun v50 M51 =>
    some (v50, M51))
  else
  if (swv (v9.toNatClampNeg)) = 8 then
    b1 (F_X5_changeTempo (mR M a0 0) v2 M) (fun v55 M56 =>
    some (v55, M56))
  else
  if (swv (v9.toNatClampNeg)) = 9 then
    b1 (F_X5_changeLimit (mR M a0 0) v2 M) (fun v60 M61 =>
    some (v60, M61))
  else
  if (swv (v9.toNatClampNeg)) = 10 then
    b1 (F_X5_play (mR M a0 0) (mI M (mR M a0 0) 2) M) (fun v66 M67 =>
    some (v66, M67))
  else
  Option.bind (F_X8_isBeats v2) (fun v69 =>
  if v69 = 0 then
    some ((-2), M)
  else
    b1 (F_X5_play (mR M a0 0) v2 M) (fun v73 M74 =>
    some (v73, M74))))))))
def F_X2_putBack (a0 : Nat) (q1_ : Nat) (M : Mem) : Option (Unit × Mem) :=
  if (mI M a0 1) < 0 then
    some ((), M)
  else
    if 9 ≤ (mI M a0 1) then
      some ((), M)
    else
      chk (inb (mI M a0 1) 9) (
      b1 (F_X5_copyFrom q1_ (mR M (mR M a0 0) (mI M a0 1).toNatClampNeg) M) (fun u8 M9 =>
      some ((), M9)))
def F_X8_runScript_L1 (a0 : Nat) (K : Int32 → Mem → Option ((Int32 ⊕ String) × Mem)) : Nat → Int32 → Mem → Option ((Int32 ⊕ String) × Mem)
  | 0, _, _ => none
  | n+1, i16, M17 =>
    if (mI M17 (mR M17 a0 6) 2) ≤ i16 then
          K i16 M17
        else
          if 12 ≤ i16 then
            K i16 M17
          else
            chk (inb i16 12) (
            b1 (F_X8_perform a0 (mR M17 (mR M17 (mR M17 a0 6) 1) i16.toNatClampNeg) M17) (fun v29 M30 =>
            if 0 ≤ v29 then
              lt (i16 + 1) (fun (v32 : Int32) =>
              F_X8_runScript_L1 a0 K n v32 M30)
            else
              b1 (F_X2_putBack (mR M30 a0 4) (mR M30 a0 0) M30) (fun u36 M37 =>
              lt (sI M37 a0 9 i16) (fun (M38 : Mem) =>
              some (.inr "java/lang/IllegalStateException", M38)))))
def F_X8_runScript (a0 : Nat) (M : Mem) : Option ((Int32 ⊕ String) × Mem) :=
  b1 (F_X3_read (mR M a0 6) M) (fun v3 M4 =>
  b1 (F_X6_clear (mR M4 (mR M4 a0 6) 0) M4) (fun u8 M9 =>
  if v3 = 0 then
    lt (sI M9 a0 8 (mI M9 (mR M9 a0 6) 3)) (fun (M48 : Mem) =>
    some (.inr "java/lang/IllegalArgumentException", M48))
  else
    b1 (F_X2_prepare (mR M9 a0 4) (mR M9 a0 0) M9) (fun u14 M15 =>
    F_X8_runScript_L1 a0 (fun (x40 : Int32) (M41 : Mem) =>
    b1 (F_X2_keep (mR M41 a0 4) M41) (fun u44 M45 =>
    some (.inl (mI M45 (mR M45 a0 6) 2), M45))) 3000 0 M15)))
def F_X8_errorPosition (a0 : Nat) (M : Mem) : Option ((Int32 ⊕ String) × Mem) :=
  if (mI M a0 8) = (-1) then
    some (.inr "java/util/NoSuchElementException", M)
  else
    some (.inl (mI M a0 8), M)
def F_X8_failedCommand (a0 : Nat) (M : Mem) : Option ((Int32 ⊕ String) × Mem) :=
  if (mI M a0 9) = (-1) then
    some (.inr "java/util/NoSuchElementException", M)
  else
    some (.inl (mI M a0 9), M)
def F_X2_stepBack (a0 : Nat) (q1_ : Nat) (M : Mem) : Option (Unit × Mem) :=
  if (mI M a0 1) ≤ 0 then
    lt (sI M a0 1 ((9 : Int32) - 1)) (fun (M3 : Mem) =>
    lt (sI M3 a0 2 ((mI M3 a0 2) - 1)) (fun (M4 : Mem) =>
    b1 (F_X2_putBack a0 q1_ M4) (fun u6 M7 =>
    some ((), M7))))
  else
    lt (sI M a0 1 ((mI M a0 1) - 1)) (fun (M8 : Mem) =>
    lt (sI M8 a0 2 ((mI M8 a0 2) - 1)) (fun (M9 : Mem) =>
    b1 (F_X2_putBack a0 q1_ M9) (fun u11 M12 =>
    some ((), M12))))
def F_X8_undo (a0 : Nat) (M : Mem) : Option ((Int32 ⊕ String) × Mem) :=
  if (mI M (mR M a0 4) 2) = 0 then
    some (.inr "java/lang/IllegalStateException", M)
  else
    b1 (F_X2_stepBack (mR M a0 4) (mR M a0 0) M) (fun u6 M7 =>
    some (.inl (mI M7 (mR M7 a0 4) 2), M7))
def F_X8_save (a0 : Nat) (M : Mem) : Option (Int32 × Mem) :=
  b1 (F_X5_copyFrom (mR M a0 2) (mR M a0 0) M) (fun u4 M5 =>
  lt (sI M5 a0 3 1) (fun (M6 : Mem) =>
  some (mI M6 (mR M6 a0 0) 1, M6)))
def F_X2_forget (a0 : Nat) (M : Mem) : Option (Unit × Mem) :=
  lt (sI M a0 2 0) (fun (M1 : Mem) =>
  some ((), M1))
def F_X8_restore (a0 : Nat) (M : Mem) : Option ((Int32 ⊕ String) × Mem) :=
  if (mI M a0 3) = 0 then
    some (.inr "java/lang/IllegalStateException", M)
  else
    b1 (F_X5_copyFrom (mR M a0 0) (mR M a0 2) M) (fun u5 M6 =>
    b1 (F_X2_forget (mR M6 a0 4) M6) (fun u9 M10 =>
    some (.inl (mI M10 (mR M10 a0 0) 1), M10)))
