/-! MY BASE: a pure memory, what heap pictures it, what the tables say; rows over it -/
/-- the words that every method's list holds -/
def BIG : List Cond := lw_tbl.filter goodWord
theorem big_mem {w : Cond} {i : Nat} (h : lw_tbl[i]? = some w) (hg : goodWord w = true) : w ∈ BIG := List.mem_filter.mpr ⟨List.mem_of_getElem? h, hg⟩
theorem big_lw {w : Cond} (h : w ∈ BIG) : w ∈ lw_tbl := (List.mem_filter.mp h).1
theorem big_good {w : Cond} (h : w ∈ BIG) : goodWord w = true := (List.mem_filter.mp h).2
theorem big_goodIn {big ws : List Cond} (hm : ∀ w ∈ ws, w ∈ BIG) (hb : ∀ w ∈ BIG, w ∈ big) : GoodIn big ws := fun w hw => ⟨hb w (hm w hw), good_of_word (big_good (hm w hw))⟩
/-- ints, longs, references (ids, 0 is null), doubles: by object and slot -/
abbrev Mem : Type := (Nat → Nat → Int32) × (Nat → Nat → Int64) × (Nat → Nat → Nat) × (Nat → Nat → UInt64)
def mI (M : Mem) (a k : Nat) : Int32 := M.1 a k
def mJ (M : Mem) (a k : Nat) : Int64 := M.2.1 a k
def mR (M : Mem) (a k : Nat) : Nat := M.2.2.1 a k
def mD (M : Mem) (a k : Nat) : UInt64 := M.2.2.2 a k
def up2 {α : Type} (f : Nat → Nat → α) (a k : Nat) (x : α) : Nat → Nat → α := fun b j => if b = a ∧ j = k then x else f b j
def sI (M : Mem) (a k : Nat) (x : Int32) : Mem := (up2 M.1 a k x, M.2)
def sJ (M : Mem) (a k : Nat) (x : Int64) : Mem := (M.1, up2 M.2.1 a k x, M.2.2)
def sR (M : Mem) (a k : Nat) (x : Nat) : Mem := (M.1, M.2.1, up2 M.2.2.1 a k x, M.2.2.2)
def sD (M : Mem) (a k : Nat) (x : UInt64) : Mem := (M.1, M.2.1, M.2.2.1, up2 M.2.2.2 a k x)
theorem mI_sI (M : Mem) (a k : Nat) (x : Int32) (b j : Nat) : mI (sI M a k x) b j = if b = a ∧ j = k then x else mI M b j := rfl
theorem mJ_sI (M : Mem) (a k : Nat) (x : Int32) (b j : Nat) : mJ (sI M a k x) b j = mJ M b j := rfl
theorem mR_sI (M : Mem) (a k : Nat) (x : Int32) (b j : Nat) : mR (sI M a k x) b j = mR M b j := rfl
theorem mD_sI (M : Mem) (a k : Nat) (x : Int32) (b j : Nat) : mD (sI M a k x) b j = mD M b j := rfl
theorem mI_sJ (M : Mem) (a k : Nat) (x : Int64) (b j : Nat) : mI (sJ M a k x) b j = mI M b j := rfl
theorem mJ_sJ (M : Mem) (a k : Nat) (x : Int64) (b j : Nat) : mJ (sJ M a k x) b j = if b = a ∧ j = k then x else mJ M b j := rfl
theorem mR_sJ (M : Mem) (a k : Nat) (x : Int64) (b j : Nat) : mR (sJ M a k x) b j = mR M b j := rfl
theorem mD_sJ (M : Mem) (a k : Nat) (x : Int64) (b j : Nat) : mD (sJ M a k x) b j = mD M b j := rfl
theorem mI_sR (M : Mem) (a k : Nat) (x : Nat) (b j : Nat) : mI (sR M a k x) b j = mI M b j := rfl
theorem mJ_sR (M : Mem) (a k : Nat) (x : Nat) (b j : Nat) : mJ (sR M a k x) b j = mJ M b j := rfl
theorem mR_sR (M : Mem) (a k : Nat) (x : Nat) (b j : Nat) : mR (sR M a k x) b j = if b = a ∧ j = k then x else mR M b j := rfl
theorem mD_sR (M : Mem) (a k : Nat) (x : Nat) (b j : Nat) : mD (sR M a k x) b j = mD M b j := rfl
theorem mI_sD (M : Mem) (a k : Nat) (x : UInt64) (b j : Nat) : mI (sD M a k x) b j = mI M b j := rfl
theorem mJ_sD (M : Mem) (a k : Nat) (x : UInt64) (b j : Nat) : mJ (sD M a k x) b j = mJ M b j := rfl
theorem mR_sD (M : Mem) (a k : Nat) (x : UInt64) (b j : Nat) : mR (sD M a k x) b j = mR M b j := rfl
theorem mD_sD (M : Mem) (a k : Nat) (x : UInt64) (b j : Nat) : mD (sD M a k x) b j = if b = a ∧ j = k then x else mD M b j := rfl
/-- an array copied: n places of row a from sp, into row b from dp -/
def cpI (M : Mem) (a sp b dp n : Nat) : Mem := (fun c j => if c = b then va_cpy (M.1 a) (M.1 b) sp dp n j else M.1 c j, M.2)
theorem mI_cpI (M : Mem) (a sp b dp n c j : Nat) : mI (cpI M a sp b dp n) c j = if c = b then (if dp ≤ j ∧ j < dp + n then mI M a (sp + (j - dp)) else mI M b j) else mI M c j := rfl
theorem mJ_cpI (M : Mem) (a sp b dp n c j : Nat) : mJ (cpI M a sp b dp n) c j = mJ M c j := rfl
theorem mR_cpI (M : Mem) (a sp b dp n c j : Nat) : mR (cpI M a sp b dp n) c j = mR M c j := rfl
theorem mD_cpI (M : Mem) (a sp b dp n c j : Nat) : mD (cpI M a sp b dp n) c j = mD M c j := rfl
/-- a check: what fails it has no answer -/
def chk {α : Type} (b : Bool) (f : Option α) : Option α := match b with
  | true => f
  | false => none
def inb (i : Int32) (n : Nat) : Bool := decide (¬ (i < 0 ∨ n ≤ i.toNatClampNeg))
theorem inb_in {i : Int32} {n : Nat} (h : inb i n = true) : vp_in i n := by unfold inb at h; unfold vp_in; exact of_decide_eq_true h
/-- a callee that may throw, in a caller that doesn't catch -/
def bx {τ σ : Type} (x : Option ((τ ⊕ String) × Mem)) (k : τ → Mem → Option ((σ ⊕ String) × Mem)) : Option ((σ ⊕ String) × Mem) := match x with
  | none => none
  | some (.inl v, M) => k v M
  | some (.inr E, M) => some (.inr E, M)
/-- the kinds of object: classes by their numbers in the names, arrays from 20 on -/
def tyB (k : Nat) : Nat := match k with
  | 0 => 5
  | 1 => 29
  | 2 => 21
  | 3 => 22
  | k => if k % 2 = 0 then 4 else 20
def tyT (a : Nat) : Nat :=
  if a = 0 then 0 else if a = 1 then 8 else if a < 44 then tyB ((a - 2) % 14) else if a = 44 then 2 else if a = 45 then 30 else if a < 172 then tyB ((a - 46) % 14)
  else if a = 172 then 4 else if a = 173 then 20 else if a = 174 then 3 else if a = 175 then 6 else if a = 176 then 26 else if a = 177 then 31 else if a < 202 then (if a % 2 = 0 then 1 else 23)
  else if a = 202 then 6 else if a = 203 then 26 else if a = 204 then 9 else if a = 205 then 24 else if a = 206 then 25 else if a < 210 then 24 else if a < 212 then 26 else if a = 212 then 23 else if a = 213 then 27 else if a = 214 then 28 else 0
abbrev NN : Nat := 214
def clR (t : Nat) : String := match t with
  | 1 => RX1
  | 2 => RX2
  | 3 => RX3
  | 4 => RX4
  | 5 => RX5
  | 6 => RX6
  | 8 => RX8
  | _ => RX9
def clT (t : Nat) : u_T := match t with
  | 1 => TX1
  | 2 => TX2
  | 3 => TX3
  | 4 => TX4
  | 5 => TX5
  | 6 => TX6
  | 8 => TX8
  | _ => TX9
def clY (t : Nat) : Nat → FieldType := match t with
  | 1 => tyX1
  | 2 => tyX2
  | 3 => tyX3
  | 4 => tyX4
  | 5 => tyX5
  | 6 => tyX6
  | 8 => tyX8
  | _ => tyX9
def clN (t : Nat) : Nat := match t with
  | 1 => 3
  | 2 => 3
  | 3 => 4
  | 4 => 8
  | 5 => 10
  | 6 => 2
  | 8 => 10
  | _ => 19
/-- what a slot holds: 0 a number of 32 bits, 1 a long, 2 a reference to an object of the run, 3 a verb, 4 a double -/
def kd (t k : Nat) : Nat := match t with
  | 1 => if k = 0 then 3 else if k = 1 then 2 else 0
  | 2 => if k = 0 then 2 else 0
  | 3 => if k < 2 then 2 else 0
  | 4 => if k = 3 then 2 else 0
  | 5 => if k = 0 then 2 else if k = 7 then 1 else if k < 8 then 0 else 2
  | 6 => if k = 0 then 2 else 0
  | 8 => if k < 3 then 2 else if k = 3 then 0 else if k < 8 then 2 else 0
  | 9 => if k = 0 then 0 else if k < 6 then 2 else if k = 9 then 2 else if k = 11 then 2 else if k = 16 then 2 else 0
  | 27 => 1
  | 28 => 4
  | 29 => 2
  | 30 => 2
  | 31 => 2
  | _ => 0
/-- which kind of object a reference leads to -/
def rt (t k : Nat) : Nat := match t with
  | 1 => 23
  | 2 => 30
  | 3 => if k = 0 then 6 else 31
  | 4 => 20
  | 5 => if k = 0 then 29 else if k = 8 then 21 else 22
  | 6 => 26
  | 8 => if k < 3 then 5 else if k = 4 then 2 else if k = 5 then 4 else if k = 6 then 3 else 6
  | 9 => if k = 2 then 25 else if k < 6 then 24 else if k = 16 then 23 else 26
  | 29 => 4
  | 30 => 5
  | _ => 1
def alen (t : Nat) : Nat := match t with
  | 20 => 36
  | 21 => 30
  | 22 => 10
  | 23 => 4
  | 24 => 260
  | 25 => 2080
  | 26 => 60
  | 27 => 1
  | 28 => 1
  | 29 => 5
  | 30 => 9
  | _ => 12
def eT (t : Nat) : FieldType := match t with
  | 26 => .char
  | 27 => .long
  | 28 => .double
  | 29 => .object RX4
  | 30 => .object RX5
  | 31 => .object RX1
  | _ => .int
def slotsOf (t : Nat) : Nat := if t < 20 then clN t else alen t
def isC (t : Nat) : Bool := t == 1 || t == 2 || t == 3 || t == 4 || t == 5 || t == 6 || t == 8 || t == 9
def isA (t : Nat) : Bool := Nat.ble 20 t && Nat.ble t 31
/-- the run's fixed things: the heap at the law's start, class numbers, slots, array classes, the verbs' addresses -/
abbrev GP : Type := Heap × (Nat → ClassId) × (Nat → Nat → Nat) × (Nat → ClassId) × (Nat → Nat)
abbrev gH (g : GP) : Heap := g.1
abbrev gN (g : GP) : Nat := g.1.size
abbrev gC (g : GP) : Nat → ClassId := g.2.1
abbrev gI (g : GP) : Nat → Nat → Nat := g.2.2.1
abbrev gA (g : GP) : Nat → ClassId := g.2.2.2.1
abbrev gV (g : GP) : Nat → Nat := g.2.2.2.2
def adr (g : GP) (a : Nat) : Nat := gN g + (a - 1)
def vR (g : GP) (r : Nat) : Value := if r = 0 then .null else .ref (adr g r)
def vQ (g : GP) (r : Nat) : Value := if r = 0 then .null else .ref (gV g (r - 1))
def vV (g : GP) (M : Mem) (d a k : Nat) : Value := match d with
  | 0 => .int (mI M a k)
  | 1 => .long (mJ M a k)
  | 2 => vR g (mR M a k)
  | 3 => vQ g (mR M a k)
  | _ => .double (mD M a k)
def CellAt (g : GP) (M : Mem) (H : Heap) (a : Nat) : Prop :=
  if tyT a < 20 then t_OB (adr g a) (gC g (tyT a)) (clN (tyT a)) (gI g (tyT a)) H (fun k => vV g M (kd (tyT a) k) a k)
  else H[adr g a]? = some (arrV (gA g (tyT a)) (alen (tyT a)) (fun k => vV g M (kd (tyT a) k) a k))
/-- the heap pictures the first n objects -/
def HR0 (g : GP) (n : Nat) (M : Mem) (H : Heap) : Prop := (∀ q, q < gN g → H[q]? = (gH g)[q]?) ∧ (∀ a, 1 ≤ a → a ≤ n → CellAt g M H a) ∧ gN g + n ≤ H.size
/-- each reference leads to an object of its kind -/
def WT (M : Mem) : Prop := ∀ a k, 1 ≤ a → a ≤ NN → k < slotsOf (tyT a) → (kd (tyT a) k = 2 → 1 ≤ mR M a k ∧ mR M a k ≤ NN ∧ tyT (mR M a k) = rt (tyT a) k) ∧ (kd (tyT a) k = 3 → 1 ≤ mR M a k ∧ mR M a k ≤ 11)
def HR (g : GP) (M : Mem) (H : Heap) : Prop := HR0 g NN M H ∧ WT M
/-- the words of tables that no warming of links changes, though they aren't 'good' -/
def FACE : List Cond := lw_tbl.filter (fun w => w.faceAtom && w.onTables)
theorem face_mem {w : Cond} {i : Nat} (h : lw_tbl[i]? = some w) (hg : (w.faceAtom && w.onTables) = true) : w ∈ FACE := List.mem_filter.mpr ⟨List.mem_of_getElem? h, hg⟩
theorem face_alike {w : Cond} {u U : State} (hw : w ∈ FACE) (hvm : u.vm.Alike U.vm) (h : w.before #[] u = true) : w.before #[] U = true := by
  have hg := (List.mem_filter.mp hw).2
  simp only [Bool.and_eq_true] at hg
  exact va_tabs hg.2 (u := u.setVm U.vm) rfl (Cond.faceAtom_setVm hvm w hg.1 h)
theorem face_any {w : Cond} {args : Array Value} {U : State} (hw : w ∈ FACE) (h : w.before #[] U = true) : w.before args U = true := by
  have hg := (List.mem_filter.mp hw).2
  simp only [Bool.and_eq_true] at hg
  exact va_tabs hg.2 (u := U) rfl h
/-- the String constants that messages are -/
def STR : List (String × Nat × String) := lw_tbl.filterMap (fun w => match w with
  | .stringRef c i t => some (c, i, t)
  | _ => none)
theorem str_mem {c t : String} {n i : Nat} (h : lw_tbl[i]? = some (.stringRef c n t)) : (c, n, t) ∈ STR := List.mem_filterMap.mpr ⟨_, List.mem_of_getElem? h, rfl⟩
/-- links to private methods of nest mates -/
def NEST : List (String × Nat × MethodName × String) := lw_tbl.filterMap (fun w => match w with
  | .methodLinkNest a i y h => some (a, i, y, h)
  | _ => none)
theorem nest_mem {a h : String} {n i : Nat} {y : MethodName} (e : lw_tbl[i]? = some (.methodLinkNest a n y h)) : (a, n, y, h) ∈ NEST := List.mem_filterMap.mpr ⟨_, List.mem_of_getElem? e, rfl⟩
/-- the verbs' texts: word and form of each in turn, as bytes -/
def sBy : List (List Int32) := [[97, 100, 100, 32], [107, 100, 100], [100, 114, 111, 112, 32], [100], [110, 111, 116, 101, 32], [100, 32, 100, 100, 61, 100], [109, 97, 115, 107, 32], [100, 32, 100, 43], [102, 108, 105, 112, 32], [100], [116, 117, 114, 110, 32], [100], [114, 97, 105, 115, 101, 32], [100, 32, 43, 100], [116, 101, 109, 112, 111, 32], [100], [108, 105, 109, 105, 116, 32], [110], [119, 97, 118, 101], [], [98, 101, 97, 116], [98]]
def sLen (j : Nat) : Nat := (sBy.getD j []).length
def sAt (j k : Nat) : Int32 := (sBy.getD j []).getD k 0
def swv (i : Nat) : Int32 := if i < 10 then Int32.ofNat (i + 1) else 0
/-- the enum's constants, its table of values, the switch's table, the texts: gV 0..10 the verbs, 50 VERBS, 51 the switch's table, 100 + j a text, 200 + j its bytes -/
def KV (g : GP) (U : State) : Prop :=
  va_Z "ScoreOrchestra" "VERBS" "[LScoreOrchestra$Verb;" (.ref (gV g 50)) (fun q => gN g ≤ q) U (gH g) ∧
  va_T (.object "ScoreOrchestra$Verb") (gV g 50) 11 (fun i => .ref (gV g i)) (fun q => gN g ≤ q) U (gH g) ∧
  va_Z "ScoreOrchestra$1" "$SwitchMap$ScoreOrchestra$Verb" "[I" (.ref (gV g 51)) (fun q => gN g ≤ q) U (gH g) ∧
  va_T .int (gV g 51) 11 (fun i => .int (swv i)) (fun q => gN g ≤ q) U (gH g) ∧
  va_Z "ScoreOrchestra$Verb" "WAVE" "LScoreOrchestra$Verb;" (.ref (gV g 9)) (fun q => gN g ≤ q) U (gH g) ∧
  (∀ i, i < 11 → va_O "ScoreOrchestra$Verb" (gV g i) (fun q => gN g ≤ q) U (gH g) ∧ va_OF "ScoreOrchestra$Verb" "word" "Ljava/lang/String;" (.ref (gV g (100 + 2 * i))) (gV g i) (fun q => gN g ≤ q) U (gH g) ∧ va_OF "ScoreOrchestra$Verb" "form" "Ljava/lang/String;" (.ref (gV g (100 + (2 * i + 1)))) (gV g i) (fun q => gN g ≤ q) U (gH g) ∧ va_OF "java/lang/Enum" "ordinal" "I" (.int (nI i)) (gV g i) (fun q => gN g ≤ q) U (gH g)) ∧
  (∀ j, j < 22 → va_O "java/lang/String" (gV g (100 + j)) (fun q => gN g ≤ q) U (gH g) ∧ va_OF "java/lang/String" "value" "[B" (.ref (gV g (200 + j))) (gV g (100 + j)) (fun q => gN g ≤ q) U (gH g) ∧ va_OF "java/lang/String" "coder" "B" (.int 0) (gV g (100 + j)) (fun q => gN g ≤ q) U (gH g) ∧ va_T .byte (gV g (200 + j)) (sLen j) (fun k => .int (sAt j k)) (fun q => gN g ≤ q) U (gH g)) ∧
  va_Z "java/lang/String" "COMPACT_STRINGS" "Z" (.int 1) (fun q => gN g ≤ q) U (gH g) ∧
  va_Zq "jdk/internal/util/Preconditions" "SIOOBE_FORMATTER" "Ljava/util/function/BiFunction;" (fun q => gN g ≤ q) U (gH g)
theorem KV.alike {g : GP} {u U : State} (hvm : u.vm.Alike U.vm) (h : KV g u) : KV g U :=
  ⟨h.1.moved hvm, h.2.1.moved hvm, h.2.2.1.moved hvm, h.2.2.2.1.moved hvm, h.2.2.2.2.1.moved hvm, fun i hi => ⟨(h.2.2.2.2.2.1 i hi).1.moved hvm, (h.2.2.2.2.2.1 i hi).2.1.moved hvm, (h.2.2.2.2.2.1 i hi).2.2.1.moved hvm, (h.2.2.2.2.2.1 i hi).2.2.2.moved hvm⟩, fun j hj => ⟨(h.2.2.2.2.2.2.1 j hj).1.moved hvm, (h.2.2.2.2.2.2.1 j hj).2.1.moved hvm, (h.2.2.2.2.2.2.1 j hj).2.2.1.moved hvm, (h.2.2.2.2.2.2.1 j hj).2.2.2.moved hvm⟩, h.2.2.2.2.2.2.2.1.moved hvm, va_Zq.moved hvm h.2.2.2.2.2.2.2.2⟩
/-- which exceptions the law's handlers don't take, and which they do -/
def NCP : List (String × String) := [("java/lang/IllegalStateException", "java/lang/IllegalArgumentException"), ("java/lang/IllegalArgumentException", "java/lang/IndexOutOfBoundsException"), ("java/lang/UnsupportedOperationException", "java/lang/IndexOutOfBoundsException"), ("java/lang/UnsupportedOperationException", "java/lang/IllegalArgumentException")]
def CAP : List String := ["java/lang/IndexOutOfBoundsException", "java/lang/IllegalArgumentException", "java/lang/IllegalStateException", "java/lang/UnsupportedOperationException", "java/util/NoSuchElementException", "java/lang/ArithmeticException"]
def KX (U : State) : Prop := va_Nw (.fieldLinkNest "ScoreOrchestra$Script" 47 "ScoreOrchestra" "VERBS" "[LScoreOrchestra$Verb;" "ScoreOrchestra") U ∧ (∀ q ∈ NCP, va_Nc q.1 q.2 U) ∧ (∀ E ∈ CAP, va_Nw (.castable E E) U)
theorem KX.warm {u U : State} (hW : u.WarmedH U.vm) (h : KX u) : KX U := ⟨va_Nw.warmF hW h.1, fun q hq => va_Nc.moved hW.alike (h.2.1 q hq), fun E hE => va_Nw.warmC hW (h.2.2 E hE)⟩
/-- what the tables say of classes, arrays, Throwable's statics -/
def KN (g : GP) (U : State) : Prop :=
  (∀ t, isC t = true → u_Kn U (clR t) (clT t) (clN t) (gC g t) (gI g t)) ∧ (∀ t, isA t = true → ArrOfT U (gA g t) (eT t) ∧ va_RA U (gA g t) (eT t)) ∧
  vx_Zq Bundle.tN "UNASSIGNED_STACK" Bundle.steD (fun q => gN g ≤ q) U (gH g) ∧ vx_Zq Bundle.tN "SUPPRESSED_SENTINEL" Bundle.listD (fun q => gN g ≤ q) U (gH g) ∧ (∀ w ∈ FACE, w.before #[] U = true) ∧ (∀ q ∈ STR, ∃ a, vk_R q.1 q.2.1 q.2.2 a U) ∧ (∀ q ∈ NEST, va_Nw (.methodLinkNest q.1 q.2.1 q.2.2.1 q.2.2.2) U) ∧ KV g U ∧ KX U
theorem KN.warm {g : GP} {u U : State} (hW : u.WarmedH U.vm) (h : KN g u) : KN g U :=
  ⟨fun t ht => u_Kn_moved hW.alike (h.1 t ht), fun t ht => ⟨arrOfT_moved hW.alike (h.2.1 t ht).1, (h.2.1 t ht).2.moved hW.alike⟩, h.2.2.1.moved hW.alike, h.2.2.2.1.moved hW.alike, fun w hw => face_alike hw hW.alike (h.2.2.2.2.1 w hw), fun q hq => (h.2.2.2.2.2.1 q hq).imp fun _ h9 => vk_R.warm hW h9, fun q hq => va_Nw.warmM hW (h.2.2.2.2.2.2.1 q hq), h.2.2.2.2.2.2.2.1.alike hW.alike, h.2.2.2.2.2.2.2.2.warm hW⟩
def LK (g : GP) (s : State) (H : Heap) (locs : List Loc) : Prop := s.heap.size ≤ H.size ∧ ∀ q ∈ locs, gN g ≤ q.base
def CX (g : GP) (l : Launch) (p : Program) (s : State) (m : MethodId) (args : Array Value) (meth : Method) (c : Code) (own : String) (cc : ByteArray) (nL : Nat) : Prop :=
  p.tables.exec = Jvm.exec ∧ c.code = cc ∧ c.maxLocals = nL ∧ s.vm.findClass own = some m.cls ∧ (∀ w ∈ BIG, w.before args s = true) ∧ KN g s ∧ meth.locks = false ∧ l.stackTraces = false ∧ (∀ q, q < gN g → s.heap[q]? = (gH g)[q]?)
def mcO {τ : Type} (o : τ ⊕ String) : Nat := match o with
  | .inl _ => 0
  | .inr _ => 1
def msO {τ : Type} (o : τ ⊕ String) : Nat := match o with
  | .inl _ => 0
  | .inr _ => 6
def QcO {τ : Type} (g : GP) (rv : τ → Option Value) (o : τ ⊕ String) (M' : Mem) : Array Value → State → Outcome → State → Prop := fun _ st oc t => ∃ v, o = .inl v ∧ oc = .returned (rv v) ∧ HR g M' t.heap ∧ st.heap.size ≤ t.heap.size
def XcO {τ : Type} (g : GP) (o : τ ⊕ String) (M' : Mem) : String → State → State → Prop := fun E st t => o = .inr E ∧ HR g M' t.heap ∧ st.heap.size ≤ t.heap.size
abbrev rmO {τ : Type} (o : τ ⊕ String) (fr lo : Nat) : Room := { frames := fr, cells := mcO o, slots := msO o, locals := lo }
/-- A METHOD'S CONTRACT: from every heap that pictures M, with these arguments, it ends as o says, and the heap pictures M' -/
def CO {τ : Type} (g : GP) (l : Launch) (y : MethodName) (cc : ByteArray) (nL : Nat) (ret : Option FieldType) (fr lo : Nat) (rv : τ → Option Value) (As : List Value) (M : Mem) (o : τ ⊕ String) (M' : Mem) : Prop :=
  vx_Met l y (.code y cc nL ret :: BIG) (rmO o fr lo) (va_Pc As (fun U => HR g M U.heap ∧ KN g U)) (QcO g rv o M') (XcO g o M') (mcO o) (msO o) (fun q => gN g ≤ q)
abbrev MQO {τ : Type} (g : GP) (below : List Frame) (rv : τ → Option Value) (o : τ ⊕ String) (M' : Mem) (args : Array Value) (s : State) : State → Prop := vx_MQ below (QcO g rv o M') (XcO g o M') args s (mcO o) (msO o) (fun q => gN g ≤ q)
/-- the goal with the answer in it: f answers r0 only if the end is as due -/
def GQ {α : Type} (f : Option α) (r0 : α) (mq : State → Prop) : State → Prop := fun t => f = some r0 → mq t
section MYQ
variable {p : Program} {l : Launch} {e : Env} {R : Room} {s : State} {m : MethodId} {args : Array Value} {below : List Frame} {meth : Method} {c : Code} {H : Heap} {locs : List Loc} {cells slots : Nat} {f0 : JFrame} {mq : State → Prop}
theorem q_none {α : Type} {r0 : α} : W p l e R s m args below meth c H locs cells slots (GQ none r0 mq) f0 := fun T _ _ => ⟨T.setTop f0, Steps.refl _, fun h => by cases h⟩
theorem q_bind {α β : Type} {r0 : α} {x : Option β} {k : β → Option α} (h : ∀ v, x = some v → W p l e R s m args below meth c H locs cells slots (GQ (k v) r0 mq) f0) : W p l e R s m args below meth c H locs cells slots (GQ (x.bind k) r0 mq) f0 := by
  cases x with
  | none => exact q_none
  | some v => exact h v rfl
theorem q_bx {τ σ : Type} {r0 : (σ ⊕ String) × Mem} {x : Option ((τ ⊕ String) × Mem)} {k : τ → Mem → Option ((σ ⊕ String) × Mem)} (h : ∀ v M, x = some (.inl v, M) → W p l e R s m args below meth c H locs cells slots (GQ (k v M) r0 mq) f0)
    (hx : ∀ E M, x = some (.inr E, M) → (.inr E, M) = r0 → W p l e R s m args below meth c H locs cells slots mq f0) : W p l e R s m args below meth c H locs cells slots (GQ (bx x k) r0 mq) f0 := by
  match x with
  | none => exact q_none
  | some (.inl v, M) => exact h v M rfl
  | some (.inr E, M) =>
    by_cases hr : ((.inr E, M) : (σ ⊕ String) × Mem) = r0
    · intro T hT X
      obtain ⟨t, a, b⟩ := hx E M rfl hr T hT X
      exact ⟨t, a, fun _ => b⟩
    · exact fun T _ _ => ⟨T.setTop f0, Steps.refl _, fun h => absurd (Option.some.inj h) hr⟩
theorem q_chk {α : Type} {r0 : α} {b : Bool} {f : Option α} (h : b = true → W p l e R s m args below meth c H locs cells slots (GQ f r0 mq) f0) : W p l e R s m args below meth c H locs cells slots (GQ (chk b f) r0 mq) f0 := by
  cases b with
  | false => exact q_none
  | true => exact h rfl
theorem q_pos {α : Type} {r0 : α} {P : Prop} {hd : Decidable P} {f h : Option α} (hp : P) (k : W p l e R s m args below meth c H locs cells slots (GQ f r0 mq) f0) : W p l e R s m args below meth c H locs cells slots (GQ (@ite _ P hd f h) r0 mq) f0 := by
  rw [if_pos hp]; exact k
theorem q_neg {α : Type} {r0 : α} {P : Prop} {hd : Decidable P} {f h : Option α} (hp : ¬ P) (k : W p l e R s m args below meth c H locs cells slots (GQ h r0 mq) f0) : W p l e R s m args below meth c H locs cells slots (GQ (@ite _ P hd f h) r0 mq) f0 := by
  rw [if_neg hp]; exact k
theorem q_ret {α : Type} {r0 v : α} (k : v = r0 → W p l e R s m args below meth c H locs cells slots mq f0) : W p l e R s m args below meth c H locs cells slots (GQ (some v) r0 mq) f0 := by
  by_cases hr : v = r0
  · intro T hT X
    obtain ⟨t, a, b⟩ := k hr T hT X
    exact ⟨t, a, fun _ => b⟩
  · exact fun T _ _ => ⟨T.setTop f0, Steps.refl _, fun h => absurd (Option.some.inj h) hr⟩
theorem q_eq {α : Type} {r0 : α} {f h : Option α} (e1 : f = h) (k : W p l e R s m args below meth c H locs cells slots (GQ h r0 mq) f0) : W p l e R s m args below meth c H locs cells slots (GQ f r0 mq) f0 := by rw [e1]; exact k
end MYQ
theorem adr_ne {g : GP} {a b : Nat} (ha : 1 ≤ a) (hb : 1 ≤ b) (h : a ≠ b) : adr g a ≠ adr g b := by unfold adr; omega
theorem vR_pos {g : GP} {r : Nat} (h : 1 ≤ r) : vR g r = .ref (adr g r) := by unfold vR; rw [if_neg (by omega)]
theorem vQ_pos {g : GP} {r : Nat} (h : 1 ≤ r) : vQ g r = .ref (gV g (r - 1)) := by unfold vQ; rw [if_neg (by omega)]
theorem ty_ge {a t : Nat} (h : tyT a = t) (ht : t ≠ 0) : 1 ≤ a ∧ a ≤ NN := by
  unfold tyT at h
  constructor
  · rcases Nat.eq_zero_or_pos a with z | z
    · subst z; exact absurd h.symm ht
    · exact z
  · rcases Nat.lt_or_ge 214 a with z | z
    · repeat (first | rw [if_neg (by omega)] at h)
      exact absurd h.symm ht
    · exact z
theorem HR0.obj {g : GP} {n : Nat} {M : Mem} {H : Heap} (h : HR0 g n M H) {a t : Nat} (h1 : 1 ≤ a) (hn : a ≤ n) (ht : tyT a = t) (hc : t < 20) : t_OB (adr g a) (gC g t) (clN t) (gI g t) H (fun k => vV g M (kd t k) a k) := by
  have := h.2.1 a h1 hn
  unfold CellAt at this
  rw [ht, if_pos hc] at this
  exact this
theorem HR0.arr {g : GP} {n : Nat} {M : Mem} {H : Heap} (h : HR0 g n M H) {a t : Nat} (h1 : 1 ≤ a) (hn : a ≤ n) (ht : tyT a = t) (hc : ¬ t < 20) : H[adr g a]? = some (arrV (gA g t) (alen t) (fun k => vV g M (kd t k) a k)) := by
  have := h.2.1 a h1 hn
  unfold CellAt at this
  rw [ht, if_neg hc] at this
  exact this
theorem cell_kept {g : GP} {M M' : Mem} {H H' : Heap} {b : Nat} (hq : H'[adr g b]? = H[adr g b]?) (hv : ∀ d j, vV g M' d b j = vV g M d b j) (h : CellAt g M H b) : CellAt g M' H' b := by
  unfold CellAt at h ⊢
  simp only [hv]
  split
  · rename_i h2
    rw [if_pos h2] at h
    exact h.kept hq
  · rename_i h2
    rw [if_neg h2] at h
    rw [hq]; exact h
/-- one object changed -/
theorem HR0.put {g : GP} {n : Nat} {M M' : Mem} {H H' : Heap} (h : HR0 g n M H) {a : Nat} (h1 : 1 ≤ a) (oq : ∀ q, q ≠ adr g a → H'[q]? = H[q]?) (hz : H'.size = H.size) (ha : CellAt g M' H' a) (hv : ∀ b d j, b ≠ a → vV g M' d b j = vV g M d b j) : HR0 g n M' H' := by
  refine ⟨fun q hq => ?_, fun b hb hn => ?_, by rw [hz]; exact h.2.2⟩
  · rw [oq q (by unfold adr; omega)]
    exact h.1 q hq
  · by_cases e : b = a
    · rw [e]; exact ha
    · exact cell_kept (oq _ (adr_ne hb h1 e)) (fun d j => hv b d j e) (h.2.1 b hb hn)
