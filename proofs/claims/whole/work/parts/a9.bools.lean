/-! the model's yes-or-no answers are 0 or 1 -/
def OA (x : Option (Int32 × Mem)) : Prop := ∀ b M, x = some (b, M) → nokZ b = true
theorem OA.no : OA none := fun _ _ h => by cases h
theorem OA.some0 (M : Mem) : OA (some (0, M)) := fun _ _ h => by cases h; rfl
theorem OA.some1 (M : Mem) : OA (some (1, M)) := fun _ _ h => by cases h; rfl
theorem OA.chk (v : Int32) (M : Mem) : OA (chk (nokZ v) (some (v, M))) := fun b M1 h => by
  cases e : nokZ v with
  | false => rw [e] at h; cases h
  | true => rw [e] at h; cases h; exact e
theorem OA.bind {α : Type} {x : Option α} {k : α → Option (Int32 × Mem)} (h : ∀ v, OA (k v)) : OA (x.bind k) := by
  cases x with
  | none => exact OA.no
  | some v => exact h v
theorem OA.b1 {α : Type} {x : Option (α × Mem)} {k : α → Mem → Option (Int32 × Mem)} (h : ∀ v M, OA (k v M)) : OA (b1 x k) := by
  cases x with
  | none => exact OA.no
  | some v => exact h v.1 v.2
theorem OA.ite {P : Prop} [Decidable P] {x y : Option (Int32 × Mem)} (h1 : OA x) (h2 : OA y) : OA (if P then x else y) := by
  by_cases h : P
  · rw [if_pos h]; exact h1
  · rw [if_neg h]; exact h2
theorem OA.lt {β : Type} {x : β} {k : β → Option (Int32 × Mem)} (h : ∀ v, OA (k v)) : OA (lt x k) := h x
theorem oa_setMasked (a0 : Nat) (p q r : Int32) (M : Mem) : OA (F_X9_setMasked a0 p q r M) := by
  unfold F_X9_setMasked
  refine OA.lt fun _ => OA.bind fun _ => OA.ite (OA.b1 fun _ _ => OA.ite (OA.b1 fun _ _ => OA.ite (OA.some1 _) (OA.some0 _)) (OA.b1 fun _ _ => OA.ite (OA.some1 _) (OA.some0 _))) (OA.b1 fun _ _ => OA.ite (OA.some0 _) (OA.some1 _))
theorem oa_isMasked (a0 : Nat) (p q : Int32) (M : Mem) : OA (F_X9_isMasked a0 p q M) := by
  unfold F_X9_isMasked
  refine OA.lt fun _ => OA.bind fun _ => OA.ite (OA.bind fun _ => OA.chk _ _) (OA.b1 fun _ _ => OA.ite (OA.some0 _) (OA.some1 _))
theorem oa_areAlike_L1 (a0 : Nat) (p q : Int32) (M : Mem) (K : Int32 → Option (Int32 × Mem)) (hK : ∀ i, OA (K i)) : ∀ n i, OA (F_X9_areAlike_L1 a0 p q M K n i)
  | 0, _ => OA.no
  | n + 1, i => by
    unfold F_X9_areAlike_L1
    refine OA.ite (hK i) (OA.bind fun _ => OA.bind fun _ => OA.ite (OA.lt fun v => oa_areAlike_L1 a0 p q M K hK n v) (OA.some0 _))
theorem oa_areAlike (a0 : Nat) (p q : Int32) (M : Mem) : OA (F_X9_areAlike a0 p q M) := by
  unfold F_X9_areAlike
  refine OA.lt fun _ => OA.bind fun _ => OA.ite (OA.b1 fun _ _ => OA.ite (OA.some0 _) (OA.some1 _)) (OA.bind fun _ => OA.ite (OA.b1 fun _ _ => OA.ite (OA.some0 _) (OA.some1 _)) (OA.bind fun _ => OA.bind fun _ => OA.ite (OA.bind fun _ => OA.bind fun _ => OA.ite (oa_areAlike_L1 _ _ _ _ _ (fun _ => OA.some1 _) _ _) (OA.some0 _)) (OA.some0 _)))
theorem oa_isSymmetric_L2 (a0 : Nat) (p : Int32) (M : Mem) (j : Int32) (K : Int32 → Option (Int32 × Mem)) (hK : ∀ i, OA (K i)) : ∀ n i, OA (F_X9_isSymmetric_L2 a0 p M j K n i)
  | 0, _ => OA.no
  | n + 1, i => by
    unfold F_X9_isSymmetric_L2
    exact OA.ite (hK i) (OA.bind fun _ => OA.bind fun _ => OA.ite (OA.lt fun v => oa_isSymmetric_L2 a0 p M j K hK n v) (OA.some0 _))
theorem oa_isSymmetric_L1 (a0 : Nat) (p : Int32) (M : Mem) (K : Int32 → Option (Int32 × Mem)) (hK : ∀ i, OA (K i)) : ∀ n i, OA (F_X9_isSymmetric_L1 a0 p M K n i)
  | 0, _ => OA.no
  | n + 1, i => by
    unfold F_X9_isSymmetric_L1
    exact OA.bind fun _ => OA.ite (hK i) (oa_isSymmetric_L2 a0 p M i _ (fun x => OA.lt fun v => oa_isSymmetric_L1 a0 p M K hK n v) _ _)
theorem oa_isSymmetric (a0 : Nat) (p : Int32) (M : Mem) : OA (F_X9_isSymmetric a0 p M) := by
  unfold F_X9_isSymmetric
  refine OA.lt fun _ => OA.bind fun _ => OA.ite (OA.b1 fun _ _ => OA.ite (OA.some0 _) (OA.some1 _)) (OA.bind fun _ => OA.bind fun _ => OA.ite (oa_isSymmetric_L1 _ _ _ _ (fun _ => OA.some1 _) _ _) (OA.some0 _))
