/-! The typed word of the class over the memory. -/
def WL (w : Nat) (R : zRt) : Prop := R.2.1 w = some (5, 0) ∧ R.1 w 0 = some (w + 1) ∧ R.1 w 1 = some (w + 2) ∧ R.1 w 2 = some (w + 3) ∧ R.1 w 3 = some (w + 4) ∧ R.1 w 4 = some (w + 5) ∧ R.2.1 (w + 1) = some (23, 30) ∧ R.2.1 (w + 2) = some (20, 120) ∧ R.2.1 (w + 3) = some (23, 30) ∧ R.2.1 (w + 4) = some (20, 30) ∧ R.2.1 (w + 5) = some (20, 30)
def hl (r : Nat → Int32) (l : List Nat) : Prop := ∀ i, i < l.length → r i = iI (nth l i : Int)
theorem hl_snoc {I : Nat → Nat → Int32} {a t : Nat} {l : List Nat} (h : hl (I a) l) : hl (upI I a l.length (iI (t : Int)) a) (l ++ [t]) := by
  intro i hi
  rw [List.length_append] at hi
  by_cases e : i = l.length
  · subst e
    rw [upI_same, nth_ri (Nat.le_refl _), Nat.sub_self, nth_0]
  · have hi' : i < l.length := by
      have : [t].length = 1 := rfl
      omega
    rw [upI_ne (fun q => e q.2), nth_l hi']
    exact h i hi'
/-- the turns as they stand -/
def lR (w : Nat) (I : Nat → Nat → Int32) (l : List Nat) : Prop := I w 6 = iI (l.length : Int) ∧ hl (I (w + 2)) l
/-- only turns were written -/
def lfr (w : Nat) (I I' : Nat → Nat → Int32) : Prop := (∀ b, b ≠ w → b ≠ w + 2 → I' b = I b) ∧ ∀ k, k ≠ 6 → I' w k = I w k
theorem lfr_rf (w : Nat) (I : Nat → Nat → Int32) : lfr w I I := ⟨fun _ _ _ => rfl, fun _ _ => rfl⟩
theorem lfr_tr {w : Nat} {I I1 I2 : Nat → Nat → Int32} (h1 : lfr w I I1) (h2 : lfr w I1 I2) : lfr w I I2 := ⟨fun b x y => (h2.1 b x y).trans (h1.1 b x y), fun k x => (h2.2 k x).trans (h1.2 k x)⟩
section WORD
variable {d w : Nat} {I : Nat → Nat → Int32} {L : Nat → Nat → Int64} {R : zRt} {Q : zO → zM → Prop}
end WORD
