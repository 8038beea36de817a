/-! repeat, goBack, open, divide, shut, take, spell. -/
theorem nth_dropl {l m : List Nat} {p j : Nat} (h : p + j < l.length) : nth (l ++ m) (p + j) = nth (l.drop p) j := by rw [nth_l h, nth_drop]
theorem take_snoc {l : List Nat} {j : Nat} (h : j < l.length) : l.take (j + 1) = l.take j ++ [nth l j] := by
  refine nth_ext (by rw [List.length_append, List.length_take, List.length_take]; show _ = _ + 1; omega) fun i hi => ?_
  rw [List.length_take] at hi
  rw [nth_take (by omega)]
  by_cases c : i < j
  · rw [nth_l (by rw [List.length_take]; omega), nth_take c]
  · rw [nth_ri (by rw [List.length_take]; omega), List.length_take, show i - min j l.length = 0 by omega, nth_0]
    congr 1
    omega
theorem upI_get {I : Nat → Nat → Int32} {a k b j : Nat} {x : Int32} : upI I a k x b j = if b = a ∧ j = k then x else I b j := rfl
section WORD2
variable {d w : Nat} {L : Nat → Nat → Int64} {R : zRt} {Q : zO → zM → Prop}
/-- turns of a part, as they stand when j pairs have been changed -/
def gbc (l : List Nat) (p j i : Nat) : Nat := if (p ≤ i ∧ i < p + j) ∨ (l.length ≤ i + j) then fl (nth l (p + l.length - 1 - i)) else nth l i
end WORD2
