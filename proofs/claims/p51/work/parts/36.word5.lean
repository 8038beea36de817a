/-! spell, countRuns, ringsUsed, isSign. -/
theorem mkN_snoc (w : wSt) : ∀ (a : List Nat) (c : Nat), mkN (a ++ [c]) w = (mkN a w).bind (mk1 c) := by
  intro a c
  induction a generalizing w with
  | nil =>
    show (mk1 c w).bind (fun w' => some w') = mk1 c w
    cases mk1 c w <;> rfl
  | cons x t ih =>
    show (mk1 x w).bind (fun w' => mkN (t ++ [c]) w') = ((mk1 x w).bind (fun w' => mkN t w')).bind (mk1 c)
    cases h : mk1 x w with
    | none => rfl
    | some w1 => exact ih w1
theorem mkN_app (w : wSt) (a b : List Nat) : mkN (a ++ b) w = (mkN a w).bind (mkN b) := by
  induction a generalizing w with
  | nil => rfl
  | cons x t ih =>
    show (mk1 x w).bind (fun w' => mkN (t ++ b) w') = ((mk1 x w).bind (fun w' => mkN t w')).bind (mkN b)
    cases h : mk1 x w with
    | none => rfl
    | some w1 => exact ih w1
theorem take_at {l : List Nat} {j : Nat} (h : j < l.length) : l = l.take j ++ (nth l j :: l.drop (j + 1)) := by
  have e : nth l j = l[j] := by
    unfold nth
    rw [List.getElem?_eq_getElem h]
    rfl
  rw [e, ← List.drop_eq_getElem_cons h, List.take_append_drop]
/-- runs of turns of one ring -/
def rn (l : List Nat) (i : Nat) : Bool := i == 0 || nth l i / 2 != nth l (i - 1) / 2
section WORD5
variable {d w : Nat} {I : Nat → Nat → Int32} {L : Nat → Nat → Int64} {R : zRt} {Q : zO → zM → Prop}
/-- the signs as they stand -/
def sgR (w : Nat) (I : Nat → Nat → Int32) (sg : List Nat) : Prop := sg.length ≤ 30 ∧ I w 5 = iI (sg.length : Int) ∧ hl (I (w + 1)) sg ∧ ∀ c, c ∈ sg → c < 65536
theorem sgR_fr {w : Nat} {I I' : Nat → Nat → Int32} {sg : List Nat} (f : wfr w I I') (h : sgR w I sg) : sgR w I' sg := ⟨h.1, f.2.trans h.2.1, by rw [f.1 (w + 1) (by omega) (by omega)]; exact h.2.2.1, h.2.2.2⟩
def isg (n : Int) : Prop := n = 45 ∨ n = 60 ∨ n = 62 ∨ n = 91 ∨ n = 124 ∨ n = 93 ∨ (65 ≤ n ∧ n ≤ 68) ∨ (50 ≤ n ∧ n ≤ 57)
end WORD5
