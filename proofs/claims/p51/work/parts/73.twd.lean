/-! The class's words. -/
section TWD
variable {d x z : Nat} {pb rb : Nat → Nat} {T : tfT} {I : Nat → Nat → Int32} {L : Nat → Nat → Int64} {R : zRt} {Q : zO → zM → Prop}
theorem wd_ok (h : tf x z pb rb T (I, L, R)) : R.2.1 x = some (6, 0) ∧ R.1 x 4 = some (x + 3) ∧ WL (x + 3) R ∧ sgR (x + 3) I (tSg T) := ⟨h.2.1.1.1, h.2.1.1.2.2.2.1, h.2.1.1.2.2.2.2.2.2.2.2.2.1, h.2.2.2.2.2.1⟩
noncomputable def oIsWord (T : tfT) : tRes := (0, b01 ((spell (tSg T)).isSome = true), T)
def oLength (T : tfT) (c : Int) : tRes := if ¬ (c = 113 ∨ c = 116) then (1, 0, T) else match spell (tSg T) with
  | some l => (0, ((if c = 113 then l.length else ct (rn l) l.length : Nat) : Int), T)
  | none => (2, 0, T)
def oTurnAt (T : tfT) (v : Int) : tRes := match spell (tSg T) with
  | some l => if ¬ (0 ≤ v ∧ v < l.length) then (2, 0, T) else (0, (nth l v.toNat : Nat), T)
  | none => (1, 0, T)
abbrev solv (w : zPz) (st : Nat → Nat) : Prop := ∀ q, q < 10 → pzC w (st q) = pzC w q
noncomputable def oApply (T : tfT) (p : Int) : tRes := onP T p fun i => match spell (tSg T) with
  | some l => if dc (∀ t, t ∈ l → t / 2 < pzR (tPz T i)) then (0, b01 (solv (tPz T i) (saf (pzT (tPz T i)) (pzS (tPz T i)) l)), tSetP T i (pzSt (tPz T i) (saf (pzT (tPz T i)) (pzS (tPz T i)) l))) else (2, 0, T)
  | none => (2, 0, T)
end TWD
