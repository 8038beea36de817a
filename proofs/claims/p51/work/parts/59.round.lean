/-! A round of the class over the memory: formats, attempts, the best. -/
abbrev zRd : Type := (Nat × Nat × Nat) × (Nat → Nat) × (Nat → Nat → Nat) × (Nat → Nat) × (Nat → Bool) × (Nat → Nat) × (Nat → Nat) × Bool × Bool × Nat
abbrev rFm (w : zRd) : Nat := w.1.1
abbrev rLi (w : zRd) : Nat := w.1.2.1
abbrev rCu (w : zRd) : Nat := w.1.2.2
abbrev rMa (w : zRd) : Nat → Nat := w.2.1
abbrev rRs (w : zRd) : Nat → Nat → Nat := w.2.2.1
abbrev rSp (w : zRd) : Nat → Nat := w.2.2.2.1
abbrev rOv (w : zRd) : Nat → Bool := w.2.2.2.2.1
abbrev rTi (w : zRd) : Nat → Nat := w.2.2.2.2.2.1
abbrev rUn (w : zRd) : Nat → Nat := w.2.2.2.2.2.2.1
abbrev rCl (w : zRd) : Bool := w.2.2.2.2.2.2.2.1
abbrev rUd (w : zRd) : Bool := w.2.2.2.2.2.2.2.2.1
abbrev rDy (w : zRd) : Nat := w.2.2.2.2.2.2.2.2.2
/-- how the class holds a result that is 0 for none: in 'm' one less -/
def cv (fm x : Nat) : Int := if fm = 109 then (x : Int) - 1 else x
def mxA (fm : Nat) : Nat := if fm = 53 then 5 else if fm = 109 then 1 else 3
theorem mxA_le (fm : Nat) : mxA fm ≤ 5 := by
  unfold mxA
  split
  · exact Nat.le_refl _
  · split <;> decide
def rOK (w : zRd) : Prop := (rFm w = 53 ∨ rFm w = 51 ∨ rFm w = 98 ∨ rFm w = 102 ∨ rFm w = 109) ∧ rLi w ≤ 999999 ∧ rCu w ≤ 59999 ∧ rDy w ≤ 999 ∧ ∀ c, c < 12 → rMa w c ≤ mxA (rFm w) ∧ (∀ k, k < rMa w c → rRs w c k ≤ 60399) ∧ rSp w c ≤ rMa w c * 60399 ∧ rTi w c ≤ 359999 ∧ rUn w c ≤ 60 ∧ (rOv w c = true → 0 < rLi w)
def RLy (b : Nat) (R : zRt) : Prop := R.2.1 b = some (3, 0) ∧ R.1 b 3 = some (b + 1) ∧ R.1 b 4 = some (b + 14) ∧ R.1 b 5 = some (b + 15) ∧ R.1 b 6 = some (b + 16) ∧ R.1 b 7 = some (b + 17) ∧ R.1 b 8 = some (b + 18) ∧ R.2.1 (b + 1) = some (25, 12) ∧ R.2.1 (b + 14) = some (20, 12) ∧ R.2.1 (b + 15) = some (20, 12) ∧ R.2.1 (b + 16) = some (22, 12) ∧ R.2.1 (b + 17) = some (20, 12) ∧ R.2.1 (b + 18) = some (20, 12) ∧ ∀ i, i < 12 → R.1 (b + 1) i = some (b + 2 + i) ∧ R.2.1 (b + 2 + i) = some (20, 5)
def rPR (b : Nat) (I : Nat → Nat → Int32) (w : zRd) : Prop := I b 0 = iI (rFm w : Int) ∧ I b 1 = iI (rLi w : Int) ∧ I b 2 = iI (rCu w : Int) ∧ I b 9 = bz (rCl w) ∧ I b 10 = bz (rUd w) ∧ I b 11 = iI (rDy w : Int) ∧ ∀ c, c < 12 → I (b + 14) c = iI (rMa w c : Int) ∧ I (b + 15) c = iI (rSp w c : Int) ∧ I (b + 16) c = bz (rOv w c) ∧ I (b + 17) c = iI (rTi w c : Int) ∧ I (b + 18) c = iI (rUn w c : Int) ∧ ∀ k, k < rMa w c → I (b + 2 + c) k = iI (cv (rFm w) (rRs w c k))
theorem rPR_fr {b : Nat} {I I' : Nat → Nat → Int32} {w : zRd} (h : rPR b I w) (hI : ∀ a, b ≤ a → a < b + 19 → I' a = I a) : rPR b I' w := by
  obtain ⟨h1, h2, h3, h4, h5, h6, h7⟩ := h
  have e0 := hI b (by omega) (by omega)
  refine ⟨by rw [e0]; exact h1, by rw [e0]; exact h2, by rw [e0]; exact h3, by rw [e0]; exact h4, by rw [e0]; exact h5, by rw [e0]; exact h6, fun c hc => ?_⟩
  rw [hI (b + 14) (by omega) (by omega), hI (b + 15) (by omega) (by omega), hI (b + 16) (by omega) (by omega), hI (b + 17) (by omega) (by omega), hI (b + 18) (by omega) (by omega), hI (b + 2 + c) (by omega) (by omega)]
  exact h7 c hc
def rfr (b : Nat) (I I' : Nat → Nat → Int32) : Prop := ∀ a, ¬ (b ≤ a ∧ a < b + 19) → I' a = I a
/-- the best of the first k, 0 for none -/
def bst (l : Nat → Nat) : Nat → Nat
  | 0 => 0
  | k + 1 => if 0 < l k ∧ (bst l k = 0 ∨ l k < bst l k) then l k else bst l k
theorem bst_le {l : Nat → Nat} {m : Nat} : ∀ {k : Nat}, (∀ i, i < k → l i ≤ m) → bst l k ≤ m
  | 0, _ => Nat.zero_le _
  | k + 1, h => by
    have ih := bst_le (k := k) fun i hi => h i (by omega)
    have := h k (by omega)
    show (if 0 < l k ∧ (bst l k = 0 ∨ l k < bst l k) then l k else bst l k) ≤ m
    split <;> omega
def avF (fm : Nat) : Prop := fm = 53 ∨ fm = 51
def bI1 (fm b : Nat) : Int := if b = 0 then -1 else cv fm b
section ROUND
variable {d b : Nat} {w : zRd} {I : Nat → Nat → Int32} {L : Nat → Nat → Int64} {R : zRt} {Q : zO → zM → Prop}
theorem fm_lt (h : rOK w) : rFm w < 65536 := by
  have := h.1
  omega
end ROUND
