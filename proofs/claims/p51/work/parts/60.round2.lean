/-! A round of the class: cut-offs, telling, averages. -/
def smN (l : Nat → Nat) : Nat → Nat
  | 0 => 0
  | k + 1 => smN l k + l k
def mxN (l : Nat → Nat) : Nat → Nat
  | 0 => 0
  | k + 1 => if mxN l k < l k then l k else mxN l k
def msN (l : Nat → Nat) : Nat → Nat
  | 0 => 0
  | k + 1 => msN l k + (if l k = 0 then 1 else 0)
def avgC (fm : Nat) (l : Nat → Nat) (m : Nat) : Nat := if fm = 53 then smN l m - bst l m - (if msN l m = 0 then mxN l m else 0) else smN l m
/-- the average or mean, 0 for none -/
def avg (fm : Nat) (l : Nat → Nat) (m : Nat) : Nat := if (fm = 53 ∨ fm = 51) ∧ m = mxA fm ∧ msN l m ≤ (if fm = 53 then 1 else 0) then (2 * avgC fm l m + 3) / 6 else 0
theorem mxN_le {l : Nat → Nat} {m : Nat} : ∀ {k : Nat}, (∀ i, i < k → l i ≤ m) → mxN l k ≤ m
  | 0, _ => Nat.zero_le _
  | k + 1, h => by
    have ih := mxN_le (k := k) fun i hi => h i (by omega)
    have := h k (by omega)
    show (if mxN l k < l k then l k else mxN l k) ≤ m
    split <;> omega
theorem smN_le {l : Nat → Nat} {m : Nat} : ∀ {k : Nat}, (∀ i, i < k → l i ≤ m) → smN l k ≤ k * m
  | 0, _ => Nat.zero_le _
  | k + 1, h => by
    have ih := smN_le (k := k) fun i hi => h i (by omega)
    have := h k (by omega)
    show smN l k + l k ≤ (k + 1) * m
    rw [Nat.succ_mul]
    omega
theorem msN_le (l : Nat → Nat) : ∀ k, msN l k ≤ k
  | 0 => Nat.le_refl _
  | k + 1 => by
    have ih := msN_le l k
    show msN l k + (if l k = 0 then 1 else 0) ≤ k + 1
    split <;> omega
theorem avg_a {l : Nat → Nat} : ∀ k, (msN l k < k → 0 < bst l k ∧ bst l k + (k - msN l k - 1) ≤ smN l k) ∧ (msN l k = k → bst l k = 0 ∧ smN l k = 0)
  | 0 => ⟨fun h => absurd h (Nat.lt_irrefl _), fun _ => ⟨rfl, rfl⟩⟩
  | k + 1 => by
    obtain ⟨h1, h2⟩ := avg_a (l := l) k
    have h3 := msN_le l k
    have e1 : msN l (k + 1) = msN l k + (if l k = 0 then 1 else 0) := rfl
    have e2 : smN l (k + 1) = smN l k + l k := rfl
    have e3 : bst l (k + 1) = if 0 < l k ∧ (bst l k = 0 ∨ l k < bst l k) then l k else bst l k := rfl
    rw [e1, e2, e3]
    by_cases c : l k = 0
    · rw [if_pos c, if_neg (by omega)]
      refine ⟨fun h => ?_, fun h => ?_⟩
      · have := h1 (by omega)
        omega
      · have := h2 (by omega)
        omega
    · rw [if_neg c]
      refine ⟨fun h => ?_, fun h => by omega⟩
      by_cases c2 : msN l k < k
      · have := h1 c2
        split <;> omega
      · have := h2 (by omega)
        rw [if_pos (by omega)]
        omega
theorem avg_b {l : Nat → Nat} : ∀ k, 2 ≤ k → msN l k = 0 → bst l k + mxN l k + (k - 2) ≤ smN l k ∧ bst l k ≤ mxN l k
  | 0, h, _ => absurd h (by decide)
  | 1, h, _ => absurd h (by decide)
  | k + 2, _, hm => by
    have e1 : msN l (k + 2) = msN l (k + 1) + (if l (k + 1) = 0 then 1 else 0) := rfl
    have e2 : smN l (k + 2) = smN l (k + 1) + l (k + 1) := rfl
    have e3 : bst l (k + 2) = if 0 < l (k + 1) ∧ (bst l (k + 1) = 0 ∨ l (k + 1) < bst l (k + 1)) then l (k + 1) else bst l (k + 1) := rfl
    have e4 : mxN l (k + 2) = if mxN l (k + 1) < l (k + 1) then l (k + 1) else mxN l (k + 1) := rfl
    rw [e1] at hm
    have hk : l (k + 1) ≠ 0 := fun c => by
      rw [if_pos c] at hm
      omega
    have hm1 : msN l (k + 1) = 0 := by omega
    obtain ⟨a1, -⟩ := avg_a (l := l) (k + 1)
    have a1 := a1 (by omega)
    cases k with
    | zero =>
      have f1 : smN l 1 = l 0 := Nat.zero_add _
      have f2 : bst l 1 = if 0 < l 0 ∧ (0 = 0 ∨ l 0 < 0) then l 0 else 0 := rfl
      have f3 : mxN l 1 = if 0 < l 0 then l 0 else 0 := rfl
      have f4 : l 0 ≠ 0 := fun c => by
        have : msN l 1 = 0 + (if l 0 = 0 then 1 else 0) := rfl
        rw [if_pos c] at this
        have h9 : msN l 1 = 0 := hm1
        omega
      rw [if_pos (by omega)] at f2
      rw [if_pos (by omega)] at f3
      rw [e2, e3, e4]
      have g1 : smN l (0 + 1) = l 0 := f1
      have g2 : bst l (0 + 1) = l 0 := f2
      have g3 : mxN l (0 + 1) = l 0 := f3
      rw [g1, g2, g3]
      split <;> split <;> omega
    | succ k =>
      have ih := avg_b (l := l) (k + 2) (by omega) hm1
      rw [e2, e3, e4]
      have g : k + 1 + 1 = k + 2 := rfl
      rw [g] at *
      split <;> split <;> omega
theorem avg_pos {fm m : Nat} {l : Nat → Nat} (h : (fm = 53 ∨ fm = 51) ∧ m = mxA fm ∧ msN l m ≤ (if fm = 53 then 1 else 0)) : 3 ≤ avgC fm l m := by
  obtain ⟨h1, h2, h3⟩ := h
  obtain ⟨a1, -⟩ := avg_a (l := l) m
  unfold avgC
  rcases h1 with rfl | rfl
  · rw [if_pos rfl] at h3 ⊢
    have hm : m = 5 := h2
    subst hm
    by_cases c : msN l 5 = 0
    · have := avg_b (l := l) 5 (by decide) c
      rw [if_pos c]
      omega
    · have := a1 (by omega)
      rw [if_neg c]
      omega
  · have hm : m = 3 := h2
    subst hm
    rw [if_neg (by decide)] at h3 ⊢
    have := a1 (by omega)
    omega
def aI1 (a : Nat) : Int := if a = 0 then -1 else a
/-- no more attempts -/
def cutN (fm : Nat) : Nat := if fm = 53 then 2 else 1
def isCut (w : zRd) (c : Nat) : Prop := avF (rFm w) ∧ rCu w ≠ 0 ∧ cutN (rFm w) ≤ rMa w c ∧ ∀ i, i < cutN (rFm w) → ¬ (0 < rRs w c i ∧ rRs w c i < rCu w)
def mayM (w : zRd) (c : Nat) : Prop := rMa w c < mxA (rFm w) ∧ ¬ isCut w c
section ROUND2
variable {d b : Nat} {w : zRd} {I : Nat → Nat → Int32} {L : Nat → Nat → Int64} {R : zRt} {Q : zO → zM → Prop}
theorem cv_av {fm x : Nat} (h : avF fm) : cv fm x = x := if_neg (by unfold avF at h; omega)
end ROUND2
