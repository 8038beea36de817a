/-! A round of the class: telling, averages. -/
/-- one more result -/
def wTell (w : zRd) (c x : Nat) : zRd := (w.1, (fun j => if j = c then rMa w c + 1 else rMa w j), (fun j k => if j = c ∧ k = rMa w c then x else rRs w j k), w.2.2.2)
def pen (insp time angle : Int) (pop : Prop) : Prop := pop ∨ 1700 < insp ∨ 45 < (if 360 - angle < angle then 360 - angle else angle)
def penV (insp time angle : Int) : Int := time + (if 1500 < insp then 200 else 0) + (if 0 < (if 360 - angle < angle then 360 - angle else angle) then 200 else 0)
/-- a time is told -/
def wTime (w : zRd) (c time told : Nat) : Nat × zRd :=
  if 0 < rLi w ∧ 0 < told ∧ (rOv w c = true ∨ rLi w < rSp w c + told) then
    (0, wTell (w.1, rMa w, rRs w, (fun j => if j = c then rSp w c + time else rSp w j), (fun j => if j = c then true else rOv w j), w.2.2.2.2.2) c 0)
  else (told, wTell (w.1, rMa w, rRs w, (fun j => if j = c then rSp w c + (if 0 < told then told else time) else rSp w j), rOv w, w.2.2.2.2.2) c told)
def wSev (w : zRd) (c tried solved time x : Nat) : zRd := wTell (w.1, rMa w, rRs w, rSp w, rOv w, (fun j => if j = c then time else rTi w j), (fun j => if j = c then tried - solved else rUn w j), w.2.2.2.2.2.2.2) c x
section ROUND3
variable {d b : Nat} {w : zRd} {I : Nat → Nat → Int32} {L : Nat → Nat → Int64} {R : zRt} {Q : zO → zM → Prop}
theorem rOK_tell {w : zRd} {c x : Nat} (o1 : rFm w = 53 ∨ rFm w = 51 ∨ rFm w = 98 ∨ rFm w = 102 ∨ rFm w = 109) (o2 : rLi w ≤ 999999) (o3 : rCu w ≤ 59999) (o4 : rDy w ≤ 999) (hm : rMa w c < mxA (rFm w)) (hx : x ≤ 60399)
    (o5 : ∀ j, j < 12 → rMa w j ≤ mxA (rFm w) ∧ (∀ k, k < rMa w j → rRs w j k ≤ 60399) ∧ rSp w j ≤ (if j = c then rMa w c + 1 else rMa w j) * 60399 ∧ rTi w j ≤ 359999 ∧ rUn w j ≤ 60 ∧ (rOv w j = true → 0 < rLi w)) : rOK (wTell w c x) := by
  refine ⟨o1, o2, o3, o4, fun j hj => ?_⟩
  obtain ⟨a1, a2, a3, a4, a5, a6⟩ := o5 j hj
  by_cases cj : j = c
  · subst cj
    refine ⟨?_, fun k hk2 => ?_, a3, a4, a5, a6⟩
    · show (if j = j then rMa w j + 1 else rMa w j) ≤ mxA (rFm w)
      rw [if_pos rfl]
      exact hm
    · have hk2 : k < (if j = j then rMa w j + 1 else rMa w j) := hk2
      rw [if_pos rfl] at hk2
      show (if j = j ∧ k = rMa w j then x else rRs w j k) ≤ 60399
      split
      · exact hx
      · exact a2 k (by omega)
  · refine ⟨?_, fun k hk2 => ?_, a3, a4, a5, a6⟩
    · show (if j = c then rMa w c + 1 else rMa w j) ≤ mxA (rFm w)
      rw [if_neg cj]
      exact a1
    · have hk2 : k < (if j = c then rMa w c + 1 else rMa w j) := hk2
      rw [if_neg cj] at hk2
      show (if j = c ∧ k = rMa w c then x else rRs w j k) ≤ 60399
      rw [if_neg (by omega)]
      exact a2 k hk2
theorem sp_up {w : zRd} {j c : Nat} (h : rSp w j ≤ rMa w j * 60399) : rSp w j ≤ (if j = c then rMa w c + 1 else rMa w j) * 60399 := by
  split
  · rename_i e
    rw [← e]
    exact Nat.le_trans h (Nat.mul_le_mul_right _ (Nat.le_succ _))
  · exact h
end ROUND3
