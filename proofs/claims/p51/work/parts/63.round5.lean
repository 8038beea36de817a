/-! A round of the class: averages, comparing, counting. -/
def rAv (w : zRd) (c : Nat) : Nat := avg (rFm w) (rRs w c) (rMa w c)
def rBs (w : zRd) (c : Nat) : Nat := bst (rRs w c) (rMa w c)
def cmpI (a b : Int) : Int := if a < b then -1 else if a = b then 0 else 1
def fK (a : Nat) : Int := if a = 0 then 2147483647 else a
/-- below 0 if one ranks ahead of another, 0 if they are alike -/
noncomputable def cmpR (w : zRd) (i j : Nat) : Int :=
  if rFm w = 109 then (if rBs w i ≠ rBs w j then cmpI (rBs w j) (rBs w i) else if rBs w i = 0 then 0 else if cmpI (rTi w i) (rTi w j) ≠ 0 then cmpI (rTi w i) (rTi w j) else cmpI (rUn w i) (rUn w j))
  else (if (if rFm w = 53 ∨ rFm w = 51 then cmpI (fK (rAv w i)) (fK (rAv w j)) else 0) ≠ 0 then cmpI (fK (rAv w i)) (fK (rAv w j)) else cmpI (fK (rBs w i)) (fK (rBs w j)))
/-- what ranks go by, in one number -/
def rkey (w : zRd) (c : Nat) : Int :=
  if rFm w = 109 then (60399 - (rBs w c : Int)) * 1099511627776 + (if rBs w c = 0 then 0 else (rTi w c : Int) * 64 + rUn w c)
  else (if rFm w = 53 ∨ rFm w = 51 then fK (rAv w c) else 0) * 2147483648 + fK (rBs w c)
theorem rBs_le {w : zRd} (hk : rOK w) {c : Nat} (hc : c < 12) : rBs w c ≤ 60399 := bst_le fun i hi => (hk.2.2.2.2 c hc).2.1 i hi
theorem avgC_le {w : zRd} (hk : rOK w) {c : Nat} (hc : c < 12) : smN (rRs w c) (rMa w c) ≤ 301995 := by
  have h1 := smN_le (l := rRs w c) (k := rMa w c) fun i hi => (hk.2.2.2.2 c hc).2.1 i hi
  have h2 := (hk.2.2.2.2 c hc).1
  have h3 := mxA_le (rFm w)
  have h4 : rMa w c * 60399 ≤ 5 * 60399 := Nat.mul_le_mul_right _ (by omega)
  omega
theorem rAv_le {w : zRd} (hk : rOK w) {c : Nat} (hc : c < 12) : rAv w c ≤ 100666 := by
  have := avgC_le hk hc
  have h2 : avgC (rFm w) (rRs w c) (rMa w c) ≤ smN (rRs w c) (rMa w c) := by
    unfold avgC
    split <;> omega
  unfold rAv avg
  by_cases h : (rFm w = 53 ∨ rFm w = 51) ∧ rMa w c = mxA (rFm w) ∧ msN (rRs w c) (rMa w c) ≤ (if rFm w = 53 then 1 else 0)
  · rw [if_pos h]
    omega
  · rw [if_neg h]
    exact Nat.zero_le _
theorem cmpI_1 (a b : Int) : (cmpI a b < 0 ↔ a < b) ∧ (cmpI a b = 0 ↔ a = b) ∧ -1 ≤ cmpI a b ∧ cmpI a b ≤ 1 := by
  unfold cmpI
  split
  · omega
  · split <;> omega
theorem cmpI_lt {a b : Int} (h : a < b) : cmpI a b = -1 := if_pos h
theorem cmpI_eq (a : Int) : cmpI a a = 0 := by
  unfold cmpI
  rw [if_neg (by omega), if_pos rfl]
theorem cmpI_gt {a b : Int} (h : b < a) : cmpI a b = 1 := by
  unfold cmpI
  rw [if_neg (by omega), if_neg (by omega)]
theorem cmpR_key {w : zRd} (hk : rOK w) {i j : Nat} (hi : i < 12) (hj : j < 12) : (cmpR w i j < 0 ↔ rkey w i < rkey w j) ∧ (cmpR w i j = 0 ↔ rkey w i = rkey w j) ∧ -1 ≤ cmpR w i j ∧ cmpR w i j ≤ 1 := by
  have b1 := rBs_le hk hi
  have b2 := rBs_le hk hj
  have a1 := rAv_le hk hi
  have a2 := rAv_le hk hj
  obtain ⟨-, -, -, t1, u1, -⟩ := hk.2.2.2.2 i hi
  obtain ⟨-, -, -, t2, u2, -⟩ := hk.2.2.2.2 j hj
  unfold cmpR rkey
  by_cases c : rFm w = 109
  · simp only [if_pos c]
    generalize rBs w i = B1 at *
    generalize rBs w j = B2 at *
    generalize rTi w i = T1 at *
    generalize rTi w j = T2 at *
    generalize rUn w i = U1 at *
    generalize rUn w j = U2 at *
    by_cases e : B1 = B2
    · subst e
      rw [if_neg (by simp)]
      by_cases z : B1 = 0
      · simp [z]
      · simp only [if_neg z]
        rcases Int.lt_trichotomy (T1 : Int) T2 with t | t | t
        · rw [cmpI_lt t, if_pos (by decide)]
          omega
        · rw [t, cmpI_eq, if_neg (by decide)]
          rcases Int.lt_trichotomy (U1 : Int) U2 with u | u | u
          · rw [cmpI_lt u]
            omega
          · rw [u, cmpI_eq]
            omega
          · rw [cmpI_gt u]
            omega
        · rw [cmpI_gt t, if_pos (by decide)]
          omega
    · rw [if_pos e]
      have t1' : 0 ≤ (if B1 = 0 then 0 else (T1 : Int) * 64 + U1) ∧ (if B1 = 0 then 0 else (T1 : Int) * 64 + U1) ≤ 23040000 := by split <;> omega
      have t2' : 0 ≤ (if B2 = 0 then 0 else (T2 : Int) * 64 + U2) ∧ (if B2 = 0 then 0 else (T2 : Int) * 64 + U2) ≤ 23040000 := by split <;> omega
      generalize (if B1 = 0 then 0 else (T1 : Int) * 64 + U1) = X1 at *
      generalize (if B2 = 0 then 0 else (T2 : Int) * 64 + U2) = X2 at *
      rcases Int.lt_trichotomy (B2 : Int) B1 with t | t | t
      · rw [cmpI_lt t]
        omega
      · omega
      · rw [cmpI_gt t]
        omega
  · simp only [if_neg c]
    have f1 : ∀ a : Nat, a ≤ 100666 → 0 ≤ fK a ∧ fK a ≤ 2147483647 := fun a h => by unfold fK; split <;> omega
    have g1 := f1 _ a1
    have g2 := f1 _ a2
    have g3 := f1 _ (show rBs w i ≤ 100666 by omega)
    have g4 := f1 _ (show rBs w j ≤ 100666 by omega)
    generalize fK (rAv w i) = A1 at *
    generalize fK (rAv w j) = A2 at *
    generalize fK (rBs w i) = B1 at *
    generalize fK (rBs w j) = B2 at *
    have hB : (cmpI B1 B2 < 0 ↔ B1 < B2) ∧ (cmpI B1 B2 = 0 ↔ B1 = B2) ∧ -1 ≤ cmpI B1 B2 ∧ cmpI B1 B2 ≤ 1 := cmpI_1 B1 B2
    generalize cmpI B1 B2 = CB at *
    by_cases f : rFm w = 53 ∨ rFm w = 51
    · simp only [if_pos f]
      rcases Int.lt_trichotomy A1 A2 with t | t | t
      · rw [cmpI_lt t, if_pos (by decide)]
        omega
      · rw [t, cmpI_eq, if_neg (by decide)]
        omega
      · rw [cmpI_gt t, if_pos (by decide)]
        omega
    · simp only [if_neg f]
      rw [if_neg (by simp)]
      omega
section ROUND5
variable {d b : Nat} {w : zRd} {I : Nat → Nat → Int32} {L : Nat → Nat → Int64} {R : zRt} {Q : zO → zM → Prop}
end ROUND5
