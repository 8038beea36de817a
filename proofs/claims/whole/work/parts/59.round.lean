/-! A round of the class over the memory: formats, attempts, the best. -/
abbrev zRd : Type := (Nat × Nat × Nat) × (Nat → Nat) × (Nat → Nat → Nat) × (Nat → Nat) × (Nat → Bool) × (Nat → Nat) × (Nat → Nat) × Bool × Bool × Nat
abbrev rFm (w : zRd) : Nat := w.1.1
abbrev rLi (w : zRd) : Nat := w.1.2.1
abbrev rCu (w : zRd) : Nat := w.1.2.2
abbrev rMa (w : zRd) : Nat → Nat := w.2.1
abbrev rRs (w : zRd) : Nat → Nat → Nat := w.2.2.1
abbrev rSp (w : zRd) : Nat → Nat := w.2.2.2.1
abbrev rOv (w : zRd) : Nat → Bool := w.2.2.2.2.1
abbrev rTi (w : zRd) : Nat → Nat := w.2.2.2.2.2.1
abbrev rUn (w : zRd) : Nat → Nat := w.2.2.2.2.2.2.1
abbrev rCl (w : zRd) : Bool := w.2.2.2.2.2.2.2.1
abbrev rUd (w : zRd) : Bool := w.2.2.2.2.2.2.2.2.1
abbrev rDy (w : zRd) : Nat := w.2.2.2.2.2.2.2.2.2
/-- how the class holds a result that is 0 for none: in 'm' one less -/
def cv (fm x : Nat) : Int := if fm = 109 then (x : Int) - 1 else x
def mxA (fm : Nat) : Nat := if fm = 53 then 5 else if fm = 109 then 1 else 3
theorem mxA_le (fm : Nat) : mxA fm ≤ 5 := by
  unfold mxA
  split
  · exact Nat.le_refl _
  · split <;> decide
def rOK (w : zRd) : Prop := (rFm w = 53 ∨ rFm w = 51 ∨ rFm w = 98 ∨ rFm w = 102 ∨ rFm w = 109) ∧ rLi w ≤ 999999 ∧ rCu w ≤ 59999 ∧ rDy w ≤ 999 ∧ ∀ c, c < 12 → rMa w c ≤ mxA (rFm w) ∧ (∀ k, k < rMa w c → rRs w c k ≤ 60399) ∧ rSp w c ≤ rMa w c * 60399 ∧ rTi w c ≤ 359999 ∧ rUn w c ≤ 60 ∧ (rOv w c = true → 0 < rLi w)
def RLy (b : Nat) (R : zRt) : Prop := R.2.1 b = some (3, 0) ∧ R.1 b 3 = some (b + 1) ∧ R.1 b 4 = some (b + 14) ∧ R.1 b 5 = some (b + 15) ∧ R.1 b 6 = some (b + 16) ∧ R.1 b 7 = some (b + 17) ∧ R.1 b 8 = some (b + 18) ∧ R.2.1 (b + 1) = some (25, 12) ∧ R.2.1 (b + 14) = some (20, 12) ∧ R.2.1 (b + 15) = some (20, 12) ∧ R.2.1 (b + 16) = some (22, 12) ∧ R.2.1 (b + 17) = some (20, 12) ∧ R.2.1 (b + 18) = some (20, 12) ∧ ∀ i, i < 12 → R.1 (b + 1) i = some (b + 2 + i) ∧ R.2.1 (b + 2 + i) = some (20, 5)
def rPR (b : Nat) (I : Nat → Nat → Int32) (w : zRd) : Prop := I b 0 = iI (rFm w : Int) ∧ I b 1 = iI (rLi w : Int) ∧ I b 2 = iI (rCu w : Int) ∧ I b 9 = bz (rCl w) ∧ I b 10 = bz (rUd w) ∧ I b 11 = iI (rDy w : Int) ∧ ∀ c, c < 12 → I (b + 14) c = iI (rMa w c : Int) ∧ I (b + 15) c = iI (rSp w c : Int) ∧ I (b + 16) c = bz (rOv w c) ∧ I (b + 17) c = iI (rTi w c : Int) ∧ I (b + 18) c = iI (rUn w c : Int) ∧ ∀ k, k < rMa w c → I (b + 2 + c) k = iI (cv (rFm w) (rRs w c k))
theorem rPR_fr {b : Nat} {I I' : Nat → Nat → Int32} {w : zRd} (h : rPR b I w) (hI : ∀ a, b ≤ a → a < b + 19 → I' a = I a) : rPR b I' w := by
  obtain ⟨h1, h2, h3, h4, h5, h6, h7⟩ := h
  have e0 := hI b (by omega) (by omega)
  refine ⟨by rw [e0]; exact h1, by rw [e0]; exact h2, by rw [e0]; exact h3, by rw [e0]; exact h4, by rw [e0]; exact h5, by rw [e0]; exact h6, fun c hc => ?_⟩
  rw [hI (b + 14) (by omega) (by omega), hI (b + 15) (by omega) (by omega), hI (b + 16) (by omega) (by omega), hI (b + 17) (by omega) (by omega), hI (b + 18) (by omega) (by omega), hI (b + 2 + c) (by omega) (by omega)]
  exact h7 c hc
def rfr (b : Nat) (I I' : Nat → Nat → Int32) : Prop := ∀ a, ¬ (b ≤ a ∧ a < b + 19) → I' a = I a
/-- the best of the first k, 0 for none -/
def bst (l : Nat → Nat) : Nat → Nat
  | 0 => 0
  | k + 1 => if 0 < l k ∧ (bst l k = 0 ∨ l k < bst l k) then l k else bst l k
theorem bst_le {l : Nat → Nat} {m : Nat} : ∀ {k : Nat}, (∀ i, i < k → l i ≤ m) → bst l k ≤ m
  | 0, _ => Nat.zero_le _
  | k + 1, h => by
    have ih := bst_le (k := k) fun i hi => h i (by omega)
    have := h k (by omega)
    show (if 0 < l k ∧ (bst l k = 0 ∨ l k < bst l k) then l k else bst l k) ≤ m
    split <;> omega
def avF (fm : Nat) : Prop := fm = 53 ∨ fm = 51
def bI1 (fm b : Nat) : Int := if b = 0 then -1 else cv fm b
section ROUND
variable {d b : Nat} {w : zRd} {I : Nat → Nat → Int32} {L : Nat → Nat → Int64} {R : zRt} {Q : zO → zM → Prop}
theorem isFormat_ok {n : Int} {x : Int32} {M : zM} (hd : 1 ≤ d) (e : x = iI n) (h0 : 0 ≤ n) (h1 : n < 65536) (t : n = 53 ∨ n = 51 ∨ n = 98 ∨ n = 102 ∨ n = 109 → Q (.inl (some (zi (iI 1)))) M) (f : ¬ (n = 53 ∨ n = 51 ∨ n = 98 ∨ n = 102 ∨ n = 109) → Q (.inl (some (zi (iI 0)))) M) : zS 43 d [zi x] M Q := by
  subst e
  have T : (n = 53 ∨ n = 51 ∨ n = 98 ∨ n = 102 ∨ n = 109) → zW 43 d 0 0 30 [some (zi (iI n))] [] M Q := by
    intro g
    refine zW.gr [] rfl rfl rfl (by omega) trivial z01c1 ?_
    rw [zcn_I]
    exact t g
  refine zW.gb [] rfl rfl rfl (by omega) trivial (fun h => T (by simp (disch := omega) only [upI_same, upL_same, upI_ne, upL_ne, iI_ixN, zI_mk, zL_mk, zP_mk, zK_mk, zN_mk, zwI_up, zwL_up, zg_some, Nat.reduceMod, Nat.reduceDiv, zcn_I, iI_add, iI_sub, iI_mul, iI_neg, iI_lt, iI_le, iI_eq, iI_lt0, iI_le0, iI_gt0, iI_ge0, iI_eq0] at h; omega)) (fun h => ?_)
  refine zW.gb [] rfl rfl rfl (by omega) trivial (fun h' => T (by simp (disch := omega) only [zcn_I, iI_add, iI_sub, iI_mul, iI_neg, iI_lt, iI_le, iI_eq, iI_lt0, iI_le0, iI_gt0, iI_ge0, iI_eq0] at h'; omega)) (fun h' => ?_)
  refine zW.gb [] rfl rfl rfl (by omega) trivial (fun h2 => T (by simp (disch := omega) only [zcn_I, iI_add, iI_sub, iI_mul, iI_neg, iI_lt, iI_le, iI_eq, iI_lt0, iI_le0, iI_gt0, iI_ge0, iI_eq0] at h2; omega)) (fun h2 => ?_)
  refine zW.gb [] rfl rfl rfl (by omega) trivial (fun h3 => T (by simp (disch := omega) only [zcn_I, iI_add, iI_sub, iI_mul, iI_neg, iI_lt, iI_le, iI_eq, iI_lt0, iI_le0, iI_gt0, iI_ge0, iI_eq0] at h3; omega)) (fun h3 => ?_)
  refine zW.gb [] rfl rfl rfl (by omega) trivial (fun h4 => ?_) (fun h4 => T (by simp (disch := omega) only [zcn_I, iI_add, iI_sub, iI_mul, iI_neg, iI_lt, iI_le, iI_eq, iI_lt0, iI_le0, iI_gt0, iI_ge0, iI_eq0] at h4; omega))
  simp (disch := omega) only [zcn_I, iI_add, iI_sub, iI_mul, iI_neg, iI_lt, iI_le, iI_eq, iI_lt0, iI_le0, iI_gt0, iI_ge0, iI_eq0] at h h' h2 h3 h4
  refine zW.gr [] rfl rfl rfl (by omega) trivial z01c0 ?_
  rw [zcn_I]
  exact f (by omega)
theorem fm_lt (h : rOK w) : rFm w < 65536 := by
  have := h.1
  omega
theorem isAvg_ok (hd : 1 ≤ d) (hL : RLy b R) (hk : rOK w) (hR : rPR b I w) (t : avF (rFm w) → Q (.inl (some (zi (iI 1)))) (I, L, R)) (f : ¬ avF (rFm w) → Q (.inl (some (zi (iI 0)))) (I, L, R)) : zS 45 d [zr (some b)] (I, L, R) Q := by
  have k0 := hL.1
  have r0 := hR.1
  have hlt := fm_lt hk
  unfold avF at t f
  by_cases c1 : rFm w = 53
  · refine zW.gbt [] rfl rfl rfl hd ?_ ?_ (zW.gr [] rfl rfl rfl hd trivial z01c1 ?_)
    · exact (by simp (disch := omega) only [true_or, or_true, eq_self, Option.some.injEq, Prod.mk.injEq, zall_0, zall_1, zall_2, zob_iff, zar_iff, zis_iff, zkIs_some, zkHas_some, iI_vp, z01_I, z01_bz, zch_I, true_and, and_true, or_false, false_or, and_self, upI_same, upL_same, upI_ne, upL_ne, iI_ixN, zI_mk, zL_mk, zP_mk, zK_mk, zN_mk, zwI_up, zwL_up, zg_some, Nat.reduceMod, Nat.reduceDiv, zcn_I, iI_add, iI_sub, iI_mul, iI_neg, iI_lt, iI_le, iI_eq, iI_lt0, iI_le0, iI_gt0, iI_ge0, iI_eq0, k0] <;> omega)
    · exact (by simp (disch := omega) only [eq_self, not_true_eq_false, not_false_eq_true, upI_same, upL_same, upI_ne, upL_ne, iI_ixN, zI_mk, zL_mk, zP_mk, zK_mk, zN_mk, zwI_up, zwL_up, zg_some, Nat.reduceMod, Nat.reduceDiv, zcn_I, iI_add, iI_sub, iI_mul, iI_neg, iI_lt, iI_le, iI_eq, iI_lt0, iI_le0, iI_gt0, iI_ge0, iI_eq0, r0] <;> omega)
    · rw [zcn_I]
      exact t (Or.inl c1)
  · by_cases c2 : rFm w = 51
    · refine zW.gbf [] rfl rfl rfl hd ?_ ?_ (zW.gbf [] rfl rfl rfl hd ?_ ?_ (zW.gr [] rfl rfl rfl hd trivial z01c1 ?_))
      · exact (by simp (disch := omega) only [true_or, or_true, eq_self, Option.some.injEq, Prod.mk.injEq, zall_0, zall_1, zall_2, zob_iff, zar_iff, zis_iff, zkIs_some, zkHas_some, iI_vp, z01_I, z01_bz, zch_I, true_and, and_true, or_false, false_or, and_self, upI_same, upL_same, upI_ne, upL_ne, iI_ixN, zI_mk, zL_mk, zP_mk, zK_mk, zN_mk, zwI_up, zwL_up, zg_some, Nat.reduceMod, Nat.reduceDiv, zcn_I, iI_add, iI_sub, iI_mul, iI_neg, iI_lt, iI_le, iI_eq, iI_lt0, iI_le0, iI_gt0, iI_ge0, iI_eq0, k0] <;> omega)
      · exact (by simp (disch := omega) only [eq_self, not_true_eq_false, not_false_eq_true, upI_same, upL_same, upI_ne, upL_ne, iI_ixN, zI_mk, zL_mk, zP_mk, zK_mk, zN_mk, zwI_up, zwL_up, zg_some, Nat.reduceMod, Nat.reduceDiv, zcn_I, iI_add, iI_sub, iI_mul, iI_neg, iI_lt, iI_le, iI_eq, iI_lt0, iI_le0, iI_gt0, iI_ge0, iI_eq0, r0] <;> omega)
      · exact (by simp (disch := omega) only [true_or, or_true, eq_self, Option.some.injEq, Prod.mk.injEq, zall_0, zall_1, zall_2, zob_iff, zar_iff, zis_iff, zkIs_some, zkHas_some, iI_vp, z01_I, z01_bz, zch_I, true_and, and_true, or_false, false_or, and_self, upI_same, upL_same, upI_ne, upL_ne, iI_ixN, zI_mk, zL_mk, zP_mk, zK_mk, zN_mk, zwI_up, zwL_up, zg_some, Nat.reduceMod, Nat.reduceDiv, zcn_I, iI_add, iI_sub, iI_mul, iI_neg, iI_lt, iI_le, iI_eq, iI_lt0, iI_le0, iI_gt0, iI_ge0, iI_eq0, k0] <;> omega)
      · exact (by simp (disch := omega) only [eq_self, not_true_eq_false, not_false_eq_true, upI_same, upL_same, upI_ne, upL_ne, iI_ixN, zI_mk, zL_mk, zP_mk, zK_mk, zN_mk, zwI_up, zwL_up, zg_some, Nat.reduceMod, Nat.reduceDiv, zcn_I, iI_add, iI_sub, iI_mul, iI_neg, iI_lt, iI_le, iI_eq, iI_lt0, iI_le0, iI_gt0, iI_ge0, iI_eq0, r0] <;> omega)
      · rw [zcn_I]
        exact t (Or.inr c2)
    · refine zW.gbf [] rfl rfl rfl hd ?_ ?_ (zW.gbt [] rfl rfl rfl hd ?_ ?_ (zW.gr [] rfl rfl rfl hd trivial z01c0 ?_))
      · exact (by simp (disch := omega) only [true_or, or_true, eq_self, Option.some.injEq, Prod.mk.injEq, zall_0, zall_1, zall_2, zob_iff, zar_iff, zis_iff, zkIs_some, zkHas_some, iI_vp, z01_I, z01_bz, zch_I, true_and, and_true, or_false, false_or, and_self, upI_same, upL_same, upI_ne, upL_ne, iI_ixN, zI_mk, zL_mk, zP_mk, zK_mk, zN_mk, zwI_up, zwL_up, zg_some, Nat.reduceMod, Nat.reduceDiv, zcn_I, iI_add, iI_sub, iI_mul, iI_neg, iI_lt, iI_le, iI_eq, iI_lt0, iI_le0, iI_gt0, iI_ge0, iI_eq0, k0] <;> omega)
      · exact (by simp (disch := omega) only [eq_self, not_true_eq_false, not_false_eq_true, upI_same, upL_same, upI_ne, upL_ne, iI_ixN, zI_mk, zL_mk, zP_mk, zK_mk, zN_mk, zwI_up, zwL_up, zg_some, Nat.reduceMod, Nat.reduceDiv, zcn_I, iI_add, iI_sub, iI_mul, iI_neg, iI_lt, iI_le, iI_eq, iI_lt0, iI_le0, iI_gt0, iI_ge0, iI_eq0, r0] <;> omega)
      · exact (by simp (disch := omega) only [true_or, or_true, eq_self, Option.some.injEq, Prod.mk.injEq, zall_0, zall_1, zall_2, zob_iff, zar_iff, zis_iff, zkIs_some, zkHas_some, iI_vp, z01_I, z01_bz, zch_I, true_and, and_true, or_false, false_or, and_self, upI_same, upL_same, upI_ne, upL_ne, iI_ixN, zI_mk, zL_mk, zP_mk, zK_mk, zN_mk, zwI_up, zwL_up, zg_some, Nat.reduceMod, Nat.reduceDiv, zcn_I, iI_add, iI_sub, iI_mul, iI_neg, iI_lt, iI_le, iI_eq, iI_lt0, iI_le0, iI_gt0, iI_ge0, iI_eq0, k0] <;> omega)
      · exact (by simp (disch := omega) only [eq_self, not_true_eq_false, not_false_eq_true, upI_same, upL_same, upI_ne, upL_ne, iI_ixN, zI_mk, zL_mk, zP_mk, zK_mk, zN_mk, zwI_up, zwL_up, zg_some, Nat.reduceMod, Nat.reduceDiv, zcn_I, iI_add, iI_sub, iI_mul, iI_neg, iI_lt, iI_le, iI_eq, iI_lt0, iI_le0, iI_gt0, iI_ge0, iI_eq0, r0] <;> omega)
      · rw [zcn_I]
        exact f (by omega)
theorem isTimed_ok (hd : 2 ≤ d) (hL : RLy b R) (hk : rOK w) (hR : rPR b I w) (t : avF (rFm w) ∨ rFm w = 98 → Q (.inl (some (zi (iI 1)))) (I, L, R)) (f : ¬ (avF (rFm w) ∨ rFm w = 98) → Q (.inl (some (zi (iI 0)))) (I, L, R)) : zS 44 d [zr (some b)] (I, L, R) Q := by
  have k0 := hL.1
  have r0 := hR.1
  have hlt := fm_lt hk
  refine zW.gz [] rfl rfl rfl hd trivial ⟨_, rfl, k0⟩ rfl rfl (Nat.le_refl _) (Nat.le_refl _) ?_
  refine isAvg_ok (by omega) hL hk hR (fun h => ?_) (fun h => ?_)
  · refine zW.gbt [] rfl rfl rfl (by omega) trivial ?_ (zW.gr [] rfl rfl rfl (by omega) trivial z01c1 ?_)
    · exact (by simp (disch := omega) only [eq_self, not_true_eq_false, not_false_eq_true, upI_same, upL_same, upI_ne, upL_ne, iI_ixN, zI_mk, zL_mk, zP_mk, zK_mk, zN_mk, zwI_up, zwL_up, zg_some, Nat.reduceMod, Nat.reduceDiv, zcn_I, iI_add, iI_sub, iI_mul, iI_neg, iI_lt, iI_le, iI_eq, iI_lt0, iI_le0, iI_gt0, iI_ge0, iI_eq0] <;> omega)
    · rw [zcn_I]
      exact t (Or.inl h)
  · refine zW.gbf [] rfl rfl rfl (by omega) trivial ?_ ?_
    · exact (by simp (disch := omega) only [eq_self, not_true_eq_false, not_false_eq_true, upI_same, upL_same, upI_ne, upL_ne, iI_ixN, zI_mk, zL_mk, zP_mk, zK_mk, zN_mk, zwI_up, zwL_up, zg_some, Nat.reduceMod, Nat.reduceDiv, zcn_I, iI_add, iI_sub, iI_mul, iI_neg, iI_lt, iI_le, iI_eq, iI_lt0, iI_le0, iI_gt0, iI_ge0, iI_eq0] <;> omega)
    · by_cases c : rFm w = 98
      · refine zW.gbf [] rfl rfl rfl (by omega) ?_ ?_ (zW.gr [] rfl rfl rfl (by omega) trivial z01c1 ?_)
        · exact (by simp (disch := omega) only [true_or, or_true, eq_self, Option.some.injEq, Prod.mk.injEq, zall_0, zall_1, zall_2, zob_iff, zar_iff, zis_iff, zkIs_some, zkHas_some, iI_vp, z01_I, z01_bz, zch_I, true_and, and_true, or_false, false_or, and_self, upI_same, upL_same, upI_ne, upL_ne, iI_ixN, zI_mk, zL_mk, zP_mk, zK_mk, zN_mk, zwI_up, zwL_up, zg_some, Nat.reduceMod, Nat.reduceDiv, zcn_I, iI_add, iI_sub, iI_mul, iI_neg, iI_lt, iI_le, iI_eq, iI_lt0, iI_le0, iI_gt0, iI_ge0, iI_eq0, k0] <;> omega)
        · exact (by simp (disch := omega) only [eq_self, not_true_eq_false, not_false_eq_true, upI_same, upL_same, upI_ne, upL_ne, iI_ixN, zI_mk, zL_mk, zP_mk, zK_mk, zN_mk, zwI_up, zwL_up, zg_some, Nat.reduceMod, Nat.reduceDiv, zcn_I, iI_add, iI_sub, iI_mul, iI_neg, iI_lt, iI_le, iI_eq, iI_lt0, iI_le0, iI_gt0, iI_ge0, iI_eq0, r0] <;> omega)
        · rw [zcn_I]
          exact t (Or.inr c)
      · refine zW.gbt [] rfl rfl rfl (by omega) ?_ ?_ (zW.gr [] rfl rfl rfl (by omega) trivial z01c0 ?_)
        · exact (by simp (disch := omega) only [true_or, or_true, eq_self, Option.some.injEq, Prod.mk.injEq, zall_0, zall_1, zall_2, zob_iff, zar_iff, zis_iff, zkIs_some, zkHas_some, iI_vp, z01_I, z01_bz, zch_I, true_and, and_true, or_false, false_or, and_self, upI_same, upL_same, upI_ne, upL_ne, iI_ixN, zI_mk, zL_mk, zP_mk, zK_mk, zN_mk, zwI_up, zwL_up, zg_some, Nat.reduceMod, Nat.reduceDiv, zcn_I, iI_add, iI_sub, iI_mul, iI_neg, iI_lt, iI_le, iI_eq, iI_lt0, iI_le0, iI_gt0, iI_ge0, iI_eq0, k0] <;> omega)
        · exact (by simp (disch := omega) only [eq_self, not_true_eq_false, not_false_eq_true, upI_same, upL_same, upI_ne, upL_ne, iI_ixN, zI_mk, zL_mk, zP_mk, zK_mk, zN_mk, zwI_up, zwL_up, zg_some, Nat.reduceMod, Nat.reduceDiv, zcn_I, iI_add, iI_sub, iI_mul, iI_neg, iI_lt, iI_le, iI_eq, iI_lt0, iI_le0, iI_gt0, iI_ge0, iI_eq0, r0] <;> omega)
        · rw [zcn_I]
          exact f fun q => q.elim h c
theorem makesRec_ok (hd : 1 ≤ d) (hL : RLy b R) (hk : rOK w) (hR : rPR b I w) (t : rFm w = 53 ∧ rCl w = true ∧ rUd w = false → Q (.inl (some (zi (iI 1)))) (I, L, R)) (f : ¬ (rFm w = 53 ∧ rCl w = true ∧ rUd w = false) → Q (.inl (some (zi (iI 0)))) (I, L, R)) : zS 46 d [zr (some b)] (I, L, R) Q := by
  have k0 := hL.1
  have r0 := hR.1
  have r9 := hR.2.2.2.1
  have r10 := hR.2.2.2.2.1
  have hlt := fm_lt hk
  by_cases c1 : rFm w = 53
  · refine zW.gbf [] rfl rfl rfl hd ?_ ?_ ?_
    · exact (by simp (disch := omega) only [true_or, or_true, eq_self, Option.some.injEq, Prod.mk.injEq, zall_0, zall_1, zall_2, zob_iff, zar_iff, zis_iff, zkIs_some, zkHas_some, iI_vp, z01_I, z01_bz, zch_I, true_and, and_true, or_false, false_or, and_self, upI_same, upL_same, upI_ne, upL_ne, iI_ixN, zI_mk, zL_mk, zP_mk, zK_mk, zN_mk, zwI_up, zwL_up, zg_some, Nat.reduceMod, Nat.reduceDiv, zcn_I, iI_add, iI_sub, iI_mul, iI_neg, iI_lt, iI_le, iI_eq, iI_lt0, iI_le0, iI_gt0, iI_ge0, iI_eq0, k0] <;> omega)
    · exact (by simp (disch := omega) only [eq_self, not_true_eq_false, not_false_eq_true, upI_same, upL_same, upI_ne, upL_ne, iI_ixN, zI_mk, zL_mk, zP_mk, zK_mk, zN_mk, zwI_up, zwL_up, zg_some, Nat.reduceMod, Nat.reduceDiv, zcn_I, iI_add, iI_sub, iI_mul, iI_neg, iI_lt, iI_le, iI_eq, iI_lt0, iI_le0, iI_gt0, iI_ge0, iI_eq0, r0] <;> omega)
    · cases c2 : rCl w with
      | false =>
        rw [c2] at r9
        refine zW.gbt [] rfl rfl rfl hd ?_ ?_ (zW.gr [] rfl rfl rfl hd trivial z01c0 ?_)
        · exact (by simp (disch := omega) only [true_or, or_true, eq_self, Option.some.injEq, Prod.mk.injEq, zall_0, zall_1, zall_2, zob_iff, zar_iff, zis_iff, zkIs_some, zkHas_some, iI_vp, z01_I, z01_bz, zch_I, true_and, and_true, or_false, false_or, and_self, upI_same, upL_same, upI_ne, upL_ne, iI_ixN, zI_mk, zL_mk, zP_mk, zK_mk, zN_mk, zwI_up, zwL_up, zg_some, Nat.reduceMod, Nat.reduceDiv, zcn_I, iI_add, iI_sub, iI_mul, iI_neg, iI_lt, iI_le, iI_eq, iI_lt0, iI_le0, iI_gt0, iI_ge0, iI_eq0, k0] <;> omega)
        · exact (by simp (disch := omega) only [eq_self, not_true_eq_false, not_false_eq_true, upI_same, upL_same, upI_ne, upL_ne, iI_ixN, zI_mk, zL_mk, zP_mk, zK_mk, zN_mk, zwI_up, zwL_up, zg_some, Nat.reduceMod, Nat.reduceDiv, zcn_I, iI_add, iI_sub, iI_mul, iI_neg, iI_lt, iI_le, iI_eq, iI_lt0, iI_le0, iI_gt0, iI_ge0, iI_eq0, r9, bz_f] <;> omega)
        · rw [zcn_I]
          exact f fun q => by rw [c2] at q; cases q.2.1
      | true =>
        rw [c2] at r9
        refine zW.gbf [] rfl rfl rfl hd ?_ ?_ ?_
        · exact (by simp (disch := omega) only [true_or, or_true, eq_self, Option.some.injEq, Prod.mk.injEq, zall_0, zall_1, zall_2, zob_iff, zar_iff, zis_iff, zkIs_some, zkHas_some, iI_vp, z01_I, z01_bz, zch_I, true_and, and_true, or_false, false_or, and_self, upI_same, upL_same, upI_ne, upL_ne, iI_ixN, zI_mk, zL_mk, zP_mk, zK_mk, zN_mk, zwI_up, zwL_up, zg_some, Nat.reduceMod, Nat.reduceDiv, zcn_I, iI_add, iI_sub, iI_mul, iI_neg, iI_lt, iI_le, iI_eq, iI_lt0, iI_le0, iI_gt0, iI_ge0, iI_eq0, k0] <;> omega)
        · exact (by simp (disch := omega) only [eq_self, not_true_eq_false, not_false_eq_true, upI_same, upL_same, upI_ne, upL_ne, iI_ixN, zI_mk, zL_mk, zP_mk, zK_mk, zN_mk, zwI_up, zwL_up, zg_some, Nat.reduceMod, Nat.reduceDiv, zcn_I, iI_add, iI_sub, iI_mul, iI_neg, iI_lt, iI_le, iI_eq, iI_lt0, iI_le0, iI_gt0, iI_ge0, iI_eq0, r9, bz_t] <;> omega)
        · cases c3 : rUd w with
          | false =>
            rw [c3] at r10
            refine zW.gbf [] rfl rfl rfl hd ?_ ?_ (zW.gr [] rfl rfl rfl hd trivial z01c1 ?_)
            · exact (by simp (disch := omega) only [true_or, or_true, eq_self, Option.some.injEq, Prod.mk.injEq, zall_0, zall_1, zall_2, zob_iff, zar_iff, zis_iff, zkIs_some, zkHas_some, iI_vp, z01_I, z01_bz, zch_I, true_and, and_true, or_false, false_or, and_self, upI_same, upL_same, upI_ne, upL_ne, iI_ixN, zI_mk, zL_mk, zP_mk, zK_mk, zN_mk, zwI_up, zwL_up, zg_some, Nat.reduceMod, Nat.reduceDiv, zcn_I, iI_add, iI_sub, iI_mul, iI_neg, iI_lt, iI_le, iI_eq, iI_lt0, iI_le0, iI_gt0, iI_ge0, iI_eq0, k0] <;> omega)
            · exact (by simp (disch := omega) only [eq_self, not_true_eq_false, not_false_eq_true, upI_same, upL_same, upI_ne, upL_ne, iI_ixN, zI_mk, zL_mk, zP_mk, zK_mk, zN_mk, zwI_up, zwL_up, zg_some, Nat.reduceMod, Nat.reduceDiv, zcn_I, iI_add, iI_sub, iI_mul, iI_neg, iI_lt, iI_le, iI_eq, iI_lt0, iI_le0, iI_gt0, iI_ge0, iI_eq0, r10, bz_f] <;> omega)
            · rw [zcn_I]
              exact t ⟨c1, c2, c3⟩
          | true =>
            rw [c3] at r10
            refine zW.gbt [] rfl rfl rfl hd ?_ ?_ (zW.gr [] rfl rfl rfl hd trivial z01c0 ?_)
            · exact (by simp (disch := omega) only [true_or, or_true, eq_self, Option.some.injEq, Prod.mk.injEq, zall_0, zall_1, zall_2, zob_iff, zar_iff, zis_iff, zkIs_some, zkHas_some, iI_vp, z01_I, z01_bz, zch_I, true_and, and_true, or_false, false_or, and_self, upI_same, upL_same, upI_ne, upL_ne, iI_ixN, zI_mk, zL_mk, zP_mk, zK_mk, zN_mk, zwI_up, zwL_up, zg_some, Nat.reduceMod, Nat.reduceDiv, zcn_I, iI_add, iI_sub, iI_mul, iI_neg, iI_lt, iI_le, iI_eq, iI_lt0, iI_le0, iI_gt0, iI_ge0, iI_eq0, k0] <;> omega)
            · exact (by simp (disch := omega) only [eq_self, not_true_eq_false, not_false_eq_true, upI_same, upL_same, upI_ne, upL_ne, iI_ixN, zI_mk, zL_mk, zP_mk, zK_mk, zN_mk, zwI_up, zwL_up, zg_some, Nat.reduceMod, Nat.reduceDiv, zcn_I, iI_add, iI_sub, iI_mul, iI_neg, iI_lt, iI_le, iI_eq, iI_lt0, iI_le0, iI_gt0, iI_ge0, iI_eq0, r10, bz_t] <;> omega)
            · rw [zcn_I]
              exact f fun q => by rw [c3] at q; cases q.2.2
  · refine zW.gbt [] rfl rfl rfl hd ?_ ?_ (zW.gr [] rfl rfl rfl hd trivial z01c0 ?_)
    · exact (by simp (disch := omega) only [true_or, or_true, eq_self, Option.some.injEq, Prod.mk.injEq, zall_0, zall_1, zall_2, zob_iff, zar_iff, zis_iff, zkIs_some, zkHas_some, iI_vp, z01_I, z01_bz, zch_I, true_and, and_true, or_false, false_or, and_self, upI_same, upL_same, upI_ne, upL_ne, iI_ixN, zI_mk, zL_mk, zP_mk, zK_mk, zN_mk, zwI_up, zwL_up, zg_some, Nat.reduceMod, Nat.reduceDiv, zcn_I, iI_add, iI_sub, iI_mul, iI_neg, iI_lt, iI_le, iI_eq, iI_lt0, iI_le0, iI_gt0, iI_ge0, iI_eq0, k0] <;> omega)
    · exact (by simp (disch := omega) only [eq_self, not_true_eq_false, not_false_eq_true, upI_same, upL_same, upI_ne, upL_ne, iI_ixN, zI_mk, zL_mk, zP_mk, zK_mk, zN_mk, zwI_up, zwL_up, zg_some, Nat.reduceMod, Nat.reduceDiv, zcn_I, iI_add, iI_sub, iI_mul, iI_neg, iI_lt, iI_le, iI_eq, iI_lt0, iI_le0, iI_gt0, iI_ge0, iI_eq0, r0] <;> omega)
    · rw [zcn_I]
      exact f fun q => c1 q.1
theorem inAll_ok (hd : 1 ≤ d) (hL : RLy b R) (hk : rOK w) (hR : rPR b I w) (hQ : Q (.inl (some (zi (iI (mxA (rFm w) : Int))))) (I, L, R)) : zS 47 d [zr (some b)] (I, L, R) Q := by
  have k0 := hL.1
  have r0 := hR.1
  have hlt := fm_lt hk
  unfold mxA at hQ
  by_cases c1 : rFm w = 53
  · rw [if_pos c1] at hQ
    refine zW.gbf [] rfl rfl rfl hd ?_ ?_ (zW.gr [] rfl rfl rfl hd trivial trivial ?_)
    · exact (by simp (disch := omega) only [true_or, or_true, eq_self, Option.some.injEq, Prod.mk.injEq, zall_0, zall_1, zall_2, zob_iff, zar_iff, zis_iff, zkIs_some, zkHas_some, iI_vp, z01_I, z01_bz, zch_I, true_and, and_true, or_false, false_or, and_self, upI_same, upL_same, upI_ne, upL_ne, iI_ixN, zI_mk, zL_mk, zP_mk, zK_mk, zN_mk, zwI_up, zwL_up, zg_some, Nat.reduceMod, Nat.reduceDiv, zcn_I, iI_add, iI_sub, iI_mul, iI_neg, iI_lt, iI_le, iI_eq, iI_lt0, iI_le0, iI_gt0, iI_ge0, iI_eq0, k0] <;> omega)
    · exact (by simp (disch := omega) only [eq_self, not_true_eq_false, not_false_eq_true, upI_same, upL_same, upI_ne, upL_ne, iI_ixN, zI_mk, zL_mk, zP_mk, zK_mk, zN_mk, zwI_up, zwL_up, zg_some, Nat.reduceMod, Nat.reduceDiv, zcn_I, iI_add, iI_sub, iI_mul, iI_neg, iI_lt, iI_le, iI_eq, iI_lt0, iI_le0, iI_gt0, iI_ge0, iI_eq0, r0] <;> omega)
    · rw [zcn_I]
      exact hQ
  · rw [if_neg c1] at hQ
    by_cases c2 : rFm w = 109
    · rw [if_pos c2] at hQ
      refine zW.gbt [] rfl rfl rfl hd ?_ ?_ (zW.gbf [] rfl rfl rfl hd ?_ ?_ (zW.gr [] rfl rfl rfl hd trivial trivial ?_))
      · exact (by simp (disch := omega) only [true_or, or_true, eq_self, Option.some.injEq, Prod.mk.injEq, zall_0, zall_1, zall_2, zob_iff, zar_iff, zis_iff, zkIs_some, zkHas_some, iI_vp, z01_I, z01_bz, zch_I, true_and, and_true, or_false, false_or, and_self, upI_same, upL_same, upI_ne, upL_ne, iI_ixN, zI_mk, zL_mk, zP_mk, zK_mk, zN_mk, zwI_up, zwL_up, zg_some, Nat.reduceMod, Nat.reduceDiv, zcn_I, iI_add, iI_sub, iI_mul, iI_neg, iI_lt, iI_le, iI_eq, iI_lt0, iI_le0, iI_gt0, iI_ge0, iI_eq0, k0] <;> omega)
      · exact (by simp (disch := omega) only [eq_self, not_true_eq_false, not_false_eq_true, upI_same, upL_same, upI_ne, upL_ne, iI_ixN, zI_mk, zL_mk, zP_mk, zK_mk, zN_mk, zwI_up, zwL_up, zg_some, Nat.reduceMod, Nat.reduceDiv, zcn_I, iI_add, iI_sub, iI_mul, iI_neg, iI_lt, iI_le, iI_eq, iI_lt0, iI_le0, iI_gt0, iI_ge0, iI_eq0, r0] <;> omega)
      · exact (by simp (disch := omega) only [true_or, or_true, eq_self, Option.some.injEq, Prod.mk.injEq, zall_0, zall_1, zall_2, zob_iff, zar_iff, zis_iff, zkIs_some, zkHas_some, iI_vp, z01_I, z01_bz, zch_I, true_and, and_true, or_false, false_or, and_self, upI_same, upL_same, upI_ne, upL_ne, iI_ixN, zI_mk, zL_mk, zP_mk, zK_mk, zN_mk, zwI_up, zwL_up, zg_some, Nat.reduceMod, Nat.reduceDiv, zcn_I, iI_add, iI_sub, iI_mul, iI_neg, iI_lt, iI_le, iI_eq, iI_lt0, iI_le0, iI_gt0, iI_ge0, iI_eq0, k0] <;> omega)
      · exact (by simp (disch := omega) only [eq_self, not_true_eq_false, not_false_eq_true, upI_same, upL_same, upI_ne, upL_ne, iI_ixN, zI_mk, zL_mk, zP_mk, zK_mk, zN_mk, zwI_up, zwL_up, zg_some, Nat.reduceMod, Nat.reduceDiv, zcn_I, iI_add, iI_sub, iI_mul, iI_neg, iI_lt, iI_le, iI_eq, iI_lt0, iI_le0, iI_gt0, iI_ge0, iI_eq0, r0] <;> omega)
      · rw [zcn_I]
        exact hQ
    · rw [if_neg c2] at hQ
      refine zW.gbt [] rfl rfl rfl hd ?_ ?_ (zW.gbt [] rfl rfl rfl hd ?_ ?_ (zW.gr [] rfl rfl rfl hd trivial trivial ?_))
      · exact (by simp (disch := omega) only [true_or, or_true, eq_self, Option.some.injEq, Prod.mk.injEq, zall_0, zall_1, zall_2, zob_iff, zar_iff, zis_iff, zkIs_some, zkHas_some, iI_vp, z01_I, z01_bz, zch_I, true_and, and_true, or_false, false_or, and_self, upI_same, upL_same, upI_ne, upL_ne, iI_ixN, zI_mk, zL_mk, zP_mk, zK_mk, zN_mk, zwI_up, zwL_up, zg_some, Nat.reduceMod, Nat.reduceDiv, zcn_I, iI_add, iI_sub, iI_mul, iI_neg, iI_lt, iI_le, iI_eq, iI_lt0, iI_le0, iI_gt0, iI_ge0, iI_eq0, k0] <;> omega)
      · exact (by simp (disch := omega) only [eq_self, not_true_eq_false, not_false_eq_true, upI_same, upL_same, upI_ne, upL_ne, iI_ixN, zI_mk, zL_mk, zP_mk, zK_mk, zN_mk, zwI_up, zwL_up, zg_some, Nat.reduceMod, Nat.reduceDiv, zcn_I, iI_add, iI_sub, iI_mul, iI_neg, iI_lt, iI_le, iI_eq, iI_lt0, iI_le0, iI_gt0, iI_ge0, iI_eq0, r0] <;> omega)
      · exact (by simp (disch := omega) only [true_or, or_true, eq_self, Option.some.injEq, Prod.mk.injEq, zall_0, zall_1, zall_2, zob_iff, zar_iff, zis_iff, zkIs_some, zkHas_some, iI_vp, z01_I, z01_bz, zch_I, true_and, and_true, or_false, false_or, and_self, upI_same, upL_same, upI_ne, upL_ne, iI_ixN, zI_mk, zL_mk, zP_mk, zK_mk, zN_mk, zwI_up, zwL_up, zg_some, Nat.reduceMod, Nat.reduceDiv, zcn_I, iI_add, iI_sub, iI_mul, iI_neg, iI_lt, iI_le, iI_eq, iI_lt0, iI_le0, iI_gt0, iI_ge0, iI_eq0, k0] <;> omega)
      · exact (by simp (disch := omega) only [eq_self, not_true_eq_false, not_false_eq_true, upI_same, upL_same, upI_ne, upL_ne, iI_ixN, zI_mk, zL_mk, zP_mk, zK_mk, zN_mk, zwI_up, zwL_up, zg_some, Nat.reduceMod, Nat.reduceDiv, zcn_I, iI_add, iI_sub, iI_mul, iI_neg, iI_lt, iI_le, iI_eq, iI_lt0, iI_le0, iI_gt0, iI_ge0, iI_eq0, r0] <;> omega)
      · rw [zcn_I]
        exact hQ
theorem isResult_ok {v : Nat} {x : Int32} (hd : 1 ≤ d) (hL : RLy b R) (hk : rOK w) (hR : rPR b I w) (e : x = iI (cv (rFm w) v)) (hv : v ≤ 60399) (t : 0 < v → Q (.inl (some (zi (iI 1)))) (I, L, R)) (f : v = 0 → Q (.inl (some (zi (iI 0)))) (I, L, R)) : zS 48 d [zr (some b), zi x] (I, L, R) Q := by
  subst e
  have k0 := hL.1
  have r0 := hR.1
  have hlt := fm_lt hk
  unfold cv
  by_cases c1 : rFm w = 109
  · rw [if_pos c1]
    refine zW.gbf [] rfl rfl rfl hd ?_ ?_ (zW.gb [] rfl rfl rfl hd trivial (fun h => ?_) (fun h => ?_))
    · exact (by simp (disch := omega) only [true_or, or_true, eq_self, Option.some.injEq, Prod.mk.injEq, zall_0, zall_1, zall_2, zob_iff, zar_iff, zis_iff, zkIs_some, zkHas_some, iI_vp, z01_I, z01_bz, zch_I, true_and, and_true, or_false, false_or, and_self, upI_same, upL_same, upI_ne, upL_ne, iI_ixN, zI_mk, zL_mk, zP_mk, zK_mk, zN_mk, zwI_up, zwL_up, zg_some, Nat.reduceMod, Nat.reduceDiv, zcn_I, iI_add, iI_sub, iI_mul, iI_neg, iI_lt, iI_le, iI_eq, iI_lt0, iI_le0, iI_gt0, iI_ge0, iI_eq0, k0] <;> omega)
    · exact (by simp (disch := omega) only [eq_self, not_true_eq_false, not_false_eq_true, upI_same, upL_same, upI_ne, upL_ne, iI_ixN, zI_mk, zL_mk, zP_mk, zK_mk, zN_mk, zwI_up, zwL_up, zg_some, Nat.reduceMod, Nat.reduceDiv, zcn_I, iI_add, iI_sub, iI_mul, iI_neg, iI_lt, iI_le, iI_eq, iI_lt0, iI_le0, iI_gt0, iI_ge0, iI_eq0, r0] <;> omega)
    · simp (disch := omega) only [upI_same, upL_same, upI_ne, upL_ne, iI_ixN, zI_mk, zL_mk, zP_mk, zK_mk, zN_mk, zwI_up, zwL_up, zg_some, Nat.reduceMod, Nat.reduceDiv, zcn_I, iI_add, iI_sub, iI_mul, iI_neg, iI_lt, iI_le, iI_eq, iI_lt0, iI_le0, iI_gt0, iI_ge0, iI_eq0] at h
      refine zW.gr [] rfl rfl rfl hd trivial z01c0 ?_
      rw [zcn_I]
      exact f (by omega)
    · simp (disch := omega) only [upI_same, upL_same, upI_ne, upL_ne, iI_ixN, zI_mk, zL_mk, zP_mk, zK_mk, zN_mk, zwI_up, zwL_up, zg_some, Nat.reduceMod, Nat.reduceDiv, zcn_I, iI_add, iI_sub, iI_mul, iI_neg, iI_lt, iI_le, iI_eq, iI_lt0, iI_le0, iI_gt0, iI_ge0, iI_eq0] at h
      refine zW.gr [] rfl rfl rfl hd trivial z01c1 ?_
      rw [zcn_I]
      exact t (by omega)
  · rw [if_neg c1]
    refine zW.gbt [] rfl rfl rfl hd ?_ ?_ (zW.gb [] rfl rfl rfl hd trivial (fun h => ?_) (fun h => ?_))
    · exact (by simp (disch := omega) only [true_or, or_true, eq_self, Option.some.injEq, Prod.mk.injEq, zall_0, zall_1, zall_2, zob_iff, zar_iff, zis_iff, zkIs_some, zkHas_some, iI_vp, z01_I, z01_bz, zch_I, true_and, and_true, or_false, false_or, and_self, upI_same, upL_same, upI_ne, upL_ne, iI_ixN, zI_mk, zL_mk, zP_mk, zK_mk, zN_mk, zwI_up, zwL_up, zg_some, Nat.reduceMod, Nat.reduceDiv, zcn_I, iI_add, iI_sub, iI_mul, iI_neg, iI_lt, iI_le, iI_eq, iI_lt0, iI_le0, iI_gt0, iI_ge0, iI_eq0, k0] <;> omega)
    · exact (by simp (disch := omega) only [eq_self, not_true_eq_false, not_false_eq_true, upI_same, upL_same, upI_ne, upL_ne, iI_ixN, zI_mk, zL_mk, zP_mk, zK_mk, zN_mk, zwI_up, zwL_up, zg_some, Nat.reduceMod, Nat.reduceDiv, zcn_I, iI_add, iI_sub, iI_mul, iI_neg, iI_lt, iI_le, iI_eq, iI_lt0, iI_le0, iI_gt0, iI_ge0, iI_eq0, r0] <;> omega)
    · simp (disch := omega) only [upI_same, upL_same, upI_ne, upL_ne, iI_ixN, zI_mk, zL_mk, zP_mk, zK_mk, zN_mk, zwI_up, zwL_up, zg_some, Nat.reduceMod, Nat.reduceDiv, zcn_I, iI_add, iI_sub, iI_mul, iI_neg, iI_lt, iI_le, iI_eq, iI_lt0, iI_le0, iI_gt0, iI_ge0, iI_eq0] at h
      refine zW.gr [] rfl rfl rfl hd trivial z01c0 ?_
      rw [zcn_I]
      exact f (by omega)
    · simp (disch := omega) only [upI_same, upL_same, upI_ne, upL_ne, iI_ixN, zI_mk, zL_mk, zP_mk, zK_mk, zN_mk, zwI_up, zwL_up, zg_some, Nat.reduceMod, Nat.reduceDiv, zcn_I, iI_add, iI_sub, iI_mul, iI_neg, iI_lt, iI_le, iI_eq, iI_lt0, iI_le0, iI_gt0, iI_ge0, iI_eq0] at h
      refine zW.gr [] rfl rfl rfl hd trivial z01c1 ?_
      rw [zcn_I]
      exact t (by omega)
theorem best_lp {c : Nat} (hd : 2 ≤ d) (hL : RLy b R) (hk : rOK w) (hR : rPR b I w) (hc : c < 12) (hQ : Q (.inl (some (zi (iI (bI1 (rFm w) (bst (rRs w c) (rMa w c))))))) (I, L, R)) :
    ∀ n k, k + n = rMa w c → ∀ (x y : Int32) (v : Option zV), x = iI (bI1 (rFm w) (bst (rRs w c) k)) → y = iI (k : Int) → zW 55 d 0 0 4 [some (zr (some b)), some (zi (iI (c : Int))), some (zi x), some (zi y), v] [] (I, L, R) Q
  | 0, k, hkn, x, y, v, e1, e2 => by
    subst e1; subst e2
    obtain rfl : k = rMa w c := by omega
    obtain ⟨k0, p3, p4, p5, p6, p7, p8, k1, k14, k15, k16, k17, k18, krow⟩ := hL
    obtain ⟨m1, -⟩ := hR.2.2.2.2.2.2 c hc
    have hm := (hk.2.2.2.2 c hc).1
    have hm5 := mxA_le (rFm w)
    refine zW.gbt [] rfl rfl rfl (by omega) ?_ ?_ (zW.gr [] rfl rfl rfl (by omega) trivial trivial hQ)
    · simp (disch := omega) only [upI_same, upL_same, upI_ne, upL_ne, iI_ixN, zI_mk, zL_mk, zP_mk, zK_mk, zN_mk, zwI_up, zwL_up, zg_some, Nat.reduceMod, Nat.reduceDiv, zcn_I, iI_add, iI_sub, iI_mul, iI_neg, iI_lt, iI_le, iI_eq, iI_lt0, iI_le0, iI_gt0, iI_ge0, iI_eq0, p4]
      exact (by simp (disch := omega) only [true_or, or_true, eq_self, Option.some.injEq, Prod.mk.injEq, zall_0, zall_1, zall_2, zob_iff, zar_iff, zis_iff, zkIs_some, zkHas_some, iI_vp, z01_I, z01_bz, zch_I, true_and, and_true, or_false, false_or, and_self, upI_same, upL_same, upI_ne, upL_ne, iI_ixN, zI_mk, zL_mk, zP_mk, zK_mk, zN_mk, zwI_up, zwL_up, zg_some, Nat.reduceMod, Nat.reduceDiv, zcn_I, iI_add, iI_sub, iI_mul, iI_neg, iI_lt, iI_le, iI_eq, iI_lt0, iI_le0, iI_gt0, iI_ge0, iI_eq0, k0, p4, k14] <;> omega)
    · exact (by simp (disch := omega) only [eq_self, not_true_eq_false, not_false_eq_true, upI_same, upL_same, upI_ne, upL_ne, iI_ixN, zI_mk, zL_mk, zP_mk, zK_mk, zN_mk, zwI_up, zwL_up, zg_some, Nat.reduceMod, Nat.reduceDiv, zcn_I, iI_add, iI_sub, iI_mul, iI_neg, iI_lt, iI_le, iI_eq, iI_lt0, iI_le0, iI_gt0, iI_ge0, iI_eq0, p4, m1] <;> omega)
  | n + 1, k, hkn, x, y, v, e1, e2 => by
    subst e1; subst e2
    have hL' := hL
    obtain ⟨k0, p3, p4, p5, p6, p7, p8, k1, k14, k15, k16, k17, k18, krow⟩ := hL'
    obtain ⟨q1, q2⟩ := krow c hc
    obtain ⟨m1, -, -, -, -, m6⟩ := hR.2.2.2.2.2.2 c hc
    have hm := (hk.2.2.2.2 c hc).1
    have hres := (hk.2.2.2.2 c hc).2.1
    have hm5 := mxA_le (rFm w)
    have mk6 := m6 k (by omega)
    have hv := hres k (by omega)
    have hb := bst_le (l := rRs w c) (m := 60399) (k := k) fun i hi => hres i (by omega)
    have hstep : bst (rRs w c) (k + 1) = if 0 < rRs w c k ∧ (bst (rRs w c) k = 0 ∨ rRs w c k < bst (rRs w c) k) then rRs w c k else bst (rRs w c) k := rfl
    have nx : ∀ (o : Int32) (u : Option zV), o = iI (bI1 (rFm w) (bst (rRs w c) (k + 1))) → zW 55 d 0 0 51 [some (zr (some b)), some (zi (iI (c : Int))), some (zi o), some (zi (iI (k : Int))), u] [] (I, L, R) Q := by
      intro o u eo
      refine zW.go [4] rfl (by omega) trivial ?_
      refine best_lp hd hL hk hR hc hQ n (k + 1) (by omega) _ _ _ eo ?_
      exact (by simp (disch := omega) only [eq_self, not_true_eq_false, not_false_eq_true, upI_same, upL_same, upI_ne, upL_ne, iI_ixN, zI_mk, zL_mk, zP_mk, zK_mk, zN_mk, zwI_up, zwL_up, zg_some, Nat.reduceMod, Nat.reduceDiv, zcn_I, iI_add, iI_sub, iI_mul, iI_neg, iI_lt, iI_le, iI_eq, iI_lt0, iI_le0, iI_gt0, iI_ge0, iI_eq0] <;> omega)
    refine zW.gbf [] rfl rfl rfl (by omega) ?_ ?_ (zW.gbf [] rfl rfl rfl (by omega) trivial ?_ (zW.gz [] rfl rfl rfl (by omega) ?_ ?_ rfl rfl (Nat.le_refl _) (Nat.le_refl _) ?_))
    · simp (disch := omega) only [upI_same, upL_same, upI_ne, upL_ne, iI_ixN, zI_mk, zL_mk, zP_mk, zK_mk, zN_mk, zwI_up, zwL_up, zg_some, Nat.reduceMod, Nat.reduceDiv, zcn_I, iI_add, iI_sub, iI_mul, iI_neg, iI_lt, iI_le, iI_eq, iI_lt0, iI_le0, iI_gt0, iI_ge0, iI_eq0, p4]
      exact (by simp (disch := omega) only [true_or, or_true, eq_self, Option.some.injEq, Prod.mk.injEq, zall_0, zall_1, zall_2, zob_iff, zar_iff, zis_iff, zkIs_some, zkHas_some, iI_vp, z01_I, z01_bz, zch_I, true_and, and_true, or_false, false_or, and_self, upI_same, upL_same, upI_ne, upL_ne, iI_ixN, zI_mk, zL_mk, zP_mk, zK_mk, zN_mk, zwI_up, zwL_up, zg_some, Nat.reduceMod, Nat.reduceDiv, zcn_I, iI_add, iI_sub, iI_mul, iI_neg, iI_lt, iI_le, iI_eq, iI_lt0, iI_le0, iI_gt0, iI_ge0, iI_eq0, k0, p4, k14] <;> omega)
    · exact (by simp (disch := omega) only [eq_self, not_true_eq_false, not_false_eq_true, upI_same, upL_same, upI_ne, upL_ne, iI_ixN, zI_mk, zL_mk, zP_mk, zK_mk, zN_mk, zwI_up, zwL_up, zg_some, Nat.reduceMod, Nat.reduceDiv, zcn_I, iI_add, iI_sub, iI_mul, iI_neg, iI_lt, iI_le, iI_eq, iI_lt0, iI_le0, iI_gt0, iI_ge0, iI_eq0, p4, m1] <;> omega)
    · exact (by simp (disch := omega) only [eq_self, not_true_eq_false, not_false_eq_true, upI_same, upL_same, upI_ne, upL_ne, iI_ixN, zI_mk, zL_mk, zP_mk, zK_mk, zN_mk, zwI_up, zwL_up, zg_some, Nat.reduceMod, Nat.reduceDiv, zcn_I, iI_add, iI_sub, iI_mul, iI_neg, iI_lt, iI_le, iI_eq, iI_lt0, iI_le0, iI_gt0, iI_ge0, iI_eq0] <;> omega)
    · simp (disch := omega) only [upI_same, upL_same, upI_ne, upL_ne, iI_ixN, zI_mk, zL_mk, zP_mk, zK_mk, zN_mk, zwI_up, zwL_up, zg_some, Nat.reduceMod, Nat.reduceDiv, zcn_I, iI_add, iI_sub, iI_mul, iI_neg, iI_lt, iI_le, iI_eq, iI_lt0, iI_le0, iI_gt0, iI_ge0, iI_eq0, p3, q1]
      exact (by simp (disch := omega) only [true_or, or_true, eq_self, Option.some.injEq, Prod.mk.injEq, zall_0, zall_1, zall_2, zob_iff, zar_iff, zis_iff, zkIs_some, zkHas_some, iI_vp, z01_I, z01_bz, zch_I, true_and, and_true, or_false, false_or, and_self, upI_same, upL_same, upI_ne, upL_ne, iI_ixN, zI_mk, zL_mk, zP_mk, zK_mk, zN_mk, zwI_up, zwL_up, zg_some, Nat.reduceMod, Nat.reduceDiv, zcn_I, iI_add, iI_sub, iI_mul, iI_neg, iI_lt, iI_le, iI_eq, iI_lt0, iI_le0, iI_gt0, iI_ge0, iI_eq0, k0, p3, k1, q1, q2] <;> omega)
    · exact ⟨_, rfl, k0⟩
    · simp (disch := omega) only [upI_same, upL_same, upI_ne, upL_ne, iI_ixN, zI_mk, zL_mk, zP_mk, zK_mk, zN_mk, zwI_up, zwL_up, zg_some, Nat.reduceMod, Nat.reduceDiv, zcn_I, iI_add, iI_sub, iI_mul, iI_neg, iI_lt, iI_le, iI_eq, iI_lt0, iI_le0, iI_gt0, iI_ge0, iI_eq0, p3, q1, mk6]
      refine isResult_ok (v := rRs w c k) (by omega) hL hk hR rfl hv (fun h => ?_) (fun h => ?_)
      · refine zW.gbf [] rfl rfl rfl (by omega) trivial ?_ ?_
        · exact (by simp (disch := omega) only [eq_self, not_true_eq_false, not_false_eq_true, upI_same, upL_same, upI_ne, upL_ne, iI_ixN, zI_mk, zL_mk, zP_mk, zK_mk, zN_mk, zwI_up, zwL_up, zg_some, Nat.reduceMod, Nat.reduceDiv, zcn_I, iI_add, iI_sub, iI_mul, iI_neg, iI_lt, iI_le, iI_eq, iI_lt0, iI_le0, iI_gt0, iI_ge0, iI_eq0] <;> omega)
        · by_cases cb : bst (rRs w c) k = 0
          · have e : bI1 (rFm w) (bst (rRs w c) k) = -1 := if_pos cb
            rw [e]
            refine zW.gbt [] rfl rfl rfl (by omega) trivial ?_ (zW.go [51] rfl (by omega) trivial ?_)
            · exact (by simp (disch := omega) only [eq_self, not_true_eq_false, not_false_eq_true, upI_same, upL_same, upI_ne, upL_ne, iI_ixN, zI_mk, zL_mk, zP_mk, zK_mk, zN_mk, zwI_up, zwL_up, zg_some, Nat.reduceMod, Nat.reduceDiv, zcn_I, iI_add, iI_sub, iI_mul, iI_neg, iI_lt, iI_le, iI_eq, iI_lt0, iI_le0, iI_gt0, iI_ge0, iI_eq0] <;> omega)
            · refine nx _ _ ?_
              rw [hstep, if_pos ⟨h, Or.inl cb⟩]
              unfold bI1
              rw [if_neg (by omega)]
          · have e : bI1 (rFm w) (bst (rRs w c) k) = cv (rFm w) (bst (rRs w c) k) := if_neg cb
            rw [e]
            have ecv : ∀ x : Nat, x ≤ 60399 → -1 ≤ cv (rFm w) x ∧ cv (rFm w) x ≤ 60399 ∧ (0 < x → 0 ≤ cv (rFm w) x) := fun x hx => by
              unfold cv
              split <;> omega
            have c1 := ecv _ hv
            have c2 := ecv _ hb
            have c12 : cv (rFm w) (rRs w c k) < cv (rFm w) (bst (rRs w c) k) ↔ rRs w c k < bst (rRs w c) k := by
              unfold cv
              split <;> omega
            refine zW.gbf [] rfl rfl rfl (by omega) trivial ?_ (zW.gb [] rfl rfl rfl (by omega) trivial (fun h2 => ?_) (fun h2 => ?_))
            · exact (by simp (disch := omega) only [eq_self, not_true_eq_false, not_false_eq_true, upI_same, upL_same, upI_ne, upL_ne, iI_ixN, zI_mk, zL_mk, zP_mk, zK_mk, zN_mk, zwI_up, zwL_up, zg_some, Nat.reduceMod, Nat.reduceDiv, zcn_I, iI_add, iI_sub, iI_mul, iI_neg, iI_lt, iI_le, iI_eq, iI_lt0, iI_le0, iI_gt0, iI_ge0, iI_eq0] <;> omega)
            · simp (disch := omega) only [zcn_I, iI_add, iI_sub, iI_mul, iI_neg, iI_lt, iI_le, iI_eq, iI_lt0, iI_le0, iI_gt0, iI_ge0, iI_eq0] at h2
              refine nx _ _ ?_
              rw [hstep, if_neg (by omega)]
              unfold bI1
              rw [if_neg cb]
            · simp (disch := omega) only [zcn_I, iI_add, iI_sub, iI_mul, iI_neg, iI_lt, iI_le, iI_eq, iI_lt0, iI_le0, iI_gt0, iI_ge0, iI_eq0] at h2
              refine zW.go [51] rfl (by omega) trivial ?_
              refine nx _ _ ?_
              rw [hstep, if_pos ⟨h, by omega⟩]
              unfold bI1
              rw [if_neg (by omega)]
      · refine zW.gbt [] rfl rfl rfl (by omega) trivial ?_ (nx _ _ ?_)
        · exact (by simp (disch := omega) only [eq_self, not_true_eq_false, not_false_eq_true, upI_same, upL_same, upI_ne, upL_ne, iI_ixN, zI_mk, zL_mk, zP_mk, zK_mk, zN_mk, zwI_up, zwL_up, zg_some, Nat.reduceMod, Nat.reduceDiv, zcn_I, iI_add, iI_sub, iI_mul, iI_neg, iI_lt, iI_le, iI_eq, iI_lt0, iI_le0, iI_gt0, iI_ge0, iI_eq0] <;> omega)
        · rw [hstep, if_neg (by omega)]
theorem best_ok {c : Nat} {x : Int32} (hd : 2 ≤ d) (hL : RLy b R) (hk : rOK w) (hR : rPR b I w) (e : x = iI (c : Int)) (hc : c < 12) (hQ : Q (.inl (some (zi (iI (bI1 (rFm w) (bst (rRs w c) (rMa w c))))))) (I, L, R)) : zS 55 d [zr (some b), zi x] (I, L, R) Q := by
  subst e
  refine zW.go [4] rfl (by omega) trivial ?_
  exact best_lp hd hL hk hR hc hQ (rMa w c) 0 (by omega) _ _ _ rfl rfl
end ROUND
