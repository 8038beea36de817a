/-! The typed word of the class over the memory. -/
def WL (w : Nat) (R : zRt) : Prop := R.2.1 w = some (5, 0) ∧ R.1 w 0 = some (w + 1) ∧ R.1 w 1 = some (w + 2) ∧ R.1 w 2 = some (w + 3) ∧ R.1 w 3 = some (w + 4) ∧ R.1 w 4 = some (w + 5) ∧ R.2.1 (w + 1) = some (23, 30) ∧ R.2.1 (w + 2) = some (20, 120) ∧ R.2.1 (w + 3) = some (23, 30) ∧ R.2.1 (w + 4) = some (20, 30) ∧ R.2.1 (w + 5) = some (20, 30)
def hl (r : Nat → Int32) (l : List Nat) : Prop := ∀ i, i < l.length → r i = iI (nth l i : Int)
theorem hl_snoc {I : Nat → Nat → Int32} {a t : Nat} {l : List Nat} (h : hl (I a) l) : hl (upI I a l.length (iI (t : Int)) a) (l ++ [t]) := by
  intro i hi
  rw [List.length_append] at hi
  by_cases e : i = l.length
  · subst e
    rw [upI_same, nth_ri (Nat.le_refl _), Nat.sub_self, nth_0]
  · have hi' : i < l.length := by
      have : [t].length = 1 := rfl
      omega
    rw [upI_ne (fun q => e q.2), nth_l hi']
    exact h i hi'
/-- the turns as they stand -/
def lR (w : Nat) (I : Nat → Nat → Int32) (l : List Nat) : Prop := I w 6 = iI (l.length : Int) ∧ hl (I (w + 2)) l
/-- only turns were written -/
def lfr (w : Nat) (I I' : Nat → Nat → Int32) : Prop := (∀ b, b ≠ w → b ≠ w + 2 → I' b = I b) ∧ ∀ k, k ≠ 6 → I' w k = I w k
theorem lfr_rf (w : Nat) (I : Nat → Nat → Int32) : lfr w I I := ⟨fun _ _ _ => rfl, fun _ _ => rfl⟩
theorem lfr_tr {w : Nat} {I I1 I2 : Nat → Nat → Int32} (h1 : lfr w I I1) (h2 : lfr w I1 I2) : lfr w I I2 := ⟨fun b x y => (h2.1 b x y).trans (h1.1 b x y), fun k x => (h2.2 k x).trans (h1.2 k x)⟩
section WORD
variable {d w : Nat} {I : Nat → Nat → Int32} {L : Nat → Nat → Int64} {R : zRt} {Q : zO → zM → Prop}
theorem isLetter_ok {n : Int} {x : Int32} {M : zM} (hd : 1 ≤ d) (e : x = iI n) (h0 : 0 ≤ n) (h1 : n < 65536) (t : 65 ≤ n ∧ n ≤ 68 → Q (.inl (some (zi (iI 1)))) M) (f : ¬ (65 ≤ n ∧ n ≤ 68) → Q (.inl (some (zi (iI 0)))) M) : zS 83 d [zi x] M Q := by
  subst e
  refine zW.gb [] rfl rfl rfl hd trivial (fun h => ?_) (fun h => ?_) <;> simp (disch := omega) only [zcn_I, iI_add, iI_sub, iI_mul, iI_neg, iI_lt, iI_le, iI_eq, iI_lt0, iI_le0, iI_gt0, iI_ge0, iI_eq0] at h
  · refine zW.gr [] rfl rfl rfl hd trivial z01c0 ?_
    rw [zcn_I]
    exact f (by omega)
  · refine zW.gb [] rfl rfl rfl hd trivial (fun h' => ?_) (fun h' => ?_) <;> simp (disch := omega) only [zcn_I, iI_add, iI_sub, iI_mul, iI_neg, iI_lt, iI_le, iI_eq, iI_lt0, iI_le0, iI_gt0, iI_ge0, iI_eq0] at h'
    · refine zW.gr [] rfl rfl rfl hd trivial z01c0 ?_
      rw [zcn_I]
      exact f (by omega)
    · refine zW.gr [] rfl rfl rfl hd trivial z01c1 ?_
      rw [zcn_I]
      exact t (by omega)
theorem isDigit_ok {n : Int} {x : Int32} {M : zM} (hd : 1 ≤ d) (e : x = iI n) (h0 : 0 ≤ n) (h1 : n < 65536) (t : 50 ≤ n ∧ n ≤ 57 → Q (.inl (some (zi (iI 1)))) M) (f : ¬ (50 ≤ n ∧ n ≤ 57) → Q (.inl (some (zi (iI 0)))) M) : zS 84 d [zi x] M Q := by
  subst e
  refine zW.gb [] rfl rfl rfl hd trivial (fun h => ?_) (fun h => ?_) <;> simp (disch := omega) only [zcn_I, iI_add, iI_sub, iI_mul, iI_neg, iI_lt, iI_le, iI_eq, iI_lt0, iI_le0, iI_gt0, iI_ge0, iI_eq0] at h
  · refine zW.gr [] rfl rfl rfl hd trivial z01c0 ?_
    rw [zcn_I]
    exact f (by omega)
  · refine zW.gb [] rfl rfl rfl hd trivial (fun h' => ?_) (fun h' => ?_) <;> simp (disch := omega) only [zcn_I, iI_add, iI_sub, iI_mul, iI_neg, iI_lt, iI_le, iI_eq, iI_lt0, iI_le0, iI_gt0, iI_ge0, iI_eq0] at h'
    · refine zW.gr [] rfl rfl rfl hd trivial z01c0 ?_
      rw [zcn_I]
      exact f (by omega)
    · refine zW.gr [] rfl rfl rfl hd trivial z01c1 ?_
      rw [zcn_I]
      exact t (by omega)
theorem endPart_ok (hd : 1 ≤ d) (hW : WL w R) (hQ : Q (.inl none) (upI (upI I w 9 (iI 0)) w 10 (iI 0), L, R)) : zS 87 d [zr (some w)] (I, L, R) Q := by
  obtain ⟨k0, p0, p1, p2, p3, p4, k1, k2, k3, k4, k5⟩ := hW
  refine zW.gr [] rfl rfl rfl hd ?_ trivial ?_
  · exact (by simp (disch := omega) only [true_or, or_true, eq_self, Option.some.injEq, Prod.mk.injEq, zall_0, zall_1, zall_2, zob_iff, zar_iff, zis_iff, zkIs_some, zkHas_some, iI_vp, z01_I, z01_bz, zch_I, true_and, and_true, or_false, false_or, and_self, upI_same, upL_same, upI_ne, upL_ne, iI_ixN, zI_mk, zL_mk, zP_mk, zK_mk, zN_mk, zwI_up, zwL_up, zg_some, Nat.reduceMod, Nat.reduceDiv, zcn_I, iI_add, iI_sub, iI_mul, iI_neg, iI_lt, iI_le, iI_eq, iI_lt0, iI_le0, iI_gt0, iI_ge0, iI_eq0, k0] <;> omega)
  · simp (disch := omega) only [upI_same, upL_same, upI_ne, upL_ne, iI_ixN, zI_mk, zL_mk, zP_mk, zK_mk, zN_mk, zwI_up, zwL_up, zg_some, Nat.reduceMod, Nat.reduceDiv, zcn_I, iI_add, iI_sub, iI_mul, iI_neg, iI_lt, iI_le, iI_eq, iI_lt0, iI_le0, iI_gt0, iI_ge0, iI_eq0]
    exact hQ
theorem beginTail_ok {x : Int32} (hd : 1 ≤ d) (hW : WL w R) (hQ : Q (.inl none) (upI (upI (upI I w 8 x) w 9 (iI 1)) w 10 (iI 1), L, R)) : zS 88 d [zr (some w), zi x] (I, L, R) Q := by
  obtain ⟨k0, p0, p1, p2, p3, p4, k1, k2, k3, k4, k5⟩ := hW
  refine zW.gr [] rfl rfl rfl hd ?_ trivial ?_
  · exact (by simp (disch := omega) only [true_or, or_true, eq_self, Option.some.injEq, Prod.mk.injEq, zall_0, zall_1, zall_2, zob_iff, zar_iff, zis_iff, zkIs_some, zkHas_some, iI_vp, z01_I, z01_bz, zch_I, true_and, and_true, or_false, false_or, and_self, upI_same, upL_same, upI_ne, upL_ne, iI_ixN, zI_mk, zL_mk, zP_mk, zK_mk, zN_mk, zwI_up, zwL_up, zg_some, Nat.reduceMod, Nat.reduceDiv, zcn_I, iI_add, iI_sub, iI_mul, iI_neg, iI_lt, iI_le, iI_eq, iI_lt0, iI_le0, iI_gt0, iI_ge0, iI_eq0, k0] <;> omega)
  · simp (disch := omega) only [upI_same, upL_same, upI_ne, upL_ne, iI_ixN, zI_mk, zL_mk, zP_mk, zK_mk, zN_mk, zwI_up, zwL_up, zg_some, Nat.reduceMod, Nat.reduceDiv, zcn_I, iI_add, iI_sub, iI_mul, iI_neg, iI_lt, iI_le, iI_eq, iI_lt0, iI_le0, iI_gt0, iI_ge0, iI_eq0]
    exact hQ
theorem add_ok {x : Int32} {t : Nat} {l : List Nat} (hd : 1 ≤ d) (hW : WL w R) (e : x = iI (t : Int)) (hl : lR w I l) (hn : l.length ≤ 120) (h1 : l.length < 120 → ∀ I', lfr w I I' → lR w I' (l ++ [t]) → Q (.inl (some (zi (iI 1)))) (I', L, R)) (h0 : l.length = 120 → Q (.inl (some (zi (iI 0)))) (I, L, R)) : zS 89 d [zr (some w), zi x] (I, L, R) Q := by
  subst e
  obtain ⟨k0, p0, p1, p2, p3, p4, k1, k2, k3, k4, k5⟩ := hW
  obtain ⟨l1, l2⟩ := hl
  refine zW.gb [] rfl rfl rfl hd ?_ (fun h => ?_) (fun h => ?_)
  · exact (by simp (disch := omega) only [true_or, or_true, eq_self, Option.some.injEq, Prod.mk.injEq, zall_0, zall_1, zall_2, zob_iff, zar_iff, zis_iff, zkIs_some, zkHas_some, iI_vp, z01_I, z01_bz, zch_I, true_and, and_true, or_false, false_or, and_self, upI_same, upL_same, upI_ne, upL_ne, iI_ixN, zI_mk, zL_mk, zP_mk, zK_mk, zN_mk, zwI_up, zwL_up, zg_some, Nat.reduceMod, Nat.reduceDiv, zcn_I, iI_add, iI_sub, iI_mul, iI_neg, iI_lt, iI_le, iI_eq, iI_lt0, iI_le0, iI_gt0, iI_ge0, iI_eq0, k0] <;> omega)
  · simp (disch := omega) only [upI_same, upL_same, upI_ne, upL_ne, iI_ixN, zI_mk, zL_mk, zP_mk, zK_mk, zN_mk, zwI_up, zwL_up, zg_some, Nat.reduceMod, Nat.reduceDiv, zcn_I, iI_add, iI_sub, iI_mul, iI_neg, iI_lt, iI_le, iI_eq, iI_lt0, iI_le0, iI_gt0, iI_ge0, iI_eq0, l1] at h
    refine zW.gr [] rfl rfl rfl hd ?_ z01c1 ?_
    · exact (by simp (disch := omega) only [true_or, or_true, eq_self, Option.some.injEq, Prod.mk.injEq, zall_0, zall_1, zall_2, zob_iff, zar_iff, zis_iff, zkIs_some, zkHas_some, iI_vp, z01_I, z01_bz, zch_I, true_and, and_true, or_false, false_or, and_self, upI_same, upL_same, upI_ne, upL_ne, iI_ixN, zI_mk, zL_mk, zP_mk, zK_mk, zN_mk, zwI_up, zwL_up, zg_some, Nat.reduceMod, Nat.reduceDiv, zcn_I, iI_add, iI_sub, iI_mul, iI_neg, iI_lt, iI_le, iI_eq, iI_lt0, iI_le0, iI_gt0, iI_ge0, iI_eq0, k0, p1, k2, l1] <;> omega)
    · simp (disch := omega) only [upI_same, upL_same, upI_ne, upL_ne, iI_ixN, zI_mk, zL_mk, zP_mk, zK_mk, zN_mk, zwI_up, zwL_up, zg_some, Nat.reduceMod, Nat.reduceDiv, zcn_I, iI_add, iI_sub, iI_mul, iI_neg, iI_lt, iI_le, iI_eq, iI_lt0, iI_le0, iI_gt0, iI_ge0, iI_eq0, p1, l1]
      refine h1 (by omega) _ ⟨fun b q1 q2 => ?_, fun k q => ?_⟩ ⟨?_, ?_⟩
      · rw [upI_row q1, upI_row q2]
      · rw [upI_ne (by omega), upI_ne (by omega)]
      · rw [upI_same, List.length_append]
        rfl
      · rw [upI_row (by omega)]
        exact hl_snoc l2
  · simp (disch := omega) only [upI_same, upL_same, upI_ne, upL_ne, iI_ixN, zI_mk, zL_mk, zP_mk, zK_mk, zN_mk, zwI_up, zwL_up, zg_some, Nat.reduceMod, Nat.reduceDiv, zcn_I, iI_add, iI_sub, iI_mul, iI_neg, iI_lt, iI_le, iI_eq, iI_lt0, iI_le0, iI_gt0, iI_ge0, iI_eq0, l1] at h
    refine zW.gr [] rfl rfl rfl hd trivial z01c0 ?_
    rw [zcn_I]
    exact h0 (by omega)
/-- turns from t - 1 down to f, back, behind the others -/
theorem addBack_lp {f t : Nat} {l : List Nat} (hd : 2 ≤ d) (hW : WL w R) (hl8 : ∀ x, x ∈ l → x < 8) (hft : f ≤ t) (ht : t ≤ l.length) (hn : l.length ≤ 120)
    (h1 : ∀ l', spA l (bk l f t) = some l' → ∀ I', lfr w I I' → lR w I' l' → Q (.inl (some (zi (iI 1)))) (I', L, R)) (h0 : spA l (bk l f t) = none → ∀ I', lfr w I I' → Q (.inl (some (zi (iI 0)))) (I', L, R)) :
    ∀ n i, f + n = i → i ≤ t → l.length + (t - i) ≤ 120 → ∀ (I1 : Nat → Nat → Int32) (x : Int32), lfr w I I1 → lR w I1 (l ++ bk l i t) → x = iI ((i : Int) - 1) → zW 90 d 0 0 4 [some (zr (some w)), some (zi (iI (f : Int))), some (zi (iI (t : Int))), some (zi x)] [] (I1, L, R) Q
  | 0, i, hi, hit, hle, I1, x, r1, r2, e => by
    subst e
    obtain rfl : f = i := by omega
    refine zW.gbt [] rfl rfl rfl (by omega) trivial ?_ (zW.gr [] rfl rfl rfl (by omega) trivial z01c1 ?_)
    · exact (by simp (disch := omega) only [eq_self, not_true_eq_false, not_false_eq_true, upI_same, upL_same, upI_ne, upL_ne, iI_ixN, zI_mk, zL_mk, zP_mk, zK_mk, zN_mk, zwI_up, zwL_up, zg_some, Nat.reduceMod, Nat.reduceDiv, zcn_I, iI_add, iI_sub, iI_mul, iI_neg, iI_lt, iI_le, iI_eq, iI_lt0, iI_le0, iI_gt0, iI_ge0, iI_eq0] <;> omega)
    · rw [zcn_I]
      refine h1 _ (spA_of ?_) _ r1 r2
      rw [bk_len ht]
      omega
  | n + 1, i, hi, hit, hle, I1, x, r1, r2, e => by
    subst e
    have hlen : (l ++ bk l i t).length = l.length + (t - i) := by rw [List.length_append, bk_len ht]
    have r2' := r2
    obtain ⟨l1, l2⟩ := r2'
    have hrd : I1 (w + 2) (i - 1) = iI (nth l (i - 1) : Int) := by
      rw [l2 (i - 1) (by omega), nth_l (by omega)]
    have ht8 := hl8 _ (nth_mem (l := l) (i := i - 1) (by omega))
    have hW' := hW
    obtain ⟨k0, p0, p1, p2, p3, p4, k1, k2, k3, k4, k5⟩ := hW'
    refine zW.gbf [] rfl rfl rfl (by omega) trivial ?_ (zW.gbf [] rfl rfl rfl (by omega) trivial ?_ (zW.gbf [] rfl rfl rfl (by omega) trivial ?_ ?_))
    · exact (by simp (disch := omega) only [eq_self, not_true_eq_false, not_false_eq_true, upI_same, upL_same, upI_ne, upL_ne, iI_ixN, zI_mk, zL_mk, zP_mk, zK_mk, zN_mk, zwI_up, zwL_up, zg_some, Nat.reduceMod, Nat.reduceDiv, zcn_I, iI_add, iI_sub, iI_mul, iI_neg, iI_lt, iI_le, iI_eq, iI_lt0, iI_le0, iI_gt0, iI_ge0, iI_eq0] <;> omega)
    · exact (by simp (disch := omega) only [eq_self, not_true_eq_false, not_false_eq_true, upI_same, upL_same, upI_ne, upL_ne, iI_ixN, zI_mk, zL_mk, zP_mk, zK_mk, zN_mk, zwI_up, zwL_up, zg_some, Nat.reduceMod, Nat.reduceDiv, zcn_I, iI_add, iI_sub, iI_mul, iI_neg, iI_lt, iI_le, iI_eq, iI_lt0, iI_le0, iI_gt0, iI_ge0, iI_eq0] <;> omega)
    · exact (by simp (disch := omega) only [eq_self, not_true_eq_false, not_false_eq_true, upI_same, upL_same, upI_ne, upL_ne, iI_ixN, zI_mk, zL_mk, zP_mk, zK_mk, zN_mk, zwI_up, zwL_up, zg_some, Nat.reduceMod, Nat.reduceDiv, zcn_I, iI_add, iI_sub, iI_mul, iI_neg, iI_lt, iI_le, iI_eq, iI_lt0, iI_le0, iI_gt0, iI_ge0, iI_eq0] <;> omega)
    · refine zW.gz [] rfl rfl rfl hd ?_ ?_ rfl rfl (Nat.le_refl _) (Nat.le_refl _) ?_
      · exact (by simp (disch := omega) only [true_or, or_true, eq_self, Option.some.injEq, Prod.mk.injEq, zall_0, zall_1, zall_2, zob_iff, zar_iff, zis_iff, zkIs_some, zkHas_some, iI_vp, z01_I, z01_bz, zch_I, true_and, and_true, or_false, false_or, and_self, upI_same, upL_same, upI_ne, upL_ne, iI_ixN, zI_mk, zL_mk, zP_mk, zK_mk, zN_mk, zwI_up, zwL_up, zg_some, Nat.reduceMod, Nat.reduceDiv, zcn_I, iI_add, iI_sub, iI_mul, iI_neg, iI_lt, iI_le, iI_eq, iI_lt0, iI_le0, iI_gt0, iI_ge0, iI_eq0, k0, p1, k2] <;> omega)
      · exact ⟨_, rfl, k0⟩
      · have e1 : (i : Int) - 1 = ((i - 1 : Nat) : Int) := by omega
        refine add_ok (t := fl (nth l (i - 1))) (l := l ++ bk l i t) (by omega) hW ?_ r2 (by omega) (fun h I2 q1 q2 => ?_) (fun h => ?_)
        · rw [e1]
          simp (disch := omega) only [upI_same, upL_same, upI_ne, upL_ne, iI_ixN, zI_mk, zL_mk, zP_mk, zK_mk, zN_mk, zwI_up, zwL_up, zg_some, Nat.reduceMod, Nat.reduceDiv, zcn_I, iI_add, iI_sub, iI_mul, iI_neg, iI_lt, iI_le, iI_eq, iI_lt0, iI_le0, iI_gt0, iI_ge0, iI_eq0, p1, hrd]
          exact fl_I _ ht8
        · refine zW.gbt [] rfl rfl rfl (by omega) trivial ?_ (zW.go [4] rfl (by omega) trivial ?_)
          · exact (by simp (disch := omega) only [eq_self, not_true_eq_false, not_false_eq_true, upI_same, upL_same, upI_ne, upL_ne, iI_ixN, zI_mk, zL_mk, zP_mk, zK_mk, zN_mk, zwI_up, zwL_up, zg_some, Nat.reduceMod, Nat.reduceDiv, zcn_I, iI_add, iI_sub, iI_mul, iI_neg, iI_lt, iI_le, iI_eq, iI_lt0, iI_le0, iI_gt0, iI_ge0, iI_eq0] <;> omega)
          · refine addBack_lp hd hW hl8 hft ht hn h1 h0 n (i - 1) (by omega) (by omega) (by omega) I2 _ (lfr_tr r1 q1) ?_ ?_
            · rw [bk_step ht (by omega : i - 1 < t), show i - 1 + 1 = i by omega, ← List.append_assoc]
              exact q2
            · rw [e1]
              exact (by simp (disch := omega) only [eq_self, not_true_eq_false, not_false_eq_true, upI_same, upL_same, upI_ne, upL_ne, iI_ixN, zI_mk, zL_mk, zP_mk, zK_mk, zN_mk, zwI_up, zwL_up, zg_some, Nat.reduceMod, Nat.reduceDiv, zcn_I, iI_add, iI_sub, iI_mul, iI_neg, iI_lt, iI_le, iI_eq, iI_lt0, iI_le0, iI_gt0, iI_ge0, iI_eq0] <;> omega)
        · refine zW.gbf [] rfl rfl rfl (by omega) trivial ?_ (zW.gr [] rfl rfl rfl (by omega) trivial z01c0 ?_)
          · exact (by simp (disch := omega) only [eq_self, not_true_eq_false, not_false_eq_true, upI_same, upL_same, upI_ne, upL_ne, iI_ixN, zI_mk, zL_mk, zP_mk, zK_mk, zN_mk, zwI_up, zwL_up, zg_some, Nat.reduceMod, Nat.reduceDiv, zcn_I, iI_add, iI_sub, iI_mul, iI_neg, iI_lt, iI_le, iI_eq, iI_lt0, iI_le0, iI_gt0, iI_ge0, iI_eq0] <;> omega)
          · rw [zcn_I]
            refine h0 (spA_no ?_) _ r1
            rw [bk_len ht]
            omega
theorem addBack_ok {f t : Nat} {l : List Nat} {x z : Int32} (hd : 2 ≤ d) (hW : WL w R) (e1 : x = iI (f : Int)) (e2 : z = iI (t : Int)) (hl8 : ∀ x, x ∈ l → x < 8) (hft : f ≤ t) (ht : t ≤ l.length) (hn : l.length ≤ 120) (hl : lR w I l)
    (h1 : ∀ l', spA l (bk l f t) = some l' → ∀ I', lfr w I I' → lR w I' l' → Q (.inl (some (zi (iI 1)))) (I', L, R)) (h0 : spA l (bk l f t) = none → ∀ I', lfr w I I' → Q (.inl (some (zi (iI 0)))) (I', L, R)) : zS 90 d [zr (some w), zi x, zi z] (I, L, R) Q := by
  subst e1; subst e2
  refine zW.go [4] rfl (by omega) trivial ?_
  refine addBack_lp hd hW hl8 hft ht hn h1 h0 (t - f) t (by omega) (Nat.le_refl _) (by omega) I _ (lfr_rf w I) ?_ ?_
  · rw [bk_self, List.append_nil]
    exact hl
  · rw [zcn_I, iI_sub]
end WORD
