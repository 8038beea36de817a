/-! The model's rounds: the best, averages, may more be made. -/
section MRD
variable {d y : Nat} {T : tfT} {I : Nat → Nat → Int32} {L : Nat → Nat → Int64} {R : zRt} {Q : zO → zM → Prop}
theorem m_rd {j : Nat} (h : mf y T (I, L, R)) (hj : j < tRn T) : j < 8 ∧ rOK (tRd T j) ∧ (∀ c, tCn T ≤ c → c < 12 → rMa (tRd T j) c = 0) ∧ mRd y j I (tRd T j) := ⟨by have := h.1.2.2.2.2.1.1; omega, (h.1.2.2.2.2.1.2 j hj).1, (h.1.2.2.2.2.1.2 j hj).2, h.2.2.2.2.2.2.2.1.2.1 j hj⟩
theorem mBest_lp {j c : Nat} (hd : 1 ≤ d) (h : mf y T (I, L, R)) (hj : j < tRn T) (hc : c < 12) (hQ : Q (.inl (some (zi (iI (rBs (tRd T j) c : Int))))) (I, L, R)) :
    ∀ n k, k + n = rMa (tRd T j) c → ∀ (x z : Int32) (v : Option zV), x = iI (bst (rRs (tRd T j) c) k : Int) → z = iI (k : Int) → zW 234 d 0 0 5 [some (zr (some y)), some (zi (iI (j : Int))), some (zi (iI (c : Int))), some (zi x), some (zi z), v] [] (I, L, R) Q
  | 0, k, hk, x, z, v, e1, e2 => by
    subst e1; subst e2
    have hM := h.2.1
    have k0 : R.2.1 y = some (7, 0) := hM.1
    obtain ⟨j8, ho, -, r1, r2, r3, r4, r5, r6, r7⟩ := m_rd h hj
    have ma := (r7 c hc).1
    have hm5 := (ho.2.2.2.2 c hc).1
    have hx5 := mxA_le (rFm (tRd T j))
    have p26 : R.1 y 26 = some (y + 1791) := (hM.2.1 26 (by decide)).1; have k26 : R.2.1 (y + 1791) = some (25, 8) := (hM.2.1 26 (by decide)).2; have q26 : R.1 (y + 1791) (j) = some (y + 1792 + j) := (hM.2.2.2.2.2.2.2.2.2.1 (j) (by omega)).1.trans (congrArg some (by omega)); have j26 : R.2.1 (y + 1792 + j) = some (20, 12) := (congrArg R.2.1 (by omega)).trans (hM.2.2.2.2.2.2.2.2.2.1 (j) (by omega)).2
    obtain rfl : k = rMa (tRd T j) c := by omega
    refine zW.gbt [] rfl rfl rfl (by omega) (by simp (disch := omega) only [true_or, or_true, eq_self, Option.some.injEq, Prod.mk.injEq, zall_0, zall_1, zall_2, zob_iff, zar_iff, zis_iff, zkIs_some, zkHas_some, iI_vp, z01_I, z01_bz, zch_I, true_and, and_true, or_false, false_or, and_self, upI_same, upL_same, upI_ne, upL_ne, iI_ixN, zI_mk, zL_mk, zP_mk, zK_mk, zN_mk, zwI_up, zwL_up, zg_some, Nat.reduceMod, Nat.reduceDiv, zcn_I, iI_add, iI_sub, iI_mul, iI_neg, iI_lt, iI_le, iI_eq, iI_lt0, iI_le0, iI_gt0, iI_ge0, iI_eq0, k0, p26, k26, q26, j26] <;> omega) (by simp (disch := omega) only [eq_self, not_true_eq_false, not_false_eq_true, upI_same, upL_same, upI_ne, upL_ne, iI_ixN, zI_mk, zL_mk, zP_mk, zK_mk, zN_mk, zwI_up, zwL_up, zg_some, Nat.reduceMod, Nat.reduceDiv, zcn_I, iI_add, iI_sub, iI_mul, iI_neg, iI_lt, iI_le, iI_eq, iI_lt0, iI_le0, iI_gt0, iI_ge0, iI_eq0, p26, q26, ma] <;> omega) ?_
    exact zW.gr [] rfl rfl rfl (by omega) trivial trivial hQ
  | n + 1, k, hk, x, z, v, e1, e2 => by
    subst e1; subst e2
    have hM := h.2.1
    have k0 : R.2.1 y = some (7, 0) := hM.1
    obtain ⟨j8, ho, -, r1, r2, r3, r4, r5, r6, r7⟩ := m_rd h hj
    have ma := (r7 c hc).1
    have hm5 := (ho.2.2.2.2 c hc).1
    have hx5 := mxA_le (rFm (tRd T j))
    have vk := (r7 c hc).2.2.2.2.2 k (by omega)
    have lk := (ho.2.2.2.2 c hc).2.1 k (by omega)
    have lb := bst_le (l := rRs (tRd T j) c) (m := 60399) (k := k) (fun i hi => (ho.2.2.2.2 c hc).2.1 i (by omega))
    have p26 : R.1 y 26 = some (y + 1791) := (hM.2.1 26 (by decide)).1; have k26 : R.2.1 (y + 1791) = some (25, 8) := (hM.2.1 26 (by decide)).2; have q26 : R.1 (y + 1791) (j) = some (y + 1792 + j) := (hM.2.2.2.2.2.2.2.2.2.1 (j) (by omega)).1.trans (congrArg some (by omega)); have j26 : R.2.1 (y + 1792 + j) = some (20, 12) := (congrArg R.2.1 (by omega)).trans (hM.2.2.2.2.2.2.2.2.2.1 (j) (by omega)).2; have p27 : R.1 y 27 = some (y + 1800) := (hM.2.1 27 (by decide)).1; have k27 : R.2.1 (y + 1800) = some (26, 8) := (hM.2.1 27 (by decide)).2; have q27 : R.1 (y + 1800) (j) = some (y + 1801 + 13 * j) := (hM.2.2.2.2.2.2.2.2.2.2.1 (j) (by omega)).1.trans (congrArg some (by omega)); have j27 : R.2.1 (y + 1801 + 13 * j) = some (25, 12) := (congrArg R.2.1 (by omega)).trans (hM.2.2.2.2.2.2.2.2.2.2.1 (j) (by omega)).2.1; have r27 : R.1 (y + 1801 + 13 * j) (c) = some (y + 1802 + 13 * j + c) := (congrFun (congrArg R.1 (show y + 1801 + 13 * j = y + 1800 + 1 + 13 * j by omega)) (c)).trans ((((hM.2.2.2.2.2.2.2.2.2.2.1 (j) (by omega)).2.2 (c) (by omega)).1).trans (congrArg some (by omega))); have s27 : R.2.1 (y + 1802 + 13 * j + c) = some (20, 5) := (congrArg R.2.1 (by omega)).trans ((hM.2.2.2.2.2.2.2.2.2.2.1 (j) (by omega)).2.2 (c) (by omega)).2
    have NX : ∀ (u : Int32) (w : Option zV), u = iI (bst (rRs (tRd T j) c) (k + 1) : Int) → zW 234 d 0 0 52 [some (zr (some y)), some (zi (iI (j : Int))), some (zi (iI (c : Int))), some (zi (iI (bst (rRs (tRd T j) c) k : Int))), some (zi (iI (k : Int))), w] [zi u] (I, L, R) Q := fun u w hu => by
      refine zW.go [5] rfl (by omega) trivial ?_
      exact mBest_lp hd h hj hc hQ n (k + 1) (by omega) _ _ _ hu (by rw [zcn_I, iI_add]; rfl)
    refine zW.gbf [] rfl rfl rfl (by omega) (by simp (disch := omega) only [true_or, or_true, eq_self, Option.some.injEq, Prod.mk.injEq, zall_0, zall_1, zall_2, zob_iff, zar_iff, zis_iff, zkIs_some, zkHas_some, iI_vp, z01_I, z01_bz, zch_I, true_and, and_true, or_false, false_or, and_self, upI_same, upL_same, upI_ne, upL_ne, iI_ixN, zI_mk, zL_mk, zP_mk, zK_mk, zN_mk, zwI_up, zwL_up, zg_some, Nat.reduceMod, Nat.reduceDiv, zcn_I, iI_add, iI_sub, iI_mul, iI_neg, iI_lt, iI_le, iI_eq, iI_lt0, iI_le0, iI_gt0, iI_ge0, iI_eq0, k0, p26, k26, q26, j26] <;> omega) (by simp (disch := omega) only [eq_self, not_true_eq_false, not_false_eq_true, upI_same, upL_same, upI_ne, upL_ne, iI_ixN, zI_mk, zL_mk, zP_mk, zK_mk, zN_mk, zwI_up, zwL_up, zg_some, Nat.reduceMod, Nat.reduceDiv, zcn_I, iI_add, iI_sub, iI_mul, iI_neg, iI_lt, iI_le, iI_eq, iI_lt0, iI_le0, iI_gt0, iI_ge0, iI_eq0, p26, q26, ma] <;> omega) ?_
    have eb : bst (rRs (tRd T j) c) (k + 1) = if 0 < rRs (tRd T j) c k ∧ (bst (rRs (tRd T j) c) k = 0 ∨ rRs (tRd T j) c k < bst (rRs (tRd T j) c) k) then rRs (tRd T j) c k else bst (rRs (tRd T j) c) k := rfl
    refine zW.gb [] rfl rfl rfl (by omega) (by simp (disch := omega) only [true_or, or_true, eq_self, Option.some.injEq, Prod.mk.injEq, zall_0, zall_1, zall_2, zob_iff, zar_iff, zis_iff, zkIs_some, zkHas_some, iI_vp, z01_I, z01_bz, zch_I, true_and, and_true, or_false, false_or, and_self, upI_same, upL_same, upI_ne, upL_ne, iI_ixN, zI_mk, zL_mk, zP_mk, zK_mk, zN_mk, zwI_up, zwL_up, zg_some, Nat.reduceMod, Nat.reduceDiv, zcn_I, iI_add, iI_sub, iI_mul, iI_neg, iI_lt, iI_le, iI_eq, iI_lt0, iI_le0, iI_gt0, iI_ge0, iI_eq0, k0, p27, k27, q27, j27, r27, s27] <;> omega) (fun h' => ?_) (fun h' => ?_)
    · simp (disch := omega) only [zcn_I, iI_add, iI_sub, iI_mul, iI_neg, iI_lt, iI_le, iI_eq, iI_lt0, iI_le0, iI_gt0, iI_ge0, iI_eq0, upI_same, upL_same, upI_ne, upL_ne, iI_ixN, zI_mk, zL_mk, zP_mk, zK_mk, zN_mk, zwI_up, zwL_up, zg_some, Nat.reduceMod, Nat.reduceDiv, p27, q27, r27, vk] at h'
      refine zW.go [52] rfl (by omega) trivial (NX _ _ ?_)
      rw [eb, if_neg (by omega)]
    · simp (disch := omega) only [zcn_I, iI_add, iI_sub, iI_mul, iI_neg, iI_lt, iI_le, iI_eq, iI_lt0, iI_le0, iI_gt0, iI_ge0, iI_eq0, upI_same, upL_same, upI_ne, upL_ne, iI_ixN, zI_mk, zL_mk, zP_mk, zK_mk, zN_mk, zwI_up, zwL_up, zg_some, Nat.reduceMod, Nat.reduceDiv, p27, q27, r27, vk] at h'
      simp (disch := omega) only [upI_same, upL_same, upI_ne, upL_ne, iI_ixN, zI_mk, zL_mk, zP_mk, zK_mk, zN_mk, zwI_up, zwL_up, zg_some, Nat.reduceMod, Nat.reduceDiv, p27, q27, r27, vk]
      refine zW.gb [] rfl rfl rfl (by omega) trivial (fun h2 => ?_) (fun h2 => ?_)
      · simp (disch := omega) only [zcn_I, iI_add, iI_sub, iI_mul, iI_neg, iI_lt, iI_le, iI_eq, iI_lt0, iI_le0, iI_gt0, iI_ge0, iI_eq0] at h2
        refine zW.go [52] rfl (by omega) trivial (NX _ _ ?_)
        rw [eb, if_pos (by omega)]
      · simp (disch := omega) only [zcn_I, iI_add, iI_sub, iI_mul, iI_neg, iI_lt, iI_le, iI_eq, iI_lt0, iI_le0, iI_gt0, iI_ge0, iI_eq0] at h2
        refine zW.gb [] rfl rfl rfl (by omega) trivial (fun h3 => ?_) (fun h3 => ?_)
        · simp (disch := omega) only [zcn_I, iI_add, iI_sub, iI_mul, iI_neg, iI_lt, iI_le, iI_eq, iI_lt0, iI_le0, iI_gt0, iI_ge0, iI_eq0] at h3
          refine zW.go [52] rfl (by omega) trivial (NX _ _ ?_)
          rw [eb, if_neg (by omega)]
        · simp (disch := omega) only [zcn_I, iI_add, iI_sub, iI_mul, iI_neg, iI_lt, iI_le, iI_eq, iI_lt0, iI_le0, iI_gt0, iI_ge0, iI_eq0] at h3
          refine zW.go [52] rfl (by omega) trivial (NX _ _ ?_)
          rw [eb, if_pos (by omega)]
theorem mBest_ok {j c : Nat} {a b : Int32} (hd : 1 ≤ d) (h : mf y T (I, L, R)) (hj : j < tRn T) (e1 : a = iI (j : Int)) (e2 : b = iI (c : Int)) (hc : c < 12) (hQ : Q (.inl (some (zi (iI (rBs (tRd T j) c : Int))))) (I, L, R)) : zS 234 d [zr (some y), zi a, zi b] (I, L, R) Q := by
  subst e1; subst e2
  refine zW.go [5] rfl (by omega) trivial ?_
  exact mBest_lp hd h hj hc hQ (rMa (tRd T j) c) 0 (by omega) _ _ _ (zcn_I _) (zcn_I _)
theorem mAvg_end {j c : Nat} {z : Int32} {v9 v10 : Option zV} (hd : 2 ≤ d) (h : mf y T (I, L, R)) (hj : j < tRn T) (hc : c < 12) (hQ : Q (.inl (some (zi (iI (rAv (tRd T j) c : Int))))) (I, L, R)) : zW 235 d 0 0 95 [some (zr (some y)), some (zi (iI (j : Int))), some (zi (iI (c : Int))), some (zi (iI (rFm (tRd T j) : Int))), some (zi (iI ((if rFm (tRd T j) = 53 then 5 else 3 : Nat) : Int))), some (zi (iI (msN (rRs (tRd T j) c) (rMa (tRd T j) c) : Int))), some (zi (iI (smN (rRs (tRd T j) c) (rMa (tRd T j) c) : Int))), some (zi (iI (mxN (rRs (tRd T j) c) (rMa (tRd T j) c) : Int))), some (zi z), v9, v10] [] (I, L, R) Q := by
  have hM := h.2.1
  have k0 : R.2.1 y = some (7, 0) := hM.1
  obtain ⟨j8, ho, -, r1, r2, r3, r4, r5, r6, r7⟩ := m_rd h hj
  have ma := (r7 c hc).1
  have hm5 := (ho.2.2.2.2 c hc).1
  have hx5 := mxA_le (rFm (tRd T j))
  have hfm := fm_lt ho
  have lb := rBs_le ho hc
  have lms := msN_le (rRs (tRd T j) c) (rMa (tRd T j) c)
  have lsm := avgC_le ho hc
  have lmx := mxN_le (l := rRs (tRd T j) c) (m := 60399) (k := rMa (tRd T j) c) (fun i hi => (ho.2.2.2.2 c hc).2.1 i hi)
  have p26 : R.1 y 26 = some (y + 1791) := (hM.2.1 26 (by decide)).1; have k26 : R.2.1 (y + 1791) = some (25, 8) := (hM.2.1 26 (by decide)).2; have q26 : R.1 (y + 1791) (j) = some (y + 1792 + j) := (hM.2.2.2.2.2.2.2.2.2.1 (j) (by omega)).1.trans (congrArg some (by omega)); have j26 : R.2.1 (y + 1792 + j) = some (20, 12) := (congrArg R.2.1 (by omega)).trans (hM.2.2.2.2.2.2.2.2.2.1 (j) (by omega)).2
  -- what holds, or not
  have HAS : Prop := (rFm (tRd T j) = 53 ∨ rFm (tRd T j) = 51) ∧ rMa (tRd T j) c = mxA (rFm (tRd T j)) ∧ msN (rRs (tRd T j) c) (rMa (tRd T j) c) ≤ (if rFm (tRd T j) = 53 then 1 else 0)
  have F : ∀ q8 q, tru ((rFm (tRd T j) = 53 ∨ rFm (tRd T j) = 51) ∧ rMa (tRd T j) c = mxA (rFm (tRd T j)) ∧ msN (rRs (tRd T j) c) (rMa (tRd T j) c) ≤ (if rFm (tRd T j) = 53 then 1 else 0)) q → zW 235 d 0 0 153 [some (zr (some y)), some (zi (iI (j : Int))), some (zi (iI (c : Int))), some (zi (iI (rFm (tRd T j) : Int))), some (zi (iI ((if rFm (tRd T j) = 53 then 5 else 3 : Nat) : Int))), some (zi (iI (msN (rRs (tRd T j) c) (rMa (tRd T j) c) : Int))), some (zi (iI (smN (rRs (tRd T j) c) (rMa (tRd T j) c) : Int))), some (zi (iI (mxN (rRs (tRd T j) c) (rMa (tRd T j) c) : Int))), some (zi q8), v9, v10] [zi q] (I, L, R) Q := fun q8 q hq => by
    have EN : ∀ (u : Int), -1000000 ≤ u → u ≤ 1000000 → ((rFm (tRd T j) = 53 ∨ rFm (tRd T j) = 51) ∧ rMa (tRd T j) c = mxA (rFm (tRd T j)) ∧ msN (rRs (tRd T j) c) (rMa (tRd T j) c) ≤ (if rFm (tRd T j) = 53 then 1 else 0) → u = (avgC (rFm (tRd T j)) (rRs (tRd T j) c) (rMa (tRd T j) c) : Int)) → zW 235 d 0 0 187 [some (zr (some y)), some (zi (iI (j : Int))), some (zi (iI (c : Int))), some (zi (iI (rFm (tRd T j) : Int))), some (zi (iI ((if rFm (tRd T j) = 53 then 5 else 3 : Nat) : Int))), some (zi (iI (msN (rRs (tRd T j) c) (rMa (tRd T j) c) : Int))), some (zi (iI (smN (rRs (tRd T j) c) (rMa (tRd T j) c) : Int))), some (zi (iI (mxN (rRs (tRd T j) c) (rMa (tRd T j) c) : Int))), some (zi q8), some (zi q), v10] [zi (iI u)] (I, L, R) Q := fun u u1 u2 hu => by
      rcases hq with ⟨g, rfl⟩ | ⟨g, rfl⟩
      · have hu := hu g
        have hpos := avg_pos g
        refine zW.gbf [] rfl rfl rfl (by omega) trivial (by simp (disch := omega) only [eq_self, not_true_eq_false, not_false_eq_true, upI_same, upL_same, upI_ne, upL_ne, iI_ixN, zI_mk, zL_mk, zP_mk, zK_mk, zN_mk, zwI_up, zwL_up, zg_some, Nat.reduceMod, Nat.reduceDiv, zcn_I, iI_add, iI_sub, iI_mul, iI_neg, iI_lt, iI_le, iI_eq, iI_lt0, iI_le0, iI_gt0, iI_ge0, iI_eq0] <;> omega) ?_
        refine zW.gr [] rfl rfl rfl (by omega) (show ¬ zcn 6 = 0 by decide +kernel) trivial ?_
        rw [zcn_I, zcn_I, zcn_I, iI_mul, iI_add, iI_div (by omega) (by omega) (by omega) (by omega)]
        have e : (2 * u + 3) / 6 = (rAv (tRd T j) c : Int) := by
          unfold rAv avg
          rw [if_pos g, hu]
          omega
        rw [e]
        exact hQ
      · refine zW.gbt [] rfl rfl rfl (by omega) trivial (by simp (disch := omega) only [eq_self, not_true_eq_false, not_false_eq_true, upI_same, upL_same, upI_ne, upL_ne, iI_ixN, zI_mk, zL_mk, zP_mk, zK_mk, zN_mk, zwI_up, zwL_up, zg_some, Nat.reduceMod, Nat.reduceDiv, zcn_I, iI_add, iI_sub, iI_mul, iI_neg, iI_lt, iI_le, iI_eq, iI_lt0, iI_le0, iI_gt0, iI_ge0, iI_eq0] <;> omega) ?_
        refine zW.gr [] rfl rfl rfl (by omega) trivial trivial ?_
        rw [zcn_I]
        have e : rAv (tRd T j) c = 0 := by
          unfold rAv avg
          rw [if_neg g]
        rw [e] at hQ
        exact hQ
    by_cases c51 : rFm (tRd T j) = 51
    · refine zW.gbf [] rfl rfl rfl (by omega) trivial (by simp (disch := omega) only [eq_self, not_true_eq_false, not_false_eq_true, upI_same, upL_same, upI_ne, upL_ne, iI_ixN, zI_mk, zL_mk, zP_mk, zK_mk, zN_mk, zwI_up, zwL_up, zg_some, Nat.reduceMod, Nat.reduceDiv, zcn_I, iI_add, iI_sub, iI_mul, iI_neg, iI_lt, iI_le, iI_eq, iI_lt0, iI_le0, iI_gt0, iI_ge0, iI_eq0] <;> omega) ?_
      refine zW.go [187] rfl (by omega) trivial (EN _ (by omega) (by omega) (fun _ => ?_))
      unfold avgC
      rw [if_neg (by omega)]
    · refine zW.gbt [] rfl rfl rfl (by omega) trivial (by simp (disch := omega) only [eq_self, not_true_eq_false, not_false_eq_true, upI_same, upL_same, upI_ne, upL_ne, iI_ixN, zI_mk, zL_mk, zP_mk, zK_mk, zN_mk, zwI_up, zwL_up, zg_some, Nat.reduceMod, Nat.reduceDiv, zcn_I, iI_add, iI_sub, iI_mul, iI_neg, iI_lt, iI_le, iI_eq, iI_lt0, iI_le0, iI_gt0, iI_ge0, iI_eq0] <;> omega) ?_
      refine zW.gz [] rfl rfl rfl (by omega) trivial ⟨_, rfl, k0⟩ rfl rfl (by decide +kernel) (by decide +kernel) ?_
      refine mBest_ok (by omega) h hj rfl rfl hc ?_
      have lb' : bst (rRs (tRd T j) c) (rMa (tRd T j) c) ≤ 60399 := lb
      have K : ∀ (u : Nat), u ≤ 60399 → u = (if msN (rRs (tRd T j) c) (rMa (tRd T j) c) = 0 then mxN (rRs (tRd T j) c) (rMa (tRd T j) c) else 0) → zW 235 d 0 0 186 [some (zr (some y)), some (zi (iI (j : Int))), some (zi (iI (c : Int))), some (zi (iI (rFm (tRd T j) : Int))), some (zi (iI ((if rFm (tRd T j) = 53 then 5 else 3 : Nat) : Int))), some (zi (iI (msN (rRs (tRd T j) c) (rMa (tRd T j) c) : Int))), some (zi (iI (smN (rRs (tRd T j) c) (rMa (tRd T j) c) : Int))), some (zi (iI (mxN (rRs (tRd T j) c) (rMa (tRd T j) c) : Int))), some (zi q8), some (zi q), v10] [zi (iI (u : Int)), zi (iI (smN (rRs (tRd T j) c) (rMa (tRd T j) c) : Int) - iI (rBs (tRd T j) c : Int))] (I, L, R) Q := fun u hu eu => by
        refine zW.go [187] rfl (by omega) trivial ?_
        rw [iI_sub, iI_sub]
        refine EN _ (by omega) (by omega) (fun g => ?_)
        have hpos := avg_pos g
        unfold avgC at hpos ⊢
        have c53 : rFm (tRd T j) = 53 := g.1.resolve_right c51
        rw [if_pos c53, ← eu] at hpos ⊢
        have e2 : rBs (tRd T j) c = bst (rRs (tRd T j) c) (rMa (tRd T j) c) := rfl
        rw [e2]
        omega
      by_cases c0 : msN (rRs (tRd T j) c) (rMa (tRd T j) c) = 0
      · refine zW.gbf [] rfl rfl rfl (by omega) trivial (by simp (disch := omega) only [eq_self, not_true_eq_false, not_false_eq_true, upI_same, upL_same, upI_ne, upL_ne, iI_ixN, zI_mk, zL_mk, zP_mk, zK_mk, zN_mk, zwI_up, zwL_up, zg_some, Nat.reduceMod, Nat.reduceDiv, zcn_I, iI_add, iI_sub, iI_mul, iI_neg, iI_lt, iI_le, iI_eq, iI_lt0, iI_le0, iI_gt0, iI_ge0, iI_eq0] <;> omega) ?_
        exact zW.go [186] rfl (by omega) trivial (K _ lmx (by rw [if_pos c0]))
      · refine zW.gbt [] rfl rfl rfl (by omega) trivial (by simp (disch := omega) only [eq_self, not_true_eq_false, not_false_eq_true, upI_same, upL_same, upI_ne, upL_ne, iI_ixN, zI_mk, zL_mk, zP_mk, zK_mk, zN_mk, zwI_up, zwL_up, zg_some, Nat.reduceMod, Nat.reduceDiv, zcn_I, iI_add, iI_sub, iI_mul, iI_neg, iI_lt, iI_le, iI_eq, iI_lt0, iI_le0, iI_gt0, iI_ge0, iI_eq0] <;> omega) ?_
        refine zW.go [186] rfl (by omega) trivial ?_
        rw [zcn_I]
        exact K 0 (by omega) (by rw [if_neg c0])
  have G : ∀ q8, tru (rFm (tRd T j) = 53 ∨ rFm (tRd T j) = 51) q8 → zW 235 d 0 0 112 [some (zr (some y)), some (zi (iI (j : Int))), some (zi (iI (c : Int))), some (zi (iI (rFm (tRd T j) : Int))), some (zi (iI ((if rFm (tRd T j) = 53 then 5 else 3 : Nat) : Int))), some (zi (iI (msN (rRs (tRd T j) c) (rMa (tRd T j) c) : Int))), some (zi (iI (smN (rRs (tRd T j) c) (rMa (tRd T j) c) : Int))), some (zi (iI (mxN (rRs (tRd T j) c) (rMa (tRd T j) c) : Int))), some (zi z), v9, v10] [zi q8] (I, L, R) Q := fun q8 hq8 => by
    rcases hq8 with ⟨g, rfl⟩ | ⟨g, rfl⟩
    · have emx : mxA (rFm (tRd T j)) = if rFm (tRd T j) = 53 then 5 else 3 := by
        unfold mxA
        by_cases c53 : rFm (tRd T j) = 53
        · rw [if_pos c53, if_pos c53]
        · rw [if_neg c53, if_neg c53, if_neg (by omega)]
      refine zW.gbf [] rfl rfl rfl (by omega) trivial (by simp (disch := omega) only [eq_self, not_true_eq_false, not_false_eq_true, upI_same, upL_same, upI_ne, upL_ne, iI_ixN, zI_mk, zL_mk, zP_mk, zK_mk, zN_mk, zwI_up, zwL_up, zg_some, Nat.reduceMod, Nat.reduceDiv, zcn_I, iI_add, iI_sub, iI_mul, iI_neg, iI_lt, iI_le, iI_eq, iI_lt0, iI_le0, iI_gt0, iI_ge0, iI_eq0] <;> omega) ?_
      by_cases cm : rMa (tRd T j) c = if rFm (tRd T j) = 53 then 5 else 3
      · have cmx : rMa (tRd T j) c = mxA (rFm (tRd T j)) := by rw [emx]; exact cm
        refine zW.gbf [] rfl rfl rfl (by omega) (by simp (disch := omega) only [true_or, or_true, eq_self, Option.some.injEq, Prod.mk.injEq, zall_0, zall_1, zall_2, zob_iff, zar_iff, zis_iff, zkIs_some, zkHas_some, iI_vp, z01_I, z01_bz, zch_I, true_and, and_true, or_false, false_or, and_self, upI_same, upL_same, upI_ne, upL_ne, iI_ixN, zI_mk, zL_mk, zP_mk, zK_mk, zN_mk, zwI_up, zwL_up, zg_some, Nat.reduceMod, Nat.reduceDiv, zcn_I, iI_add, iI_sub, iI_mul, iI_neg, iI_lt, iI_le, iI_eq, iI_lt0, iI_le0, iI_gt0, iI_ge0, iI_eq0, k0, p26, k26, q26, j26] <;> omega) ?_ ?_
        · simp (disch := omega) only [upI_same, upL_same, upI_ne, upL_ne, iI_ixN, zI_mk, zL_mk, zP_mk, zK_mk, zN_mk, zwI_up, zwL_up, zg_some, Nat.reduceMod, Nat.reduceDiv, p26, q26, ma]
          rw [← cm]
          exact fun n => n rfl
        by_cases c53 : rFm (tRd T j) = 53
        · refine zW.gbf [] rfl rfl rfl (by omega) trivial (by simp (disch := omega) only [eq_self, not_true_eq_false, not_false_eq_true, upI_same, upL_same, upI_ne, upL_ne, iI_ixN, zI_mk, zL_mk, zP_mk, zK_mk, zN_mk, zwI_up, zwL_up, zg_some, Nat.reduceMod, Nat.reduceDiv, zcn_I, iI_add, iI_sub, iI_mul, iI_neg, iI_lt, iI_le, iI_eq, iI_lt0, iI_le0, iI_gt0, iI_ge0, iI_eq0] <;> omega) ?_
          refine zW.gb [] rfl rfl rfl (by omega) trivial (fun h' => ?_) (fun h' => ?_) <;> simp (disch := omega) only [zcn_I, iI_add, iI_sub, iI_mul, iI_neg, iI_lt, iI_le, iI_eq, iI_lt0, iI_le0, iI_gt0, iI_ge0, iI_eq0] at h'
          · exact zW.go [153] rfl (by omega) trivial (F _ _ (tru_f (fun g2 => by rw [if_pos c53] at g2; omega)))
          · exact zW.go [153] rfl (by omega) trivial (F _ _ (tru_t ⟨g, cmx, by rw [if_pos c53]; omega⟩))
        · refine zW.gbt [] rfl rfl rfl (by omega) trivial (by simp (disch := omega) only [eq_self, not_true_eq_false, not_false_eq_true, upI_same, upL_same, upI_ne, upL_ne, iI_ixN, zI_mk, zL_mk, zP_mk, zK_mk, zN_mk, zwI_up, zwL_up, zg_some, Nat.reduceMod, Nat.reduceDiv, zcn_I, iI_add, iI_sub, iI_mul, iI_neg, iI_lt, iI_le, iI_eq, iI_lt0, iI_le0, iI_gt0, iI_ge0, iI_eq0] <;> omega) ?_
          refine zW.gb [] rfl rfl rfl (by omega) trivial (fun h' => ?_) (fun h' => ?_) <;> simp (disch := omega) only [zcn_I, iI_add, iI_sub, iI_mul, iI_neg, iI_lt, iI_le, iI_eq, iI_lt0, iI_le0, iI_gt0, iI_ge0, iI_eq0] at h'
          · exact zW.go [153] rfl (by omega) trivial (F _ _ (tru_f (fun g2 => by rw [if_neg c53] at g2; omega)))
          · exact zW.go [153] rfl (by omega) trivial (F _ _ (tru_t ⟨g, cmx, by rw [if_neg c53]; omega⟩))
      · refine zW.gbt [] rfl rfl rfl (by omega) (by simp (disch := omega) only [true_or, or_true, eq_self, Option.some.injEq, Prod.mk.injEq, zall_0, zall_1, zall_2, zob_iff, zar_iff, zis_iff, zkIs_some, zkHas_some, iI_vp, z01_I, z01_bz, zch_I, true_and, and_true, or_false, false_or, and_self, upI_same, upL_same, upI_ne, upL_ne, iI_ixN, zI_mk, zL_mk, zP_mk, zK_mk, zN_mk, zwI_up, zwL_up, zg_some, Nat.reduceMod, Nat.reduceDiv, zcn_I, iI_add, iI_sub, iI_mul, iI_neg, iI_lt, iI_le, iI_eq, iI_lt0, iI_le0, iI_gt0, iI_ge0, iI_eq0, k0, p26, k26, q26, j26] <;> omega) ?_ ?_
        · simp (disch := omega) only [upI_same, upL_same, upI_ne, upL_ne, iI_ixN, zI_mk, zL_mk, zP_mk, zK_mk, zN_mk, zwI_up, zwL_up, zg_some, Nat.reduceMod, Nat.reduceDiv, p26, q26, ma]
          rw [iI_eq (by omega) (by omega) (by split <;> omega) (by split <;> omega)]
          exact fun e => cm (by omega)
        exact zW.go [153] rfl (by omega) trivial (F _ _ (tru_f (fun g2 => cm (by rw [← emx]; exact g2.2.1))))
    · refine zW.gbt [] rfl rfl rfl (by omega) trivial (by simp (disch := omega) only [eq_self, not_true_eq_false, not_false_eq_true, upI_same, upL_same, upI_ne, upL_ne, iI_ixN, zI_mk, zL_mk, zP_mk, zK_mk, zN_mk, zwI_up, zwL_up, zg_some, Nat.reduceMod, Nat.reduceDiv, zcn_I, iI_add, iI_sub, iI_mul, iI_neg, iI_lt, iI_le, iI_eq, iI_lt0, iI_le0, iI_gt0, iI_ge0, iI_eq0] <;> omega) ?_
      exact zW.go [153] rfl (by omega) trivial (F _ _ (tru_f (fun g2 => g g2.1)))
  refine zW.gb [] rfl rfl rfl (by omega) trivial (fun h' => ?_) (fun h' => ?_) <;> simp (disch := omega) only [zcn_I, iI_add, iI_sub, iI_mul, iI_neg, iI_lt, iI_le, iI_eq, iI_lt0, iI_le0, iI_gt0, iI_ge0, iI_eq0] at h'
  · exact zW.go [112] rfl (by omega) trivial (G _ (tru_t (by omega)))
  refine zW.gb [] rfl rfl rfl (by omega) trivial (fun h2 => ?_) (fun h2 => ?_) <;> simp (disch := omega) only [zcn_I, iI_add, iI_sub, iI_mul, iI_neg, iI_lt, iI_le, iI_eq, iI_lt0, iI_le0, iI_gt0, iI_ge0, iI_eq0] at h2
  · exact zW.go [112] rfl (by omega) trivial (G _ (tru_f (by omega)))
  · exact zW.go [112] rfl (by omega) trivial (G _ (tru_t (by omega)))
theorem mAvg_lp {j c : Nat} {v10 : Option zV} (hd : 2 ≤ d) (h : mf y T (I, L, R)) (hj : j < tRn T) (hc : c < 12) (hQ : Q (.inl (some (zi (iI (rAv (tRd T j) c : Int))))) (I, L, R)) :
    ∀ n k, k + n = rMa (tRd T j) c → ∀ (x5 x6 x7 z : Int32) (v9 : Option zV), x5 = iI (msN (rRs (tRd T j) c) k : Int) → x6 = iI (smN (rRs (tRd T j) c) k : Int) → x7 = iI (mxN (rRs (tRd T j) c) k : Int) → z = iI (k : Int) → zW 235 d 0 0 32 [some (zr (some y)), some (zi (iI (j : Int))), some (zi (iI (c : Int))), some (zi (iI (rFm (tRd T j) : Int))), some (zi (iI ((if rFm (tRd T j) = 53 then 5 else 3 : Nat) : Int))), some (zi x5), some (zi x6), some (zi x7), some (zi z), v9, v10] [] (I, L, R) Q
  | 0, k, hk, x5, x6, x7, z, v9, e1, e2, e3, e4 => by
    subst e1; subst e2; subst e3; subst e4
    have hM := h.2.1
    have k0 : R.2.1 y = some (7, 0) := hM.1
    obtain ⟨j8, ho, -, r1, r2, r3, r4, r5, r6, r7⟩ := m_rd h hj
    have ma := (r7 c hc).1
    have hm5 := (ho.2.2.2.2 c hc).1
    have hx5 := mxA_le (rFm (tRd T j))
    have p26 : R.1 y 26 = some (y + 1791) := (hM.2.1 26 (by decide)).1; have k26 : R.2.1 (y + 1791) = some (25, 8) := (hM.2.1 26 (by decide)).2; have q26 : R.1 (y + 1791) (j) = some (y + 1792 + j) := (hM.2.2.2.2.2.2.2.2.2.1 (j) (by omega)).1.trans (congrArg some (by omega)); have j26 : R.2.1 (y + 1792 + j) = some (20, 12) := (congrArg R.2.1 (by omega)).trans (hM.2.2.2.2.2.2.2.2.2.1 (j) (by omega)).2
    obtain rfl : k = rMa (tRd T j) c := by omega
    refine zW.gbt [] rfl rfl rfl (by omega) (by simp (disch := omega) only [true_or, or_true, eq_self, Option.some.injEq, Prod.mk.injEq, zall_0, zall_1, zall_2, zob_iff, zar_iff, zis_iff, zkIs_some, zkHas_some, iI_vp, z01_I, z01_bz, zch_I, true_and, and_true, or_false, false_or, and_self, upI_same, upL_same, upI_ne, upL_ne, iI_ixN, zI_mk, zL_mk, zP_mk, zK_mk, zN_mk, zwI_up, zwL_up, zg_some, Nat.reduceMod, Nat.reduceDiv, zcn_I, iI_add, iI_sub, iI_mul, iI_neg, iI_lt, iI_le, iI_eq, iI_lt0, iI_le0, iI_gt0, iI_ge0, iI_eq0, k0, p26, k26, q26, j26] <;> omega) (by simp (disch := omega) only [eq_self, not_true_eq_false, not_false_eq_true, upI_same, upL_same, upI_ne, upL_ne, iI_ixN, zI_mk, zL_mk, zP_mk, zK_mk, zN_mk, zwI_up, zwL_up, zg_some, Nat.reduceMod, Nat.reduceDiv, zcn_I, iI_add, iI_sub, iI_mul, iI_neg, iI_lt, iI_le, iI_eq, iI_lt0, iI_le0, iI_gt0, iI_ge0, iI_eq0, p26, q26, ma] <;> omega) ?_
    exact mAvg_end hd h hj hc hQ
  | n + 1, k, hk, x5, x6, x7, z, v9, e1, e2, e3, e4 => by
    subst e1; subst e2; subst e3; subst e4
    have hM := h.2.1
    have k0 : R.2.1 y = some (7, 0) := hM.1
    obtain ⟨j8, ho, -, r1, r2, r3, r4, r5, r6, r7⟩ := m_rd h hj
    have ma := (r7 c hc).1
    have hm5 := (ho.2.2.2.2 c hc).1
    have hx5 := mxA_le (rFm (tRd T j))
    have vk := (r7 c hc).2.2.2.2.2 k (by omega)
    have lk := (ho.2.2.2.2 c hc).2.1 k (by omega)
    have lx := mxN_le (l := rRs (tRd T j) c) (m := 60399) (k := k) (fun i hi => (ho.2.2.2.2 c hc).2.1 i (by omega))
    have p26 : R.1 y 26 = some (y + 1791) := (hM.2.1 26 (by decide)).1; have k26 : R.2.1 (y + 1791) = some (25, 8) := (hM.2.1 26 (by decide)).2; have q26 : R.1 (y + 1791) (j) = some (y + 1792 + j) := (hM.2.2.2.2.2.2.2.2.2.1 (j) (by omega)).1.trans (congrArg some (by omega)); have j26 : R.2.1 (y + 1792 + j) = some (20, 12) := (congrArg R.2.1 (by omega)).trans (hM.2.2.2.2.2.2.2.2.2.1 (j) (by omega)).2; have p27 : R.1 y 27 = some (y + 1800) := (hM.2.1 27 (by decide)).1; have k27 : R.2.1 (y + 1800) = some (26, 8) := (hM.2.1 27 (by decide)).2; have q27 : R.1 (y + 1800) (j) = some (y + 1801 + 13 * j) := (hM.2.2.2.2.2.2.2.2.2.2.1 (j) (by omega)).1.trans (congrArg some (by omega)); have j27 : R.2.1 (y + 1801 + 13 * j) = some (25, 12) := (congrArg R.2.1 (by omega)).trans (hM.2.2.2.2.2.2.2.2.2.2.1 (j) (by omega)).2.1; have r27 : R.1 (y + 1801 + 13 * j) (c) = some (y + 1802 + 13 * j + c) := (congrFun (congrArg R.1 (show y + 1801 + 13 * j = y + 1800 + 1 + 13 * j by omega)) (c)).trans ((((hM.2.2.2.2.2.2.2.2.2.2.1 (j) (by omega)).2.2 (c) (by omega)).1).trans (congrArg some (by omega))); have s27 : R.2.1 (y + 1802 + 13 * j + c) = some (20, 5) := (congrArg R.2.1 (by omega)).trans ((hM.2.2.2.2.2.2.2.2.2.2.1 (j) (by omega)).2.2 (c) (by omega)).2
    have NX : ∀ (u : Int32) (e : Nat), u = iI (e : Int) → msN (rRs (tRd T j) c) (k + 1) = msN (rRs (tRd T j) c) k + e → zW 235 d 0 0 70 [some (zr (some y)), some (zi (iI (j : Int))), some (zi (iI (c : Int))), some (zi (iI (rFm (tRd T j) : Int))), some (zi (iI ((if rFm (tRd T j) = 53 then 5 else 3 : Nat) : Int))), some (zi (iI (msN (rRs (tRd T j) c) k : Int))), some (zi (iI (smN (rRs (tRd T j) c) k : Int))), some (zi (iI (mxN (rRs (tRd T j) c) k : Int))), some (zi (iI (k : Int))), some (zi (iI (rRs (tRd T j) c k : Int))), v10] [zi u, zi (iI (msN (rRs (tRd T j) c) k : Int))] (I, L, R) Q := fun u e hu he => by
      subst hu
      refine zW.go [32] rfl (by omega) trivial ?_
      refine mAvg_lp hd h hj hc hQ n (k + 1) (by omega) _ _ _ _ _ (by rw [iI_add, he]; rfl) (by rw [iI_add]; rfl) ?_ (by rw [zcn_I, iI_add]; rfl)
      rw [iI_max (by omega) (by omega) (by omega) (by omega)]
      show _ = iI ((if mxN (rRs (tRd T j) c) k < rRs (tRd T j) c k then rRs (tRd T j) c k else mxN (rRs (tRd T j) c) k : Nat) : Int)
      by_cases q : mxN (rRs (tRd T j) c) k < rRs (tRd T j) c k
      · rw [if_pos q, if_pos (by omega)]
      · rw [if_neg q, if_neg (by omega)]
    refine zW.gbf [] rfl rfl rfl (by omega) (by simp (disch := omega) only [true_or, or_true, eq_self, Option.some.injEq, Prod.mk.injEq, zall_0, zall_1, zall_2, zob_iff, zar_iff, zis_iff, zkIs_some, zkHas_some, iI_vp, z01_I, z01_bz, zch_I, true_and, and_true, or_false, false_or, and_self, upI_same, upL_same, upI_ne, upL_ne, iI_ixN, zI_mk, zL_mk, zP_mk, zK_mk, zN_mk, zwI_up, zwL_up, zg_some, Nat.reduceMod, Nat.reduceDiv, zcn_I, iI_add, iI_sub, iI_mul, iI_neg, iI_lt, iI_le, iI_eq, iI_lt0, iI_le0, iI_gt0, iI_ge0, iI_eq0, k0, p26, k26, q26, j26] <;> omega) (by simp (disch := omega) only [eq_self, not_true_eq_false, not_false_eq_true, upI_same, upL_same, upI_ne, upL_ne, iI_ixN, zI_mk, zL_mk, zP_mk, zK_mk, zN_mk, zwI_up, zwL_up, zg_some, Nat.reduceMod, Nat.reduceDiv, zcn_I, iI_add, iI_sub, iI_mul, iI_neg, iI_lt, iI_le, iI_eq, iI_lt0, iI_le0, iI_gt0, iI_ge0, iI_eq0, p26, q26, ma] <;> omega) ?_
    refine zW.gb [] rfl rfl rfl (by omega) (by simp (disch := omega) only [true_or, or_true, eq_self, Option.some.injEq, Prod.mk.injEq, zall_0, zall_1, zall_2, zob_iff, zar_iff, zis_iff, zkIs_some, zkHas_some, iI_vp, z01_I, z01_bz, zch_I, true_and, and_true, or_false, false_or, and_self, upI_same, upL_same, upI_ne, upL_ne, iI_ixN, zI_mk, zL_mk, zP_mk, zK_mk, zN_mk, zwI_up, zwL_up, zg_some, Nat.reduceMod, Nat.reduceDiv, zcn_I, iI_add, iI_sub, iI_mul, iI_neg, iI_lt, iI_le, iI_eq, iI_lt0, iI_le0, iI_gt0, iI_ge0, iI_eq0, k0, p27, k27, q27, j27, r27, s27] <;> omega) (fun h' => ?_) (fun h' => ?_)
    · simp (disch := omega) only [zcn_I, iI_add, iI_sub, iI_mul, iI_neg, iI_lt, iI_le, iI_eq, iI_lt0, iI_le0, iI_gt0, iI_ge0, iI_eq0, upI_same, upL_same, upI_ne, upL_ne, iI_ixN, zI_mk, zL_mk, zP_mk, zK_mk, zN_mk, zwI_up, zwL_up, zg_some, Nat.reduceMod, Nat.reduceDiv, p27, q27, r27, vk] at h'
      simp (disch := omega) only [upI_same, upL_same, upI_ne, upL_ne, iI_ixN, zI_mk, zL_mk, zP_mk, zK_mk, zN_mk, zwI_up, zwL_up, zg_some, Nat.reduceMod, Nat.reduceDiv, p27, q27, r27, vk]
      refine zW.go [70] rfl (by omega) trivial (NX _ 0 (zcn_I _) ?_)
      exact congrArg (fun b : Nat => msN (rRs (tRd T j) c) k + b) (if_neg (by omega))
    · simp (disch := omega) only [zcn_I, iI_add, iI_sub, iI_mul, iI_neg, iI_lt, iI_le, iI_eq, iI_lt0, iI_le0, iI_gt0, iI_ge0, iI_eq0, upI_same, upL_same, upI_ne, upL_ne, iI_ixN, zI_mk, zL_mk, zP_mk, zK_mk, zN_mk, zwI_up, zwL_up, zg_some, Nat.reduceMod, Nat.reduceDiv, p27, q27, r27, vk] at h'
      simp (disch := omega) only [upI_same, upL_same, upI_ne, upL_ne, iI_ixN, zI_mk, zL_mk, zP_mk, zK_mk, zN_mk, zwI_up, zwL_up, zg_some, Nat.reduceMod, Nat.reduceDiv, p27, q27, r27, vk]
      refine zW.go [70] rfl (by omega) trivial (NX _ 1 (zcn_I _) ?_)
      exact congrArg (fun b : Nat => msN (rRs (tRd T j) c) k + b) (if_pos (by omega))
theorem mAvg_ok {j c : Nat} {a b : Int32} (hd : 2 ≤ d) (h : mf y T (I, L, R)) (hj : j < tRn T) (e1 : a = iI (j : Int)) (e2 : b = iI (c : Int)) (hc : c < 12) (hQ : Q (.inl (some (zi (iI (rAv (tRd T j) c : Int))))) (I, L, R)) : zS 235 d [zr (some y), zi a, zi b] (I, L, R) Q := by
  subst e1; subst e2
  have hM := h.2.1
  have k0 : R.2.1 y = some (7, 0) := hM.1
  obtain ⟨j8, ho, -, r1, r2, r3, r4, r5, r6, r7⟩ := m_rd h hj
  have hfm := fm_lt ho
  have p20 : R.1 y 20 = some (y + 1785) := (hM.2.1 20 (by decide)).1; have k20 : R.2.1 (y + 1785) = some (23, 8) := (hM.2.1 20 (by decide)).2
  have F : ∀ q : Int32, q = iI ((if rFm (tRd T j) = 53 then 5 else 3 : Nat) : Int) → zW 235 d 0 0 18 [some (zr (some y)), some (zi (iI (j : Int))), some (zi (iI (c : Int))), some (zi (iI (rFm (tRd T j) : Int))), none, none, none, none, none, none, none] [zi q] (I, L, R) Q := fun q hq => by
    subst hq
    refine zW.go [32] rfl (by omega) trivial ?_
    exact mAvg_lp hd h hj hc hQ (rMa (tRd T j) c) 0 (by omega) _ _ _ _ _ (zcn_I _) (zcn_I _) (zcn_I _) (zcn_I _)
  refine zW.gb [] rfl rfl rfl (by omega) (by simp (disch := omega) only [true_or, or_true, eq_self, Option.some.injEq, Prod.mk.injEq, zall_0, zall_1, zall_2, zob_iff, zar_iff, zis_iff, zkIs_some, zkHas_some, iI_vp, z01_I, z01_bz, zch_I, true_and, and_true, or_false, false_or, and_self, upI_same, upL_same, upI_ne, upL_ne, iI_ixN, zI_mk, zL_mk, zP_mk, zK_mk, zN_mk, zwI_up, zwL_up, zg_some, Nat.reduceMod, Nat.reduceDiv, zcn_I, iI_add, iI_sub, iI_mul, iI_neg, iI_lt, iI_le, iI_eq, iI_lt0, iI_le0, iI_gt0, iI_ge0, iI_eq0, k0, p20, k20] <;> omega) (fun h' => ?_) (fun h' => ?_)
  · simp (disch := omega) only [zcn_I, iI_add, iI_sub, iI_mul, iI_neg, iI_lt, iI_le, iI_eq, iI_lt0, iI_le0, iI_gt0, iI_ge0, iI_eq0, upI_same, upL_same, upI_ne, upL_ne, iI_ixN, zI_mk, zL_mk, zP_mk, zK_mk, zN_mk, zwI_up, zwL_up, zg_some, Nat.reduceMod, Nat.reduceDiv, p20, r1] at h'
    simp (disch := omega) only [upI_same, upL_same, upI_ne, upL_ne, iI_ixN, zI_mk, zL_mk, zP_mk, zK_mk, zN_mk, zwI_up, zwL_up, zg_some, Nat.reduceMod, Nat.reduceDiv, p20, r1]
    exact zW.go [18] rfl (by omega) trivial (F _ (by rw [if_neg (by omega), zcn_I]; rfl))
  · simp (disch := omega) only [zcn_I, iI_add, iI_sub, iI_mul, iI_neg, iI_lt, iI_le, iI_eq, iI_lt0, iI_le0, iI_gt0, iI_ge0, iI_eq0, upI_same, upL_same, upI_ne, upL_ne, iI_ixN, zI_mk, zL_mk, zP_mk, zK_mk, zN_mk, zwI_up, zwL_up, zg_some, Nat.reduceMod, Nat.reduceDiv, p20, r1] at h'
    simp (disch := omega) only [upI_same, upL_same, upI_ne, upL_ne, iI_ixN, zI_mk, zL_mk, zP_mk, zK_mk, zN_mk, zwI_up, zwL_up, zg_some, Nat.reduceMod, Nat.reduceDiv, p20, r1]
    exact zW.go [18] rfl (by omega) trivial (F _ (by rw [if_pos (by omega), zcn_I]; rfl))
end MRD
