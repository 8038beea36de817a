/-! The model's share of results. -/
section MSHR
variable {d y : Nat} {T : tfT} {I : Nat → Nat → Int32} {L : Nat → Nat → Int64} {R : zRt} {Q : zO → zM → Prop}
theorem smN_n {f : Nat → Nat} {n : Nat} : ∀ {m : Nat}, (∀ k, n ≤ k → k < n + m → f k = 0) → smN f (n + m) = smN f n
  | 0, _ => rfl
  | m + 1, h => by
    have h1 := smN_n (f := f) (n := n) (m := m) (fun k q1 q2 => h k q1 (by omega))
    have h2 := h (n + m) (by omega) (by omega)
    show smN f (n + m) + f (n + m) = _
    omega
theorem nAtt_z {w : zRd} {g : Bool} {c : Nat} (h : rMa w c = 0) : nAtt w g c = 0 := by
  unfold nAtt
  rw [h]
  cases g <;> rfl
theorem mShr_in {j c s1 s2 : Nat} (hd : 1 ≤ d) (h : mf y T (I, L, R)) (hj : j < tRn T) (hc : c < 12)
    (hQ : ∀ v, zW 248 d 0 0 75 [some (zr (some y)), some (zi (iI ((s1 + nAtt (tRd T j) false c : Nat) : Int))), some (zi (iI ((s2 + nAtt (tRd T j) true c : Nat) : Int))), some (zi (iI (j : Int))), some (zi (iI (c : Int))), v] [] (I, L, R) Q) :
    ∀ n a, a + n = rMa (tRd T j) c → ∀ (x1 x2 x5 : Int32), x1 = iI ((s1 + a : Nat) : Int) → x2 = iI ((s2 + nGd (tRd T j) c a : Nat) : Int) → x5 = iI (a : Int) → zW 248 d 0 0 29 [some (zr (some y)), some (zi x1), some (zi x2), some (zi (iI (j : Int))), some (zi (iI (c : Int))), some (zi x5)] [] (I, L, R) Q
  | 0, a, han, x1, x2, x5, e1, e2, e5 => by
    subst e1; subst e2; subst e5
    have hM := h.2.1
    have k0 : R.2.1 y = some (7, 0) := hM.1
    obtain ⟨j8, ho, -, r1, r2, r3, r4, r5, r6, r7⟩ := m_rd h hj
    have ma := (r7 c hc).1
    have hm5 := (ho.2.2.2.2 c hc).1
    have hx5 := mxA_le (rFm (tRd T j))
    have p26 : R.1 y 26 = some (y + 1791) := (hM.2.1 26 (by decide)).1; have k26 : R.2.1 (y + 1791) = some (25, 8) := (hM.2.1 26 (by decide)).2; have q26 : R.1 (y + 1791) (j) = some (y + 1792 + j) := (hM.2.2.2.2.2.2.2.2.2.1 (j) (by omega)).1.trans (congrArg some (by omega)); have j26 : R.2.1 (y + 1792 + j) = some (20, 12) := (congrArg R.2.1 (by omega)).trans (hM.2.2.2.2.2.2.2.2.2.1 (j) (by omega)).2
    obtain rfl : a = rMa (tRd T j) c := by omega
    exact zW.gbt [] rfl rfl rfl (by omega) (by simp (disch := omega) only [true_or, or_true, eq_self, Option.some.injEq, Prod.mk.injEq, zall_0, zall_1, zall_2, zob_iff, zar_iff, zis_iff, zkIs_some, zkHas_some, iI_vp, z01_I, z01_bz, zch_I, true_and, and_true, or_false, false_or, and_self, upI_same, upL_same, upI_ne, upL_ne, iI_ixN, zI_mk, zL_mk, zP_mk, zK_mk, zN_mk, zwI_up, zwL_up, zg_some, Nat.reduceMod, Nat.reduceDiv, zcn_I, iI_add, iI_sub, iI_mul, iI_neg, iI_lt, iI_le, iI_eq, iI_lt0, iI_le0, iI_gt0, iI_ge0, iI_eq0, k0, p26, k26, q26, j26] <;> omega) (by simp (disch := omega) only [eq_self, not_true_eq_false, not_false_eq_true, upI_same, upL_same, upI_ne, upL_ne, iI_ixN, zI_mk, zL_mk, zP_mk, zK_mk, zN_mk, zwI_up, zwL_up, zg_some, Nat.reduceMod, Nat.reduceDiv, zcn_I, iI_add, iI_sub, iI_mul, iI_neg, iI_lt, iI_le, iI_eq, iI_lt0, iI_le0, iI_gt0, iI_ge0, iI_eq0, p26, q26, ma] <;> omega) (hQ _)
  | n + 1, a, han, x1, x2, x5, e1, e2, e5 => by
    subst e1; subst e2; subst e5
    have hM := h.2.1
    have k0 : R.2.1 y = some (7, 0) := hM.1
    obtain ⟨j8, ho, -, r1, r2, r3, r4, r5, r6, r7⟩ := m_rd h hj
    have ma := (r7 c hc).1
    have hm5 := (ho.2.2.2.2 c hc).1
    have hx5 := mxA_le (rFm (tRd T j))
    have vk := (r7 c hc).2.2.2.2.2 a (by omega)
    have lk := (ho.2.2.2.2 c hc).2.1 a (by omega)
    have p26 : R.1 y 26 = some (y + 1791) := (hM.2.1 26 (by decide)).1; have k26 : R.2.1 (y + 1791) = some (25, 8) := (hM.2.1 26 (by decide)).2; have q26 : R.1 (y + 1791) (j) = some (y + 1792 + j) := (hM.2.2.2.2.2.2.2.2.2.1 (j) (by omega)).1.trans (congrArg some (by omega)); have j26 : R.2.1 (y + 1792 + j) = some (20, 12) := (congrArg R.2.1 (by omega)).trans (hM.2.2.2.2.2.2.2.2.2.1 (j) (by omega)).2; have p27 : R.1 y 27 = some (y + 1800) := (hM.2.1 27 (by decide)).1; have k27 : R.2.1 (y + 1800) = some (26, 8) := (hM.2.1 27 (by decide)).2; have q27 : R.1 (y + 1800) (j) = some (y + 1801 + 13 * j) := (hM.2.2.2.2.2.2.2.2.2.2.1 (j) (by omega)).1.trans (congrArg some (by omega)); have j27 : R.2.1 (y + 1801 + 13 * j) = some (25, 12) := (congrArg R.2.1 (by omega)).trans (hM.2.2.2.2.2.2.2.2.2.2.1 (j) (by omega)).2.1; have r27 : R.1 (y + 1801 + 13 * j) (c) = some (y + 1802 + 13 * j + c) := (congrFun (congrArg R.1 (show y + 1801 + 13 * j = y + 1800 + 1 + 13 * j by omega)) (c)).trans ((((hM.2.2.2.2.2.2.2.2.2.2.1 (j) (by omega)).2.2 (c) (by omega)).1).trans (congrArg some (by omega))); have s27 : R.2.1 (y + 1802 + 13 * j + c) = some (20, 5) := (congrArg R.2.1 (by omega)).trans ((hM.2.2.2.2.2.2.2.2.2.2.1 (j) (by omega)).2.2 (c) (by omega)).2
    have NX : ∀ (u : Int32) (e : Nat), u = iI (e : Int) → nGd (tRd T j) c (a + 1) = nGd (tRd T j) c a + e → zW 248 d 0 0 67 [some (zr (some y)), some (zi (iI ((s1 + a : Nat) : Int) + zcn 1)), some (zi (iI ((s2 + nGd (tRd T j) c a : Nat) : Int))), some (zi (iI (j : Int))), some (zi (iI (c : Int))), some (zi (iI (a : Int)))] [zi u, zi (iI ((s2 + nGd (tRd T j) c a : Nat) : Int))] (I, L, R) Q := fun u e hu he => by
      subst hu
      refine zW.go [29] rfl (by omega) trivial ?_
      exact mShr_in hd h hj hc hQ n (a + 1) (by omega) _ _ _ (by rw [zcn_I, iI_add]; rfl) (by rw [iI_add, he]; exact iI_cg (by omega)) (by rw [zcn_I, iI_add]; rfl)
    refine zW.gbf [] rfl rfl rfl (by omega) (by simp (disch := omega) only [true_or, or_true, eq_self, Option.some.injEq, Prod.mk.injEq, zall_0, zall_1, zall_2, zob_iff, zar_iff, zis_iff, zkIs_some, zkHas_some, iI_vp, z01_I, z01_bz, zch_I, true_and, and_true, or_false, false_or, and_self, upI_same, upL_same, upI_ne, upL_ne, iI_ixN, zI_mk, zL_mk, zP_mk, zK_mk, zN_mk, zwI_up, zwL_up, zg_some, Nat.reduceMod, Nat.reduceDiv, zcn_I, iI_add, iI_sub, iI_mul, iI_neg, iI_lt, iI_le, iI_eq, iI_lt0, iI_le0, iI_gt0, iI_ge0, iI_eq0, k0, p26, k26, q26, j26] <;> omega) (by simp (disch := omega) only [eq_self, not_true_eq_false, not_false_eq_true, upI_same, upL_same, upI_ne, upL_ne, iI_ixN, zI_mk, zL_mk, zP_mk, zK_mk, zN_mk, zwI_up, zwL_up, zg_some, Nat.reduceMod, Nat.reduceDiv, zcn_I, iI_add, iI_sub, iI_mul, iI_neg, iI_lt, iI_le, iI_eq, iI_lt0, iI_le0, iI_gt0, iI_ge0, iI_eq0, p26, q26, ma] <;> omega) ?_
    refine zW.gb [] rfl rfl rfl (by omega) (by simp (disch := omega) only [true_or, or_true, eq_self, Option.some.injEq, Prod.mk.injEq, zall_0, zall_1, zall_2, zob_iff, zar_iff, zis_iff, zkIs_some, zkHas_some, iI_vp, z01_I, z01_bz, zch_I, true_and, and_true, or_false, false_or, and_self, upI_same, upL_same, upI_ne, upL_ne, iI_ixN, zI_mk, zL_mk, zP_mk, zK_mk, zN_mk, zwI_up, zwL_up, zg_some, Nat.reduceMod, Nat.reduceDiv, zcn_I, iI_add, iI_sub, iI_mul, iI_neg, iI_lt, iI_le, iI_eq, iI_lt0, iI_le0, iI_gt0, iI_ge0, iI_eq0, k0, p27, k27, q27, j27, r27, s27] <;> omega) (fun h' => ?_) (fun h' => ?_)
    · simp (disch := omega) only [zcn_I, iI_add, iI_sub, iI_mul, iI_neg, iI_lt, iI_le, iI_eq, iI_lt0, iI_le0, iI_gt0, iI_ge0, iI_eq0, upI_same, upL_same, upI_ne, upL_ne, iI_ixN, zI_mk, zL_mk, zP_mk, zK_mk, zN_mk, zwI_up, zwL_up, zg_some, Nat.reduceMod, Nat.reduceDiv, p27, q27, r27, vk] at h'
      refine zW.go [67] rfl (by omega) trivial (NX _ 0 (zcn_I _) ?_)
      exact congrArg (fun b : Bool => nGd (tRd T j) c a + (if b then 1 else 0)) (decide_eq_false (by omega))
    · simp (disch := omega) only [zcn_I, iI_add, iI_sub, iI_mul, iI_neg, iI_lt, iI_le, iI_eq, iI_lt0, iI_le0, iI_gt0, iI_ge0, iI_eq0, upI_same, upL_same, upI_ne, upL_ne, iI_ixN, zI_mk, zL_mk, zP_mk, zK_mk, zN_mk, zwI_up, zwL_up, zg_some, Nat.reduceMod, Nat.reduceDiv, p27, q27, r27, vk] at h'
      refine zW.go [67] rfl (by omega) trivial (NX _ 1 (zcn_I _) ?_)
      exact congrArg (fun b : Bool => nGd (tRd T j) c a + (if b then 1 else 0)) (decide_eq_true (by omega))
theorem mShr_mid {j s1 s2 : Nat} (hd : 1 ≤ d) (h : mf y T (I, L, R)) (hj : j < tRn T)
    (hQ : ∀ u v, zW 248 d 0 0 81 [some (zr (some y)), some (zi (iI ((s1 + smN (nAtt (tRd T j) false) 12 : Nat) : Int))), some (zi (iI ((s2 + smN (nAtt (tRd T j) true) 12 : Nat) : Int))), some (zi (iI (j : Int))), some (zi u), v] [] (I, L, R) Q) :
    ∀ n c, c + n = tCn T → ∀ (x1 x2 x4 : Int32) (v : Option zV), x1 = iI ((s1 + smN (nAtt (tRd T j) false) c : Nat) : Int) → x2 = iI ((s2 + smN (nAtt (tRd T j) true) c : Nat) : Int) → x4 = iI (c : Int) → zW 248 d 0 0 17 [some (zr (some y)), some (zi x1), some (zi x2), some (zi (iI (j : Int))), some (zi x4), v] [] (I, L, R) Q
  | 0, c, hcn, x1, x2, x4, v, e1, e2, e4 => by
    subst e1; subst e2; subst e4
    have k0 : R.2.1 y = some (7, 0) := h.2.1.1
    obtain ⟨-, -, ⟨b1, b2⟩, -⟩ := m_own h
    obtain ⟨j8, ho, hz, -⟩ := m_rd h hj
    have h12 := h.1.2.2.2.1.1
    obtain rfl : c = tCn T := by omega
    have s12 : ∀ g, smN (nAtt (tRd T j) g) 12 = smN (nAtt (tRd T j) g) (tCn T) := fun g => by
      have := smN_n (f := nAtt (tRd T j) g) (n := tCn T) (m := 12 - tCn T) (fun k q1 q2 => nAtt_z (hz k q1 (by omega)))
      rw [show tCn T + (12 - tCn T) = 12 by omega] at this
      exact this
    rw [s12, s12] at hQ
    exact zW.gbt [] rfl rfl rfl (by omega) (by simp (disch := omega) only [true_or, or_true, eq_self, Option.some.injEq, Prod.mk.injEq, zall_0, zall_1, zall_2, zob_iff, zar_iff, zis_iff, zkIs_some, zkHas_some, iI_vp, z01_I, z01_bz, zch_I, true_and, and_true, or_false, false_or, and_self, upI_same, upL_same, upI_ne, upL_ne, iI_ixN, zI_mk, zL_mk, zP_mk, zK_mk, zN_mk, zwI_up, zwL_up, zg_some, Nat.reduceMod, Nat.reduceDiv, zcn_I, iI_add, iI_sub, iI_mul, iI_neg, iI_lt, iI_le, iI_eq, iI_lt0, iI_le0, iI_gt0, iI_ge0, iI_eq0, k0] <;> omega) (by simp (disch := omega) only [eq_self, not_true_eq_false, not_false_eq_true, upI_same, upL_same, upI_ne, upL_ne, iI_ixN, zI_mk, zL_mk, zP_mk, zK_mk, zN_mk, zwI_up, zwL_up, zg_some, Nat.reduceMod, Nat.reduceDiv, zcn_I, iI_add, iI_sub, iI_mul, iI_neg, iI_lt, iI_le, iI_eq, iI_lt0, iI_le0, iI_gt0, iI_ge0, iI_eq0, b1] <;> omega) (hQ _ _)
  | n + 1, c, hcn, x1, x2, x4, v, e1, e2, e4 => by
    subst e1; subst e2; subst e4
    have k0 : R.2.1 y = some (7, 0) := h.2.1.1
    obtain ⟨-, -, ⟨b1, b2⟩, -⟩ := m_own h
    have h12 := h.1.2.2.2.1.1
    refine zW.gbf [] rfl rfl rfl (by omega) (by simp (disch := omega) only [true_or, or_true, eq_self, Option.some.injEq, Prod.mk.injEq, zall_0, zall_1, zall_2, zob_iff, zar_iff, zis_iff, zkIs_some, zkHas_some, iI_vp, z01_I, z01_bz, zch_I, true_and, and_true, or_false, false_or, and_self, upI_same, upL_same, upI_ne, upL_ne, iI_ixN, zI_mk, zL_mk, zP_mk, zK_mk, zN_mk, zwI_up, zwL_up, zg_some, Nat.reduceMod, Nat.reduceDiv, zcn_I, iI_add, iI_sub, iI_mul, iI_neg, iI_lt, iI_le, iI_eq, iI_lt0, iI_le0, iI_gt0, iI_ge0, iI_eq0, k0] <;> omega) (by simp (disch := omega) only [eq_self, not_true_eq_false, not_false_eq_true, upI_same, upL_same, upI_ne, upL_ne, iI_ixN, zI_mk, zL_mk, zP_mk, zK_mk, zN_mk, zwI_up, zwL_up, zg_some, Nat.reduceMod, Nat.reduceDiv, zcn_I, iI_add, iI_sub, iI_mul, iI_neg, iI_lt, iI_le, iI_eq, iI_lt0, iI_le0, iI_gt0, iI_ge0, iI_eq0, b1] <;> omega) ?_
    refine zW.go [29] rfl (by omega) trivial ?_
    refine mShr_in hd h hj (by omega) (fun v => ?_) (rMa (tRd T j) c) 0 (by omega) _ _ _ rfl rfl (zcn_I _)
    refine zW.go [17] rfl (by omega) trivial ?_
    exact mShr_mid hd h hj hQ n (c + 1) (by omega) _ _ _ _ (show iI ((s1 + smN (nAtt (tRd T j) false) c + nAtt (tRd T j) false c : Nat) : Int) = iI ((s1 + smN (nAtt (tRd T j) false) (c + 1) : Nat) : Int) from congrArg (fun v : Nat => iI (v : Int)) (Nat.add_assoc _ _ _)) (show iI ((s2 + smN (nAtt (tRd T j) true) c + nAtt (tRd T j) true c : Nat) : Int) = iI ((s2 + smN (nAtt (tRd T j) true) (c + 1) : Nat) : Int) from congrArg (fun v : Nat => iI (v : Int)) (Nat.add_assoc _ _ _)) (by rw [zcn_I, iI_add]; rfl)
theorem mShr_out (hd : 1 ≤ d) (h : mf y T (I, L, R))
    (hQ : ∀ u v, zW 248 d 0 0 87 [some (zr (some y)), some (zi (iI (shA T false (tRn T) : Nat))), some (zi (iI (shA T true (tRn T) : Nat))), some (zi (iI (tRn T : Int))), u, v] [] (I, L, R) Q) :
    ∀ n k, k + n = tRn T → ∀ (x1 x2 x3 : Int32) (u v : Option zV), x1 = iI (shA T false k : Nat) → x2 = iI (shA T true k : Nat) → x3 = iI (k : Int) → zW 248 d 0 0 6 [some (zr (some y)), some (zi x1), some (zi x2), some (zi x3), u, v] [] (I, L, R) Q
  | 0, k, hk, x1, x2, x3, u, v, e1, e2, e3 => by
    subst e1; subst e2; subst e3
    have k0 : R.2.1 y = some (7, 0) := h.2.1.1
    obtain ⟨b1, b8, -⟩ := m_rds h
    obtain rfl : k = tRn T := by omega
    exact zW.gbt [] rfl rfl rfl (by omega) (by simp (disch := omega) only [true_or, or_true, eq_self, Option.some.injEq, Prod.mk.injEq, zall_0, zall_1, zall_2, zob_iff, zar_iff, zis_iff, zkIs_some, zkHas_some, iI_vp, z01_I, z01_bz, zch_I, true_and, and_true, or_false, false_or, and_self, upI_same, upL_same, upI_ne, upL_ne, iI_ixN, zI_mk, zL_mk, zP_mk, zK_mk, zN_mk, zwI_up, zwL_up, zg_some, Nat.reduceMod, Nat.reduceDiv, zcn_I, iI_add, iI_sub, iI_mul, iI_neg, iI_lt, iI_le, iI_eq, iI_lt0, iI_le0, iI_gt0, iI_ge0, iI_eq0, k0] <;> omega) (by simp (disch := omega) only [eq_self, not_true_eq_false, not_false_eq_true, upI_same, upL_same, upI_ne, upL_ne, iI_ixN, zI_mk, zL_mk, zP_mk, zK_mk, zN_mk, zwI_up, zwL_up, zg_some, Nat.reduceMod, Nat.reduceDiv, zcn_I, iI_add, iI_sub, iI_mul, iI_neg, iI_lt, iI_le, iI_eq, iI_lt0, iI_le0, iI_gt0, iI_ge0, iI_eq0, b1] <;> omega) (hQ _ _)
  | n + 1, k, hk, x1, x2, x3, u, v, e1, e2, e3 => by
    subst e1; subst e2; subst e3
    have k0 : R.2.1 y = some (7, 0) := h.2.1.1
    obtain ⟨b1, b8, -⟩ := m_rds h
    refine zW.gbf [] rfl rfl rfl (by omega) (by simp (disch := omega) only [true_or, or_true, eq_self, Option.some.injEq, Prod.mk.injEq, zall_0, zall_1, zall_2, zob_iff, zar_iff, zis_iff, zkIs_some, zkHas_some, iI_vp, z01_I, z01_bz, zch_I, true_and, and_true, or_false, false_or, and_self, upI_same, upL_same, upI_ne, upL_ne, iI_ixN, zI_mk, zL_mk, zP_mk, zK_mk, zN_mk, zwI_up, zwL_up, zg_some, Nat.reduceMod, Nat.reduceDiv, zcn_I, iI_add, iI_sub, iI_mul, iI_neg, iI_lt, iI_le, iI_eq, iI_lt0, iI_le0, iI_gt0, iI_ge0, iI_eq0, k0] <;> omega) (by simp (disch := omega) only [eq_self, not_true_eq_false, not_false_eq_true, upI_same, upL_same, upI_ne, upL_ne, iI_ixN, zI_mk, zL_mk, zP_mk, zK_mk, zN_mk, zwI_up, zwL_up, zg_some, Nat.reduceMod, Nat.reduceDiv, zcn_I, iI_add, iI_sub, iI_mul, iI_neg, iI_lt, iI_le, iI_eq, iI_lt0, iI_le0, iI_gt0, iI_ge0, iI_eq0, b1] <;> omega) ?_
    refine zW.go [17] rfl (by omega) trivial ?_
    refine mShr_mid hd h (show k < tRn T by omega) (fun u' v' => ?_) (tCn T) 0 (by omega) _ _ _ _ rfl rfl (zcn_I _)
    refine zW.go [6] rfl (by omega) trivial ?_
    exact mShr_out hd h hQ n (k + 1) (by omega) _ _ _ _ _ rfl rfl (by rw [zcn_I, iI_add]; rfl)
theorem mShare_ok (hd : 4 ≤ d) (h : mf y T (I, L, R)) (hQ : ∀ M' f, mf y T M' → mgr y (I, L, R) M' → M'.1 y 41 = iI ((oShare T).1 : Int) → ((oShare T).1 = 0 → zf f = eF (shA T false (tRn T)) (oShare T).2.1) → Q (.inl (some (zf f))) M') : zS 248 d [zr (some y)] (I, L, R) Q := by
  have k0 : R.2.1 y = some (7, 0) := h.2.1.1
  have h8 := h.1.2.2.2.2.1.1
  have hk : ∀ j, j < tRn T → rOK (tRd T j) := fun j hj => (h.1.2.2.2.2.1.2 j hj).1
  have l1 := shA_le hk false (tRn T) (Nat.le_refl _)
  have l2 := shA_le hk true (tRn T) (Nat.le_refl _)
  refine zW.go [6] rfl (by omega) trivial ?_
  refine mShr_out (by omega) h (fun u v => ?_) (tRn T) 0 (by omega) _ _ _ _ _ (zcn_I _) (zcn_I _) (zcn_I _)
  have F : ∀ q, tru (shA T false (tRn T) = 0) q → zW 248 d 0 0 97 [some (zr (some y)), some (zi (iI (shA T false (tRn T) : Nat))), some (zi (iI (shA T true (tRn T) : Nat))), some (zi (iI (tRn T : Int))), u, v] [zi q, zr (some y)] (I, L, R) Q := fun q hq => by
    refine zW.gz [] rfl rfl rfl (by omega) trivial ⟨_, rfl, k0⟩ rfl rfl (by decide +kernel) (by decide +kernel) ?_
    refine mThr_ok (k := 1) (by omega) k0 hq (zcn_I _) (fun hb => ?_) (fun hb => ?_)
    · refine zW.gbf [] rfl rfl rfl (by omega) trivial (by simp (disch := omega) only [eq_self, not_true_eq_false, not_false_eq_true, upI_same, upL_same, upI_ne, upL_ne, iI_ixN, zI_mk, zL_mk, zP_mk, zK_mk, zN_mk, zwI_up, zwL_up, zg_some, Nat.reduceMod, Nat.reduceDiv, zcn_I, iI_add, iI_sub, iI_mul, iI_neg, iI_lt, iI_le, iI_eq, iI_lt0, iI_le0, iI_gt0, iI_ge0, iI_eq0] <;> omega) ?_
      refine zW.go [113] rfl (by omega) trivial ?_
      refine zW.gr [] rfl rfl rfl (by omega) trivial trivial ?_
      have eo : oShare T = (1, 0, T) := if_pos hb
      refine hQ _ _ (mf_scr h th_scr) (mgr_o (scr_o th_scr)) ?_ ?_
      · rw [eo]
        exact upI_same _ _ _ _
      · rw [eo]
        intro q
        cases q
    · refine zW.gbt [] rfl rfl rfl (by omega) trivial (by simp (disch := omega) only [eq_self, not_true_eq_false, not_false_eq_true, upI_same, upL_same, upI_ne, upL_ne, iI_ixN, zI_mk, zL_mk, zP_mk, zK_mk, zN_mk, zwI_up, zwL_up, zg_some, Nat.reduceMod, Nat.reduceDiv, zcn_I, iI_add, iI_sub, iI_mul, iI_neg, iI_lt, iI_le, iI_eq, iI_lt0, iI_le0, iI_gt0, iI_ge0, iI_eq0] <;> omega) ?_
      have eo : oShare T = (0, ((shA T true (tRn T) : Nat) : Int), T) := if_neg hb
      refine zW.gr [] rfl rfl rfl (by omega) (n32_q (by omega) (by omega) (by omega)).1 trivial ?_
      refine hQ _ _ (mf_scr h th_scr) (mgr_o (scr_o th_scr)) ?_ ?_
      · rw [eo]
        exact upI_same _ _ _ _
      · rw [eo]
        intro q
        rfl
  refine zW.gb [] rfl rfl rfl (by omega) trivial (fun h' => ?_) (fun h' => ?_) <;> simp (disch := omega) only [zcn_I, iI_add, iI_sub, iI_mul, iI_neg, iI_lt, iI_le, iI_eq, iI_lt0, iI_le0, iI_gt0, iI_ge0, iI_eq0] at h'
  · exact zW.go [97] rfl (by omega) trivial (F _ (tru_f (by omega)))
  · exact zW.go [97] rfl (by omega) trivial (F _ (tru_t (by omega)))
end MSHR
