/-! The model's rounds: asked. -/
theorem onC_no {T : tfT} {r c : Int} {f : Nat → Nat → tRes} (h : noR T r ∨ ¬ (0 ≤ c ∧ c < tCn T)) : onC T r c f = (1, 0, T) := by
  unfold onC onR
  by_cases q : noR T r
  · exact if_pos q
  · rw [if_neg q]
    exact if_pos (h.resolve_left q)
theorem onC_yes {T : tfT} {r c : Int} (h : ¬ (noR T r ∨ ¬ (0 ≤ c ∧ c < tCn T))) : ∃ j k : Nat, r = j ∧ c = k ∧ j < tRn T ∧ k < tCn T ∧ ∀ f, onC T r c f = f j k := by
  have h1 : 0 ≤ r ∧ r < tRn T := Classical.byContradiction fun q => h (Or.inl q)
  have h2 : 0 ≤ c ∧ c < tCn T := Classical.byContradiction fun q => h (Or.inr q)
  refine ⟨r.toNat, c.toNat, by omega, by omega, by omega, by omega, fun f => ?_⟩
  unfold onC onR
  rw [if_neg (fun q => q h1)]
  exact if_neg (fun q => q h2)
section MRD2
variable {d y : Nat} {T : tfT} {I : Nat → Nat → Int32} {L : Nat → Nat → Int64} {R : zRt} {Q : zO → zM → Prop}
theorem mHav_lp {j : Nat} (hd : 1 ≤ d) (h : mf y T (I, L, R)) (hj : j < tRn T) (hQ : Q (.inl (some (zi (iI (nSta (tRd T j) : Int))))) (I, L, R)) :
    ∀ n k, k + n = tCn T → ∀ (x z : Int32), x = iI (ct (fun i => decide (0 < rMa (tRd T j) i)) k : Nat) → z = iI (k : Int) → zW 242 d 0 0 4 [some (zr (some y)), some (zi (iI (j : Int))), some (zi x), some (zi z)] [] (I, L, R) Q
  | 0, k, hk, x, z, e1, e2 => by
    subst e1; subst e2
    have k0 : R.2.1 y = some (7, 0) := h.2.1.1
    obtain ⟨-, -, ⟨b1, b2⟩, -⟩ := m_own h
    obtain ⟨j8, ho, hz, -⟩ := m_rd h hj
    have h12 := h.1.2.2.2.1.1
    obtain rfl : k = tCn T := by omega
    refine zW.gbt [] rfl rfl rfl (by omega) (by simp (disch := omega) only [true_or, or_true, eq_self, Option.some.injEq, Prod.mk.injEq, zall_0, zall_1, zall_2, zob_iff, zar_iff, zis_iff, zkIs_some, zkHas_some, iI_vp, z01_I, z01_bz, zch_I, true_and, and_true, or_false, false_or, and_self, upI_same, upL_same, upI_ne, upL_ne, iI_ixN, zI_mk, zL_mk, zP_mk, zK_mk, zN_mk, zwI_up, zwL_up, zg_some, Nat.reduceMod, Nat.reduceDiv, zcn_I, iI_add, iI_sub, iI_mul, iI_neg, iI_lt, iI_le, iI_eq, iI_lt0, iI_le0, iI_gt0, iI_ge0, iI_eq0, k0] <;> omega) (by simp (disch := omega) only [eq_self, not_true_eq_false, not_false_eq_true, upI_same, upL_same, upI_ne, upL_ne, iI_ixN, zI_mk, zL_mk, zP_mk, zK_mk, zN_mk, zwI_up, zwL_up, zg_some, Nat.reduceMod, Nat.reduceDiv, zcn_I, iI_add, iI_sub, iI_mul, iI_neg, iI_lt, iI_le, iI_eq, iI_lt0, iI_le0, iI_gt0, iI_ge0, iI_eq0, b1] <;> omega) ?_
    refine zW.gr [] rfl rfl rfl (by omega) trivial trivial ?_
    have := ct_more (b := fun i => decide (0 < rMa (tRd T j) i)) (n := tCn T) (m := 12 - tCn T) (fun k q1 q2 => by rw [hz k q1 (by omega)]; rfl)
    rw [show tCn T + (12 - tCn T) = 12 by omega] at this
    rw [← this]
    exact hQ
  | n + 1, k, hk, x, z, e1, e2 => by
    subst e1; subst e2
    have hM := h.2.1
    have k0 : R.2.1 y = some (7, 0) := hM.1
    obtain ⟨-, -, ⟨b1, b2⟩, -⟩ := m_own h
    obtain ⟨j8, ho, hz, r1, r2, r3, r4, r5, r6, r7⟩ := m_rd h hj
    have h12 := h.1.2.2.2.1.1
    have ma := (r7 k (by omega)).1
    have hm5 := (ho.2.2.2.2 k (by omega)).1
    have hx5 := mxA_le (rFm (tRd T j))
    have p26 : R.1 y 26 = some (y + 1791) := (hM.2.1 26 (by decide)).1; have k26 : R.2.1 (y + 1791) = some (25, 8) := (hM.2.1 26 (by decide)).2; have q26 : R.1 (y + 1791) (j) = some (y + 1792 + j) := (hM.2.2.2.2.2.2.2.2.2.1 (j) (by omega)).1.trans (congrArg some (by omega)); have j26 : R.2.1 (y + 1792 + j) = some (20, 12) := (congrArg R.2.1 (by omega)).trans (hM.2.2.2.2.2.2.2.2.2.1 (j) (by omega)).2
    have NX : ∀ (u : Int32) (e : Nat), u = iI (e : Int) → ct (fun i => decide (0 < rMa (tRd T j) i)) (k + 1) = ct (fun i => decide (0 < rMa (tRd T j) i)) k + e → zW 242 d 0 0 29 [some (zr (some y)), some (zi (iI (j : Int))), some (zi (iI (ct (fun i => decide (0 < rMa (tRd T j) i)) k : Nat))), some (zi (iI (k : Int)))] [zi u, zi (iI (ct (fun i => decide (0 < rMa (tRd T j) i)) k : Nat))] (I, L, R) Q := fun u e hu he => by
      subst hu
      refine zW.go [4] rfl (by omega) trivial ?_
      exact mHav_lp hd h hj hQ n (k + 1) (by omega) _ _ (by rw [iI_add, he]; rfl) (by rw [zcn_I, iI_add]; rfl)
    refine zW.gbf [] rfl rfl rfl (by omega) (by simp (disch := omega) only [true_or, or_true, eq_self, Option.some.injEq, Prod.mk.injEq, zall_0, zall_1, zall_2, zob_iff, zar_iff, zis_iff, zkIs_some, zkHas_some, iI_vp, z01_I, z01_bz, zch_I, true_and, and_true, or_false, false_or, and_self, upI_same, upL_same, upI_ne, upL_ne, iI_ixN, zI_mk, zL_mk, zP_mk, zK_mk, zN_mk, zwI_up, zwL_up, zg_some, Nat.reduceMod, Nat.reduceDiv, zcn_I, iI_add, iI_sub, iI_mul, iI_neg, iI_lt, iI_le, iI_eq, iI_lt0, iI_le0, iI_gt0, iI_ge0, iI_eq0, k0] <;> omega) (by simp (disch := omega) only [eq_self, not_true_eq_false, not_false_eq_true, upI_same, upL_same, upI_ne, upL_ne, iI_ixN, zI_mk, zL_mk, zP_mk, zK_mk, zN_mk, zwI_up, zwL_up, zg_some, Nat.reduceMod, Nat.reduceDiv, zcn_I, iI_add, iI_sub, iI_mul, iI_neg, iI_lt, iI_le, iI_eq, iI_lt0, iI_le0, iI_gt0, iI_ge0, iI_eq0, b1] <;> omega) ?_
    refine zW.gb [] rfl rfl rfl (by omega) (by simp (disch := omega) only [true_or, or_true, eq_self, Option.some.injEq, Prod.mk.injEq, zall_0, zall_1, zall_2, zob_iff, zar_iff, zis_iff, zkIs_some, zkHas_some, iI_vp, z01_I, z01_bz, zch_I, true_and, and_true, or_false, false_or, and_self, upI_same, upL_same, upI_ne, upL_ne, iI_ixN, zI_mk, zL_mk, zP_mk, zK_mk, zN_mk, zwI_up, zwL_up, zg_some, Nat.reduceMod, Nat.reduceDiv, zcn_I, iI_add, iI_sub, iI_mul, iI_neg, iI_lt, iI_le, iI_eq, iI_lt0, iI_le0, iI_gt0, iI_ge0, iI_eq0, k0, p26, k26, q26, j26] <;> omega) (fun h' => ?_) (fun h' => ?_)
    · simp (disch := omega) only [zcn_I, iI_add, iI_sub, iI_mul, iI_neg, iI_lt, iI_le, iI_eq, iI_lt0, iI_le0, iI_gt0, iI_ge0, iI_eq0, upI_same, upL_same, upI_ne, upL_ne, iI_ixN, zI_mk, zL_mk, zP_mk, zK_mk, zN_mk, zwI_up, zwL_up, zg_some, Nat.reduceMod, Nat.reduceDiv, p26, q26, ma] at h'
      refine zW.go [29] rfl (by omega) trivial (NX _ 0 (zcn_I _) ?_)
      exact congrArg (fun b : Bool => ct (fun i => decide (0 < rMa (tRd T j) i)) k + (if b then 1 else 0)) (decide_eq_false (by omega))
    · simp (disch := omega) only [zcn_I, iI_add, iI_sub, iI_mul, iI_neg, iI_lt, iI_le, iI_eq, iI_lt0, iI_le0, iI_gt0, iI_ge0, iI_eq0, upI_same, upL_same, upI_ne, upL_ne, iI_ixN, zI_mk, zL_mk, zP_mk, zK_mk, zN_mk, zwI_up, zwL_up, zg_some, Nat.reduceMod, Nat.reduceDiv, p26, q26, ma] at h'
      refine zW.go [29] rfl (by omega) trivial (NX _ 1 (zcn_I _) ?_)
      exact congrArg (fun b : Bool => ct (fun i => decide (0 < rMa (tRd T j) i)) k + (if b then 1 else 0)) (decide_eq_true (by omega))
theorem mHav_ok {j : Nat} {a : Int32} (hd : 1 ≤ d) (h : mf y T (I, L, R)) (hj : j < tRn T) (e : a = iI (j : Int)) (hQ : Q (.inl (some (zi (iI (nSta (tRd T j) : Int))))) (I, L, R)) : zS 242 d [zr (some y), zi a] (I, L, R) Q := by
  subst e
  refine zW.go [4] rfl (by omega) trivial ?_
  exact mHav_lp hd h hj hQ (tCn T) 0 (by omega) _ _ (zcn_I _) (zcn_I _)
theorem mAtts_ok {r c : Int} {a b : Int32} (hd : 6 ≤ d) (h : mf y T (I, L, R)) (e1 : a = iI r) (e2 : b = iI c) (h1 : i32 r) (h2 : i32 c) (hQ : mP y (I, L, R) (oAtts T r c) eI Q) : zS 233 d [zr (some y), zi a, zi b] (I, L, R) Q := by
  subst e1; subst e2
  have hM := h.2.1
  have k0 : R.2.1 y = some (7, 0) := hM.1
  refine zW.gz [] rfl rfl rfl (by omega) trivial ⟨_, rfl, k0⟩ rfl rfl (by decide +kernel) (by decide +kernel) ?_
  refine nobody_ok (by omega) h rfl rfl h1 h2 (fun q hq => ?_)
  refine zW.gz [] rfl rfl rfl (by omega) trivial ⟨_, rfl, k0⟩ rfl rfl (by decide +kernel) (by decide +kernel) ?_
  refine mThr_ok (k := 1) (by omega) k0 hq (zcn_I _) (fun hb => ?_) (fun hg => ?_)
  · refine zW.gbf [] rfl rfl rfl (by omega) trivial (by simp (disch := omega) only [eq_self, not_true_eq_false, not_false_eq_true, upI_same, upL_same, upI_ne, upL_ne, iI_ixN, zI_mk, zL_mk, zP_mk, zK_mk, zN_mk, zwI_up, zwL_up, zg_some, Nat.reduceMod, Nat.reduceDiv, zcn_I, iI_add, iI_sub, iI_mul, iI_neg, iI_lt, iI_le, iI_eq, iI_lt0, iI_le0, iI_gt0, iI_ge0, iI_eq0] <;> omega) ?_
    refine zW.gr [] rfl rfl rfl (by omega) trivial trivial ?_; rw [zcn_I]
    refine mP_t hQ (c := 0) (v := 0) ?_ (mf_scr h th_scr) (mgr_o (scr_o th_scr)) (upI_same _ _ _ _) 0
    exact onC_no hb
  · obtain ⟨j, k, rfl, rfl, hj, hk, e⟩ := onC_yes hg
    unfold oAtts at hQ
    rw [e] at hQ
    obtain ⟨j8, ho, hz, r1, r2, r3, r4, r5, r6, r7⟩ := m_rd h hj
    have h12 := h.1.2.2.2.1.1
    have ma := (r7 k (by omega)).1
    have p26 : R.1 y 26 = some (y + 1791) := (hM.2.1 26 (by decide)).1; have k26 : R.2.1 (y + 1791) = some (25, 8) := (hM.2.1 26 (by decide)).2; have q26 : R.1 (y + 1791) (j) = some (y + 1792 + j) := (hM.2.2.2.2.2.2.2.2.2.1 (j) (by omega)).1.trans (congrArg some (by omega)); have j26 : R.2.1 (y + 1792 + j) = some (20, 12) := (congrArg R.2.1 (by omega)).trans (hM.2.2.2.2.2.2.2.2.2.1 (j) (by omega)).2
    refine zW.gbt [] rfl rfl rfl (by omega) trivial (by simp (disch := omega) only [eq_self, not_true_eq_false, not_false_eq_true, upI_same, upL_same, upI_ne, upL_ne, iI_ixN, zI_mk, zL_mk, zP_mk, zK_mk, zN_mk, zwI_up, zwL_up, zg_some, Nat.reduceMod, Nat.reduceDiv, zcn_I, iI_add, iI_sub, iI_mul, iI_neg, iI_lt, iI_le, iI_eq, iI_lt0, iI_le0, iI_gt0, iI_ge0, iI_eq0] <;> omega) ?_
    refine zW.gr [] rfl rfl rfl (by omega) (by simp (disch := omega) only [true_or, or_true, eq_self, Option.some.injEq, Prod.mk.injEq, zall_0, zall_1, zall_2, zob_iff, zar_iff, zis_iff, zkIs_some, zkHas_some, iI_vp, z01_I, z01_bz, zch_I, true_and, and_true, or_false, false_or, and_self, upI_same, upL_same, upI_ne, upL_ne, iI_ixN, zI_mk, zL_mk, zP_mk, zK_mk, zN_mk, zwI_up, zwL_up, zg_some, Nat.reduceMod, Nat.reduceDiv, zcn_I, iI_add, iI_sub, iI_mul, iI_neg, iI_lt, iI_le, iI_eq, iI_lt0, iI_le0, iI_gt0, iI_ge0, iI_eq0, k0, p26, k26, q26, j26] <;> omega) trivial ?_
    simp (disch := omega) only [upI_same, upL_same, upI_ne, upL_ne, iI_ixN, zI_mk, zL_mk, zP_mk, zK_mk, zN_mk, zwI_up, zwL_up, zg_some, Nat.reduceMod, Nat.reduceDiv, p26, q26, ma]
    exact mP_0 hQ rfl (mf_scr h th_scr) (mgr_o (scr_o th_scr)) (upI_same _ _ _ _)
theorem mBst_ok {r c : Int} {a b : Int32} (hd : 6 ≤ d) (h : mf y T (I, L, R)) (e1 : a = iI r) (e2 : b = iI c) (h1 : i32 r) (h2 : i32 c) (hQ : mP y (I, L, R) (oBest T r c) eI Q) : zS 236 d [zr (some y), zi a, zi b] (I, L, R) Q := by
  subst e1; subst e2
  have hM := h.2.1
  have k0 : R.2.1 y = some (7, 0) := hM.1
  refine zW.gz [] rfl rfl rfl (by omega) trivial ⟨_, rfl, k0⟩ rfl rfl (by decide +kernel) (by decide +kernel) ?_
  refine nobody_ok (by omega) h rfl rfl h1 h2 (fun q hq => ?_)
  refine zW.gz [] rfl rfl rfl (by omega) trivial ⟨_, rfl, k0⟩ rfl rfl (by decide +kernel) (by decide +kernel) ?_
  refine mThr_ok (k := 1) (by omega) k0 hq (zcn_I _) (fun hb => ?_) (fun hg => ?_)
  · refine zW.gbf [] rfl rfl rfl (by omega) trivial (by simp (disch := omega) only [eq_self, not_true_eq_false, not_false_eq_true, upI_same, upL_same, upI_ne, upL_ne, iI_ixN, zI_mk, zL_mk, zP_mk, zK_mk, zN_mk, zwI_up, zwL_up, zg_some, Nat.reduceMod, Nat.reduceDiv, zcn_I, iI_add, iI_sub, iI_mul, iI_neg, iI_lt, iI_le, iI_eq, iI_lt0, iI_le0, iI_gt0, iI_ge0, iI_eq0] <;> omega) ?_
    refine zW.gr [] rfl rfl rfl (by omega) trivial trivial ?_; rw [zcn_I]
    refine mP_t hQ (c := 0) (v := 0) ?_ (mf_scr h th_scr) (mgr_o (scr_o th_scr)) (upI_same _ _ _ _) 0
    exact onC_no hb
  · obtain ⟨j, k, rfl, rfl, hj, hk, e⟩ := onC_yes hg
    unfold oBest at hQ
    rw [e] at hQ
    have hm := mf_scr h (th_scr (v := iI 0) (L := L))
    obtain ⟨j8, ho, hz, r1, r2, r3, r4, r5, r6, r7⟩ := m_rd h hj
    have h12 := h.1.2.2.2.1.1
    have lb := rBs_le ho (show k < 12 by omega)
    have hfm := fm_lt ho
    have p20 : R.1 y 20 = some (y + 1785) := (hM.2.1 20 (by decide)).1; have k20 : R.2.1 (y + 1785) = some (23, 8) := (hM.2.1 20 (by decide)).2
    refine zW.gbt [] rfl rfl rfl (by omega) trivial (by simp (disch := omega) only [eq_self, not_true_eq_false, not_false_eq_true, upI_same, upL_same, upI_ne, upL_ne, iI_ixN, zI_mk, zL_mk, zP_mk, zK_mk, zN_mk, zwI_up, zwL_up, zg_some, Nat.reduceMod, Nat.reduceDiv, zcn_I, iI_add, iI_sub, iI_mul, iI_neg, iI_lt, iI_le, iI_eq, iI_lt0, iI_le0, iI_gt0, iI_ge0, iI_eq0] <;> omega) ?_
    refine zW.gz [] rfl rfl rfl (by omega) trivial ⟨_, rfl, k0⟩ rfl rfl (by decide +kernel) (by decide +kernel) ?_
    refine mBest_ok (by omega) hm hj rfl rfl (by omega) ?_
    have G : ∀ q, tru (rBs (tRd T j) k = 0) q → zW 236 d 0 0 33 [some (zr (some y)), some (zi (iI (j : Int))), some (zi (iI (k : Int))), some (zi (iI (rBs (tRd T j) k : Int)))] [zi q, zr (some y)] (upI I y 41 (iI 0), L, R) Q := fun q hq => by
      refine zW.gz [] rfl rfl rfl (by omega) trivial ⟨_, rfl, k0⟩ rfl rfl (by decide +kernel) (by decide +kernel) ?_
      refine mThr_ok (k := 2) (by omega) k0 hq (zcn_I _) (fun hb => ?_) (fun hb => ?_)
      · refine zW.gbf [] rfl rfl rfl (by omega) trivial (by simp (disch := omega) only [eq_self, not_true_eq_false, not_false_eq_true, upI_same, upL_same, upI_ne, upL_ne, iI_ixN, zI_mk, zL_mk, zP_mk, zK_mk, zN_mk, zwI_up, zwL_up, zg_some, Nat.reduceMod, Nat.reduceDiv, zcn_I, iI_add, iI_sub, iI_mul, iI_neg, iI_lt, iI_le, iI_eq, iI_lt0, iI_le0, iI_gt0, iI_ge0, iI_eq0] <;> omega) ?_
        refine zW.gr [] rfl rfl rfl (by omega) trivial trivial ?_; rw [zcn_I]
        exact mP_t hQ (c := 1) (v := 0) (if_pos hb) (mf_scr h th2_scr) (mgr_o (scr_o th2_scr)) (upI_same _ _ _ _) 0
      · rw [if_neg hb] at hQ
        refine zW.gbt [] rfl rfl rfl (by omega) trivial (by simp (disch := omega) only [eq_self, not_true_eq_false, not_false_eq_true, upI_same, upL_same, upI_ne, upL_ne, iI_ixN, zI_mk, zL_mk, zP_mk, zK_mk, zN_mk, zwI_up, zwL_up, zg_some, Nat.reduceMod, Nat.reduceDiv, zcn_I, iI_add, iI_sub, iI_mul, iI_neg, iI_lt, iI_le, iI_eq, iI_lt0, iI_le0, iI_gt0, iI_ge0, iI_eq0] <;> omega) ?_
        by_cases cm : rFm (tRd T j) = 109
        · refine zW.gbf [] rfl rfl rfl (by omega) (by simp (disch := omega) only [true_or, or_true, eq_self, Option.some.injEq, Prod.mk.injEq, zall_0, zall_1, zall_2, zob_iff, zar_iff, zis_iff, zkIs_some, zkHas_some, iI_vp, z01_I, z01_bz, zch_I, true_and, and_true, or_false, false_or, and_self, upI_same, upL_same, upI_ne, upL_ne, iI_ixN, zI_mk, zL_mk, zP_mk, zK_mk, zN_mk, zwI_up, zwL_up, zg_some, Nat.reduceMod, Nat.reduceDiv, zcn_I, iI_add, iI_sub, iI_mul, iI_neg, iI_lt, iI_le, iI_eq, iI_lt0, iI_le0, iI_gt0, iI_ge0, iI_eq0, k0, p20, k20] <;> omega) (by simp (disch := omega) only [eq_self, not_true_eq_false, not_false_eq_true, upI_same, upL_same, upI_ne, upL_ne, iI_ixN, zI_mk, zL_mk, zP_mk, zK_mk, zN_mk, zwI_up, zwL_up, zg_some, Nat.reduceMod, Nat.reduceDiv, zcn_I, iI_add, iI_sub, iI_mul, iI_neg, iI_lt, iI_le, iI_eq, iI_lt0, iI_le0, iI_gt0, iI_ge0, iI_eq0, p20, r1] <;> omega) ?_
          refine zW.gr [] rfl rfl rfl (by omega) trivial trivial ?_
          rw [zcn_I, iI_sub, show (rBs (tRd T j) k : Int) - 1 = cv (rFm (tRd T j)) (rBs (tRd T j) k) by unfold cv; rw [if_pos cm]]
          exact mP_0 hQ rfl (mf_scr h th2_scr) (mgr_o (scr_o th2_scr)) (upI_same _ _ _ _)
        · refine zW.gbt [] rfl rfl rfl (by omega) (by simp (disch := omega) only [true_or, or_true, eq_self, Option.some.injEq, Prod.mk.injEq, zall_0, zall_1, zall_2, zob_iff, zar_iff, zis_iff, zkIs_some, zkHas_some, iI_vp, z01_I, z01_bz, zch_I, true_and, and_true, or_false, false_or, and_self, upI_same, upL_same, upI_ne, upL_ne, iI_ixN, zI_mk, zL_mk, zP_mk, zK_mk, zN_mk, zwI_up, zwL_up, zg_some, Nat.reduceMod, Nat.reduceDiv, zcn_I, iI_add, iI_sub, iI_mul, iI_neg, iI_lt, iI_le, iI_eq, iI_lt0, iI_le0, iI_gt0, iI_ge0, iI_eq0, k0, p20, k20] <;> omega) (by simp (disch := omega) only [eq_self, not_true_eq_false, not_false_eq_true, upI_same, upL_same, upI_ne, upL_ne, iI_ixN, zI_mk, zL_mk, zP_mk, zK_mk, zN_mk, zwI_up, zwL_up, zg_some, Nat.reduceMod, Nat.reduceDiv, zcn_I, iI_add, iI_sub, iI_mul, iI_neg, iI_lt, iI_le, iI_eq, iI_lt0, iI_le0, iI_gt0, iI_ge0, iI_eq0, p20, r1] <;> omega) ?_
          refine zW.gr [] rfl rfl rfl (by omega) trivial trivial ?_
          rw [zcn_I, iI_sub, show (rBs (tRd T j) k : Int) - 0 = cv (rFm (tRd T j)) (rBs (tRd T j) k) by unfold cv; rw [if_neg cm]; omega]
          exact mP_0 hQ rfl (mf_scr h th2_scr) (mgr_o (scr_o th2_scr)) (upI_same _ _ _ _)
    refine zW.gb [] rfl rfl rfl (by omega) trivial (fun h' => ?_) (fun h' => ?_) <;> simp (disch := omega) only [zcn_I, iI_add, iI_sub, iI_mul, iI_neg, iI_lt, iI_le, iI_eq, iI_lt0, iI_le0, iI_gt0, iI_ge0, iI_eq0] at h'
    · exact zW.go [33] rfl (by omega) trivial (G _ (tru_f (by omega)))
    · exact zW.go [33] rfl (by omega) trivial (G _ (tru_t (by omega)))
theorem mAver_ok {r c : Int} {a b : Int32} (hd : 6 ≤ d) (h : mf y T (I, L, R)) (e1 : a = iI r) (e2 : b = iI c) (h1 : i32 r) (h2 : i32 c) (hQ : mP y (I, L, R) (oAver T r c) eI Q) : zS 237 d [zr (some y), zi a, zi b] (I, L, R) Q := by
  subst e1; subst e2
  have hM := h.2.1
  have k0 : R.2.1 y = some (7, 0) := hM.1
  refine zW.gz [] rfl rfl rfl (by omega) trivial ⟨_, rfl, k0⟩ rfl rfl (by decide +kernel) (by decide +kernel) ?_
  refine nobody_ok (by omega) h rfl rfl h1 h2 (fun q hq => ?_)
  refine zW.gz [] rfl rfl rfl (by omega) trivial ⟨_, rfl, k0⟩ rfl rfl (by decide +kernel) (by decide +kernel) ?_
  refine mThr_ok (k := 1) (by omega) k0 hq (zcn_I _) (fun hb => ?_) (fun hg => ?_)
  · refine zW.gbt [] rfl rfl rfl (by omega) trivial (by simp (disch := omega) only [eq_self, not_true_eq_false, not_false_eq_true, upI_same, upL_same, upI_ne, upL_ne, iI_ixN, zI_mk, zL_mk, zP_mk, zK_mk, zN_mk, zwI_up, zwL_up, zg_some, Nat.reduceMod, Nat.reduceDiv, zcn_I, iI_add, iI_sub, iI_mul, iI_neg, iI_lt, iI_le, iI_eq, iI_lt0, iI_le0, iI_gt0, iI_ge0, iI_eq0] <;> omega) ?_
    refine zW.gr [] rfl rfl rfl (by omega) trivial trivial ?_; rw [zcn_I]
    refine mP_t hQ (c := 0) (v := 0) ?_ (mf_scr h th_scr) (mgr_o (scr_o th_scr)) (upI_same _ _ _ _) 0
    exact onC_no hb
  · obtain ⟨j, k, rfl, rfl, hj, hk, e⟩ := onC_yes hg
    unfold oAver at hQ
    rw [e] at hQ
    obtain ⟨j8, ho, hz, r1, r2, r3, r4, r5, r6, r7⟩ := m_rd h hj
    have h12 := h.1.2.2.2.1.1
    have la := rAv_le ho (show k < 12 by omega)
    have hfm := fm_lt ho
    have p20 : R.1 y 20 = some (y + 1785) := (hM.2.1 20 (by decide)).1; have k20 : R.2.1 (y + 1785) = some (23, 8) := (hM.2.1 20 (by decide)).2
    refine zW.gbf [] rfl rfl rfl (by omega) trivial (by simp (disch := omega) only [eq_self, not_true_eq_false, not_false_eq_true, upI_same, upL_same, upI_ne, upL_ne, iI_ixN, zI_mk, zL_mk, zP_mk, zK_mk, zN_mk, zwI_up, zwL_up, zg_some, Nat.reduceMod, Nat.reduceDiv, zcn_I, iI_add, iI_sub, iI_mul, iI_neg, iI_lt, iI_le, iI_eq, iI_lt0, iI_le0, iI_gt0, iI_ge0, iI_eq0] <;> omega) ?_
    have th3 : ∀ u v w, scr y I L (upI (upI (upI I y 41 u) y 41 v) y 41 w) L := fun u v w => scr_tr th2_scr th_scr
    have F : ∀ q, tru (¬ avF (rFm (tRd T j))) q → zW 237 d 0 0 42 [some (zr (some y)), some (zi (iI (j : Int))), some (zi (iI (k : Int))), none] [zi q, zr (some y)] (upI I y 41 (iI 0), L, R) Q := fun q hq => by
      refine zW.gz [] rfl rfl rfl (by omega) trivial ⟨_, rfl, k0⟩ rfl rfl (by decide +kernel) (by decide +kernel) ?_
      refine mThr_ok (k := 2) (by omega) k0 hq (zcn_I _) (fun hb => ?_) (fun hb => ?_)
      · refine zW.gbf [] rfl rfl rfl (by omega) trivial (by simp (disch := omega) only [eq_self, not_true_eq_false, not_false_eq_true, upI_same, upL_same, upI_ne, upL_ne, iI_ixN, zI_mk, zL_mk, zP_mk, zK_mk, zN_mk, zwI_up, zwL_up, zg_some, Nat.reduceMod, Nat.reduceDiv, zcn_I, iI_add, iI_sub, iI_mul, iI_neg, iI_lt, iI_le, iI_eq, iI_lt0, iI_le0, iI_gt0, iI_ge0, iI_eq0] <;> omega) ?_
        refine zW.gr [] rfl rfl rfl (by omega) trivial trivial ?_; rw [zcn_I]
        exact mP_t hQ (c := 1) (v := 0) (if_neg (fun q => hb (dc_t.mp q))) (mf_scr h th2_scr) (mgr_o (scr_o th2_scr)) (upI_same _ _ _ _) 0
      · rw [if_pos (dc_t.mpr (Classical.byContradiction hb))] at hQ
        refine zW.gbt [] rfl rfl rfl (by omega) trivial (by simp (disch := omega) only [eq_self, not_true_eq_false, not_false_eq_true, upI_same, upL_same, upI_ne, upL_ne, iI_ixN, zI_mk, zL_mk, zP_mk, zK_mk, zN_mk, zwI_up, zwL_up, zg_some, Nat.reduceMod, Nat.reduceDiv, zcn_I, iI_add, iI_sub, iI_mul, iI_neg, iI_lt, iI_le, iI_eq, iI_lt0, iI_le0, iI_gt0, iI_ge0, iI_eq0] <;> omega) ?_
        refine zW.gz [] rfl rfl rfl (by omega) trivial ⟨_, rfl, k0⟩ rfl rfl (by decide +kernel) (by decide +kernel) ?_
        refine mAvg_ok (by omega) (mf_scr h th2_scr) hj rfl rfl (by omega) ?_
        have G : ∀ q, tru (rAv (tRd T j) k = 0) q → zW 237 d 0 0 68 [some (zr (some y)), some (zi (iI (j : Int))), some (zi (iI (k : Int))), some (zi (iI (rAv (tRd T j) k : Int)))] [zi q, zr (some y)] (upI (upI I y 41 (iI 0)) y 41 (iI 0), L, R) Q := fun q hq => by
          refine zW.gz [] rfl rfl rfl (by omega) trivial ⟨_, rfl, k0⟩ rfl rfl (by decide +kernel) (by decide +kernel) ?_
          refine mThr_ok (k := 3) (by omega) k0 hq (zcn_I _) (fun hb => ?_) (fun hb => ?_)
          · refine zW.gbf [] rfl rfl rfl (by omega) trivial (by simp (disch := omega) only [eq_self, not_true_eq_false, not_false_eq_true, upI_same, upL_same, upI_ne, upL_ne, iI_ixN, zI_mk, zL_mk, zP_mk, zK_mk, zN_mk, zwI_up, zwL_up, zg_some, Nat.reduceMod, Nat.reduceDiv, zcn_I, iI_add, iI_sub, iI_mul, iI_neg, iI_lt, iI_le, iI_eq, iI_lt0, iI_le0, iI_gt0, iI_ge0, iI_eq0] <;> omega) ?_
            refine zW.gr [] rfl rfl rfl (by omega) trivial trivial ?_; rw [zcn_I]
            exact mP_t hQ (c := 2) (v := 0) (if_pos hb) (mf_scr h (th3 _ _ _)) (mgr_o (scr_o (th3 _ _ _))) (upI_same _ _ _ _) 0
          · rw [if_neg hb] at hQ
            refine zW.gbt [] rfl rfl rfl (by omega) trivial (by simp (disch := omega) only [eq_self, not_true_eq_false, not_false_eq_true, upI_same, upL_same, upI_ne, upL_ne, iI_ixN, zI_mk, zL_mk, zP_mk, zK_mk, zN_mk, zwI_up, zwL_up, zg_some, Nat.reduceMod, Nat.reduceDiv, zcn_I, iI_add, iI_sub, iI_mul, iI_neg, iI_lt, iI_le, iI_eq, iI_lt0, iI_le0, iI_gt0, iI_ge0, iI_eq0] <;> omega) ?_
            refine zW.gr [] rfl rfl rfl (by omega) trivial trivial ?_
            exact mP_0 hQ rfl (mf_scr h (th3 _ _ _)) (mgr_o (scr_o (th3 _ _ _))) (upI_same _ _ _ _)
        refine zW.gb [] rfl rfl rfl (by omega) trivial (fun h' => ?_) (fun h' => ?_) <;> simp (disch := omega) only [zcn_I, iI_add, iI_sub, iI_mul, iI_neg, iI_lt, iI_le, iI_eq, iI_lt0, iI_le0, iI_gt0, iI_ge0, iI_eq0] at h'
        · exact zW.go [68] rfl (by omega) trivial (G _ (tru_f (by omega)))
        · exact zW.go [68] rfl (by omega) trivial (G _ (tru_t (by omega)))
    refine zW.gb [] rfl rfl rfl (by omega) (by simp (disch := omega) only [true_or, or_true, eq_self, Option.some.injEq, Prod.mk.injEq, zall_0, zall_1, zall_2, zob_iff, zar_iff, zis_iff, zkIs_some, zkHas_some, iI_vp, z01_I, z01_bz, zch_I, true_and, and_true, or_false, false_or, and_self, upI_same, upL_same, upI_ne, upL_ne, iI_ixN, zI_mk, zL_mk, zP_mk, zK_mk, zN_mk, zwI_up, zwL_up, zg_some, Nat.reduceMod, Nat.reduceDiv, zcn_I, iI_add, iI_sub, iI_mul, iI_neg, iI_lt, iI_le, iI_eq, iI_lt0, iI_le0, iI_gt0, iI_ge0, iI_eq0, k0, p20, k20] <;> omega) (fun h' => ?_) (fun h' => ?_) <;> simp (disch := omega) only [zcn_I, iI_add, iI_sub, iI_mul, iI_neg, iI_lt, iI_le, iI_eq, iI_lt0, iI_le0, iI_gt0, iI_ge0, iI_eq0, upI_same, upL_same, upI_ne, upL_ne, iI_ixN, zI_mk, zL_mk, zP_mk, zK_mk, zN_mk, zwI_up, zwL_up, zg_some, Nat.reduceMod, Nat.reduceDiv, p20, r1] at h'
    · exact zW.go [42] rfl (by omega) trivial (F _ (tru_f (fun n => n (by unfold avF; omega))))
    refine zW.gb [] rfl rfl rfl (by omega) (by simp (disch := omega) only [true_or, or_true, eq_self, Option.some.injEq, Prod.mk.injEq, zall_0, zall_1, zall_2, zob_iff, zar_iff, zis_iff, zkIs_some, zkHas_some, iI_vp, z01_I, z01_bz, zch_I, true_and, and_true, or_false, false_or, and_self, upI_same, upL_same, upI_ne, upL_ne, iI_ixN, zI_mk, zL_mk, zP_mk, zK_mk, zN_mk, zwI_up, zwL_up, zg_some, Nat.reduceMod, Nat.reduceDiv, zcn_I, iI_add, iI_sub, iI_mul, iI_neg, iI_lt, iI_le, iI_eq, iI_lt0, iI_le0, iI_gt0, iI_ge0, iI_eq0, k0, p20, k20] <;> omega) (fun h2 => ?_) (fun h2 => ?_) <;> simp (disch := omega) only [zcn_I, iI_add, iI_sub, iI_mul, iI_neg, iI_lt, iI_le, iI_eq, iI_lt0, iI_le0, iI_gt0, iI_ge0, iI_eq0, upI_same, upL_same, upI_ne, upL_ne, iI_ixN, zI_mk, zL_mk, zP_mk, zK_mk, zN_mk, zwI_up, zwL_up, zg_some, Nat.reduceMod, Nat.reduceDiv, p20, r1] at h2
    · exact zW.go [42] rfl (by omega) trivial (F _ (tru_f (fun n => n (by unfold avF; omega))))
    · exact zW.go [42] rfl (by omega) trivial (F _ (tru_t (fun n => by unfold avF at n; omega)))
theorem vers_ok {u v : Nat} {a b : Int32} {M : zM} (hd : 1 ≤ d) (e1 : a = iI (u : Int)) (e2 : b = iI (v : Int)) (h1 : u ≤ 100666) (h2 : v ≤ 100666) (hQ : ∀ q : Int, (q < 0 ↔ fK u < fK v) → (q = 0 ↔ u = v) → -1000000 ≤ q → q ≤ 1000000 → Q (.inl (some (zi (iI q)))) M) : zS 238 d [zi a, zi b] M Q := by
  subst e1; subst e2
  have f1 : (u = 0 ∧ fK u = 2147483647) ∨ (u ≠ 0 ∧ fK u = u) := by
    unfold fK
    split
    · exact Or.inl ⟨by assumption, rfl⟩
    · exact Or.inr ⟨by assumption, rfl⟩
  have f2 : (v = 0 ∧ fK v = 2147483647) ∨ (v ≠ 0 ∧ fK v = v) := by
    unfold fK
    split
    · exact Or.inl ⟨by assumption, rfl⟩
    · exact Or.inr ⟨by assumption, rfl⟩
  refine zW.gb [] rfl rfl rfl (by omega) trivial (fun h' => ?_) (fun h' => ?_) <;> simp (disch := omega) only [zcn_I, iI_add, iI_sub, iI_mul, iI_neg, iI_lt, iI_le, iI_eq, iI_lt0, iI_le0, iI_gt0, iI_ge0, iI_eq0] at h'
  · refine zW.gb [] rfl rfl rfl (by omega) trivial (fun h3 => ?_) (fun h3 => ?_) <;> simp (disch := omega) only [zcn_I, iI_add, iI_sub, iI_mul, iI_neg, iI_lt, iI_le, iI_eq, iI_lt0, iI_le0, iI_gt0, iI_ge0, iI_eq0] at h3
    · refine zW.gb [] rfl rfl rfl (by omega) trivial (fun h4 => ?_) (fun h4 => ?_) <;> simp (disch := omega) only [zcn_I, iI_add, iI_sub, iI_mul, iI_neg, iI_lt, iI_le, iI_eq, iI_lt0, iI_le0, iI_gt0, iI_ge0, iI_eq0] at h4
      · refine zW.gr [] rfl rfl rfl (by omega) trivial trivial ?_
        rw [iI_sub]
        exact hQ _ (by omega) (by omega) (by omega) (by omega)
      · refine zW.gr [] rfl rfl rfl (by omega) trivial trivial ?_
        rw [zcn_I]
        exact hQ _ (by omega) (by omega) (by omega) (by omega)
    · refine zW.gr [] rfl rfl rfl (by omega) trivial trivial ?_
      rw [zcn_I]
      exact hQ _ (by omega) (by omega) (by omega) (by omega)
  · refine zW.gr [] rfl rfl rfl (by omega) trivial trivial ?_
    rw [zcn_I]
    have e : u = v := by omega
    exact hQ _ (by rw [e]; omega) (by omega) (by omega) (by omega)
end MRD2
