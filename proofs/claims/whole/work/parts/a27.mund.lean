/-! The model's records: asked, undone; the share of results. -/
section MUND
variable {d y : Nat} {T : tfT} {I : Nat → Nat → Int32} {L : Nat → Nat → Int64} {R : zRt} {Q : zO → zM → Prop}
theorem mIsRec_ok {r c pp : Int} {a b e : Int32} (hd : 7 ≤ d) (h : mf y T (I, L, R)) (e1 : a = iI r) (e2 : b = iI c) (e3 : e = iI pp) (h1 : i32 r) (h2 : i32 c) (h3 : i32 pp) (hQ : mP y (I, L, R) (oIsRec T r c pp) eI Q) : zS 247 d [zr (some y), zi a, zi b, zi e] (I, L, R) Q := by
  subst e1; subst e2; subst e3
  have hM := h.2.1
  have k0 : R.2.1 y = some (7, 0) := hM.1
  refine zW.gz [] rfl rfl rfl (by omega) trivial ⟨_, rfl, k0⟩ rfl rfl (by decide +kernel) (by decide +kernel) ?_
  refine nobody_ok (by omega) h rfl rfl h1 h2 (fun q hq => ?_)
  refine zW.gz [] rfl rfl rfl (by omega) trivial ⟨_, rfl, k0⟩ rfl rfl (by decide +kernel) (by decide +kernel) ?_
  refine mThr_ok (k := 1) (by omega) k0 hq (zcn_I _) (fun hb => ?_) (fun hg => ?_)
  · refine zW.gbt [] rfl rfl rfl (by omega) trivial (by simp (disch := omega) only [eq_self, not_true_eq_false, not_false_eq_true, upI_same, upL_same, upI_ne, upL_ne, iI_ixN, zI_mk, zL_mk, zP_mk, zK_mk, zN_mk, zwI_up, zwL_up, zg_some, Nat.reduceMod, Nat.reduceDiv, zcn_I, iI_add, iI_sub, iI_mul, iI_neg, iI_lt, iI_le, iI_eq, iI_lt0, iI_le0, iI_gt0, iI_ge0, iI_eq0] <;> omega) ?_
    refine zW.go [29] rfl (by omega) trivial ?_
    refine zW.gr [] rfl rfl rfl (by omega) trivial z01c0 ?_; rw [zcn_I]
    refine mP_t hQ (c := 0) (v := 0) ?_ (mf_scr h th_scr) (mgr_o (scr_o th_scr)) (upI_same _ _ _ _) 0
    exact onC_no hb
  · obtain ⟨j, k, rfl, rfl, hj, hk, e⟩ := onC_yes hg
    unfold oIsRec at hQ
    rw [e] at hQ
    have hm := mf_scr h (th_scr (v := iI 0) (L := L))
    refine zW.gbf [] rfl rfl rfl (by omega) trivial (by simp (disch := omega) only [eq_self, not_true_eq_false, not_false_eq_true, upI_same, upL_same, upI_ne, upL_ne, iI_ixN, zI_mk, zL_mk, zP_mk, zK_mk, zN_mk, zwI_up, zwL_up, zg_some, Nat.reduceMod, Nat.reduceDiv, zcn_I, iI_add, iI_sub, iI_mul, iI_neg, iI_lt, iI_le, iI_eq, iI_lt0, iI_le0, iI_gt0, iI_ge0, iI_eq0] <;> omega) ?_
    refine zW.gz [] rfl rfl rfl (by omega) trivial ⟨_, rfl, k0⟩ rfl rfl (by decide +kernel) (by decide +kernel) ?_
    refine mRecN_ok (by omega) hm hj hk rfl rfl rfl h3 (fun q hq => ?_)
    rcases hq with ⟨g, rfl⟩ | ⟨g, rfl⟩
    · rw [b01_t g] at hQ
      refine zW.gbf [] rfl rfl rfl (by omega) trivial (by simp (disch := omega) only [eq_self, not_true_eq_false, not_false_eq_true, upI_same, upL_same, upI_ne, upL_ne, iI_ixN, zI_mk, zL_mk, zP_mk, zK_mk, zN_mk, zwI_up, zwL_up, zg_some, Nat.reduceMod, Nat.reduceDiv, zcn_I, iI_add, iI_sub, iI_mul, iI_neg, iI_lt, iI_le, iI_eq, iI_lt0, iI_le0, iI_gt0, iI_ge0, iI_eq0] <;> omega) ?_
      refine zW.go [29] rfl (by omega) trivial ?_
      refine zW.gr [] rfl rfl rfl (by omega) trivial z01c1 ?_
      rw [zcn_I]
      exact mP_0 hQ rfl hm (mgr_o (scr_o th_scr)) (upI_same _ _ _ _)
    · rw [b01_f g] at hQ
      refine zW.gbt [] rfl rfl rfl (by omega) trivial (by simp (disch := omega) only [eq_self, not_true_eq_false, not_false_eq_true, upI_same, upL_same, upI_ne, upL_ne, iI_ixN, zI_mk, zL_mk, zP_mk, zK_mk, zN_mk, zwI_up, zwL_up, zg_some, Nat.reduceMod, Nat.reduceDiv, zcn_I, iI_add, iI_sub, iI_mul, iI_neg, iI_lt, iI_le, iI_eq, iI_lt0, iI_le0, iI_gt0, iI_ge0, iI_eq0] <;> omega) ?_
      refine zW.go [29] rfl (by omega) trivial ?_
      refine zW.gr [] rfl rfl rfl (by omega) trivial z01c0 ?_; rw [zcn_I]
      exact mP_0 hQ rfl hm (mgr_o (scr_o th_scr)) (upI_same _ _ _ _)
theorem mUnd_lp {j : Nat} (hd : 4 ≤ d) (h : mf y T (I, L, R)) (hj : j < tRn T)
    (hQ : zW 246 d 0 0 100 [some (zr (some y)), some (zi (iI (j : Int))), some (zi (iI (smN (recN T j) (tCn T) : Nat))), some (zi (iI (tCn T : Int)))] [] (I, L, R) Q) :
    ∀ n k, k + n = tCn T → ∀ (x u : Int32), x = iI (smN (recN T j) k : Nat) → u = iI (k : Int) → zW 246 d 0 0 50 [some (zr (some y)), some (zi (iI (j : Int))), some (zi x), some (zi u)] [] (I, L, R) Q
  | 0, k, hk, x, u, e1, e2 => by
    subst e1; subst e2
    have k0 : R.2.1 y = some (7, 0) := h.2.1.1
    obtain ⟨-, -, ⟨b1, b2⟩, -⟩ := m_own h
    have h12 := h.1.2.2.2.1.1
    obtain rfl : k = tCn T := by omega
    exact zW.gbt [] rfl rfl rfl (by omega) (by simp (disch := omega) only [true_or, or_true, eq_self, Option.some.injEq, Prod.mk.injEq, zall_0, zall_1, zall_2, zob_iff, zar_iff, zis_iff, zkIs_some, zkHas_some, iI_vp, z01_I, z01_bz, zch_I, true_and, and_true, or_false, false_or, and_self, upI_same, upL_same, upI_ne, upL_ne, iI_ixN, zI_mk, zL_mk, zP_mk, zK_mk, zN_mk, zwI_up, zwL_up, zg_some, Nat.reduceMod, Nat.reduceDiv, zcn_I, iI_add, iI_sub, iI_mul, iI_neg, iI_lt, iI_le, iI_eq, iI_lt0, iI_le0, iI_gt0, iI_ge0, iI_eq0, k0] <;> omega) (by simp (disch := omega) only [eq_self, not_true_eq_false, not_false_eq_true, upI_same, upL_same, upI_ne, upL_ne, iI_ixN, zI_mk, zL_mk, zP_mk, zK_mk, zN_mk, zwI_up, zwL_up, zg_some, Nat.reduceMod, Nat.reduceDiv, zcn_I, iI_add, iI_sub, iI_mul, iI_neg, iI_lt, iI_le, iI_eq, iI_lt0, iI_le0, iI_gt0, iI_ge0, iI_eq0, b1] <;> omega) hQ
  | n + 1, k, hk, x, u, e1, e2 => by
    subst e1; subst e2
    have k0 : R.2.1 y = some (7, 0) := h.2.1.1
    obtain ⟨-, -, ⟨b1, b2⟩, -⟩ := m_own h
    have h12 := h.1.2.2.2.1.1
    have N2 : ∀ v : Nat, v = n01 (hRec T j k 1) → ∀ s : Int32, s = iI ((smN (recN T j) k + n01 (hRec T j k 0) : Nat) : Int) → zW 246 d 0 0 92 [some (zr (some y)), some (zi (iI (j : Int))), some (zi s), some (zi (iI (k : Int)))] [zi (iI (v : Int)), zi s] (I, L, R) Q := fun v hv s hs => by
      subst hs
      refine zW.go [50] rfl (by omega) trivial ?_
      refine mUnd_lp hd h hj hQ n (k + 1) (by omega) _ _ ?_ (by rw [zcn_I, iI_add]; rfl)
      rw [iI_add]
      exact iI_cg (by
        have : smN (recN T j) (k + 1) = smN (recN T j) k + (n01 (hRec T j k 0) + n01 (hRec T j k 1)) := rfl
        omega)
    have N1 : ∀ v : Nat, v = n01 (hRec T j k 0) → zW 246 d 0 0 74 [some (zr (some y)), some (zi (iI (j : Int))), some (zi (iI (smN (recN T j) k : Nat))), some (zi (iI (k : Int)))] [zi (iI (v : Int)), zi (iI (smN (recN T j) k : Nat))] (I, L, R) Q := fun v hv => by
      refine zW.gz [] rfl rfl rfl (by omega) trivial ⟨_, rfl, k0⟩ rfl rfl (by decide +kernel) (by decide +kernel) ?_
      refine mRecN_ok (by omega) h hj (by omega) rfl rfl (zcn_I _) ⟨by omega, by omega⟩ (fun q hq => ?_)
      have es : iI (smN (recN T j) k : Nat) + iI (v : Int) = iI ((smN (recN T j) k + n01 (hRec T j k 0) : Nat) : Int) := by
        rw [iI_add]
        exact iI_cg (by omega)
      rcases hq with ⟨g, rfl⟩ | ⟨g, rfl⟩
      · refine zW.gbf [] rfl rfl rfl (by omega) trivial (by simp (disch := omega) only [eq_self, not_true_eq_false, not_false_eq_true, upI_same, upL_same, upI_ne, upL_ne, iI_ixN, zI_mk, zL_mk, zP_mk, zK_mk, zN_mk, zwI_up, zwL_up, zg_some, Nat.reduceMod, Nat.reduceDiv, zcn_I, iI_add, iI_sub, iI_mul, iI_neg, iI_lt, iI_le, iI_eq, iI_lt0, iI_le0, iI_gt0, iI_ge0, iI_eq0] <;> omega) ?_
        refine zW.go [92] rfl (by omega) trivial ?_
        rw [es]
        exact N2 1 (n01_t g).symm _ rfl
      · refine zW.gbt [] rfl rfl rfl (by omega) trivial (by simp (disch := omega) only [eq_self, not_true_eq_false, not_false_eq_true, upI_same, upL_same, upI_ne, upL_ne, iI_ixN, zI_mk, zL_mk, zP_mk, zK_mk, zN_mk, zwI_up, zwL_up, zg_some, Nat.reduceMod, Nat.reduceDiv, zcn_I, iI_add, iI_sub, iI_mul, iI_neg, iI_lt, iI_le, iI_eq, iI_lt0, iI_le0, iI_gt0, iI_ge0, iI_eq0] <;> omega) ?_
        refine zW.go [92] rfl (by omega) trivial ?_
        rw [es]
        exact N2 0 (n01_f g).symm _ rfl
    refine zW.gbf [] rfl rfl rfl (by omega) (by simp (disch := omega) only [true_or, or_true, eq_self, Option.some.injEq, Prod.mk.injEq, zall_0, zall_1, zall_2, zob_iff, zar_iff, zis_iff, zkIs_some, zkHas_some, iI_vp, z01_I, z01_bz, zch_I, true_and, and_true, or_false, false_or, and_self, upI_same, upL_same, upI_ne, upL_ne, iI_ixN, zI_mk, zL_mk, zP_mk, zK_mk, zN_mk, zwI_up, zwL_up, zg_some, Nat.reduceMod, Nat.reduceDiv, zcn_I, iI_add, iI_sub, iI_mul, iI_neg, iI_lt, iI_le, iI_eq, iI_lt0, iI_le0, iI_gt0, iI_ge0, iI_eq0, k0] <;> omega) (by simp (disch := omega) only [eq_self, not_true_eq_false, not_false_eq_true, upI_same, upL_same, upI_ne, upL_ne, iI_ixN, zI_mk, zL_mk, zP_mk, zK_mk, zN_mk, zwI_up, zwL_up, zg_some, Nat.reduceMod, Nat.reduceDiv, zcn_I, iI_add, iI_sub, iI_mul, iI_neg, iI_lt, iI_le, iI_eq, iI_lt0, iI_le0, iI_gt0, iI_ge0, iI_eq0, b1] <;> omega) ?_
    refine zW.gz [] rfl rfl rfl (by omega) trivial ⟨_, rfl, k0⟩ rfl rfl (by decide +kernel) (by decide +kernel) ?_
    refine mRecN_ok (by omega) h hj (by omega) rfl rfl (zcn_I _) ⟨by omega, by omega⟩ (fun q hq => ?_)
    rcases hq with ⟨g, rfl⟩ | ⟨g, rfl⟩
    · refine zW.gbf [] rfl rfl rfl (by omega) trivial (by simp (disch := omega) only [eq_self, not_true_eq_false, not_false_eq_true, upI_same, upL_same, upI_ne, upL_ne, iI_ixN, zI_mk, zL_mk, zP_mk, zK_mk, zN_mk, zwI_up, zwL_up, zg_some, Nat.reduceMod, Nat.reduceDiv, zcn_I, iI_add, iI_sub, iI_mul, iI_neg, iI_lt, iI_le, iI_eq, iI_lt0, iI_le0, iI_gt0, iI_ge0, iI_eq0] <;> omega) ?_
      exact zW.go [74] rfl (by omega) trivial (N1 1 (n01_t g).symm)
    · refine zW.gbt [] rfl rfl rfl (by omega) trivial (by simp (disch := omega) only [eq_self, not_true_eq_false, not_false_eq_true, upI_same, upL_same, upI_ne, upL_ne, iI_ixN, zI_mk, zL_mk, zP_mk, zK_mk, zN_mk, zwI_up, zwL_up, zg_some, Nat.reduceMod, Nat.reduceDiv, zcn_I, iI_add, iI_sub, iI_mul, iI_neg, iI_lt, iI_le, iI_eq, iI_lt0, iI_le0, iI_gt0, iI_ge0, iI_eq0] <;> omega) ?_
      exact zW.go [74] rfl (by omega) trivial (N1 0 (n01_f g).symm)
theorem mUndo_ok {r : Int} {a : Int32} (hd : 7 ≤ d) (h : mf y T (I, L, R)) (e1 : a = iI r) (h1 : i32 r) (hQ : mP y (I, L, R) (oUndo T r) eI Q) : zS 246 d [zr (some y), zi a] (I, L, R) Q := by
  subst e1
  have hM := h.2.1
  have k0 : R.2.1 y = some (7, 0) := hM.1
  refine zW.gz [] rfl rfl rfl (by omega) trivial ⟨_, rfl, k0⟩ rfl rfl (by decide +kernel) (by decide +kernel) ?_
  refine noRd_ok (by omega) h rfl h1 (fun q hq => ?_)
  refine zW.gz [] rfl rfl rfl (by omega) trivial ⟨_, rfl, k0⟩ rfl rfl (by decide +kernel) (by decide +kernel) ?_
  refine mThr_ok (k := 1) (by omega) k0 hq (zcn_I _) (fun hb => ?_) (fun hg => ?_)
  · refine zW.gbt [] rfl rfl rfl (by omega) trivial (by simp (disch := omega) only [eq_self, not_true_eq_false, not_false_eq_true, upI_same, upL_same, upI_ne, upL_ne, iI_ixN, zI_mk, zL_mk, zP_mk, zK_mk, zN_mk, zwI_up, zwL_up, zg_some, Nat.reduceMod, Nat.reduceDiv, zcn_I, iI_add, iI_sub, iI_mul, iI_neg, iI_lt, iI_le, iI_eq, iI_lt0, iI_le0, iI_gt0, iI_ge0, iI_eq0] <;> omega) ?_
    refine zW.gr [] rfl rfl rfl (by omega) trivial trivial ?_; rw [zcn_I]
    refine mP_t hQ (c := 0) (v := 0) ?_ (mf_scr h th_scr) (mgr_o (scr_o th_scr)) (upI_same _ _ _ _) 0
    exact onR_no hb
  · obtain ⟨j, rfl, hj, e⟩ := onR_yes hg
    unfold oUndo at hQ
    rw [e] at hQ
    obtain ⟨j8, ho, hz, hRd⟩ := m_rd h hj
    have hRd' := hRd
    obtain ⟨r1, r2, r3, r4, r5, r6, r7⟩ := hRd'
    have d40 := (m_own h).2.2.2
    have hd9 := h.1.2.2.2.2.2
    have p24 : R.1 y 24 = some (y + 1789) := (hM.2.1 24 (by decide)).1; have k24 : R.2.1 (y + 1789) = some (22, 8) := (hM.2.1 24 (by decide)).2; have p25 : R.1 y 25 = some (y + 1790) := (hM.2.1 25 (by decide)).1; have k25 : R.2.1 (y + 1790) = some (22, 8) := (hM.2.1 25 (by decide)).2
    refine zW.gbf [] rfl rfl rfl (by omega) trivial (by simp (disch := omega) only [eq_self, not_true_eq_false, not_false_eq_true, upI_same, upL_same, upI_ne, upL_ne, iI_ixN, zI_mk, zL_mk, zP_mk, zK_mk, zN_mk, zwI_up, zwL_up, zg_some, Nat.reduceMod, Nat.reduceDiv, zcn_I, iI_add, iI_sub, iI_mul, iI_neg, iI_lt, iI_le, iI_eq, iI_lt0, iI_le0, iI_gt0, iI_ge0, iI_eq0] <;> omega) ?_
    have F : ∀ q, tru (¬ (rCl (tRd T j) = true ∧ rUd (tRd T j) = false)) q → zW 246 d 0 0 37 [some (zr (some y)), some (zi (iI (j : Int))), none, none] [zi q, zr (some y)] (upI I y 41 (iI 0), L, R) Q := fun q hq => by
      refine zW.gz [] rfl rfl rfl (by omega) trivial ⟨_, rfl, k0⟩ rfl rfl (by decide +kernel) (by decide +kernel) ?_
      refine mThr_ok (k := 2) (by omega) k0 hq (zcn_I _) (fun hb => ?_) (fun hb => ?_)
      · refine zW.gbf [] rfl rfl rfl (by omega) trivial (by simp (disch := omega) only [eq_self, not_true_eq_false, not_false_eq_true, upI_same, upL_same, upI_ne, upL_ne, iI_ixN, zI_mk, zL_mk, zP_mk, zK_mk, zN_mk, zwI_up, zwL_up, zg_some, Nat.reduceMod, Nat.reduceDiv, zcn_I, iI_add, iI_sub, iI_mul, iI_neg, iI_lt, iI_le, iI_eq, iI_lt0, iI_le0, iI_gt0, iI_ge0, iI_eq0] <;> omega) ?_
        refine zW.gr [] rfl rfl rfl (by omega) trivial trivial ?_; rw [zcn_I]
        exact mP_t hQ (c := 1) (v := 0) (if_neg hb) (mf_scr h th2_scr) (mgr_o (scr_o th2_scr)) (upI_same _ _ _ _) 0
      · have hb := Classical.byContradiction hb
        rw [if_pos hb] at hQ
        refine zW.gbt [] rfl rfl rfl (by omega) trivial (by simp (disch := omega) only [eq_self, not_true_eq_false, not_false_eq_true, upI_same, upL_same, upI_ne, upL_ne, iI_ixN, zI_mk, zL_mk, zP_mk, zK_mk, zN_mk, zwI_up, zwL_up, zg_some, Nat.reduceMod, Nat.reduceDiv, zcn_I, iI_add, iI_sub, iI_mul, iI_neg, iI_lt, iI_le, iI_eq, iI_lt0, iI_le0, iI_gt0, iI_ge0, iI_eq0] <;> omega) ?_
        obtain ⟨J, hJ⟩ : ∃ J, upI (upI I y 41 (iI 0)) y 41 (iI 0) = J := ⟨_, rfl⟩
        have sJ : scr y I L J L := by rw [← hJ]; exact th2_scr
        have mJ : mf y T (J, L, R) := mf_scr h sJ
        have tJ : J y 41 = iI 0 := by rw [← hJ]; exact upI_same _ _ _ _
        rw [hJ]
        refine zW.go [50] rfl (by omega) trivial ?_
        refine mUnd_lp (by omega) mJ hj ?_ (tCn T) 0 (by omega) _ _ (zcn_I _) (zcn_I _)
        obtain ⟨-, -, -, s1, s2, s3, s4, s5, s6, s7⟩ := m_rd mJ hj
        refine zW.gr [] rfl rfl rfl (by omega) (by simp (disch := omega) only [true_or, or_true, eq_self, Option.some.injEq, Prod.mk.injEq, zall_0, zall_1, zall_2, zob_iff, zar_iff, zis_iff, zkIs_some, zkHas_some, iI_vp, z01_I, z01_bz, zch_I, true_and, and_true, or_false, false_or, and_self, upI_same, upL_same, upI_ne, upL_ne, iI_ixN, zI_mk, zL_mk, zP_mk, zK_mk, zN_mk, zwI_up, zwL_up, zg_some, Nat.reduceMod, Nat.reduceDiv, zcn_I, iI_add, iI_sub, iI_mul, iI_neg, iI_lt, iI_le, iI_eq, iI_lt0, iI_le0, iI_gt0, iI_ge0, iI_eq0, k0, p25, k25] <;> omega) trivial ?_
        simp (disch := omega) only [upI_same, upL_same, upI_ne, upL_ne, iI_ixN, zI_mk, zL_mk, zP_mk, zK_mk, zN_mk, zwI_up, zwL_up, zg_some, Nat.reduceMod, Nat.reduceDiv, p25, zcn_I]
        have mT : mf y (tSetR T j (wUnd (tRd T j)) (tDy T)) (upI J (y + 1790) j (iI 1), L, R) := by
          refine mf_setR mJ hj ⟨ho.1, ho.2.1, ho.2.2.1, ho.2.2.2.1, ho.2.2.2.2⟩ hz (by omega) (fun a q1 q2 => upI_row (by omega)) (fun k q1 q2 q3 q4 => by rw [upI_row (by omega)]) ?_ (fun a k q1 q2 q3 => upI_ne (by omega)) (fun a q1 q2 q3 q4 q5 q6 q7 q8 => upI_row (by omega)) ⟨?_, ?_, ?_, ?_, ?_, ?_, fun c hc => ⟨?_, ?_, ?_, ?_, ?_, fun i hi => ?_⟩⟩
          · rw [upI_row (by omega)]
            exact (m_own mJ).2.2.2
          · simp (disch := omega) only [upI_same, upL_same, upI_ne, upL_ne, iI_ixN, zI_mk, zL_mk, zP_mk, zK_mk, zN_mk, zwI_up, zwL_up, zg_some, Nat.reduceMod, Nat.reduceDiv, zcn_I, iI_add, iI_sub, iI_mul, iI_neg, iI_lt, iI_le, iI_eq, iI_lt0, iI_le0, iI_gt0, iI_ge0, iI_eq0]
            exact s1
          · simp (disch := omega) only [upI_same, upL_same, upI_ne, upL_ne, iI_ixN, zI_mk, zL_mk, zP_mk, zK_mk, zN_mk, zwI_up, zwL_up, zg_some, Nat.reduceMod, Nat.reduceDiv, zcn_I, iI_add, iI_sub, iI_mul, iI_neg, iI_lt, iI_le, iI_eq, iI_lt0, iI_le0, iI_gt0, iI_ge0, iI_eq0]
            exact s2
          · simp (disch := omega) only [upI_same, upL_same, upI_ne, upL_ne, iI_ixN, zI_mk, zL_mk, zP_mk, zK_mk, zN_mk, zwI_up, zwL_up, zg_some, Nat.reduceMod, Nat.reduceDiv, zcn_I, iI_add, iI_sub, iI_mul, iI_neg, iI_lt, iI_le, iI_eq, iI_lt0, iI_le0, iI_gt0, iI_ge0, iI_eq0]
            exact s3
          · simp (disch := omega) only [upI_same, upL_same, upI_ne, upL_ne, iI_ixN, zI_mk, zL_mk, zP_mk, zK_mk, zN_mk, zwI_up, zwL_up, zg_some, Nat.reduceMod, Nat.reduceDiv, zcn_I, iI_add, iI_sub, iI_mul, iI_neg, iI_lt, iI_le, iI_eq, iI_lt0, iI_le0, iI_gt0, iI_ge0, iI_eq0]
            exact s4
          · simp (disch := omega) only [upI_same, upL_same, upI_ne, upL_ne, iI_ixN, zI_mk, zL_mk, zP_mk, zK_mk, zN_mk, zwI_up, zwL_up, zg_some, Nat.reduceMod, Nat.reduceDiv, zcn_I, iI_add, iI_sub, iI_mul, iI_neg, iI_lt, iI_le, iI_eq, iI_lt0, iI_le0, iI_gt0, iI_ge0, iI_eq0]
            exact s5
          · simp (disch := omega) only [upI_same, upL_same, upI_ne, upL_ne, iI_ixN, zI_mk, zL_mk, zP_mk, zK_mk, zN_mk, zwI_up, zwL_up, zg_some, Nat.reduceMod, Nat.reduceDiv, zcn_I, iI_add, iI_sub, iI_mul, iI_neg, iI_lt, iI_le, iI_eq, iI_lt0, iI_le0, iI_gt0, iI_ge0, iI_eq0]
            rfl
          · simp (disch := omega) only [upI_same, upL_same, upI_ne, upL_ne, iI_ixN, zI_mk, zL_mk, zP_mk, zK_mk, zN_mk, zwI_up, zwL_up, zg_some, Nat.reduceMod, Nat.reduceDiv, zcn_I, iI_add, iI_sub, iI_mul, iI_neg, iI_lt, iI_le, iI_eq, iI_lt0, iI_le0, iI_gt0, iI_ge0, iI_eq0]
            exact (s7 c hc).1
          · simp (disch := omega) only [upI_same, upL_same, upI_ne, upL_ne, iI_ixN, zI_mk, zL_mk, zP_mk, zK_mk, zN_mk, zwI_up, zwL_up, zg_some, Nat.reduceMod, Nat.reduceDiv, zcn_I, iI_add, iI_sub, iI_mul, iI_neg, iI_lt, iI_le, iI_eq, iI_lt0, iI_le0, iI_gt0, iI_ge0, iI_eq0]
            exact (s7 c hc).2.1
          · simp (disch := omega) only [upI_same, upL_same, upI_ne, upL_ne, iI_ixN, zI_mk, zL_mk, zP_mk, zK_mk, zN_mk, zwI_up, zwL_up, zg_some, Nat.reduceMod, Nat.reduceDiv, zcn_I, iI_add, iI_sub, iI_mul, iI_neg, iI_lt, iI_le, iI_eq, iI_lt0, iI_le0, iI_gt0, iI_ge0, iI_eq0]
            exact (s7 c hc).2.2.1
          · simp (disch := omega) only [upI_same, upL_same, upI_ne, upL_ne, iI_ixN, zI_mk, zL_mk, zP_mk, zK_mk, zN_mk, zwI_up, zwL_up, zg_some, Nat.reduceMod, Nat.reduceDiv, zcn_I, iI_add, iI_sub, iI_mul, iI_neg, iI_lt, iI_le, iI_eq, iI_lt0, iI_le0, iI_gt0, iI_ge0, iI_eq0]
            exact (s7 c hc).2.2.2.1
          · simp (disch := omega) only [upI_same, upL_same, upI_ne, upL_ne, iI_ixN, zI_mk, zL_mk, zP_mk, zK_mk, zN_mk, zwI_up, zwL_up, zg_some, Nat.reduceMod, Nat.reduceDiv, zcn_I, iI_add, iI_sub, iI_mul, iI_neg, iI_lt, iI_le, iI_eq, iI_lt0, iI_le0, iI_gt0, iI_ge0, iI_eq0]
            exact (s7 c hc).2.2.2.2.1
          · simp (disch := omega) only [upI_same, upL_same, upI_ne, upL_ne, iI_ixN, zI_mk, zL_mk, zP_mk, zK_mk, zN_mk, zwI_up, zwL_up, zg_some, Nat.reduceMod, Nat.reduceDiv, zcn_I, iI_add, iI_sub, iI_mul, iI_neg, iI_lt, iI_le, iI_eq, iI_lt0, iI_le0, iI_gt0, iI_ge0, iI_eq0]
            exact (s7 c hc).2.2.2.2.2 i hi
        refine mP_0 hQ rfl mT (mgr_tr (mgr_o (scr_o sJ)) (mgr_o (fun a q => ⟨upI_row (by omega), rfl⟩))) ?_
        show upI J (y + 1790) j (iI 1) y 41 = iI 0
        rw [upI_row (by omega)]
        exact tJ
    cases hcl : rCl (tRd T j) with
    | false =>
      rw [hcl] at r5
      refine zW.gbt [] rfl rfl rfl (by omega) (by simp (disch := omega) only [true_or, or_true, eq_self, Option.some.injEq, Prod.mk.injEq, zall_0, zall_1, zall_2, zob_iff, zar_iff, zis_iff, zkIs_some, zkHas_some, iI_vp, z01_I, z01_bz, zch_I, true_and, and_true, or_false, false_or, and_self, upI_same, upL_same, upI_ne, upL_ne, iI_ixN, zI_mk, zL_mk, zP_mk, zK_mk, zN_mk, zwI_up, zwL_up, zg_some, Nat.reduceMod, Nat.reduceDiv, zcn_I, iI_add, iI_sub, iI_mul, iI_neg, iI_lt, iI_le, iI_eq, iI_lt0, iI_le0, iI_gt0, iI_ge0, iI_eq0, k0, p24, k24] <;> omega) (by simp (disch := omega) only [eq_self, not_true_eq_false, not_false_eq_true, upI_same, upL_same, upI_ne, upL_ne, iI_ixN, zI_mk, zL_mk, zP_mk, zK_mk, zN_mk, zwI_up, zwL_up, zg_some, Nat.reduceMod, Nat.reduceDiv, zcn_I, iI_add, iI_sub, iI_mul, iI_neg, iI_lt, iI_le, iI_eq, iI_lt0, iI_le0, iI_gt0, iI_ge0, iI_eq0, p24, r5, bz_f] <;> omega) ?_
      exact zW.go [37] rfl (by omega) trivial (F _ (tru_t (fun q => by have := q.1; rw [hcl] at this; cases this)))
    | true =>
      rw [hcl] at r5
      refine zW.gbf [] rfl rfl rfl (by omega) (by simp (disch := omega) only [true_or, or_true, eq_self, Option.some.injEq, Prod.mk.injEq, zall_0, zall_1, zall_2, zob_iff, zar_iff, zis_iff, zkIs_some, zkHas_some, iI_vp, z01_I, z01_bz, zch_I, true_and, and_true, or_false, false_or, and_self, upI_same, upL_same, upI_ne, upL_ne, iI_ixN, zI_mk, zL_mk, zP_mk, zK_mk, zN_mk, zwI_up, zwL_up, zg_some, Nat.reduceMod, Nat.reduceDiv, zcn_I, iI_add, iI_sub, iI_mul, iI_neg, iI_lt, iI_le, iI_eq, iI_lt0, iI_le0, iI_gt0, iI_ge0, iI_eq0, k0, p24, k24] <;> omega) (by simp (disch := omega) only [eq_self, not_true_eq_false, not_false_eq_true, upI_same, upL_same, upI_ne, upL_ne, iI_ixN, zI_mk, zL_mk, zP_mk, zK_mk, zN_mk, zwI_up, zwL_up, zg_some, Nat.reduceMod, Nat.reduceDiv, zcn_I, iI_add, iI_sub, iI_mul, iI_neg, iI_lt, iI_le, iI_eq, iI_lt0, iI_le0, iI_gt0, iI_ge0, iI_eq0, p24, r5, bz_t] <;> omega) ?_
      cases hud : rUd (tRd T j) with
      | true =>
        rw [hud] at r6
        refine zW.gbf [] rfl rfl rfl (by omega) (by simp (disch := omega) only [true_or, or_true, eq_self, Option.some.injEq, Prod.mk.injEq, zall_0, zall_1, zall_2, zob_iff, zar_iff, zis_iff, zkIs_some, zkHas_some, iI_vp, z01_I, z01_bz, zch_I, true_and, and_true, or_false, false_or, and_self, upI_same, upL_same, upI_ne, upL_ne, iI_ixN, zI_mk, zL_mk, zP_mk, zK_mk, zN_mk, zwI_up, zwL_up, zg_some, Nat.reduceMod, Nat.reduceDiv, zcn_I, iI_add, iI_sub, iI_mul, iI_neg, iI_lt, iI_le, iI_eq, iI_lt0, iI_le0, iI_gt0, iI_ge0, iI_eq0, k0, p25, k25] <;> omega) (by simp (disch := omega) only [eq_self, not_true_eq_false, not_false_eq_true, upI_same, upL_same, upI_ne, upL_ne, iI_ixN, zI_mk, zL_mk, zP_mk, zK_mk, zN_mk, zwI_up, zwL_up, zg_some, Nat.reduceMod, Nat.reduceDiv, zcn_I, iI_add, iI_sub, iI_mul, iI_neg, iI_lt, iI_le, iI_eq, iI_lt0, iI_le0, iI_gt0, iI_ge0, iI_eq0, p25, r6, bz_t] <;> omega) ?_
        exact zW.go [37] rfl (by omega) trivial (F _ (tru_t (fun q => by have := q.2; rw [hud] at this; cases this)))
      | false =>
        rw [hud] at r6
        refine zW.gbt [] rfl rfl rfl (by omega) (by simp (disch := omega) only [true_or, or_true, eq_self, Option.some.injEq, Prod.mk.injEq, zall_0, zall_1, zall_2, zob_iff, zar_iff, zis_iff, zkIs_some, zkHas_some, iI_vp, z01_I, z01_bz, zch_I, true_and, and_true, or_false, false_or, and_self, upI_same, upL_same, upI_ne, upL_ne, iI_ixN, zI_mk, zL_mk, zP_mk, zK_mk, zN_mk, zwI_up, zwL_up, zg_some, Nat.reduceMod, Nat.reduceDiv, zcn_I, iI_add, iI_sub, iI_mul, iI_neg, iI_lt, iI_le, iI_eq, iI_lt0, iI_le0, iI_gt0, iI_ge0, iI_eq0, k0, p25, k25] <;> omega) (by simp (disch := omega) only [eq_self, not_true_eq_false, not_false_eq_true, upI_same, upL_same, upI_ne, upL_ne, iI_ixN, zI_mk, zL_mk, zP_mk, zK_mk, zN_mk, zwI_up, zwL_up, zg_some, Nat.reduceMod, Nat.reduceDiv, zcn_I, iI_add, iI_sub, iI_mul, iI_neg, iI_lt, iI_le, iI_eq, iI_lt0, iI_le0, iI_gt0, iI_ge0, iI_eq0, p25, r6, bz_f] <;> omega) ?_
        exact zW.go [37] rfl (by omega) trivial (F _ (tru_f (fun q => q ⟨hcl, hud⟩)))
end MUND
