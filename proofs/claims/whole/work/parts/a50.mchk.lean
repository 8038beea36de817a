/-! The model's checksum and soundness. -/
section MCHK
variable {d y : Nat} {T : tfT} {I : Nat → Nat → Int32} {L : Nat → Nat → Int64} {R : zRt} {Q : zO → zM → Prop}
theorem zld_31m : Int64.ofInt (zldL 8120) = iL 31 := by decide +kernel
theorem mck_in {i : Nat} {s : Int} (hd : 1 ≤ d) (h : mf y T (I, L, R)) (hi : i < tPn T)
    (hQ : ∀ x, zW 250 d 0 0 56 [some (zr (some y)), some (zl (iL (ckP (pzS (tPz T i)) s (pzN (tPz T i))))), none, some (zi (iI (i : Int))), some (zi x)] [] (I, L, R) Q) :
    ∀ m k, k + m = pzN (tPz T i) → ∀ (o : Int64) (x : Int32), o = iL (ckP (pzS (tPz T i)) s k) → x = iI (k : Int) → zW 250 d 0 0 22 [some (zr (some y)), some (zl o), none, some (zi (iI (i : Int))), some (zi x)] [] (I, L, R) Q
  | 0, k, hk, o, x, e1, e2 => by
    subst e1; subst e2
    have hM := h.2.1
    have k0 : R.2.1 y = some (7, 0) := hM.1
    obtain ⟨h4, hz, w1, w2, w3, w4, w5⟩ := m_pz h hi
    have hn := hz.2.1
    have p1 : R.1 y 1 = some (y + 2) := (hM.2.1 1 (by decide)).1; have k1 : R.2.1 (y + 2) = some (20, 4) := (hM.2.1 1 (by decide)).2
    obtain rfl : k = pzN (tPz T i) := by omega
    exact zW.gbt [] rfl rfl rfl (by omega) (by simp (disch := omega) only [true_or, or_true, eq_self, Option.some.injEq, Prod.mk.injEq, zall_0, zall_1, zall_2, zob_iff, zar_iff, zis_iff, zkIs_some, zkHas_some, iI_vp, z01_I, z01_bz, zch_I, true_and, and_true, or_false, false_or, and_self, upI_same, upL_same, upI_ne, upL_ne, iI_ixN, zI_mk, zL_mk, zP_mk, zK_mk, zN_mk, zwI_up, zwL_up, zg_some, Nat.reduceMod, Nat.reduceDiv, zcn_I, iI_add, iI_sub, iI_mul, iI_neg, iI_lt, iI_le, iI_eq, iI_lt0, iI_le0, iI_gt0, iI_ge0, iI_eq0, k0, p1, k1] <;> omega) (by simp (disch := omega) only [eq_self, not_true_eq_false, not_false_eq_true, upI_same, upL_same, upI_ne, upL_ne, iI_ixN, zI_mk, zL_mk, zP_mk, zK_mk, zN_mk, zwI_up, zwL_up, zg_some, Nat.reduceMod, Nat.reduceDiv, zcn_I, iI_add, iI_sub, iI_mul, iI_neg, iI_lt, iI_le, iI_eq, iI_lt0, iI_le0, iI_gt0, iI_ge0, iI_eq0, p1, w1] <;> omega) (hQ _)
  | m + 1, k, hk, o, x, e1, e2 => by
    subst e1; subst e2
    have hM := h.2.1
    have k0 : R.2.1 y = some (7, 0) := hM.1
    obtain ⟨h4, hz, w1, w2, w3, w4, w5⟩ := m_pz h hi
    have hn := hz.2.1
    have v1 := w5 k (by omega)
    have l1 := hz.2.2.2.2.2.2.2.2.1 k (by omega)
    have p1 : R.1 y 1 = some (y + 2) := (hM.2.1 1 (by decide)).1; have k1 : R.2.1 (y + 2) = some (20, 4) := (hM.2.1 1 (by decide)).2; have p5 : R.1 y 5 = some (y + 46) := (hM.2.1 5 (by decide)).1; have k5 : R.2.1 (y + 46) = some (25, 4) := (hM.2.1 5 (by decide)).2; have q5 : R.1 (y + 46) (i) = some (y + 47 + i) := (hM.2.2.2.2.1 (i) (by omega)).1.trans (congrArg some (by omega)); have j5 : R.2.1 (y + 47 + i) = some (20, 10) := (congrArg R.2.1 (by omega)).trans (hM.2.2.2.2.1 (i) (by omega)).2
    refine zW.gbf [] rfl rfl rfl (by omega) (by simp (disch := omega) only [true_or, or_true, eq_self, Option.some.injEq, Prod.mk.injEq, zall_0, zall_1, zall_2, zob_iff, zar_iff, zis_iff, zkIs_some, zkHas_some, iI_vp, z01_I, z01_bz, zch_I, true_and, and_true, or_false, false_or, and_self, upI_same, upL_same, upI_ne, upL_ne, iI_ixN, zI_mk, zL_mk, zP_mk, zK_mk, zN_mk, zwI_up, zwL_up, zg_some, Nat.reduceMod, Nat.reduceDiv, zcn_I, iI_add, iI_sub, iI_mul, iI_neg, iI_lt, iI_le, iI_eq, iI_lt0, iI_le0, iI_gt0, iI_ge0, iI_eq0, k0, p1, k1] <;> omega) (by simp (disch := omega) only [eq_self, not_true_eq_false, not_false_eq_true, upI_same, upL_same, upI_ne, upL_ne, iI_ixN, zI_mk, zL_mk, zP_mk, zK_mk, zN_mk, zwI_up, zwL_up, zg_some, Nat.reduceMod, Nat.reduceDiv, zcn_I, iI_add, iI_sub, iI_mul, iI_neg, iI_lt, iI_le, iI_eq, iI_lt0, iI_le0, iI_gt0, iI_ge0, iI_eq0, p1, w1] <;> omega) ?_
    refine zW.go [22] rfl (by omega) (by simp (disch := omega) only [true_or, or_true, eq_self, Option.some.injEq, Prod.mk.injEq, zall_0, zall_1, zall_2, zob_iff, zar_iff, zis_iff, zkIs_some, zkHas_some, iI_vp, z01_I, z01_bz, zch_I, true_and, and_true, or_false, false_or, and_self, upI_same, upL_same, upI_ne, upL_ne, iI_ixN, zI_mk, zL_mk, zP_mk, zK_mk, zN_mk, zwI_up, zwL_up, zg_some, Nat.reduceMod, Nat.reduceDiv, zcn_I, iI_add, iI_sub, iI_mul, iI_neg, iI_lt, iI_le, iI_eq, iI_lt0, iI_le0, iI_gt0, iI_ge0, iI_eq0, k0, p5, k5, q5, j5] <;> omega) ?_
    simp (disch := omega) only [upI_same, upL_same, upI_ne, upL_ne, iI_ixN, zI_mk, zL_mk, zP_mk, zK_mk, zN_mk, zwI_up, zwL_up, zg_some, Nat.reduceMod, Nat.reduceDiv, p5, q5, v1, zld_31m]
    refine mck_in hd h hi hQ m (k + 1) (by omega) _ _ ?_ (by rw [zcn_I, iI_add]; rfl)
    rw [iI_L (by omega) (by omega), iL_mul, iL_add]
    rfl
theorem mck_lp (hd : 5 ≤ d) (hQ : ∀ I' L', mf y T (I', L', R) → mfo y I L I' L' → I' y 41 = iI 0 → Q (.inl (some (zl (iL (ckS T (tPn T)))))) (I', L', R)) :
    ∀ n i, i + n = tPn T → ∀ (I1 : Nat → Nat → Int32) (L1 : Nat → Nat → Int64) (o : Int64) (x : Int32) (v : Option zV), mf y T (I1, L1, R) → mfo y I L I1 L1 → I1 y 41 = iI 0 → o = iL (ckS T i) → x = iI (i : Int) → zW 250 d 0 0 11 [some (zr (some y)), some (zl o), none, some (zi x), v] [] (I1, L1, R) Q
  | 0, i, hk, I1, L1, o, x, v, h, f, t, e1, e2 => by
    subst e1; subst e2
    have k0 : R.2.1 y = some (7, 0) := h.2.1.1
    have r1 : I1 y 33 = iI (tPn T : Int) := h.2.2.2.2.1.1
    have hn := h.1.2.1.1
    obtain rfl : i = tPn T := by omega
    refine zW.gbt [] rfl rfl rfl (by omega) (by simp (disch := omega) only [true_or, or_true, eq_self, Option.some.injEq, Prod.mk.injEq, zall_0, zall_1, zall_2, zob_iff, zar_iff, zis_iff, zkIs_some, zkHas_some, iI_vp, z01_I, z01_bz, zch_I, true_and, and_true, or_false, false_or, and_self, upI_same, upL_same, upI_ne, upL_ne, iI_ixN, zI_mk, zL_mk, zP_mk, zK_mk, zN_mk, zwI_up, zwL_up, zg_some, Nat.reduceMod, Nat.reduceDiv, zcn_I, iI_add, iI_sub, iI_mul, iI_neg, iI_lt, iI_le, iI_eq, iI_lt0, iI_le0, iI_gt0, iI_ge0, iI_eq0, k0] <;> omega) (by simp (disch := omega) only [eq_self, not_true_eq_false, not_false_eq_true, upI_same, upL_same, upI_ne, upL_ne, iI_ixN, zI_mk, zL_mk, zP_mk, zK_mk, zN_mk, zwI_up, zwL_up, zg_some, Nat.reduceMod, Nat.reduceDiv, zcn_I, iI_add, iI_sub, iI_mul, iI_neg, iI_lt, iI_le, iI_eq, iI_lt0, iI_le0, iI_gt0, iI_ge0, iI_eq0, r1] <;> omega) ?_
    exact zW.gr [] rfl rfl rfl (by omega) trivial trivial (hQ I1 L1 h f t)
  | n + 1, i, hk, I1, L1, o, x, v, h, f, t, e1, e2 => by
    subst e1; subst e2
    have hM := h.2.1
    have k0 : R.2.1 y = some (7, 0) := hM.1
    have r1 : I1 y 33 = iI (tPn T : Int) := h.2.2.2.2.1.1
    have hn := h.1.2.1.1
    have hi : i < tPn T := by omega
    refine zW.gbf [] rfl rfl rfl (by omega) (by simp (disch := omega) only [true_or, or_true, eq_self, Option.some.injEq, Prod.mk.injEq, zall_0, zall_1, zall_2, zob_iff, zar_iff, zis_iff, zkIs_some, zkHas_some, iI_vp, z01_I, z01_bz, zch_I, true_and, and_true, or_false, false_or, and_self, upI_same, upL_same, upI_ne, upL_ne, iI_ixN, zI_mk, zL_mk, zP_mk, zK_mk, zN_mk, zwI_up, zwL_up, zg_some, Nat.reduceMod, Nat.reduceDiv, zcn_I, iI_add, iI_sub, iI_mul, iI_neg, iI_lt, iI_le, iI_eq, iI_lt0, iI_le0, iI_gt0, iI_ge0, iI_eq0, k0] <;> omega) (by simp (disch := omega) only [eq_self, not_true_eq_false, not_false_eq_true, upI_same, upL_same, upI_ne, upL_ne, iI_ixN, zI_mk, zL_mk, zP_mk, zK_mk, zN_mk, zwI_up, zwL_up, zg_some, Nat.reduceMod, Nat.reduceDiv, zcn_I, iI_add, iI_sub, iI_mul, iI_neg, iI_lt, iI_le, iI_eq, iI_lt0, iI_le0, iI_gt0, iI_ge0, iI_eq0, r1] <;> omega) ?_
    refine zW.go [22] rfl (by omega) trivial ?_
    refine mck_in (s := ckS T i) (by omega) h hi (fun x4 => ?_) (pzN (tPz T i)) 0 (Nat.zero_add _) _ _ rfl (zcn_I _)
    refine zW.gz [] rfl rfl rfl (by omega) trivial ⟨_, rfl, k0⟩ rfl rfl (by decide +kernel) (by decide +kernel) ?_
    refine mlay_ok (by omega) h hi rfl (fun I2 L2 tb s sy hG => ?_)
    have vz := hG.2.2.2.2.2.2 0 (Nat.zero_le _)
    have vz : L2 (y + 173) 0 = iL (pzZ (tPz T i) : Int) := vz
    have p8 : R.1 y 8 = some (y + 173) := (hM.2.1 8 (by decide)).1; have k8 : R.2.1 (y + 173) = some (21, 11) := (hM.2.1 8 (by decide)).2
    refine zW.go [11] rfl (by omega) (by simp (disch := omega) only [true_or, or_true, eq_self, Option.some.injEq, Prod.mk.injEq, zall_0, zall_1, zall_2, zob_iff, zar_iff, zis_iff, zkIs_some, zkHas_some, iI_vp, z01_I, z01_bz, zch_I, true_and, and_true, or_false, false_or, and_self, upI_same, upL_same, upI_ne, upL_ne, iI_ixN, zI_mk, zL_mk, zP_mk, zK_mk, zN_mk, zwI_up, zwL_up, zg_some, Nat.reduceMod, Nat.reduceDiv, zcn_I, iI_add, iI_sub, iI_mul, iI_neg, iI_lt, iI_le, iI_eq, iI_lt0, iI_le0, iI_gt0, iI_ge0, iI_eq0, k0, p8, k8] <;> omega) ?_
    simp (disch := omega) only [upI_same, upL_same, upI_ne, upL_ne, iI_ixN, zI_mk, zL_mk, zP_mk, zK_mk, zN_mk, zwI_up, zwL_up, zg_some, Nat.reduceMod, Nat.reduceDiv, p8, zcn_I, c0i, vz, zld_31m]
    refine mck_lp hd hQ n (i + 1) (by omega) I2 L2 _ _ _ (mf_scr h s) (mfo_tr f (scr_o s)) ((sy 41).trans t) ?_ (by rw [iI_add]; rfl)
    rw [iL_mul, iL_add]
    rfl
theorem mCheck_ok (hd : 5 ≤ d) (h : mf y T (I, L, R)) (hQ : mP y (I, L, R) (oCheck T) eL Q) : zS 250 d [zr (some y)] (I, L, R) Q := by
  have hM := h.2.1
  have k0 : R.2.1 y = some (7, 0) := hM.1
  have z7 : Int64.ofInt (zldL 8119) = iL 7 := by decide +kernel
  refine zW.go [11] rfl (by omega) ⟨_, rfl, k0⟩ ?_
  simp (disch := omega) only [upI_same, upL_same, upI_ne, upL_ne, iI_ixN, zI_mk, zL_mk, zP_mk, zK_mk, zN_mk, zwI_up, zwL_up, zg_some, Nat.reduceMod, Nat.reduceDiv, zcn_I, z7]
  refine mck_lp (I := I) (L := L) (by omega) (fun I' L' m1 f1 t1 => ?_) (tPn T) 0 (Nat.zero_add _) (upI I y 41 (iI 0)) L _ _ _ (mf_scr h th_scr) (scr_o th_scr) (upI_same _ _ _ _) rfl rfl
  exact mP_0 hQ rfl m1 (mgr_o f1) t1
theorem mSound_ok (hd : 1 ≤ d) (h : mf y T (I, L, R)) (hQ : mP y (I, L, R) (oSound T) eI Q) : zS 251 d [zr (some y)] (I, L, R) Q := by
  have hM := h.2.1
  have k0 : R.2.1 y = some (7, 0) := hM.1
  refine zW.gr [] rfl rfl rfl (by omega) ⟨_, rfl, k0⟩ z01c1 ?_
  simp (disch := omega) only [upI_same, upL_same, upI_ne, upL_ne, iI_ixN, zI_mk, zL_mk, zP_mk, zK_mk, zN_mk, zwI_up, zwL_up, zg_some, Nat.reduceMod, Nat.reduceDiv, zcn_I]
  exact mP_0 hQ rfl (mf_scr h th_scr) (mgr_o (scr_o th_scr)) (upI_same _ _ _ _)
end MCHK
