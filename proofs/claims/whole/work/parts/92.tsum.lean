/-! The class's checksum, soundness. -/
section TSUM
variable {d x z : Nat} {pb rb : Nat → Nat} {T : tfT} {I : Nat → Nat → Int32} {L : Nat → Nat → Int64} {R : zRt} {Q : zO → zM → Prop}
def ckP (st : Nat → Nat) (s : Int) : Nat → Int
  | 0 => s
  | k + 1 => 31 * ckP st s k + (st k : Int)
noncomputable def ckS (T : tfT) : Nat → Int
  | 0 => 7
  | k + 1 => 31 * ckP (pzS (tPz T k)) (ckS T k) (pzN (tPz T k)) + (pzZ (tPz T k) : Int)
theorem zld_31 : Int64.ofInt (zldL 1212) = iL 31 := by decide +kernel
theorem cks_in {i : Nat} (hd : 3 ≤ d) (hf : tf x z pb rb T (I, L, R)) (hi : i < tPn T) {s : Int}
    (hQ : ∀ v, zW 145 d 0 0 69 [some (zr (some x)), some (zl (iL (ckP (pzS (tPz T i)) s (pzN (tPz T i))))), none, some (zi (iI (i : Int))), some (zr (some (pb i))), v] [] (I, L, R) Q) :
    ∀ m k, k + m = pzN (tPz T i) → ∀ (o : Int64) (y : Int32), o = iL (ckP (pzS (tPz T i)) s k) → y = iI (k : Int) → zW 145 d 0 0 35 [some (zr (some x)), some (zl o), none, some (zi (iI (i : Int))), some (zr (some (pb i))), some (zi y)] [] (I, L, R) Q
  | 0, k, hk, o, y, e1, e2 => by
    subst e1; subst e2
    obtain ⟨c1, c2, c3, c4, c5, c6, c7⟩ := ru_ok hf hi
    obtain ⟨hL, hz, hR⟩ := tf_pz hf hi
    have hn := hz.2.1
    obtain rfl : k = pzN (tPz T i) := by omega
    exact zW.gbt [] rfl rfl rfl (by omega) (by simp (disch := omega) only [true_or, or_true, eq_self, Option.some.injEq, Prod.mk.injEq, zall_0, zall_1, zall_2, zob_iff, zar_iff, zis_iff, zkIs_some, zkHas_some, iI_vp, z01_I, z01_bz, zch_I, true_and, and_true, or_false, false_or, and_self, upI_same, upL_same, upI_ne, upL_ne, iI_ixN, zI_mk, zL_mk, zP_mk, zK_mk, zN_mk, zwI_up, zwL_up, zg_some, Nat.reduceMod, Nat.reduceDiv, zcn_I, iI_add, iI_sub, iI_mul, iI_neg, iI_lt, iI_le, iI_eq, iI_lt0, iI_le0, iI_gt0, iI_ge0, iI_eq0, c1] <;> omega) (by simp (disch := omega) only [eq_self, not_true_eq_false, not_false_eq_true, upI_same, upL_same, upI_ne, upL_ne, iI_ixN, zI_mk, zL_mk, zP_mk, zK_mk, zN_mk, zwI_up, zwL_up, zg_some, Nat.reduceMod, Nat.reduceDiv, zcn_I, iI_add, iI_sub, iI_mul, iI_neg, iI_lt, iI_le, iI_eq, iI_lt0, iI_le0, iI_gt0, iI_ge0, iI_eq0, c4] <;> omega) (hQ _)
  | m + 1, k, hk, o, y, e1, e2 => by
    subst e1; subst e2
    obtain ⟨c1, c2, c3, c4, c5, c6, c7⟩ := ru_ok hf hi
    obtain ⟨hL, hz, hR⟩ := tf_pz hf hi
    have hn := hz.2.1
    have hp := zst_pm hz
    refine zW.gbf [] rfl rfl rfl (by omega) (by simp (disch := omega) only [true_or, or_true, eq_self, Option.some.injEq, Prod.mk.injEq, zall_0, zall_1, zall_2, zob_iff, zar_iff, zis_iff, zkIs_some, zkHas_some, iI_vp, z01_I, z01_bz, zch_I, true_and, and_true, or_false, false_or, and_self, upI_same, upL_same, upI_ne, upL_ne, iI_ixN, zI_mk, zL_mk, zP_mk, zK_mk, zN_mk, zwI_up, zwL_up, zg_some, Nat.reduceMod, Nat.reduceDiv, zcn_I, iI_add, iI_sub, iI_mul, iI_neg, iI_lt, iI_le, iI_eq, iI_lt0, iI_le0, iI_gt0, iI_ge0, iI_eq0, c1] <;> omega) (by simp (disch := omega) only [eq_self, not_true_eq_false, not_false_eq_true, upI_same, upL_same, upI_ne, upL_ne, iI_ixN, zI_mk, zL_mk, zP_mk, zK_mk, zN_mk, zwI_up, zwL_up, zg_some, Nat.reduceMod, Nat.reduceDiv, zcn_I, iI_add, iI_sub, iI_mul, iI_neg, iI_lt, iI_le, iI_eq, iI_lt0, iI_le0, iI_gt0, iI_ge0, iI_eq0, c4] <;> omega) ?_
    refine zW.gz [] rfl rfl rfl (by omega) (by simp (disch := omega) only [true_or, or_true, eq_self, Option.some.injEq, Prod.mk.injEq, zall_0, zall_1, zall_2, zob_iff, zar_iff, zis_iff, zkIs_some, zkHas_some, iI_vp, z01_I, z01_bz, zch_I, true_and, and_true, or_false, false_or, and_self, upI_same, upL_same, upI_ne, upL_ne, iI_ixN, zI_mk, zL_mk, zP_mk, zK_mk, zN_mk, zwI_up, zwL_up, zg_some, Nat.reduceMod, Nat.reduceDiv, zcn_I, iI_add, iI_sub, iI_mul, iI_neg, iI_lt, iI_le, iI_eq, iI_lt0, iI_le0, iI_gt0, iI_ge0, iI_eq0, c1] <;> omega) trivial rfl rfl (Nat.le_refl _) (Nat.le_refl _) ?_
    simp (disch := omega) only [upI_same, upL_same, upI_ne, upL_ne, iI_ixN, zI_mk, zL_mk, zP_mk, zK_mk, zN_mk, zwI_up, zwL_up, zg_some, Nat.reduceMod, Nat.reduceDiv, zcn_I, iI_add, iI_sub, iI_mul, iI_neg, iI_lt, iI_le, iI_eq, iI_lt0, iI_le0, iI_gt0, iI_ge0, iI_eq0, c2]
    refine at_ok (f := pzS (tPz T i)) (p := k) (by omega) (pm_nb hp) (by omega) rfl rfl ?_
    have hlt := hp.1 k (by omega)
    refine zW.go [35] rfl (by omega) trivial ?_
    refine cks_in hd hf hi hQ m (k + 1) (by omega) _ _ ?_ (by rw [zcn_I, iI_add]; rfl)
    rw [zld_31, iI_L (by omega) (by omega), iL_mul, iL_add]
    rfl
theorem cks_lp (hd : 3 ≤ d) (hf : tf x z pb rb T (I, L, R)) (hQ : Q (.inl (some (zl (iL (ckS T (tPn T)))))) (I, L, R)) :
    ∀ n i, i + n = tPn T → ∀ (o : Int64) (y : Int32) (v w : Option zV), o = iL (ckS T i) → y = iI (i : Int) → zW 145 d 0 0 6 [some (zr (some x)), some (zl o), none, some (zi y), v, w] [] (I, L, R) Q
  | 0, i, hk, o, y, v, w, e1, e2 => by
    subst e1; subst e2
    have k0 := tf_k0 hf
    have r1 : I x 3 = iI (tPn T : Int) := hf.2.2.2.2.1.1
    have hn := hf.1.2.1.1
    obtain rfl : i = tPn T := by omega
    refine zW.gbt [] rfl rfl rfl (by omega) (by simp (disch := omega) only [true_or, or_true, eq_self, Option.some.injEq, Prod.mk.injEq, zall_0, zall_1, zall_2, zob_iff, zar_iff, zis_iff, zkIs_some, zkHas_some, iI_vp, z01_I, z01_bz, zch_I, true_and, and_true, or_false, false_or, and_self, upI_same, upL_same, upI_ne, upL_ne, iI_ixN, zI_mk, zL_mk, zP_mk, zK_mk, zN_mk, zwI_up, zwL_up, zg_some, Nat.reduceMod, Nat.reduceDiv, zcn_I, iI_add, iI_sub, iI_mul, iI_neg, iI_lt, iI_le, iI_eq, iI_lt0, iI_le0, iI_gt0, iI_ge0, iI_eq0, k0] <;> omega) (by simp (disch := omega) only [eq_self, not_true_eq_false, not_false_eq_true, upI_same, upL_same, upI_ne, upL_ne, iI_ixN, zI_mk, zL_mk, zP_mk, zK_mk, zN_mk, zwI_up, zwL_up, zg_some, Nat.reduceMod, Nat.reduceDiv, zcn_I, iI_add, iI_sub, iI_mul, iI_neg, iI_lt, iI_le, iI_eq, iI_lt0, iI_le0, iI_gt0, iI_ge0, iI_eq0, r1] <;> omega) ?_
    exact zW.gr [] rfl rfl rfl (by omega) trivial trivial hQ
  | n + 1, i, hk, o, y, v, w, e1, e2 => by
    subst e1; subst e2
    have k0 := tf_k0 hf
    have p2 : R.1 x 2 = some (x + 2) := hf.2.1.1.2.2.1
    have kr : R.2.1 (x + 2) = some (27, 4) := hf.2.1.1.2.2.2.2.2.2.2.2.1
    have r1 : I x 3 = iI (tPn T : Int) := hf.2.2.2.2.1.1
    have hn := hf.1.2.1.1
    have hi : i < tPn T := by omega
    have q : R.1 (x + 2) i = some (pb i) := (hf.2.1.2.1 i hi).1
    obtain ⟨c1, c2, c3, c4, c5, c6, c7⟩ := ru_ok hf hi
    obtain ⟨hL, hz, hR⟩ := tf_pz hf hi
    have ck := hL.2.2.2.2.2.1.1
    refine zW.gbf [] rfl rfl rfl (by omega) (by simp (disch := omega) only [true_or, or_true, eq_self, Option.some.injEq, Prod.mk.injEq, zall_0, zall_1, zall_2, zob_iff, zar_iff, zis_iff, zkIs_some, zkHas_some, iI_vp, z01_I, z01_bz, zch_I, true_and, and_true, or_false, false_or, and_self, upI_same, upL_same, upI_ne, upL_ne, iI_ixN, zI_mk, zL_mk, zP_mk, zK_mk, zN_mk, zwI_up, zwL_up, zg_some, Nat.reduceMod, Nat.reduceDiv, zcn_I, iI_add, iI_sub, iI_mul, iI_neg, iI_lt, iI_le, iI_eq, iI_lt0, iI_le0, iI_gt0, iI_ge0, iI_eq0, k0] <;> omega) (by simp (disch := omega) only [eq_self, not_true_eq_false, not_false_eq_true, upI_same, upL_same, upI_ne, upL_ne, iI_ixN, zI_mk, zL_mk, zP_mk, zK_mk, zN_mk, zwI_up, zwL_up, zg_some, Nat.reduceMod, Nat.reduceDiv, zcn_I, iI_add, iI_sub, iI_mul, iI_neg, iI_lt, iI_le, iI_eq, iI_lt0, iI_le0, iI_gt0, iI_ge0, iI_eq0, r1] <;> omega) ?_
    refine zW.gbf [] rfl rfl rfl (by omega) trivial (by simp (disch := omega) only [eq_self, not_true_eq_false, not_false_eq_true, upI_same, upL_same, upI_ne, upL_ne, iI_ixN, zI_mk, zL_mk, zP_mk, zK_mk, zN_mk, zwI_up, zwL_up, zg_some, Nat.reduceMod, Nat.reduceDiv, zcn_I, iI_add, iI_sub, iI_mul, iI_neg, iI_lt, iI_le, iI_eq, iI_lt0, iI_le0, iI_gt0, iI_ge0, iI_eq0] <;> omega) ?_
    refine zW.gbf [] rfl rfl rfl (by omega) (by simp (disch := omega) only [true_or, or_true, eq_self, Option.some.injEq, Prod.mk.injEq, zall_0, zall_1, zall_2, zob_iff, zar_iff, zis_iff, zkIs_some, zkHas_some, iI_vp, z01_I, z01_bz, zch_I, true_and, and_true, or_false, false_or, and_self, upI_same, upL_same, upI_ne, upL_ne, iI_ixN, zI_mk, zL_mk, zP_mk, zK_mk, zN_mk, zwI_up, zwL_up, zg_some, Nat.reduceMod, Nat.reduceDiv, zcn_I, iI_add, iI_sub, iI_mul, iI_neg, iI_lt, iI_le, iI_eq, iI_lt0, iI_le0, iI_gt0, iI_ge0, iI_eq0, k0, p2, kr, q] <;> omega) ?_ ?_
    · simp (disch := omega) [upI_same, upL_same, upI_ne, upL_ne, iI_ixN, zI_mk, zL_mk, zP_mk, zK_mk, zN_mk, zwI_up, zwL_up, zg_some, Nat.reduceMod, Nat.reduceDiv, p2, q]
    simp (disch := omega) only [upI_same, upL_same, upI_ne, upL_ne, iI_ixN, zI_mk, zL_mk, zP_mk, zK_mk, zN_mk, zwI_up, zwL_up, zg_some, Nat.reduceMod, Nat.reduceDiv, zcn_I, iI_add, iI_sub, iI_mul, iI_neg, iI_lt, iI_le, iI_eq, iI_lt0, iI_le0, iI_gt0, iI_ge0, iI_eq0, p2, q]
    refine zW.go [35] rfl (by omega) trivial ?_
    refine cks_in (by omega) hf hi (s := ckS T i) (fun u => ?_) (pzN (tPz T i)) 0 (by omega) _ _ rfl (zcn_I _)
    have z8 := chain_sz (zA_pm hz) hR.2.2.2.2.2.1
    have z8 : L (pb i + 2) 5 = iL (pzZ (tPz T i) : Int) := z8
    refine zW.go [6] rfl (by omega) (by simp (disch := omega) only [true_or, or_true, eq_self, Option.some.injEq, Prod.mk.injEq, zall_0, zall_1, zall_2, zob_iff, zar_iff, zis_iff, zkIs_some, zkHas_some, iI_vp, z01_I, z01_bz, zch_I, true_and, and_true, or_false, false_or, and_self, upI_same, upL_same, upI_ne, upL_ne, iI_ixN, zI_mk, zL_mk, zP_mk, zK_mk, zN_mk, zwI_up, zwL_up, zg_some, Nat.reduceMod, Nat.reduceDiv, zcn_I, iI_add, iI_sub, iI_mul, iI_neg, iI_lt, iI_le, iI_eq, iI_lt0, iI_le0, iI_gt0, iI_ge0, iI_eq0, c1, c6, ck] <;> omega) ?_
    simp (disch := omega) only [upI_same, upL_same, upI_ne, upL_ne, iI_ixN, zI_mk, zL_mk, zP_mk, zK_mk, zN_mk, zwI_up, zwL_up, zg_some, Nat.reduceMod, Nat.reduceDiv, zcn_I, iI_add, iI_sub, iI_mul, iI_neg, iI_lt, iI_le, iI_eq, iI_lt0, iI_le0, iI_gt0, iI_ge0, iI_eq0, c6, z8]
    refine cks_lp hd hf hQ n (i + 1) (by omega) _ _ _ _ ?_ rfl
    rw [zld_31, iL_mul, iL_add]
    rfl
noncomputable def oCheck (T : tfT) : tRes := (0, ckS T (tPn T), T)
theorem check_ok (hd : 4 ≤ d) (h : tfx x z T (I, L, R)) (hQ : tP x z (I, L, R) (oCheck T) [] eL Q) : zS 145 d [zr (some x)] (I, L, R) Q := by
  have hT := h
  obtain ⟨pb, rb, hf⟩ := h
  have z7 : Int64.ofInt (zldL 1211) = iL 7 := by decide +kernel
  refine zW.go [6] rfl (by omega) trivial ?_
  rw [z7]
  exact cks_lp (by omega) hf (tP_0 hQ rfl hT tfr_rf) (tPn T) 0 (by omega) _ _ _ _ rfl (zcn_I _)
theorem sou_2 (hd : 9 ≤ d) (hf : tf x z pb rb T (I, L, R)) (hQ : Q (.inl (some (zi (iI 1)))) (I, L, R)) :
    ∀ n k, k + n = tRn T → ∀ (y : Int32) (v : Option zV), y = iI (k : Int) → zW 146 d 0 0 50 [some (zr (some x)), some (zi y), v] [] (I, L, R) Q
  | 0, k, hk, y, v, e => by
    subst e
    have k0 := tf_k0 hf
    have r9 : I x 9 = iI (tRn T : Int) := hf.2.2.2.2.2.2.2.1.1
    have h8 := hf.1.2.2.2.2.1.1
    refine zW.gbt [] rfl rfl rfl (by omega) (by simp (disch := omega) only [true_or, or_true, eq_self, Option.some.injEq, Prod.mk.injEq, zall_0, zall_1, zall_2, zob_iff, zar_iff, zis_iff, zkIs_some, zkHas_some, iI_vp, z01_I, z01_bz, zch_I, true_and, and_true, or_false, false_or, and_self, upI_same, upL_same, upI_ne, upL_ne, iI_ixN, zI_mk, zL_mk, zP_mk, zK_mk, zN_mk, zwI_up, zwL_up, zg_some, Nat.reduceMod, Nat.reduceDiv, zcn_I, iI_add, iI_sub, iI_mul, iI_neg, iI_lt, iI_le, iI_eq, iI_lt0, iI_le0, iI_gt0, iI_ge0, iI_eq0, k0] <;> omega) (by simp (disch := omega) only [eq_self, not_true_eq_false, not_false_eq_true, upI_same, upL_same, upI_ne, upL_ne, iI_ixN, zI_mk, zL_mk, zP_mk, zK_mk, zN_mk, zwI_up, zwL_up, zg_some, Nat.reduceMod, Nat.reduceDiv, zcn_I, iI_add, iI_sub, iI_mul, iI_neg, iI_lt, iI_le, iI_eq, iI_lt0, iI_le0, iI_gt0, iI_ge0, iI_eq0, r9] <;> omega) ?_
    refine zW.gr [] rfl rfl rfl (by omega) trivial z01c1 ?_
    rw [zcn_I]
    exact hQ
  | n + 1, k, hk, y, v, e => by
    subst e
    have k0 := tf_k0 hf
    have p8 : R.1 x 8 = some (x + 16) := hf.2.1.1.2.2.2.2.2.2.1
    have k16 : R.2.1 (x + 16) = some (28, 8) := hf.2.1.1.2.2.2.2.2.2.2.2.2.2.2.2
    have r9 : I x 9 = iI (tRn T : Int) := hf.2.2.2.2.2.2.2.1.1
    have h8 := hf.1.2.2.2.2.1.1
    have hkk : k < tRn T := by omega
    obtain ⟨hL, hk', hz, hR⟩ := tf_rd hf hkk
    have b0 := hL.1
    have q : R.1 (x + 16) k = some (rb k) := (hf.2.1.2.2 k hkk).1
    refine zW.gbf [] rfl rfl rfl (by omega) (by simp (disch := omega) only [true_or, or_true, eq_self, Option.some.injEq, Prod.mk.injEq, zall_0, zall_1, zall_2, zob_iff, zar_iff, zis_iff, zkIs_some, zkHas_some, iI_vp, z01_I, z01_bz, zch_I, true_and, and_true, or_false, false_or, and_self, upI_same, upL_same, upI_ne, upL_ne, iI_ixN, zI_mk, zL_mk, zP_mk, zK_mk, zN_mk, zwI_up, zwL_up, zg_some, Nat.reduceMod, Nat.reduceDiv, zcn_I, iI_add, iI_sub, iI_mul, iI_neg, iI_lt, iI_le, iI_eq, iI_lt0, iI_le0, iI_gt0, iI_ge0, iI_eq0, k0] <;> omega) (by simp (disch := omega) only [eq_self, not_true_eq_false, not_false_eq_true, upI_same, upL_same, upI_ne, upL_ne, iI_ixN, zI_mk, zL_mk, zP_mk, zK_mk, zN_mk, zwI_up, zwL_up, zg_some, Nat.reduceMod, Nat.reduceDiv, zcn_I, iI_add, iI_sub, iI_mul, iI_neg, iI_lt, iI_le, iI_eq, iI_lt0, iI_le0, iI_gt0, iI_ge0, iI_eq0, r9] <;> omega) ?_
    refine zW.gbf [] rfl rfl rfl (by omega) trivial (by simp (disch := omega) only [eq_self, not_true_eq_false, not_false_eq_true, upI_same, upL_same, upI_ne, upL_ne, iI_ixN, zI_mk, zL_mk, zP_mk, zK_mk, zN_mk, zwI_up, zwL_up, zg_some, Nat.reduceMod, Nat.reduceDiv, zcn_I, iI_add, iI_sub, iI_mul, iI_neg, iI_lt, iI_le, iI_eq, iI_lt0, iI_le0, iI_gt0, iI_ge0, iI_eq0] <;> omega) ?_
    refine zW.gbf [] rfl rfl rfl (by omega) (by simp (disch := omega) only [true_or, or_true, eq_self, Option.some.injEq, Prod.mk.injEq, zall_0, zall_1, zall_2, zob_iff, zar_iff, zis_iff, zkIs_some, zkHas_some, iI_vp, z01_I, z01_bz, zch_I, true_and, and_true, or_false, false_or, and_self, upI_same, upL_same, upI_ne, upL_ne, iI_ixN, zI_mk, zL_mk, zP_mk, zK_mk, zN_mk, zwI_up, zwL_up, zg_some, Nat.reduceMod, Nat.reduceDiv, zcn_I, iI_add, iI_sub, iI_mul, iI_neg, iI_lt, iI_le, iI_eq, iI_lt0, iI_le0, iI_gt0, iI_ge0, iI_eq0, k0, p8, k16, q] <;> omega) ?_ ?_
    · simp (disch := omega) [upI_same, upL_same, upI_ne, upL_ne, iI_ixN, zI_mk, zL_mk, zP_mk, zK_mk, zN_mk, zwI_up, zwL_up, zg_some, Nat.reduceMod, Nat.reduceDiv, p8, q]
    simp (disch := omega) only [upI_same, upL_same, upI_ne, upL_ne, iI_ixN, zI_mk, zL_mk, zP_mk, zK_mk, zN_mk, zwI_up, zwL_up, zg_some, Nat.reduceMod, Nat.reduceDiv, zcn_I, iI_add, iI_sub, iI_mul, iI_neg, iI_lt, iI_le, iI_eq, iI_lt0, iI_le0, iI_gt0, iI_ge0, iI_eq0, p8, q]
    refine zW.gz [] rfl rfl rfl (by omega) trivial ⟨_, rfl, b0⟩ rfl rfl (by decide +kernel) (by decide +kernel) ?_
    refine keeps_ok (by omega) hL hk' hR ?_
    refine zW.gbt [] rfl rfl rfl (by omega) trivial (by simp (disch := omega) only [eq_self, not_true_eq_false, not_false_eq_true, upI_same, upL_same, upI_ne, upL_ne, iI_ixN, zI_mk, zL_mk, zP_mk, zK_mk, zN_mk, zwI_up, zwL_up, zg_some, Nat.reduceMod, Nat.reduceDiv, zcn_I, iI_add, iI_sub, iI_mul, iI_neg, iI_lt, iI_le, iI_eq, iI_lt0, iI_le0, iI_gt0, iI_ge0, iI_eq0] <;> omega) ?_
    refine zW.go [50] rfl (by omega) trivial ?_
    exact sou_2 hd hf hQ n (k + 1) (by omega) _ _ (by rw [zcn_I, iI_add]; rfl)
theorem sou_1 {M0 : zM} (hd : 10 ≤ d) (hQ : ∀ M', tfx x z T M' → tfr x z M0 M' → Q (.inl (some (zi (iI 1)))) M') :
    ∀ n k, k + n = tPn T → ∀ (I : Nat → Nat → Int32) (L : Nat → Nat → Int64) (y : Int32) (v : Option zV), tf x z pb rb T (I, L, R) → tfr x z M0 (I, L, R) → y = iI (k : Int) → zW 146 d 0 0 2 [some (zr (some x)), some (zi y), v] [] (I, L, R) Q
  | 0, k, hk, I, L, y, v, hf, hr, e => by
    subst e
    have k0 := tf_k0 hf
    have r1 : I x 3 = iI (tPn T : Int) := hf.2.2.2.2.1.1
    have hn := hf.1.2.1.1
    refine zW.gbt [] rfl rfl rfl (by omega) (by simp (disch := omega) only [true_or, or_true, eq_self, Option.some.injEq, Prod.mk.injEq, zall_0, zall_1, zall_2, zob_iff, zar_iff, zis_iff, zkIs_some, zkHas_some, iI_vp, z01_I, z01_bz, zch_I, true_and, and_true, or_false, false_or, and_self, upI_same, upL_same, upI_ne, upL_ne, iI_ixN, zI_mk, zL_mk, zP_mk, zK_mk, zN_mk, zwI_up, zwL_up, zg_some, Nat.reduceMod, Nat.reduceDiv, zcn_I, iI_add, iI_sub, iI_mul, iI_neg, iI_lt, iI_le, iI_eq, iI_lt0, iI_le0, iI_gt0, iI_ge0, iI_eq0, k0] <;> omega) (by simp (disch := omega) only [eq_self, not_true_eq_false, not_false_eq_true, upI_same, upL_same, upI_ne, upL_ne, iI_ixN, zI_mk, zL_mk, zP_mk, zK_mk, zN_mk, zwI_up, zwL_up, zg_some, Nat.reduceMod, Nat.reduceDiv, zcn_I, iI_add, iI_sub, iI_mul, iI_neg, iI_lt, iI_le, iI_eq, iI_lt0, iI_le0, iI_gt0, iI_ge0, iI_eq0, r1] <;> omega) ?_
    refine zW.go [50] rfl (by omega) trivial ?_
    exact sou_2 (by omega) hf (hQ _ ⟨_, _, hf⟩ hr) (tRn T) 0 (by omega) _ _ (zcn_I _)
  | n + 1, k, hk, I, L, y, v, hf, hr, e => by
    subst e
    have k0 := tf_k0 hf
    have p2 : R.1 x 2 = some (x + 2) := hf.2.1.1.2.2.1
    have kr : R.2.1 (x + 2) = some (27, 4) := hf.2.1.1.2.2.2.2.2.2.2.2.1
    have r1 : I x 3 = iI (tPn T : Int) := hf.2.2.2.2.1.1
    have hn := hf.1.2.1.1
    have hi : k < tPn T := by omega
    have q : R.1 (x + 2) k = some (pb k) := (hf.2.1.2.1 k hi).1
    obtain ⟨hL, hz, hR⟩ := tf_pz hf hi
    have b0 := hL.1
    have NX : ∀ (I' : Nat → Nat → Int32) (L' : Nat → Nat → Int64), tf x z pb rb T (I', L', R) → tfr x z M0 (I', L', R) → zW 146 d 0 0 42 [some (zr (some x)), some (zi (iI (k : Int))), some (zr (some (pb k)))] [] (I', L', R) Q := fun I' L' hf' hr' => by
      refine zW.go [2] rfl (by omega) trivial ?_
      exact sou_1 hd hQ n (k + 1) (by omega) _ _ _ _ hf' hr' (by rw [zcn_I, iI_add]; rfl)
    refine zW.gbf [] rfl rfl rfl (by omega) (by simp (disch := omega) only [true_or, or_true, eq_self, Option.some.injEq, Prod.mk.injEq, zall_0, zall_1, zall_2, zob_iff, zar_iff, zis_iff, zkIs_some, zkHas_some, iI_vp, z01_I, z01_bz, zch_I, true_and, and_true, or_false, false_or, and_self, upI_same, upL_same, upI_ne, upL_ne, iI_ixN, zI_mk, zL_mk, zP_mk, zK_mk, zN_mk, zwI_up, zwL_up, zg_some, Nat.reduceMod, Nat.reduceDiv, zcn_I, iI_add, iI_sub, iI_mul, iI_neg, iI_lt, iI_le, iI_eq, iI_lt0, iI_le0, iI_gt0, iI_ge0, iI_eq0, k0] <;> omega) (by simp (disch := omega) only [eq_self, not_true_eq_false, not_false_eq_true, upI_same, upL_same, upI_ne, upL_ne, iI_ixN, zI_mk, zL_mk, zP_mk, zK_mk, zN_mk, zwI_up, zwL_up, zg_some, Nat.reduceMod, Nat.reduceDiv, zcn_I, iI_add, iI_sub, iI_mul, iI_neg, iI_lt, iI_le, iI_eq, iI_lt0, iI_le0, iI_gt0, iI_ge0, iI_eq0, r1] <;> omega) ?_
    refine zW.gbf [] rfl rfl rfl (by omega) trivial (by simp (disch := omega) only [eq_self, not_true_eq_false, not_false_eq_true, upI_same, upL_same, upI_ne, upL_ne, iI_ixN, zI_mk, zL_mk, zP_mk, zK_mk, zN_mk, zwI_up, zwL_up, zg_some, Nat.reduceMod, Nat.reduceDiv, zcn_I, iI_add, iI_sub, iI_mul, iI_neg, iI_lt, iI_le, iI_eq, iI_lt0, iI_le0, iI_gt0, iI_ge0, iI_eq0] <;> omega) ?_
    refine zW.gbf [] rfl rfl rfl (by omega) (by simp (disch := omega) only [true_or, or_true, eq_self, Option.some.injEq, Prod.mk.injEq, zall_0, zall_1, zall_2, zob_iff, zar_iff, zis_iff, zkIs_some, zkHas_some, iI_vp, z01_I, z01_bz, zch_I, true_and, and_true, or_false, false_or, and_self, upI_same, upL_same, upI_ne, upL_ne, iI_ixN, zI_mk, zL_mk, zP_mk, zK_mk, zN_mk, zwI_up, zwL_up, zg_some, Nat.reduceMod, Nat.reduceDiv, zcn_I, iI_add, iI_sub, iI_mul, iI_neg, iI_lt, iI_le, iI_eq, iI_lt0, iI_le0, iI_gt0, iI_ge0, iI_eq0, k0, p2, kr, q] <;> omega) ?_ ?_
    · simp (disch := omega) [upI_same, upL_same, upI_ne, upL_ne, iI_ixN, zI_mk, zL_mk, zP_mk, zK_mk, zN_mk, zwI_up, zwL_up, zg_some, Nat.reduceMod, Nat.reduceDiv, p2, q]
    simp (disch := omega) only [upI_same, upL_same, upI_ne, upL_ne, iI_ixN, zI_mk, zL_mk, zP_mk, zK_mk, zN_mk, zwI_up, zwL_up, zg_some, Nat.reduceMod, Nat.reduceDiv, zcn_I, iI_add, iI_sub, iI_mul, iI_neg, iI_lt, iI_le, iI_eq, iI_lt0, iI_le0, iI_gt0, iI_ge0, iI_eq0, p2, q]
    refine zW.gz [] rfl rfl rfl (by omega) trivial ⟨_, rfl, b0⟩ rfl rfl (by decide +kernel) (by decide +kernel) ?_
    refine small_ok (by omega) hL hz hR (fun h8 => ?_) (fun h8 => ?_)
    · refine zW.gbf [] rfl rfl rfl (by omega) trivial (by simp (disch := omega) only [eq_self, not_true_eq_false, not_false_eq_true, upI_same, upL_same, upI_ne, upL_ne, iI_ixN, zI_mk, zL_mk, zP_mk, zK_mk, zN_mk, zwI_up, zwL_up, zg_some, Nat.reduceMod, Nat.reduceDiv, zcn_I, iI_add, iI_sub, iI_mul, iI_neg, iI_lt, iI_le, iI_eq, iI_lt0, iI_le0, iI_gt0, iI_ge0, iI_eq0] <;> omega) ?_
      refine zW.gz [] rfl rfl rfl (by omega) trivial ⟨_, rfl, b0⟩ rfl rfl (by decide +kernel) (by decide +kernel) ?_
      refine well_ok (by omega) hL hz hR h8 (fun I' L' f' R' => ?_)
      obtain ⟨q1, q2⟩ := tf_same hf hi f' R'
      refine zW.gbt [] rfl rfl rfl (by omega) trivial (by simp (disch := omega) only [eq_self, not_true_eq_false, not_false_eq_true, upI_same, upL_same, upI_ne, upL_ne, iI_ixN, zI_mk, zL_mk, zP_mk, zK_mk, zN_mk, zwI_up, zwL_up, zg_some, Nat.reduceMod, Nat.reduceDiv, zcn_I, iI_add, iI_sub, iI_mul, iI_neg, iI_lt, iI_le, iI_eq, iI_lt0, iI_le0, iI_gt0, iI_ge0, iI_eq0] <;> omega) ?_
      exact NX I' L' q1 (tfr_tr hr q2)
    · refine zW.gbt [] rfl rfl rfl (by omega) trivial (by simp (disch := omega) only [eq_self, not_true_eq_false, not_false_eq_true, upI_same, upL_same, upI_ne, upL_ne, iI_ixN, zI_mk, zL_mk, zP_mk, zK_mk, zN_mk, zwI_up, zwL_up, zg_some, Nat.reduceMod, Nat.reduceDiv, zcn_I, iI_add, iI_sub, iI_mul, iI_neg, iI_lt, iI_le, iI_eq, iI_lt0, iI_le0, iI_gt0, iI_ge0, iI_eq0] <;> omega) ?_
      exact NX I L hf hr
def oSound (T : tfT) : tRes := (0, 1, T)
theorem sound_ok (hd : 10 ≤ d) (h : tfx x z T (I, L, R)) (hQ : tP x z (I, L, R) (oSound T) [] eI Q) : zS 146 d [zr (some x)] (I, L, R) Q := by
  obtain ⟨pb, rb, hf⟩ := h
  refine zW.go [2] rfl (by omega) trivial ?_
  exact sou_1 hd (fun M' q1 q2 => tP_0 hQ rfl q1 q2) (tPn T) 0 (by omega) _ _ _ _ hf tfr_rf (zcn_I _)
end TSUM
