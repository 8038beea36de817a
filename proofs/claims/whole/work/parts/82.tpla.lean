/-! The class types places. -/
section TPLA
variable {d x z : Nat} {pb rb : Nat → Nat} {T : tfT} {I : Nat → Nat → Int32} {L : Nat → Nat → Int64} {R : zRt} {Q : zO → zM → Prop}
theorem nth_sn {l : List Nat} {t i : Nat} (h : i < l.length) : nth (l ++ [t]) i = nth l i := by
  unfold nth
  rw [List.getElem?_append_left h]
theorem nth_sn' {l : List Nat} {t : Nat} : nth (l ++ [t]) l.length = t := by
  unfold nth
  rw [List.getElem?_append_right (Nat.le_refl _), Nat.sub_self]
  rfl
theorem typeP_lp {j : Nat} (hd : 8 ≤ d) (hf : tf x z pb rb T (I, L, R)) (hj : j < 10) (hfound : (∃ i, i < (tTy T).length ∧ nth (tTy T) i = j) → ∀ N, R.2.2 ≤ N → Q (.inr 1) (zgrow (I, L, R) N)) (hnot : (∀ i, i < (tTy T).length → nth (tTy T) i ≠ j) → ∀ y : Int32, zW 99 d (0 + zmc 151) (0 + zms 151) 49 [some (zr (some x)), some (zi (iI (j : Int))), some (zi y)] [] (I, L, R) Q) :
    ∀ n i, i + n = (tTy T).length → (∀ m, m < i → nth (tTy T) m ≠ j) → ∀ y : Int32, y = iI (i : Int) → zW 99 d (0 + zmc 151) (0 + zms 151) 9 [some (zr (some x)), some (zi (iI (j : Int))), some (zi y)] [] (I, L, R) Q
  | 0, i, hin, hm, y, e => by
    subst e
    have k0 := tf_k0 hf
    obtain ⟨⟨a1, a2⟩, -⟩ := own_ok hf
    have h8 := hf.1.1.1
    refine zW.gbt [] rfl rfl rfl (by omega) (by simp (disch := omega) only [true_or, or_true, eq_self, Option.some.injEq, Prod.mk.injEq, zall_0, zall_1, zall_2, zob_iff, zar_iff, zis_iff, zkIs_some, zkHas_some, iI_vp, z01_I, z01_bz, zch_I, true_and, and_true, or_false, false_or, and_self, upI_same, upL_same, upI_ne, upL_ne, iI_ixN, zI_mk, zL_mk, zP_mk, zK_mk, zN_mk, zwI_up, zwL_up, zg_some, Nat.reduceMod, Nat.reduceDiv, zcn_I, iI_add, iI_sub, iI_mul, iI_neg, iI_lt, iI_le, iI_eq, iI_lt0, iI_le0, iI_gt0, iI_ge0, iI_eq0, k0] <;> omega) (by simp (disch := omega) only [eq_self, not_true_eq_false, not_false_eq_true, upI_same, upL_same, upI_ne, upL_ne, iI_ixN, zI_mk, zL_mk, zP_mk, zK_mk, zN_mk, zwI_up, zwL_up, zg_some, Nat.reduceMod, Nat.reduceDiv, zcn_I, iI_add, iI_sub, iI_mul, iI_neg, iI_lt, iI_le, iI_eq, iI_lt0, iI_le0, iI_gt0, iI_ge0, iI_eq0, a1] <;> omega) (hnot (fun m q => hm m (by omega)) _)
  | n + 1, i, hin, hm, y, e => by
    subst e
    have k0 := tf_k0 hf
    have p0 : R.1 x 0 = some (x + 1) := hf.2.1.1.2.1
    have k1 : R.2.1 (x + 1) = some (20, 8) := hf.2.1.1.2.2.2.2.2.2.2.1
    obtain ⟨⟨a1, a2⟩, -⟩ := own_ok hf
    have h8 := hf.1.1.1
    have v1 := a2 i (by omega)
    have h10 := hf.1.1.2.1 i (by omega)
    refine zW.gbf [] rfl rfl rfl (by omega) (by simp (disch := omega) only [true_or, or_true, eq_self, Option.some.injEq, Prod.mk.injEq, zall_0, zall_1, zall_2, zob_iff, zar_iff, zis_iff, zkIs_some, zkHas_some, iI_vp, z01_I, z01_bz, zch_I, true_and, and_true, or_false, false_or, and_self, upI_same, upL_same, upI_ne, upL_ne, iI_ixN, zI_mk, zL_mk, zP_mk, zK_mk, zN_mk, zwI_up, zwL_up, zg_some, Nat.reduceMod, Nat.reduceDiv, zcn_I, iI_add, iI_sub, iI_mul, iI_neg, iI_lt, iI_le, iI_eq, iI_lt0, iI_le0, iI_gt0, iI_ge0, iI_eq0, k0] <;> omega) (by simp (disch := omega) only [eq_self, not_true_eq_false, not_false_eq_true, upI_same, upL_same, upI_ne, upL_ne, iI_ixN, zI_mk, zL_mk, zP_mk, zK_mk, zN_mk, zwI_up, zwL_up, zg_some, Nat.reduceMod, Nat.reduceDiv, zcn_I, iI_add, iI_sub, iI_mul, iI_neg, iI_lt, iI_le, iI_eq, iI_lt0, iI_le0, iI_gt0, iI_ge0, iI_eq0, a1] <;> omega) ?_
    refine zW.gbf [] rfl rfl rfl (by omega) trivial (by simp (disch := omega) only [eq_self, not_true_eq_false, not_false_eq_true, upI_same, upL_same, upI_ne, upL_ne, iI_ixN, zI_mk, zL_mk, zP_mk, zK_mk, zN_mk, zwI_up, zwL_up, zg_some, Nat.reduceMod, Nat.reduceDiv, zcn_I, iI_add, iI_sub, iI_mul, iI_neg, iI_lt, iI_le, iI_eq, iI_lt0, iI_le0, iI_gt0, iI_ge0, iI_eq0] <;> omega) ?_
    refine zW.gb [] rfl rfl rfl (by omega) (by simp (disch := omega) only [true_or, or_true, eq_self, Option.some.injEq, Prod.mk.injEq, zall_0, zall_1, zall_2, zob_iff, zar_iff, zis_iff, zkIs_some, zkHas_some, iI_vp, z01_I, z01_bz, zch_I, true_and, and_true, or_false, false_or, and_self, upI_same, upL_same, upI_ne, upL_ne, iI_ixN, zI_mk, zL_mk, zP_mk, zK_mk, zN_mk, zwI_up, zwL_up, zg_some, Nat.reduceMod, Nat.reduceDiv, zcn_I, iI_add, iI_sub, iI_mul, iI_neg, iI_lt, iI_le, iI_eq, iI_lt0, iI_le0, iI_gt0, iI_ge0, iI_eq0, k0, p0, k1] <;> omega) (fun h => ?_) (fun h => ?_)
    · simp (disch := omega) only [zcn_I, iI_add, iI_sub, iI_mul, iI_neg, iI_lt, iI_le, iI_eq, iI_lt0, iI_le0, iI_gt0, iI_ge0, iI_eq0, upI_same, upL_same, upI_ne, upL_ne, iI_ixN, zI_mk, zL_mk, zP_mk, zK_mk, zN_mk, zwI_up, zwL_up, zg_some, Nat.reduceMod, Nat.reduceDiv, p0, v1] at h
      refine zW.go [9] rfl (by omega) trivial ?_
      exact typeP_lp hd hf hj hfound hnot n (i + 1) (by omega) (fun m q => by
        by_cases e : m = i
        · subst e
          omega
        · exact hm m (by omega)) _ (by rw [zcn_I, iI_add]; rfl)
    · simp (disch := omega) only [zcn_I, iI_add, iI_sub, iI_mul, iI_neg, iI_lt, iI_le, iI_eq, iI_lt0, iI_le0, iI_gt0, iI_ge0, iI_eq0, upI_same, upL_same, upI_ne, upL_ne, iI_ixN, zI_mk, zL_mk, zP_mk, zK_mk, zN_mk, zwI_up, zwL_up, zg_some, Nat.reduceMod, Nat.reduceDiv, p0, v1] at h
      refine zW.gt [] rfl rfl rfl (by decide +kernel) (by omega) trivial (by decide +kernel) (by decide +kernel) rfl (fun N hN => ?_)
      exact hfound ⟨i, by omega, by omega⟩ N hN
end TPLA
