/-! The class types places. -/
section TPLA
variable {d x z : Nat} {pb rb : Nat → Nat} {T : tfT} {I : Nat → Nat → Int32} {L : Nat → Nat → Int64} {R : zRt} {Q : zO → zM → Prop}
theorem nth_sn {l : List Nat} {t i : Nat} (h : i < l.length) : nth (l ++ [t]) i = nth l i := by
  unfold nth
  rw [List.getElem?_append_left h]
theorem nth_sn' {l : List Nat} {t : Nat} : nth (l ++ [t]) l.length = t := by
  unfold nth
  rw [List.getElem?_append_right (Nat.le_refl _), Nat.sub_self]
  rfl
theorem typeP_lp {j : Nat} (hd : 8 ≤ d) (hf : tf x z pb rb T (I, L, R)) (hj : j < 10) (hfound : (∃ i, i < (tTy T).length ∧ nth (tTy T) i = j) → ∀ N, R.2.2 ≤ N → Q (.inr 1) (zgrow (I, L, R) N)) (hnot : (∀ i, i < (tTy T).length → nth (tTy T) i ≠ j) → ∀ y : Int32, zW 99 d (0 + zmc 151) (0 + zms 151) 49 [some (zr (some x)), some (zi (iI (j : Int))), some (zi y)] [] (I, L, R) Q) :
    ∀ n i, i + n = (tTy T).length → (∀ m, m < i → nth (tTy T) m ≠ j) → ∀ y : Int32, y = iI (i : Int) → zW 99 d (0 + zmc 151) (0 + zms 151) 9 [some (zr (some x)), some (zi (iI (j : Int))), some (zi y)] [] (I, L, R) Q
  | 0, i, hin, hm, y, e => by
    subst e
    have k0 := tf_k0 hf
    obtain ⟨⟨a1, a2⟩, -⟩ := own_ok hf
    have h8 := hf.1.1.1
    refine zW.gbt [] rfl rfl rfl (by omega) (by simp (disch := omega) only [true_or, or_true, eq_self, Option.some.injEq, Prod.mk.injEq, zall_0, zall_1, zall_2, zob_iff, zar_iff, zis_iff, zkIs_some, zkHas_some, iI_vp, z01_I, z01_bz, zch_I, true_and, and_true, or_false, false_or, and_self, upI_same, upL_same, upI_ne, upL_ne, iI_ixN, zI_mk, zL_mk, zP_mk, zK_mk, zN_mk, zwI_up, zwL_up, zg_some, Nat.reduceMod, Nat.reduceDiv, zcn_I, iI_add, iI_sub, iI_mul, iI_neg, iI_lt, iI_le, iI_eq, iI_lt0, iI_le0, iI_gt0, iI_ge0, iI_eq0, k0] <;> omega) (by simp (disch := omega) only [eq_self, not_true_eq_false, not_false_eq_true, upI_same, upL_same, upI_ne, upL_ne, iI_ixN, zI_mk, zL_mk, zP_mk, zK_mk, zN_mk, zwI_up, zwL_up, zg_some, Nat.reduceMod, Nat.reduceDiv, zcn_I, iI_add, iI_sub, iI_mul, iI_neg, iI_lt, iI_le, iI_eq, iI_lt0, iI_le0, iI_gt0, iI_ge0, iI_eq0, a1] <;> omega) (hnot (fun m q => hm m (by omega)) _)
  | n + 1, i, hin, hm, y, e => by
    subst e
    have k0 := tf_k0 hf
    have p0 : R.1 x 0 = some (x + 1) := hf.2.1.1.2.1
    have k1 : R.2.1 (x + 1) = some (20, 8) := hf.2.1.1.2.2.2.2.2.2.2.1
    obtain ⟨⟨a1, a2⟩, -⟩ := own_ok hf
    have h8 := hf.1.1.1
    have v1 := a2 i (by omega)
    have h10 := hf.1.1.2.1 i (by omega)
    refine zW.gbf [] rfl rfl rfl (by omega) (by simp (disch := omega) only [true_or, or_true, eq_self, Option.some.injEq, Prod.mk.injEq, zall_0, zall_1, zall_2, zob_iff, zar_iff, zis_iff, zkIs_some, zkHas_some, iI_vp, z01_I, z01_bz, zch_I, true_and, and_true, or_false, false_or, and_self, upI_same, upL_same, upI_ne, upL_ne, iI_ixN, zI_mk, zL_mk, zP_mk, zK_mk, zN_mk, zwI_up, zwL_up, zg_some, Nat.reduceMod, Nat.reduceDiv, zcn_I, iI_add, iI_sub, iI_mul, iI_neg, iI_lt, iI_le, iI_eq, iI_lt0, iI_le0, iI_gt0, iI_ge0, iI_eq0, k0] <;> omega) (by simp (disch := omega) only [eq_self, not_true_eq_false, not_false_eq_true, upI_same, upL_same, upI_ne, upL_ne, iI_ixN, zI_mk, zL_mk, zP_mk, zK_mk, zN_mk, zwI_up, zwL_up, zg_some, Nat.reduceMod, Nat.reduceDiv, zcn_I, iI_add, iI_sub, iI_mul, iI_neg, iI_lt, iI_le, iI_eq, iI_lt0, iI_le0, iI_gt0, iI_ge0, iI_eq0, a1] <;> omega) ?_
    refine zW.gbf [] rfl rfl rfl (by omega) trivial (by simp (disch := omega) only [eq_self, not_true_eq_false, not_false_eq_true, upI_same, upL_same, upI_ne, upL_ne, iI_ixN, zI_mk, zL_mk, zP_mk, zK_mk, zN_mk, zwI_up, zwL_up, zg_some, Nat.reduceMod, Nat.reduceDiv, zcn_I, iI_add, iI_sub, iI_mul, iI_neg, iI_lt, iI_le, iI_eq, iI_lt0, iI_le0, iI_gt0, iI_ge0, iI_eq0] <;> omega) ?_
    refine zW.gb [] rfl rfl rfl (by omega) (by simp (disch := omega) only [true_or, or_true, eq_self, Option.some.injEq, Prod.mk.injEq, zall_0, zall_1, zall_2, zob_iff, zar_iff, zis_iff, zkIs_some, zkHas_some, iI_vp, z01_I, z01_bz, zch_I, true_and, and_true, or_false, false_or, and_self, upI_same, upL_same, upI_ne, upL_ne, iI_ixN, zI_mk, zL_mk, zP_mk, zK_mk, zN_mk, zwI_up, zwL_up, zg_some, Nat.reduceMod, Nat.reduceDiv, zcn_I, iI_add, iI_sub, iI_mul, iI_neg, iI_lt, iI_le, iI_eq, iI_lt0, iI_le0, iI_gt0, iI_ge0, iI_eq0, k0, p0, k1] <;> omega) (fun h => ?_) (fun h => ?_)
    · simp (disch := omega) only [zcn_I, iI_add, iI_sub, iI_mul, iI_neg, iI_lt, iI_le, iI_eq, iI_lt0, iI_le0, iI_gt0, iI_ge0, iI_eq0, upI_same, upL_same, upI_ne, upL_ne, iI_ixN, zI_mk, zL_mk, zP_mk, zK_mk, zN_mk, zwI_up, zwL_up, zg_some, Nat.reduceMod, Nat.reduceDiv, p0, v1] at h
      refine zW.go [9] rfl (by omega) trivial ?_
      exact typeP_lp hd hf hj hfound hnot n (i + 1) (by omega) (fun m q => by
        by_cases e : m = i
        · subst e
          omega
        · exact hm m (by omega)) _ (by rw [zcn_I, iI_add]; rfl)
    · simp (disch := omega) only [zcn_I, iI_add, iI_sub, iI_mul, iI_neg, iI_lt, iI_le, iI_eq, iI_lt0, iI_le0, iI_gt0, iI_ge0, iI_eq0, upI_same, upL_same, upI_ne, upL_ne, iI_ixN, zI_mk, zL_mk, zP_mk, zK_mk, zN_mk, zwI_up, zwL_up, zg_some, Nat.reduceMod, Nat.reduceDiv, p0, v1] at h
      refine zW.gt [] rfl rfl rfl (by decide +kernel) (by omega) trivial (by decide +kernel) (by decide +kernel) rfl (fun N hN => ?_)
      exact hfound ⟨i, by omega, by omega⟩ N hN
noncomputable def oTypeP (T : tfT) (v : Int) : tRes := if ¬ (0 ≤ v ∧ v ≤ 9) then (1, 0, T) else if dc (∃ i, i < (tTy T).length ∧ nth (tTy T) i = v.toNat) then (2, 0, T) else if ¬ (tTy T).length < 8 then (3, 0, T) else (0, (((tTy T).length + 1 : Nat) : Int), ((tTy T ++ [v.toNat], T.1.2), T.2.1, T.2.2.1, T.2.2.2.1, T.2.2.2.2))
theorem typePlace_ok {v : Int} {a : Int32} (hd : 8 ≤ d) (h : tfx x z T (I, L, R)) (e1 : a = iI v) (h1 : i32 v) (hQ : tP x z (I, L, R) (oTypeP T v) [0, 1, 2] eI Q) : zS 99 d [zr (some x), zi a] (I, L, R) Q := by
  subst e1
  have hT := h
  obtain ⟨pb, rb, hf⟩ := h
  have k0 := tf_k0 hf
  have p0 : R.1 x 0 = some (x + 1) := hf.2.1.1.2.1
  have kr : R.2.1 (x + 1) = some (20, 8) := hf.2.1.1.2.2.2.2.2.2.2.1
  obtain ⟨⟨a1, a2⟩, ⟨b1, b2⟩, ⟨c1, c2⟩, g⟩ := own_ok hf
  have k1 := hf.1
  have h8 := k1.1.1
  have hs := (wd_ok hf).2.2.2
  unfold oTypeP at hQ
  refine zW.gc [] rfl rfl rfl (by omega) trivial trivial (by decide +kernel) (by decide +kernel) ?_
  refine chkN_ok (by omega) rfl (zcn_I _) (zcn_I _) h1 ⟨by omega, by omega⟩ ⟨by omega, by omega⟩ (fun hb N hN => ?_) (fun g3 g4 => ?_)
  · exact tP_t hQ hT (if_pos hb) hN
  rw [if_neg (fun n => n ⟨g3, g4⟩)] at hQ
  obtain ⟨j, rfl⟩ : ∃ j : Nat, v = j := ⟨v.toNat, by omega⟩
  rw [show ((j : Int)).toNat = j from rfl] at hQ
  refine zW.go [9] rfl (by omega) trivial ?_
  refine typeP_lp hd hf (by omega) (fun hx N hN => ?_) (fun hx y => ?_) (tTy T).length 0 (by omega) (fun m q => absurd q (Nat.not_lt_zero _)) _ (zcn_I _)
  · exact tP_t hQ hT (if_pos (dc_t.mpr hx)) hN
  rw [if_neg (fun q => by obtain ⟨i, q1, q2⟩ := dc_t.mp q; exact hx i q1 q2)] at hQ
  refine zW.gb [] rfl rfl rfl (by omega) (by simp (disch := omega) only [true_or, or_true, eq_self, Option.some.injEq, Prod.mk.injEq, zall_0, zall_1, zall_2, zob_iff, zar_iff, zis_iff, zkIs_some, zkHas_some, iI_vp, z01_I, z01_bz, zch_I, true_and, and_true, or_false, false_or, and_self, upI_same, upL_same, upI_ne, upL_ne, iI_ixN, zI_mk, zL_mk, zP_mk, zK_mk, zN_mk, zwI_up, zwL_up, zg_some, Nat.reduceMod, Nat.reduceDiv, zcn_I, iI_add, iI_sub, iI_mul, iI_neg, iI_lt, iI_le, iI_eq, iI_lt0, iI_le0, iI_gt0, iI_ge0, iI_eq0, k0] <;> omega) (fun h' => ?_) (fun h' => ?_)
  · simp (disch := omega) only [zcn_I, iI_add, iI_sub, iI_mul, iI_neg, iI_lt, iI_le, iI_eq, iI_lt0, iI_le0, iI_gt0, iI_ge0, iI_eq0, upI_same, upL_same, upI_ne, upL_ne, iI_ixN, zI_mk, zL_mk, zP_mk, zK_mk, zN_mk, zwI_up, zwL_up, zg_some, Nat.reduceMod, Nat.reduceDiv, a1] at h'
    rw [if_neg (by omega)] at hQ
    refine zW.gr [] rfl rfl rfl (by omega) (by simp (disch := omega) only [true_or, or_true, eq_self, Option.some.injEq, Prod.mk.injEq, zall_0, zall_1, zall_2, zob_iff, zar_iff, zis_iff, zkIs_some, zkHas_some, iI_vp, z01_I, z01_bz, zch_I, true_and, and_true, or_false, false_or, and_self, upI_same, upL_same, upI_ne, upL_ne, iI_ixN, zI_mk, zL_mk, zP_mk, zK_mk, zN_mk, zwI_up, zwL_up, zg_some, Nat.reduceMod, Nat.reduceDiv, zcn_I, iI_add, iI_sub, iI_mul, iI_neg, iI_lt, iI_le, iI_eq, iI_lt0, iI_le0, iI_gt0, iI_ge0, iI_eq0, k0, p0, kr, a1] <;> omega) trivial ?_
    simp (disch := omega) only [upI_same, upL_same, upI_ne, upL_ne, iI_ixN, zI_mk, zL_mk, zP_mk, zK_mk, zN_mk, zwI_up, zwL_up, zg_some, Nat.reduceMod, Nat.reduceDiv, zcn_I, iI_add, iI_sub, iI_mul, iI_neg, iI_lt, iI_le, iI_eq, iI_lt0, iI_le0, iI_gt0, iI_ge0, iI_eq0, p0, a1, iI_add, zcn_I]
    have hq : hl (upI I (x + 1) (tTy T).length (iI (j : Int)) (x + 1)) (tTy T ++ [j]) := hl_snoc a2
    have hln : (tTy T ++ [j]).length = (tTy T).length + 1 := by rw [List.length_append]; rfl
    have hq2 : hl (upI (upI I (x + 1) (tTy T).length (iI (j : Int))) x 1 (iI (((tTy T).length : Int) + 1)) (x + 1)) (tTy T ++ [j]) := fun i hi => (congrFun (upI_row (by omega)) i).trans (hq i hi)
    have o1 : (tTy T ++ [j]).length ≤ 8 := by omega
    have o2 : ∀ i, i < (tTy T ++ [j]).length → nth (tTy T ++ [j]) i < 10 := fun i hi => by
      by_cases e : i < (tTy T).length
      · rw [nth_sn e]
        exact k1.1.2.1 i e
      · obtain rfl : i = (tTy T).length := by omega
        rw [nth_sn']
        omega
    have o3 : ∀ i m, i < m → m < (tTy T ++ [j]).length → nth (tTy T ++ [j]) i ≠ nth (tTy T ++ [j]) m := fun i m hi hm => by
      by_cases e : m < (tTy T).length
      · rw [nth_sn e, nth_sn (by omega)]
        exact k1.1.2.2 i m hi e
      · obtain rfl : m = (tTy T).length := by omega
        rw [nth_sn', nth_sn hi]
        exact hx i hi
    obtain ⟨q1, q2⟩ := tf_slf (I' := upI (upI I (x + 1) (tTy T).length (iI (j : Int))) x 1 (iI (((tTy T).length : Int) + 1))) (ty := tTy T ++ [j]) (u := T.2.1) (dy := T.2.2.2.2) hf (fun a q => by rw [upI_row (by omega), upI_row (by omega)]) ⟨⟨o1, o2, o3⟩, k1.2⟩ ⟨(upI_same _ _ _ _).trans (iI_cg (by omega)), hq2⟩ (by simp (disch := omega) only [upI_same, upL_same, upI_ne, upL_ne, iI_ixN, zI_mk, zL_mk, zP_mk, zK_mk, zN_mk, zwI_up, zwL_up, zg_some, Nat.reduceMod, Nat.reduceDiv, zcn_I, iI_add, iI_sub, iI_mul, iI_neg, iI_lt, iI_le, iI_eq, iI_lt0, iI_le0, iI_gt0, iI_ge0, iI_eq0]) ⟨hs.1, by simp (disch := omega) only [upI_same, upL_same, upI_ne, upL_ne, iI_ixN, zI_mk, zL_mk, zP_mk, zK_mk, zN_mk, zwI_up, zwL_up, zg_some, Nat.reduceMod, Nat.reduceDiv, zcn_I, iI_add, iI_sub, iI_mul, iI_neg, iI_lt, iI_le, iI_eq, iI_lt0, iI_le0, iI_gt0, iI_ge0, iI_eq0]; exact c1, fun i hi => by simp (disch := omega) only [upI_same, upL_same, upI_ne, upL_ne, iI_ixN, zI_mk, zL_mk, zP_mk, zK_mk, zN_mk, zwI_up, zwL_up, zg_some, Nat.reduceMod, Nat.reduceDiv, zcn_I, iI_add, iI_sub, iI_mul, iI_neg, iI_lt, iI_le, iI_eq, iI_lt0, iI_le0, iI_gt0, iI_ge0, iI_eq0]; exact c2 i hi, hs.2.2.2⟩ ⟨by simp (disch := omega) only [upI_same, upL_same, upI_ne, upL_ne, iI_ixN, zI_mk, zL_mk, zP_mk, zK_mk, zN_mk, zwI_up, zwL_up, zg_some, Nat.reduceMod, Nat.reduceDiv, zcn_I, iI_add, iI_sub, iI_mul, iI_neg, iI_lt, iI_le, iI_eq, iI_lt0, iI_le0, iI_gt0, iI_ge0, iI_eq0]; exact b1, fun i hi => by simp (disch := omega) only [upI_same, upL_same, upI_ne, upL_ne, iI_ixN, zI_mk, zL_mk, zP_mk, zK_mk, zN_mk, zwI_up, zwL_up, zg_some, Nat.reduceMod, Nat.reduceDiv, zcn_I, iI_add, iI_sub, iI_mul, iI_neg, iI_lt, iI_le, iI_eq, iI_lt0, iI_le0, iI_gt0, iI_ge0, iI_eq0]; exact b2 i hi⟩ (by simp (disch := omega) only [upI_same, upL_same, upI_ne, upL_ne, iI_ixN, zI_mk, zL_mk, zP_mk, zK_mk, zN_mk, zwI_up, zwL_up, zg_some, Nat.reduceMod, Nat.reduceDiv, zcn_I, iI_add, iI_sub, iI_mul, iI_neg, iI_lt, iI_le, iI_eq, iI_lt0, iI_le0, iI_gt0, iI_ge0, iI_eq0]) (by simp (disch := omega) only [upI_same, upL_same, upI_ne, upL_ne, iI_ixN, zI_mk, zL_mk, zP_mk, zK_mk, zN_mk, zwI_up, zwL_up, zg_some, Nat.reduceMod, Nat.reduceDiv, zcn_I, iI_add, iI_sub, iI_mul, iI_neg, iI_lt, iI_le, iI_eq, iI_lt0, iI_le0, iI_gt0, iI_ge0, iI_eq0]; exact g)
    rw [show iI (((tTy T).length : Int) + 1) = iI (((tTy T).length + 1 : Nat) : Int) from iI_cg (by omega)] at q1 q2 ⊢
    exact tP_0 hQ rfl ⟨_, _, q1⟩ q2
  · simp (disch := omega) only [zcn_I, iI_add, iI_sub, iI_mul, iI_neg, iI_lt, iI_le, iI_eq, iI_lt0, iI_le0, iI_gt0, iI_ge0, iI_eq0, upI_same, upL_same, upI_ne, upL_ne, iI_ixN, zI_mk, zL_mk, zP_mk, zK_mk, zN_mk, zwI_up, zwL_up, zg_some, Nat.reduceMod, Nat.reduceDiv, a1] at h'
    rw [if_pos (by omega)] at hQ
    refine zW.gt [] rfl rfl rfl (by decide +kernel) (by omega) trivial (by decide +kernel) (by decide +kernel) rfl (fun N hN => ?_)
    exact tP_t hQ hT rfl hN
end TPLA
