/-! The class's checksum, soundness. -/
section TSUM
variable {d x z : Nat} {pb rb : Nat → Nat} {T : tfT} {I : Nat → Nat → Int32} {L : Nat → Nat → Int64} {R : zRt} {Q : zO → zM → Prop}
theorem sou_2 (hd : 9 ≤ d) (hr0 : tRn T = 0) (hf : tf x z pb rb T (I, L, R)) (hQ : Q (.inl (some (zi (iI 1)))) (I, L, R)) :
    ∀ k, k = tRn T → ∀ (y : Int32) (v : Option zV), y = iI (k : Int) → zW 146 d 0 0 50 [some (zr (some x)), some (zi y), v] [] (I, L, R) Q := by
    intro k hk y v e
    subst e
    have k0 := tf_k0 hf
    have r9 : I x 9 = iI (tRn T : Int) := hf.2.2.2.2.2.2.2.1.1
    have h8 := hf.1.2.2.2.2.1.1
    refine zW.gbt [] rfl rfl rfl (by omega) (by simp (disch := omega) only [true_or, or_true, eq_self, Option.some.injEq, Prod.mk.injEq, zall_0, zall_1, zall_2, zob_iff, zar_iff, zis_iff, zkIs_some, zkHas_some, iI_vp, z01_I, z01_bz, zch_I, true_and, and_true, or_false, false_or, and_self, upI_same, upL_same, upI_ne, upL_ne, iI_ixN, zI_mk, zL_mk, zP_mk, zK_mk, zN_mk, zwI_up, zwL_up, zg_some, Nat.reduceMod, Nat.reduceDiv, zcn_I, iI_add, iI_sub, iI_mul, iI_neg, iI_lt, iI_le, iI_eq, iI_lt0, iI_le0, iI_gt0, iI_ge0, iI_eq0, k0] <;> omega) (by simp (disch := omega) only [eq_self, not_true_eq_false, not_false_eq_true, upI_same, upL_same, upI_ne, upL_ne, iI_ixN, zI_mk, zL_mk, zP_mk, zK_mk, zN_mk, zwI_up, zwL_up, zg_some, Nat.reduceMod, Nat.reduceDiv, zcn_I, iI_add, iI_sub, iI_mul, iI_neg, iI_lt, iI_le, iI_eq, iI_lt0, iI_le0, iI_gt0, iI_ge0, iI_eq0, r9] <;> omega) ?_
    refine zW.gr [] rfl rfl rfl (by omega) trivial z01c1 ?_
    rw [zcn_I]
    exact hQ
theorem sou_1 {M0 : zM} (hd : 10 ≤ d) (hr0 : tRn T = 0) (hQ : ∀ M', tfx x z T M' → tfr x z M0 M' → Q (.inl (some (zi (iI 1)))) M') :
    ∀ n k, k + n = tPn T → ∀ (I : Nat → Nat → Int32) (L : Nat → Nat → Int64) (y : Int32) (v : Option zV), tf x z pb rb T (I, L, R) → tfr x z M0 (I, L, R) → y = iI (k : Int) → zW 146 d 0 0 2 [some (zr (some x)), some (zi y), v] [] (I, L, R) Q
  | 0, k, hk, I, L, y, v, hf, hr, e => by
    subst e
    have k0 := tf_k0 hf
    have r1 : I x 3 = iI (tPn T : Int) := hf.2.2.2.2.1.1
    have hn := hf.1.2.1.1
    refine zW.gbt [] rfl rfl rfl (by omega) (by simp (disch := omega) only [true_or, or_true, eq_self, Option.some.injEq, Prod.mk.injEq, zall_0, zall_1, zall_2, zob_iff, zar_iff, zis_iff, zkIs_some, zkHas_some, iI_vp, z01_I, z01_bz, zch_I, true_and, and_true, or_false, false_or, and_self, upI_same, upL_same, upI_ne, upL_ne, iI_ixN, zI_mk, zL_mk, zP_mk, zK_mk, zN_mk, zwI_up, zwL_up, zg_some, Nat.reduceMod, Nat.reduceDiv, zcn_I, iI_add, iI_sub, iI_mul, iI_neg, iI_lt, iI_le, iI_eq, iI_lt0, iI_le0, iI_gt0, iI_ge0, iI_eq0, k0] <;> omega) (by simp (disch := omega) only [eq_self, not_true_eq_false, not_false_eq_true, upI_same, upL_same, upI_ne, upL_ne, iI_ixN, zI_mk, zL_mk, zP_mk, zK_mk, zN_mk, zwI_up, zwL_up, zg_some, Nat.reduceMod, Nat.reduceDiv, zcn_I, iI_add, iI_sub, iI_mul, iI_neg, iI_lt, iI_le, iI_eq, iI_lt0, iI_le0, iI_gt0, iI_ge0, iI_eq0, r1] <;> omega) ?_
    refine zW.go [50] rfl (by omega) trivial ?_
    exact sou_2 (by omega) hr0 hf (hQ _ ⟨_, _, hf⟩ hr) 0 (by omega) _ _ (zcn_I _)
  | n + 1, k, hk, I, L, y, v, hf, hr, e => by
    subst e
    have k0 := tf_k0 hf
    have p2 : R.1 x 2 = some (x + 2) := hf.2.1.1.2.2.1
    have kr : R.2.1 (x + 2) = some (27, 4) := hf.2.1.1.2.2.2.2.2.2.2.2.1
    have r1 : I x 3 = iI (tPn T : Int) := hf.2.2.2.2.1.1
    have hn := hf.1.2.1.1
    have hi : k < tPn T := by omega
    have q : R.1 (x + 2) k = some (pb k) := (hf.2.1.2.1 k hi).1
    obtain ⟨hL, hz, hR⟩ := tf_pz hf hi
    have b0 := hL.1
    have NX : ∀ (I' : Nat → Nat → Int32) (L' : Nat → Nat → Int64), tf x z pb rb T (I', L', R) → tfr x z M0 (I', L', R) → zW 146 d 0 0 42 [some (zr (some x)), some (zi (iI (k : Int))), some (zr (some (pb k)))] [] (I', L', R) Q := fun I' L' hf' hr' => by
      refine zW.go [2] rfl (by omega) trivial ?_
      exact sou_1 hd hr0 hQ n (k + 1) (by omega) _ _ _ _ hf' hr' (by rw [zcn_I, iI_add]; rfl)
    refine zW.gbf [] rfl rfl rfl (by omega) (by simp (disch := omega) only [true_or, or_true, eq_self, Option.some.injEq, Prod.mk.injEq, zall_0, zall_1, zall_2, zob_iff, zar_iff, zis_iff, zkIs_some, zkHas_some, iI_vp, z01_I, z01_bz, zch_I, true_and, and_true, or_false, false_or, and_self, upI_same, upL_same, upI_ne, upL_ne, iI_ixN, zI_mk, zL_mk, zP_mk, zK_mk, zN_mk, zwI_up, zwL_up, zg_some, Nat.reduceMod, Nat.reduceDiv, zcn_I, iI_add, iI_sub, iI_mul, iI_neg, iI_lt, iI_le, iI_eq, iI_lt0, iI_le0, iI_gt0, iI_ge0, iI_eq0, k0] <;> omega) (by simp (disch := omega) only [eq_self, not_true_eq_false, not_false_eq_true, upI_same, upL_same, upI_ne, upL_ne, iI_ixN, zI_mk, zL_mk, zP_mk, zK_mk, zN_mk, zwI_up, zwL_up, zg_some, Nat.reduceMod, Nat.reduceDiv, zcn_I, iI_add, iI_sub, iI_mul, iI_neg, iI_lt, iI_le, iI_eq, iI_lt0, iI_le0, iI_gt0, iI_ge0, iI_eq0, r1] <;> omega) ?_
    refine zW.gbf [] rfl rfl rfl (by omega) trivial (by simp (disch := omega) only [eq_self, not_true_eq_false, not_false_eq_true, upI_same, upL_same, upI_ne, upL_ne, iI_ixN, zI_mk, zL_mk, zP_mk, zK_mk, zN_mk, zwI_up, zwL_up, zg_some, Nat.reduceMod, Nat.reduceDiv, zcn_I, iI_add, iI_sub, iI_mul, iI_neg, iI_lt, iI_le, iI_eq, iI_lt0, iI_le0, iI_gt0, iI_ge0, iI_eq0] <;> omega) ?_
    refine zW.gbf [] rfl rfl rfl (by omega) (by simp (disch := omega) only [true_or, or_true, eq_self, Option.some.injEq, Prod.mk.injEq, zall_0, zall_1, zall_2, zob_iff, zar_iff, zis_iff, zkIs_some, zkHas_some, iI_vp, z01_I, z01_bz, zch_I, true_and, and_true, or_false, false_or, and_self, upI_same, upL_same, upI_ne, upL_ne, iI_ixN, zI_mk, zL_mk, zP_mk, zK_mk, zN_mk, zwI_up, zwL_up, zg_some, Nat.reduceMod, Nat.reduceDiv, zcn_I, iI_add, iI_sub, iI_mul, iI_neg, iI_lt, iI_le, iI_eq, iI_lt0, iI_le0, iI_gt0, iI_ge0, iI_eq0, k0, p2, kr, q] <;> omega) ?_ ?_
    · simp (disch := omega) [upI_same, upL_same, upI_ne, upL_ne, iI_ixN, zI_mk, zL_mk, zP_mk, zK_mk, zN_mk, zwI_up, zwL_up, zg_some, Nat.reduceMod, Nat.reduceDiv, p2, q]
    simp (disch := omega) only [upI_same, upL_same, upI_ne, upL_ne, iI_ixN, zI_mk, zL_mk, zP_mk, zK_mk, zN_mk, zwI_up, zwL_up, zg_some, Nat.reduceMod, Nat.reduceDiv, zcn_I, iI_add, iI_sub, iI_mul, iI_neg, iI_lt, iI_le, iI_eq, iI_lt0, iI_le0, iI_gt0, iI_ge0, iI_eq0, p2, q]
    refine zW.gz [] rfl rfl rfl (by omega) trivial ⟨_, rfl, b0⟩ rfl rfl (by decide +kernel) (by decide +kernel) ?_
    refine small_ok (by omega) hL hz hR (fun h8 => ?_) (fun h8 => ?_)
    · refine zW.gbf [] rfl rfl rfl (by omega) trivial (by simp (disch := omega) only [eq_self, not_true_eq_false, not_false_eq_true, upI_same, upL_same, upI_ne, upL_ne, iI_ixN, zI_mk, zL_mk, zP_mk, zK_mk, zN_mk, zwI_up, zwL_up, zg_some, Nat.reduceMod, Nat.reduceDiv, zcn_I, iI_add, iI_sub, iI_mul, iI_neg, iI_lt, iI_le, iI_eq, iI_lt0, iI_le0, iI_gt0, iI_ge0, iI_eq0] <;> omega) ?_
      refine zW.gz [] rfl rfl rfl (by omega) trivial ⟨_, rfl, b0⟩ rfl rfl (by decide +kernel) (by decide +kernel) ?_
      refine well_ok (by omega) hL hz hR h8 (fun I' L' f' R' => ?_)
      obtain ⟨q1, q2⟩ := tf_same hf hi f' R'
      refine zW.gbt [] rfl rfl rfl (by omega) trivial (by simp (disch := omega) only [eq_self, not_true_eq_false, not_false_eq_true, upI_same, upL_same, upI_ne, upL_ne, iI_ixN, zI_mk, zL_mk, zP_mk, zK_mk, zN_mk, zwI_up, zwL_up, zg_some, Nat.reduceMod, Nat.reduceDiv, zcn_I, iI_add, iI_sub, iI_mul, iI_neg, iI_lt, iI_le, iI_eq, iI_lt0, iI_le0, iI_gt0, iI_ge0, iI_eq0] <;> omega) ?_
      exact NX I' L' q1 (tfr_tr hr q2)
    · refine zW.gbt [] rfl rfl rfl (by omega) trivial (by simp (disch := omega) only [eq_self, not_true_eq_false, not_false_eq_true, upI_same, upL_same, upI_ne, upL_ne, iI_ixN, zI_mk, zL_mk, zP_mk, zK_mk, zN_mk, zwI_up, zwL_up, zg_some, Nat.reduceMod, Nat.reduceDiv, zcn_I, iI_add, iI_sub, iI_mul, iI_neg, iI_lt, iI_le, iI_eq, iI_lt0, iI_le0, iI_gt0, iI_ge0, iI_eq0] <;> omega) ?_
      exact NX I L hf hr
def oSound (T : tfT) : tRes := (0, 1, T)
theorem sound_ok (hd : 10 ≤ d) (hr0 : tRn T = 0) (h : tfx x z T (I, L, R)) (hQ : tP x z (I, L, R) (oSound T) [] eI Q) : zS 146 d [zr (some x)] (I, L, R) Q := by
  obtain ⟨pb, rb, hf⟩ := h
  refine zW.go [2] rfl (by omega) trivial ?_
  exact sou_1 hd hr0 (fun M' q1 q2 => tP_0 hQ rfl q1 q2) (tPn T) 0 (by omega) _ _ _ _ hf tfr_rf (zcn_I _)
end TSUM
