/-! The model's groups: their sizes; the table laid. -/
theorem cT_n {tb : zTb} {n k : Nat} (hn : n ≤ 10) (hW : tW tb) (hN : tN n tb) (hk : k < n) : ct (fun j => (tb k j).isSome) n = cT tb k := by
  have := ct_more (b := fun j => (tb k j).isSome) (n := n) (m := 10 - n) (fun j q1 q2 => by
    cases h : tb k j with
    | none => rfl
    | some u =>
      have h1 := (hW.1 _ _ _ h).2.2.2.2
      have h2 := (hN _ _ _ h).1 k hk
      omega)
  rw [show n + (10 - n) = 10 by omega] at this
  exact this.symm
theorem cT_1 {tb : zTb} {n k : Nat} (hW : tW tb) (hN : tN n tb) (hk : n ≤ k) (hk10 : k < 10) : cT tb k = 1 := by
  have e : ∀ j, j < 10 → (tb k j).isSome = decide (j = k) := fun j hj => by
    cases h : tb k j with
    | none =>
      refine (decide_eq_false fun e => ?_).symm
      rw [e, hW.2 k hk10] at h
      cases h
    | some u =>
      obtain ⟨b1, b2, b3, b4, b5⟩ := hW.1 _ _ _ h
      have : u k = k := (hN _ _ _ h).2.2 k hk
      exact (decide_eq_true (by omega)).symm
  unfold cT
  rw [ct_cg e]
  have : ∀ k, k < 10 → ct (fun j => decide (j = k)) 10 = 1 := by decide +kernel
  exact this k hk10
theorem szT_n {tb : zTb} {n : Nat} (hW : tW tb) (hN : tN n tb) : ∀ m, m ≤ 10 - n → szT tb m = 1
  | 0, _ => rfl
  | m + 1, h => by
    have h1 := szT_n hW hN m (by omega)
    have h2 := cT_1 (k := 9 - m) hW hN (by omega) (by omega)
    show szT tb m * cT tb (9 - m) = 1
    rw [h1, h2]
section MLYS
variable {d y : Nat} {T : tfT} {I : Nat → Nat → Int32} {L : Nat → Nat → Int64} {R : zRt} {Q : zO → zM → Prop}
theorem lay_ct {i n k : Nat} {tb : zTb} (hd : 1 ≤ d) (hM : ML y R) (hn : n ≤ 10) (hk : k < n) (hT : mTb y I tb)
    (hQ : ∀ x, zW 180 d 0 0 322 [some (zr (some y)), some (zi (iI (i : Int))), some (zi (iI (n : Int))), some (zi (iI 0)), some (zi (iI (k : Int))), some (zi (iI (ct (fun j => (tb k j).isSome) n : Int))), some (zi x)] [] (I, L, R) Q) :
    ∀ m j, j + m = n → ∀ (x5 x6 : Int32), x5 = iI (ct (fun j => (tb k j).isSome) j : Int) → x6 = iI (j : Int) → zW 180 d 0 0 287 [some (zr (some y)), some (zi (iI (i : Int))), some (zi (iI (n : Int))), some (zi (iI 0)), some (zi (iI (k : Int))), some (zi x5), some (zi x6)] [] (I, L, R) Q
  | 0, j, hj, x5, x6, e5, e6 => by
    subst e5; subst e6
    obtain rfl : j = n := by omega
    exact zW.gbt [] rfl rfl rfl (by omega) trivial (by simp (disch := omega) only [eq_self, not_true_eq_false, not_false_eq_true, upI_same, upL_same, upI_ne, upL_ne, iI_ixN, zI_mk, zL_mk, zP_mk, zK_mk, zN_mk, zwI_up, zwL_up, zg_some, Nat.reduceMod, Nat.reduceDiv, zcn_I, iI_add, iI_sub, iI_mul, iI_neg, iI_lt, iI_le, iI_eq, iI_lt0, iI_le0, iI_gt0, iI_ge0, iI_eq0] <;> omega) (hQ _)
  | m + 1, j, hj, x5, x6, e5, e6 => by
    subst e5; subst e6
    have k0 : R.2.1 y = some (7, 0) := hM.1
    obtain ⟨t1, -⟩ := hT k j (by omega) (by omega)
    have p6 : R.1 y 6 = some (y + 51) := (hM.2.1 6 (by decide)).1; have k6 : R.2.1 (y + 51) = some (29, 10) := (hM.2.1 6 (by decide)).2; have q6 : R.1 (y + 51) (k) = some (y + 52 + k) := (hM.2.2.2.2.2.1 (k) (by omega)).1.trans (congrArg some (by omega)); have j6 : R.2.1 (y + 52 + k) = some (22, 10) := (congrArg R.2.1 (by omega)).trans (hM.2.2.2.2.2.1 (k) (by omega)).2
    have NX : ∀ (u : Int32) (e : Nat), u = iI (e : Int) → ct (fun j => (tb k j).isSome) (j + 1) = ct (fun j => (tb k j).isSome) j + e → zW 180 d 0 0 313 [some (zr (some y)), some (zi (iI (i : Int))), some (zi (iI (n : Int))), some (zi (iI 0)), some (zi (iI (k : Int))), some (zi (iI (ct (fun j => (tb k j).isSome) j : Int))), some (zi (iI (j : Int)))] [zi u, zi (iI (ct (fun j => (tb k j).isSome) j : Int))] (I, L, R) Q := fun u e hu he => by
      subst hu
      refine zW.go [287] rfl (by omega) trivial ?_
      exact lay_ct hd hM hn hk hT hQ m (j + 1) (by omega) _ _ (by rw [iI_add, he]; rfl) (by rw [zcn_I, iI_add]; rfl)
    refine zW.gbf [] rfl rfl rfl (by omega) trivial (by simp (disch := omega) only [eq_self, not_true_eq_false, not_false_eq_true, upI_same, upL_same, upI_ne, upL_ne, iI_ixN, zI_mk, zL_mk, zP_mk, zK_mk, zN_mk, zwI_up, zwL_up, zg_some, Nat.reduceMod, Nat.reduceDiv, zcn_I, iI_add, iI_sub, iI_mul, iI_neg, iI_lt, iI_le, iI_eq, iI_lt0, iI_le0, iI_gt0, iI_ge0, iI_eq0] <;> omega) ?_
    cases hb : tb k j with
    | none =>
      rw [hb] at t1
      refine zW.gbt [] rfl rfl rfl (by omega) (by simp (disch := omega) only [true_or, or_true, eq_self, Option.some.injEq, Prod.mk.injEq, zall_0, zall_1, zall_2, zob_iff, zar_iff, zis_iff, zkIs_some, zkHas_some, iI_vp, z01_I, z01_bz, zch_I, true_and, and_true, or_false, false_or, and_self, upI_same, upL_same, upI_ne, upL_ne, iI_ixN, zI_mk, zL_mk, zP_mk, zK_mk, zN_mk, zwI_up, zwL_up, zg_some, Nat.reduceMod, Nat.reduceDiv, zcn_I, iI_add, iI_sub, iI_mul, iI_neg, iI_lt, iI_le, iI_eq, iI_lt0, iI_le0, iI_gt0, iI_ge0, iI_eq0, k0, p6, k6, q6, j6] <;> omega) ?_ ?_
      · simp (disch := omega) only [upI_same, upL_same, upI_ne, upL_ne, iI_ixN, zI_mk, zL_mk, zP_mk, zK_mk, zN_mk, zwI_up, zwL_up, zg_some, Nat.reduceMod, Nat.reduceDiv, p6, q6, t1]
        decide +kernel
      refine zW.go [313] rfl (by omega) trivial (NX _ 0 (zcn_I _) ?_)
      show ct _ j + (if (tb k j).isSome then 1 else 0) = _
      rw [hb]
      rfl
    | some u =>
      rw [hb] at t1
      refine zW.gbf [] rfl rfl rfl (by omega) (by simp (disch := omega) only [true_or, or_true, eq_self, Option.some.injEq, Prod.mk.injEq, zall_0, zall_1, zall_2, zob_iff, zar_iff, zis_iff, zkIs_some, zkHas_some, iI_vp, z01_I, z01_bz, zch_I, true_and, and_true, or_false, false_or, and_self, upI_same, upL_same, upI_ne, upL_ne, iI_ixN, zI_mk, zL_mk, zP_mk, zK_mk, zN_mk, zwI_up, zwL_up, zg_some, Nat.reduceMod, Nat.reduceDiv, zcn_I, iI_add, iI_sub, iI_mul, iI_neg, iI_lt, iI_le, iI_eq, iI_lt0, iI_le0, iI_gt0, iI_ge0, iI_eq0, k0, p6, k6, q6, j6] <;> omega) ?_ ?_
      · simp (disch := omega) only [upI_same, upL_same, upI_ne, upL_ne, iI_ixN, zI_mk, zL_mk, zP_mk, zK_mk, zN_mk, zwI_up, zwL_up, zg_some, Nat.reduceMod, Nat.reduceDiv, p6, q6, t1]
        show ¬ bz true = 0
        decide +kernel
      refine zW.go [313] rfl (by omega) trivial (NX _ 1 (zcn_I _) ?_)
      show ct _ j + (if (tb k j).isSome then 1 else 0) = _
      rw [hb]
      rfl
end MLYS
