/-! The graph over the memory: what is read off the depths; drawing. -/
def mxd (f : Nat → Int) : Nat → Int
  | 0 => 0
  | n + 1 => if mxd f n < f n then f n else mxd f n
def smd (f : Nat → Int) : Nat → Int
  | 0 => 0
  | n + 1 => smd f n + f n
theorem mxd_rg {f : Nat → Int} {m : Int} (h0 : 0 ≤ m) : ∀ {n : Nat}, (∀ i, i < n → f i ≤ m) → 0 ≤ mxd f n ∧ mxd f n ≤ m
  | 0, _ => ⟨Int.le_refl 0, h0⟩
  | n + 1, h => by
    have ih := mxd_rg h0 (n := n) (fun i hi => h i (by omega))
    have := h n (by omega)
    show 0 ≤ (if mxd f n < f n then f n else mxd f n) ∧ (if mxd f n < f n then f n else mxd f n) ≤ m
    split <;> omega
section GRAPH2
variable {d g : Nat} {I : Nat → Nat → Int32} {L : Nat → Nat → Int64} {R : zRt} {Q : zO → zM → Prop}
theorem great_lp {k sz : Nat} {f : Nat → Int} (hd : 1 ≤ d) (hL : GL g R) (hk : k < 3) (h800 : sz ≤ 800) (hI6 : I g 6 = iI (sz : Int)) (hf : ∀ s, s < sz → I (g + 12 + k) s = iI (f s)) (hr : ∀ s, s < sz → -1 ≤ f s ∧ f s < 1000)
    (hQ : Q (.inl (some (zi (iI (mxd f sz))))) (I, L, R)) :
    ∀ n i, i + n = sz → ∀ (x y : Int32), x = iI (mxd f i) → y = iI (i : Int) → zW 21 d 0 0 4 [some (zr (some g)), some (zi (iI (k : Int))), some (zi x), some (zi y)] [] (I, L, R) Q
  | 0, i, hi, x, y, e1, e2 => by
    subst e1; subst e2
    obtain rfl : i = sz := by omega
    have hL' := hL
    obtain ⟨k0, p0, p1, p2, p3, p4, k1, k2, k3, k4, k5, k6, k7⟩ := hL'
    refine zW.gbt [] rfl rfl rfl hd ?_ ?_ (zW.gr [] rfl rfl rfl hd trivial trivial hQ)
    · exact (by simp (disch := omega) only [true_or, or_true, eq_self, Option.some.injEq, Prod.mk.injEq, zall_0, zall_1, zall_2, zob_iff, zar_iff, zis_iff, zkIs_some, zkHas_some, iI_vp, z01_I, z01_bz, zch_I, true_and, and_true, or_false, false_or, and_self, upI_same, upL_same, upI_ne, upL_ne, iI_ixN, zI_mk, zL_mk, zP_mk, zK_mk, zN_mk, zwI_up, zwL_up, zg_some, Nat.reduceMod, Nat.reduceDiv, zcn_I, iI_add, iI_sub, iI_mul, iI_neg, iI_lt, iI_le, iI_eq, iI_lt0, iI_le0, iI_gt0, iI_ge0, iI_eq0, k0] <;> omega)
    · exact (by simp (disch := omega) only [eq_self, not_true_eq_false, not_false_eq_true, upI_same, upL_same, upI_ne, upL_ne, iI_ixN, zI_mk, zL_mk, zP_mk, zK_mk, zN_mk, zwI_up, zwL_up, zg_some, Nat.reduceMod, Nat.reduceDiv, zcn_I, iI_add, iI_sub, iI_mul, iI_neg, iI_lt, iI_le, iI_eq, iI_lt0, iI_le0, iI_gt0, iI_ge0, iI_eq0, hI6] <;> omega)
  | n + 1, i, hi, x, y, e1, e2 => by
    subst e1; subst e2
    have hL' := hL
    obtain ⟨k0, p0, p1, p2, p3, p4, k1, k2, k3, k4, k5, k6, k7⟩ := hL'
    obtain ⟨p7, k8⟩ := k7 k hk
    have ms := hf i (by omega)
    have hri := hr i (by omega)
    have hmx := mxd_rg (f := f) (m := 1000) (by decide) (n := i) (fun j hj => by have := hr j (by omega); omega)
    refine zW.gbf [] rfl rfl rfl hd ?_ ?_ (zW.go [4] rfl hd ?_ ?_)
    · exact (by simp (disch := omega) only [true_or, or_true, eq_self, Option.some.injEq, Prod.mk.injEq, zall_0, zall_1, zall_2, zob_iff, zar_iff, zis_iff, zkIs_some, zkHas_some, iI_vp, z01_I, z01_bz, zch_I, true_and, and_true, or_false, false_or, and_self, upI_same, upL_same, upI_ne, upL_ne, iI_ixN, zI_mk, zL_mk, zP_mk, zK_mk, zN_mk, zwI_up, zwL_up, zg_some, Nat.reduceMod, Nat.reduceDiv, zcn_I, iI_add, iI_sub, iI_mul, iI_neg, iI_lt, iI_le, iI_eq, iI_lt0, iI_le0, iI_gt0, iI_ge0, iI_eq0, k0] <;> omega)
    · exact (by simp (disch := omega) only [eq_self, not_true_eq_false, not_false_eq_true, upI_same, upL_same, upI_ne, upL_ne, iI_ixN, zI_mk, zL_mk, zP_mk, zK_mk, zN_mk, zwI_up, zwL_up, zg_some, Nat.reduceMod, Nat.reduceDiv, zcn_I, iI_add, iI_sub, iI_mul, iI_neg, iI_lt, iI_le, iI_eq, iI_lt0, iI_le0, iI_gt0, iI_ge0, iI_eq0, hI6] <;> omega)
    · simp (disch := omega) only [upI_same, upL_same, upI_ne, upL_ne, iI_ixN, zI_mk, zL_mk, zP_mk, zK_mk, zN_mk, zwI_up, zwL_up, zg_some, Nat.reduceMod, Nat.reduceDiv, zcn_I, iI_add, iI_sub, iI_mul, iI_neg, iI_lt, iI_le, iI_eq, iI_lt0, iI_le0, iI_gt0, iI_ge0, iI_eq0, p2, p7]
      exact (by simp (disch := omega) only [true_or, or_true, eq_self, Option.some.injEq, Prod.mk.injEq, zall_0, zall_1, zall_2, zob_iff, zar_iff, zis_iff, zkIs_some, zkHas_some, iI_vp, z01_I, z01_bz, zch_I, true_and, and_true, or_false, false_or, and_self, upI_same, upL_same, upI_ne, upL_ne, iI_ixN, zI_mk, zL_mk, zP_mk, zK_mk, zN_mk, zwI_up, zwL_up, zg_some, Nat.reduceMod, Nat.reduceDiv, zcn_I, iI_add, iI_sub, iI_mul, iI_neg, iI_lt, iI_le, iI_eq, iI_lt0, iI_le0, iI_gt0, iI_ge0, iI_eq0, k0, p2, k3, p7, k8] <;> omega)
    · simp (disch := omega) only [upI_same, upL_same, upI_ne, upL_ne, iI_ixN, zI_mk, zL_mk, zP_mk, zK_mk, zN_mk, zwI_up, zwL_up, zg_some, Nat.reduceMod, Nat.reduceDiv, zcn_I, iI_add, p2, p7, ms, iI_max]
      refine great_lp hd hL hk h800 hI6 hf hr hQ n (i + 1) (by omega) _ _ rfl ?_
      exact (by simp (disch := omega) only [eq_self, not_true_eq_false, not_false_eq_true, upI_same, upL_same, upI_ne, upL_ne, iI_ixN, zI_mk, zL_mk, zP_mk, zK_mk, zN_mk, zwI_up, zwL_up, zg_some, Nat.reduceMod, Nat.reduceDiv, zcn_I, iI_add, iI_sub, iI_mul, iI_neg, iI_lt, iI_le, iI_eq, iI_lt0, iI_le0, iI_gt0, iI_ge0, iI_eq0] <;> omega)
theorem great_ok {k sz : Nat} {f : Nat → Int} {x : Int32} (hd : 1 ≤ d) (hL : GL g R) (hk : k < 3) (e : x = iI (k : Int)) (h800 : sz ≤ 800) (hI6 : I g 6 = iI (sz : Int)) (hf : ∀ s, s < sz → I (g + 12 + k) s = iI (f s)) (hr : ∀ s, s < sz → -1 ≤ f s ∧ f s < 1000)
    (hQ : Q (.inl (some (zi (iI (mxd f sz))))) (I, L, R)) : zS 21 d [zr (some g), zi x] (I, L, R) Q := by
  subst e
  refine zW.go [4] rfl hd trivial ?_
  exact great_lp hd hL hk h800 hI6 hf hr hQ sz 0 (by omega) _ _ rfl rfl
theorem sat_lp {k sz : Nat} {f : Nat → Int} {q : Int32} (hd : 1 ≤ d) (hL : GL g R) (hk : k < 3) (h800 : sz ≤ 800) (hI6 : I g 6 = iI (sz : Int)) (hf : ∀ s, s < sz → I (g + 12 + k) s = iI (f s))
    (hQ : Q (.inl (some (zi (iI (ct (fun i => decide (iI (f i) = q)) sz : Nat))))) (I, L, R)) :
    ∀ n i, i + n = sz → ∀ (x y : Int32), x = iI (ct (fun i => decide (iI (f i) = q)) i : Nat) → y = iI (i : Int) → zW 22 d 0 0 5 [some (zr (some g)), some (zi (iI (k : Int))), some (zi q), some (zi x), some (zi y)] [] (I, L, R) Q
  | 0, i, hi, x, y, e1, e2 => by
    subst e1; subst e2
    obtain rfl : i = sz := by omega
    have hL' := hL
    obtain ⟨k0, p0, p1, p2, p3, p4, k1, k2, k3, k4, k5, k6, k7⟩ := hL'
    refine zW.gbt [] rfl rfl rfl hd ?_ ?_ (zW.gr [] rfl rfl rfl hd trivial trivial hQ)
    · exact (by simp (disch := omega) only [true_or, or_true, eq_self, Option.some.injEq, Prod.mk.injEq, zall_0, zall_1, zall_2, zob_iff, zar_iff, zis_iff, zkIs_some, zkHas_some, iI_vp, z01_I, z01_bz, zch_I, true_and, and_true, or_false, false_or, and_self, upI_same, upL_same, upI_ne, upL_ne, iI_ixN, zI_mk, zL_mk, zP_mk, zK_mk, zN_mk, zwI_up, zwL_up, zg_some, Nat.reduceMod, Nat.reduceDiv, zcn_I, iI_add, iI_sub, iI_mul, iI_neg, iI_lt, iI_le, iI_eq, iI_lt0, iI_le0, iI_gt0, iI_ge0, iI_eq0, k0] <;> omega)
    · exact (by simp (disch := omega) only [eq_self, not_true_eq_false, not_false_eq_true, upI_same, upL_same, upI_ne, upL_ne, iI_ixN, zI_mk, zL_mk, zP_mk, zK_mk, zN_mk, zwI_up, zwL_up, zg_some, Nat.reduceMod, Nat.reduceDiv, zcn_I, iI_add, iI_sub, iI_mul, iI_neg, iI_lt, iI_le, iI_eq, iI_lt0, iI_le0, iI_gt0, iI_ge0, iI_eq0, hI6] <;> omega)
  | n + 1, i, hi, x, y, e1, e2 => by
    subst e1; subst e2
    have hL' := hL
    obtain ⟨k0, p0, p1, p2, p3, p4, k1, k2, k3, k4, k5, k6, k7⟩ := hL'
    obtain ⟨p7, k8⟩ := k7 k hk
    have ms := hf i (by omega)
    refine zW.gbf [] rfl rfl rfl hd ?_ ?_ (zW.gb [] rfl rfl rfl hd ?_ (fun h => ?_) (fun h => ?_))
    · exact (by simp (disch := omega) only [true_or, or_true, eq_self, Option.some.injEq, Prod.mk.injEq, zall_0, zall_1, zall_2, zob_iff, zar_iff, zis_iff, zkIs_some, zkHas_some, iI_vp, z01_I, z01_bz, zch_I, true_and, and_true, or_false, false_or, and_self, upI_same, upL_same, upI_ne, upL_ne, iI_ixN, zI_mk, zL_mk, zP_mk, zK_mk, zN_mk, zwI_up, zwL_up, zg_some, Nat.reduceMod, Nat.reduceDiv, zcn_I, iI_add, iI_sub, iI_mul, iI_neg, iI_lt, iI_le, iI_eq, iI_lt0, iI_le0, iI_gt0, iI_ge0, iI_eq0, k0] <;> omega)
    · exact (by simp (disch := omega) only [eq_self, not_true_eq_false, not_false_eq_true, upI_same, upL_same, upI_ne, upL_ne, iI_ixN, zI_mk, zL_mk, zP_mk, zK_mk, zN_mk, zwI_up, zwL_up, zg_some, Nat.reduceMod, Nat.reduceDiv, zcn_I, iI_add, iI_sub, iI_mul, iI_neg, iI_lt, iI_le, iI_eq, iI_lt0, iI_le0, iI_gt0, iI_ge0, iI_eq0, hI6] <;> omega)
    · simp (disch := omega) only [upI_same, upL_same, upI_ne, upL_ne, iI_ixN, zI_mk, zL_mk, zP_mk, zK_mk, zN_mk, zwI_up, zwL_up, zg_some, Nat.reduceMod, Nat.reduceDiv, zcn_I, iI_add, iI_sub, iI_mul, iI_neg, iI_lt, iI_le, iI_eq, iI_lt0, iI_le0, iI_gt0, iI_ge0, iI_eq0, p2, p7]
      exact (by simp (disch := omega) only [true_or, or_true, eq_self, Option.some.injEq, Prod.mk.injEq, zall_0, zall_1, zall_2, zob_iff, zar_iff, zis_iff, zkIs_some, zkHas_some, iI_vp, z01_I, z01_bz, zch_I, true_and, and_true, or_false, false_or, and_self, upI_same, upL_same, upI_ne, upL_ne, iI_ixN, zI_mk, zL_mk, zP_mk, zK_mk, zN_mk, zwI_up, zwL_up, zg_some, Nat.reduceMod, Nat.reduceDiv, zcn_I, iI_add, iI_sub, iI_mul, iI_neg, iI_lt, iI_le, iI_eq, iI_lt0, iI_le0, iI_gt0, iI_ge0, iI_eq0, k0, p2, k3, p7, k8] <;> omega)
    · simp (disch := omega) only [upI_same, upL_same, upI_ne, upL_ne, iI_ixN, zI_mk, zL_mk, zP_mk, zK_mk, zN_mk, zwI_up, zwL_up, zg_some, Nat.reduceMod, Nat.reduceDiv, p2, p7, ms] at h
      refine zW.go [5] rfl hd trivial ?_
      refine sat_lp hd hL hk h800 hI6 hf hQ n (i + 1) (by omega) _ _ ?_ ?_
      · rw [zcn_I, iI_add, ct, decide_eq_false h]
        rfl
      · exact (by simp (disch := omega) only [eq_self, not_true_eq_false, not_false_eq_true, upI_same, upL_same, upI_ne, upL_ne, iI_ixN, zI_mk, zL_mk, zP_mk, zK_mk, zN_mk, zwI_up, zwL_up, zg_some, Nat.reduceMod, Nat.reduceDiv, zcn_I, iI_add, iI_sub, iI_mul, iI_neg, iI_lt, iI_le, iI_eq, iI_lt0, iI_le0, iI_gt0, iI_ge0, iI_eq0] <;> omega)
    · have h := Classical.not_not.mp h
      simp (disch := omega) only [upI_same, upL_same, upI_ne, upL_ne, iI_ixN, zI_mk, zL_mk, zP_mk, zK_mk, zN_mk, zwI_up, zwL_up, zg_some, Nat.reduceMod, Nat.reduceDiv, p2, p7, ms] at h
      refine zW.go [5] rfl hd trivial ?_
      refine sat_lp hd hL hk h800 hI6 hf hQ n (i + 1) (by omega) _ _ ?_ ?_
      · rw [zcn_I, iI_add, ct, decide_eq_true h]
        rfl
      · exact (by simp (disch := omega) only [eq_self, not_true_eq_false, not_false_eq_true, upI_same, upL_same, upI_ne, upL_ne, iI_ixN, zI_mk, zL_mk, zP_mk, zK_mk, zN_mk, zwI_up, zwL_up, zg_some, Nat.reduceMod, Nat.reduceDiv, zcn_I, iI_add, iI_sub, iI_mul, iI_neg, iI_lt, iI_le, iI_eq, iI_lt0, iI_le0, iI_gt0, iI_ge0, iI_eq0] <;> omega)
theorem sat_ok {k sz : Nat} {f : Nat → Int} {x q : Int32} (hd : 1 ≤ d) (hL : GL g R) (hk : k < 3) (e : x = iI (k : Int)) (h800 : sz ≤ 800) (hI6 : I g 6 = iI (sz : Int)) (hf : ∀ s, s < sz → I (g + 12 + k) s = iI (f s))
    (hQ : Q (.inl (some (zi (iI (ct (fun i => decide (iI (f i) = q)) sz : Nat))))) (I, L, R)) : zS 22 d [zr (some g), zi x, zi q] (I, L, R) Q := by
  subst e
  refine zW.go [5] rfl hd trivial ?_
  exact sat_lp hd hL hk h800 hI6 hf hQ sz 0 (by omega) _ _ rfl rfl
theorem sum_lp {k sz : Nat} {f : Nat → Int} (hd : 1 ≤ d) (hL : GL g R) (hk : k < 3) (h800 : sz ≤ 800) (hI6 : I g 6 = iI (sz : Int)) (hf : ∀ s, s < sz → I (g + 12 + k) s = iI (f s)) (hr : ∀ s, s < sz → -1 ≤ f s ∧ f s < 1000)
    (hQ : Q (.inl (some (zl (iL (smd f sz))))) (I, L, R)) :
    ∀ n i, i + n = sz → ∀ (x : Int64) (y : Int32), x = iL (smd f i) → y = iI (i : Int) → zW 23 d 0 0 5 [some (zr (some g)), some (zi (iI (k : Int))), some (zl x), none, some (zi y)] [] (I, L, R) Q
  | 0, i, hi, x, y, e1, e2 => by
    subst e1; subst e2
    obtain rfl : i = sz := by omega
    have hL' := hL
    obtain ⟨k0, p0, p1, p2, p3, p4, k1, k2, k3, k4, k5, k6, k7⟩ := hL'
    refine zW.gbt [] rfl rfl rfl hd ?_ ?_ (zW.gr [] rfl rfl rfl hd trivial trivial hQ)
    · exact (by simp (disch := omega) only [true_or, or_true, eq_self, Option.some.injEq, Prod.mk.injEq, zall_0, zall_1, zall_2, zob_iff, zar_iff, zis_iff, zkIs_some, zkHas_some, iI_vp, z01_I, z01_bz, zch_I, true_and, and_true, or_false, false_or, and_self, upI_same, upL_same, upI_ne, upL_ne, iI_ixN, zI_mk, zL_mk, zP_mk, zK_mk, zN_mk, zwI_up, zwL_up, zg_some, Nat.reduceMod, Nat.reduceDiv, zcn_I, iI_add, iI_sub, iI_mul, iI_neg, iI_lt, iI_le, iI_eq, iI_lt0, iI_le0, iI_gt0, iI_ge0, iI_eq0, k0] <;> omega)
    · exact (by simp (disch := omega) only [eq_self, not_true_eq_false, not_false_eq_true, upI_same, upL_same, upI_ne, upL_ne, iI_ixN, zI_mk, zL_mk, zP_mk, zK_mk, zN_mk, zwI_up, zwL_up, zg_some, Nat.reduceMod, Nat.reduceDiv, zcn_I, iI_add, iI_sub, iI_mul, iI_neg, iI_lt, iI_le, iI_eq, iI_lt0, iI_le0, iI_gt0, iI_ge0, iI_eq0, hI6] <;> omega)
  | n + 1, i, hi, x, y, e1, e2 => by
    subst e1; subst e2
    have hL' := hL
    obtain ⟨k0, p0, p1, p2, p3, p4, k1, k2, k3, k4, k5, k6, k7⟩ := hL'
    obtain ⟨p7, k8⟩ := k7 k hk
    have ms := hf i (by omega)
    have hri := hr i (by omega)
    refine zW.gbf [] rfl rfl rfl hd ?_ ?_ (zW.go [5] rfl hd ?_ ?_)
    · exact (by simp (disch := omega) only [true_or, or_true, eq_self, Option.some.injEq, Prod.mk.injEq, zall_0, zall_1, zall_2, zob_iff, zar_iff, zis_iff, zkIs_some, zkHas_some, iI_vp, z01_I, z01_bz, zch_I, true_and, and_true, or_false, false_or, and_self, upI_same, upL_same, upI_ne, upL_ne, iI_ixN, zI_mk, zL_mk, zP_mk, zK_mk, zN_mk, zwI_up, zwL_up, zg_some, Nat.reduceMod, Nat.reduceDiv, zcn_I, iI_add, iI_sub, iI_mul, iI_neg, iI_lt, iI_le, iI_eq, iI_lt0, iI_le0, iI_gt0, iI_ge0, iI_eq0, k0] <;> omega)
    · exact (by simp (disch := omega) only [eq_self, not_true_eq_false, not_false_eq_true, upI_same, upL_same, upI_ne, upL_ne, iI_ixN, zI_mk, zL_mk, zP_mk, zK_mk, zN_mk, zwI_up, zwL_up, zg_some, Nat.reduceMod, Nat.reduceDiv, zcn_I, iI_add, iI_sub, iI_mul, iI_neg, iI_lt, iI_le, iI_eq, iI_lt0, iI_le0, iI_gt0, iI_ge0, iI_eq0, hI6] <;> omega)
    · simp (disch := omega) only [upI_same, upL_same, upI_ne, upL_ne, iI_ixN, zI_mk, zL_mk, zP_mk, zK_mk, zN_mk, zwI_up, zwL_up, zg_some, Nat.reduceMod, Nat.reduceDiv, zcn_I, iI_add, iI_sub, iI_mul, iI_neg, iI_lt, iI_le, iI_eq, iI_lt0, iI_le0, iI_gt0, iI_ge0, iI_eq0, p2, p7]
      exact (by simp (disch := omega) only [true_or, or_true, eq_self, Option.some.injEq, Prod.mk.injEq, zall_0, zall_1, zall_2, zob_iff, zar_iff, zis_iff, zkIs_some, zkHas_some, iI_vp, z01_I, z01_bz, zch_I, true_and, and_true, or_false, false_or, and_self, upI_same, upL_same, upI_ne, upL_ne, iI_ixN, zI_mk, zL_mk, zP_mk, zK_mk, zN_mk, zwI_up, zwL_up, zg_some, Nat.reduceMod, Nat.reduceDiv, zcn_I, iI_add, iI_sub, iI_mul, iI_neg, iI_lt, iI_le, iI_eq, iI_lt0, iI_le0, iI_gt0, iI_ge0, iI_eq0, k0, p2, k3, p7, k8] <;> omega)
    · simp (disch := omega) only [upI_same, upL_same, upI_ne, upL_ne, iI_ixN, zI_mk, zL_mk, zP_mk, zK_mk, zN_mk, zwI_up, zwL_up, zg_some, Nat.reduceMod, Nat.reduceDiv, zcn_I, iI_add, p2, p7, ms, iI_L, iL_add]
      refine sum_lp hd hL hk h800 hI6 hf hr hQ n (i + 1) (by omega) _ _ rfl ?_
      exact (by simp (disch := omega) only [eq_self, not_true_eq_false, not_false_eq_true, upI_same, upL_same, upI_ne, upL_ne, iI_ixN, zI_mk, zL_mk, zP_mk, zK_mk, zN_mk, zwI_up, zwL_up, zg_some, Nat.reduceMod, Nat.reduceDiv, zcn_I, iI_add, iI_sub, iI_mul, iI_neg, iI_lt, iI_le, iI_eq, iI_lt0, iI_le0, iI_gt0, iI_ge0, iI_eq0] <;> omega)
theorem sum_ok {k sz : Nat} {f : Nat → Int} {x : Int32} (hd : 1 ≤ d) (hL : GL g R) (hk : k < 3) (e : x = iI (k : Int)) (h800 : sz ≤ 800) (hI6 : I g 6 = iI (sz : Int)) (hf : ∀ s, s < sz → I (g + 12 + k) s = iI (f s)) (hr : ∀ s, s < sz → -1 ≤ f s ∧ f s < 1000)
    (hQ : Q (.inl (some (zl (iL (smd f sz))))) (I, L, R)) : zS 23 d [zr (some g), zi x] (I, L, R) Q := by
  subst e
  refine zW.go [5] rfl hd trivial ?_
  exact sum_lp hd hL hk h800 hI6 hf hr hQ sz 0 (by omega) _ _ rfl rfl
/-- a nearer neighbour is found, where there is one -/
theorem near_in {k sz ac f a : Nat} {nx : Nat → Nat → Nat} {D : Nat → Int} (hd : 2 ≤ d) (hL : GL g R) (hk : k < 2) (hN : gN g I sz ac nx) (hD : ∀ s, s < sz → I (g + 12 + k) s = iI (D s)) (hr : ∀ s, s < sz → -1 ≤ D s ∧ D s < 1000) (hf : f < sz) (ha : a < ac)
    (h1 : Q (.inl (some (zi (iI 1)))) (I, L, R))
    (hQ : (¬ ∃ j, j < tt k ∧ (∀ i, i ≤ j → itf (nx a) (i + 1) f ≠ f) ∧ D (itf (nx a) (j + 1) f) = D f - 1) → ∀ v w, zW 19 d 0 0 79 [some (zr (some g)), some (zi (iI (k : Int))), some (zi (iI (f : Int))), some (zi (iI (a : Int))), v, w] [] (I, L, R) Q) :
    ∀ n t, t + n = tt k → ∀ (to : Nat) (x y : Int32), to < sz → itf (nx a) (t + 1) f = to → (∀ i, i < t → itf (nx a) (i + 1) f ≠ f ∧ D (itf (nx a) (i + 1) f) ≠ D f - 1) → x = iI (to : Int) → y = iI (t : Int) →
      zW 19 d 0 0 23 [some (zr (some g)), some (zi (iI (k : Int))), some (zi (iI (f : Int))), some (zi (iI (a : Int))), some (zi x), some (zi y)] [] (I, L, R) Q
  | 0, t, ht, to, x, y, hto, hit, hno, e1, e2 => by
    subst e1; subst e2
    have htt := tt_le k
    refine zW.gz [] rfl rfl rfl hd trivial trivial rfl rfl (Nat.le_refl _) (Nat.le_refl _) ?_
    refine once_ok (k := k) (by omega) (by omega) rfl ?_
    rw [show (if k = 1 then 8 else 1) = tt k from rfl]
    refine zW.gbt [] rfl rfl rfl (by omega) trivial ?_ (hQ ?_ _ _)
    · exact (by simp (disch := omega) only [eq_self, not_true_eq_false, not_false_eq_true, upI_same, upL_same, upI_ne, upL_ne, iI_ixN, zI_mk, zL_mk, zP_mk, zK_mk, zN_mk, zwI_up, zwL_up, zg_some, Nat.reduceMod, Nat.reduceDiv, zcn_I, iI_add, iI_sub, iI_mul, iI_neg, iI_lt, iI_le, iI_eq, iI_lt0, iI_le0, iI_gt0, iI_ge0, iI_eq0] <;> omega)
    · rintro ⟨j, hj, h2, h3⟩
      exact (hno j (by omega)).2 h3
  | n + 1, t, ht, to, x, y, hto, hit, hno, e1, e2 => by
    subst e1; subst e2
    obtain ⟨n1, n2, n3, n4, n5, n6⟩ := hN
    have hL' := hL
    obtain ⟨k0, p0, p1, p2, p3, p4, k1, k2, k3, k4, k5, k6, k7⟩ := hL'
    obtain ⟨p7, k8⟩ := k7 k (by omega)
    obtain ⟨p6, k9⟩ := k6 a (by omega)
    have htt := tt_le k
    refine zW.gz [] rfl rfl rfl hd trivial trivial rfl rfl (Nat.le_refl _) (Nat.le_refl _) ?_
    refine once_ok (k := k) (by omega) (by omega) rfl ?_
    rw [show (if k = 1 then 8 else 1) = tt k from rfl]
    refine zW.gbf [] rfl rfl rfl (by omega) trivial ?_ ?_
    · exact (by simp (disch := omega) only [eq_self, not_true_eq_false, not_false_eq_true, upI_same, upL_same, upI_ne, upL_ne, iI_ixN, zI_mk, zL_mk, zP_mk, zK_mk, zN_mk, zwI_up, zwL_up, zg_some, Nat.reduceMod, Nat.reduceDiv, zcn_I, iI_add, iI_sub, iI_mul, iI_neg, iI_lt, iI_le, iI_eq, iI_lt0, iI_le0, iI_gt0, iI_ge0, iI_eq0] <;> omega)
    by_cases hf2 : to = f
    · refine zW.gbt [] rfl rfl rfl (by omega) trivial ?_ (hQ ?_ _ _)
      · exact (by simp (disch := omega) only [eq_self, not_true_eq_false, not_false_eq_true, upI_same, upL_same, upI_ne, upL_ne, iI_ixN, zI_mk, zL_mk, zP_mk, zK_mk, zN_mk, zwI_up, zwL_up, zg_some, Nat.reduceMod, Nat.reduceDiv, zcn_I, iI_add, iI_sub, iI_mul, iI_neg, iI_lt, iI_le, iI_eq, iI_lt0, iI_le0, iI_gt0, iI_ge0, iI_eq0] <;> omega)
      · rintro ⟨j, hj, h2, h3⟩
        by_cases c : j < t
        · exact (hno j c).2 h3
        · exact h2 t (by omega) (by rw [hit, hf2])
    · have m1 := hD f hf
      have m2 := hD to hto
      have r1 := hr f hf
      have r2 := hr to hto
      refine zW.gbf [] rfl rfl rfl (by omega) trivial ?_ (zW.gb [] rfl rfl rfl (by omega) ?_ (fun h => ?_) (fun h => ?_))
      · exact (by simp (disch := omega) only [eq_self, not_true_eq_false, not_false_eq_true, upI_same, upL_same, upI_ne, upL_ne, iI_ixN, zI_mk, zL_mk, zP_mk, zK_mk, zN_mk, zwI_up, zwL_up, zg_some, Nat.reduceMod, Nat.reduceDiv, zcn_I, iI_add, iI_sub, iI_mul, iI_neg, iI_lt, iI_le, iI_eq, iI_lt0, iI_le0, iI_gt0, iI_ge0, iI_eq0] <;> omega)
      · simp (disch := omega) only [upI_same, upL_same, upI_ne, upL_ne, iI_ixN, zI_mk, zL_mk, zP_mk, zK_mk, zN_mk, zwI_up, zwL_up, zg_some, Nat.reduceMod, Nat.reduceDiv, zcn_I, iI_add, iI_sub, iI_mul, iI_neg, iI_lt, iI_le, iI_eq, iI_lt0, iI_le0, iI_gt0, iI_ge0, iI_eq0, p2, p7]
        exact (by simp (disch := omega) only [true_or, or_true, eq_self, Option.some.injEq, Prod.mk.injEq, zall_0, zall_1, zall_2, zob_iff, zar_iff, zis_iff, zkIs_some, zkHas_some, iI_vp, z01_I, z01_bz, zch_I, true_and, and_true, or_false, false_or, and_self, upI_same, upL_same, upI_ne, upL_ne, iI_ixN, zI_mk, zL_mk, zP_mk, zK_mk, zN_mk, zwI_up, zwL_up, zg_some, Nat.reduceMod, Nat.reduceDiv, zcn_I, iI_add, iI_sub, iI_mul, iI_neg, iI_lt, iI_le, iI_eq, iI_lt0, iI_le0, iI_gt0, iI_ge0, iI_eq0, k0, p2, k3, p7, k8] <;> omega)
      · simp (disch := omega) only [upI_same, upL_same, upI_ne, upL_ne, iI_ixN, zI_mk, zL_mk, zP_mk, zK_mk, zN_mk, zwI_up, zwL_up, zg_some, Nat.reduceMod, Nat.reduceDiv, zcn_I, iI_add, iI_sub, iI_mul, iI_neg, iI_lt, iI_le, iI_eq, iI_lt0, iI_le0, iI_gt0, iI_ge0, iI_eq0, p2, p7, m1, m2] at h
        have h5 := n5 a to ha hto
        refine zW.go [23] rfl (by omega) ?_ ?_
        · simp (disch := omega) only [upI_same, upL_same, upI_ne, upL_ne, iI_ixN, zI_mk, zL_mk, zP_mk, zK_mk, zN_mk, zwI_up, zwL_up, zg_some, Nat.reduceMod, Nat.reduceDiv, zcn_I, iI_add, iI_sub, iI_mul, iI_neg, iI_lt, iI_le, iI_eq, iI_lt0, iI_le0, iI_gt0, iI_ge0, iI_eq0, p1, p6]
          exact (by simp (disch := omega) only [true_or, or_true, eq_self, Option.some.injEq, Prod.mk.injEq, zall_0, zall_1, zall_2, zob_iff, zar_iff, zis_iff, zkIs_some, zkHas_some, iI_vp, z01_I, z01_bz, zch_I, true_and, and_true, or_false, false_or, and_self, upI_same, upL_same, upI_ne, upL_ne, iI_ixN, zI_mk, zL_mk, zP_mk, zK_mk, zN_mk, zwI_up, zwL_up, zg_some, Nat.reduceMod, Nat.reduceDiv, zcn_I, iI_add, iI_sub, iI_mul, iI_neg, iI_lt, iI_le, iI_eq, iI_lt0, iI_le0, iI_gt0, iI_ge0, iI_eq0, k0, p1, k2, p6, k9] <;> omega)
        · simp (disch := omega) only [upI_same, upL_same, upI_ne, upL_ne, iI_ixN, zI_mk, zL_mk, zP_mk, zK_mk, zN_mk, zwI_up, zwL_up, zg_some, Nat.reduceMod, Nat.reduceDiv, zcn_I, iI_add, iI_sub, iI_mul, iI_neg, iI_lt, iI_le, iI_eq, iI_lt0, iI_le0, iI_gt0, iI_ge0, iI_eq0, p1, p6, h5]
          refine near_in hd hL hk ⟨n1, n2, n3, n4, n5, n6⟩ hD hr hf ha h1 hQ n (t + 1) (by omega) (nx a to) _ _ (n6 a to ha hto) (by rw [itf_s, hit]) (fun i hi => ?_) rfl ?_
          · by_cases c : i = t
            · rw [c, hit]
              exact ⟨hf2, by omega⟩
            · exact hno i (by omega)
          · exact (by simp (disch := omega) only [eq_self, not_true_eq_false, not_false_eq_true, upI_same, upL_same, upI_ne, upL_ne, iI_ixN, zI_mk, zL_mk, zP_mk, zK_mk, zN_mk, zwI_up, zwL_up, zg_some, Nat.reduceMod, Nat.reduceDiv, zcn_I, iI_add, iI_sub, iI_mul, iI_neg, iI_lt, iI_le, iI_eq, iI_lt0, iI_le0, iI_gt0, iI_ge0, iI_eq0] <;> omega)
      · refine zW.gr [] rfl rfl rfl (by omega) trivial z01c1 ?_
        rw [zcn_I]
        exact h1
theorem near_lp {k sz ac f : Nat} {nx : Nat → Nat → Nat} {D : Nat → Int} (hd : 2 ≤ d) (hL : GL g R) (hk : k < 2) (hN : gN g I sz ac nx) (hD : ∀ s, s < sz → I (g + 12 + k) s = iI (D s)) (hr : ∀ s, s < sz → -1 ≤ D s ∧ D s < 1000) (hf : f < sz)
    (h1 : Q (.inl (some (zi (iI 1)))) (I, L, R)) (hex : ∃ a j, a < ac ∧ j < tt k ∧ (∀ i, i ≤ j → itf (nx a) (i + 1) f ≠ f) ∧ D (itf (nx a) (j + 1) f) = D f - 1) :
    ∀ n a, a + n = ac → ∀ (x : Int32) (v w : Option zV), (∀ b, b < a → ¬ ∃ j, j < tt k ∧ (∀ i, i ≤ j → itf (nx b) (i + 1) f ≠ f) ∧ D (itf (nx b) (j + 1) f) = D f - 1) → x = iI (a : Int) →
      zW 19 d 0 0 2 [some (zr (some g)), some (zi (iI (k : Int))), some (zi (iI (f : Int))), some (zi x), v, w] [] (I, L, R) Q
  | 0, a, ha, x, v, w, hno, e => by
    obtain ⟨b, j, h2, h3, h4, h5⟩ := hex
    exact absurd ⟨j, h3, h4, h5⟩ (hno b (by omega))
  | n + 1, a, ha, x, v, w, hno, e => by
    subst e
    obtain ⟨n1, n2, n3, n4, n5, n6⟩ := hN
    have hL' := hL
    obtain ⟨k0, p0, p1, p2, p3, p4, k1, k2, k3, k4, k5, k6, k7⟩ := hL'
    obtain ⟨p6, k9⟩ := k6 a (by omega)
    have h5 := n5 a f (by omega) hf
    refine zW.gbf [] rfl rfl rfl (by omega) ?_ ?_ (zW.go [23] rfl (by omega) ?_ ?_)
    · exact (by simp (disch := omega) only [true_or, or_true, eq_self, Option.some.injEq, Prod.mk.injEq, zall_0, zall_1, zall_2, zob_iff, zar_iff, zis_iff, zkIs_some, zkHas_some, iI_vp, z01_I, z01_bz, zch_I, true_and, and_true, or_false, false_or, and_self, upI_same, upL_same, upI_ne, upL_ne, iI_ixN, zI_mk, zL_mk, zP_mk, zK_mk, zN_mk, zwI_up, zwL_up, zg_some, Nat.reduceMod, Nat.reduceDiv, zcn_I, iI_add, iI_sub, iI_mul, iI_neg, iI_lt, iI_le, iI_eq, iI_lt0, iI_le0, iI_gt0, iI_ge0, iI_eq0, k0] <;> omega)
    · exact (by simp (disch := omega) only [eq_self, not_true_eq_false, not_false_eq_true, upI_same, upL_same, upI_ne, upL_ne, iI_ixN, zI_mk, zL_mk, zP_mk, zK_mk, zN_mk, zwI_up, zwL_up, zg_some, Nat.reduceMod, Nat.reduceDiv, zcn_I, iI_add, iI_sub, iI_mul, iI_neg, iI_lt, iI_le, iI_eq, iI_lt0, iI_le0, iI_gt0, iI_ge0, iI_eq0, n4] <;> omega)
    · simp (disch := omega) only [upI_same, upL_same, upI_ne, upL_ne, iI_ixN, zI_mk, zL_mk, zP_mk, zK_mk, zN_mk, zwI_up, zwL_up, zg_some, Nat.reduceMod, Nat.reduceDiv, zcn_I, iI_add, iI_sub, iI_mul, iI_neg, iI_lt, iI_le, iI_eq, iI_lt0, iI_le0, iI_gt0, iI_ge0, iI_eq0, p1, p6]
      exact (by simp (disch := omega) only [true_or, or_true, eq_self, Option.some.injEq, Prod.mk.injEq, zall_0, zall_1, zall_2, zob_iff, zar_iff, zis_iff, zkIs_some, zkHas_some, iI_vp, z01_I, z01_bz, zch_I, true_and, and_true, or_false, false_or, and_self, upI_same, upL_same, upI_ne, upL_ne, iI_ixN, zI_mk, zL_mk, zP_mk, zK_mk, zN_mk, zwI_up, zwL_up, zg_some, Nat.reduceMod, Nat.reduceDiv, zcn_I, iI_add, iI_sub, iI_mul, iI_neg, iI_lt, iI_le, iI_eq, iI_lt0, iI_le0, iI_gt0, iI_ge0, iI_eq0, k0, p1, k2, p6, k9] <;> omega)
    · simp (disch := omega) only [upI_same, upL_same, upI_ne, upL_ne, iI_ixN, zI_mk, zL_mk, zP_mk, zK_mk, zN_mk, zwI_up, zwL_up, zg_some, Nat.reduceMod, Nat.reduceDiv, zcn_I, iI_add, iI_sub, iI_mul, iI_neg, iI_lt, iI_le, iI_eq, iI_lt0, iI_le0, iI_gt0, iI_ge0, iI_eq0, p1, p6, h5]
      refine near_in (a := a) (D := D) hd hL hk ⟨n1, n2, n3, n4, n5, n6⟩ hD hr hf (by omega) h1 (fun hn v' w' => ?_) (tt k) 0 (by omega) (nx a f) _ _ (n6 a f (by omega) hf) rfl (fun i hi => absurd hi (Nat.not_lt_zero i)) rfl rfl
      refine zW.go [2] rfl (by omega) trivial ?_
      refine near_lp hd hL hk ⟨n1, n2, n3, n4, n5, n6⟩ hD hr hf h1 hex n (a + 1) (by omega) _ _ _ (fun b hb => ?_) ?_
      · by_cases c : b = a
        · rw [c]
          exact hn
        · exact hno b (by omega)
      · exact (by simp (disch := omega) only [eq_self, not_true_eq_false, not_false_eq_true, upI_same, upL_same, upI_ne, upL_ne, iI_ixN, zI_mk, zL_mk, zP_mk, zK_mk, zN_mk, zwI_up, zwL_up, zg_some, Nat.reduceMod, Nat.reduceDiv, zcn_I, iI_add, iI_sub, iI_mul, iI_neg, iI_lt, iI_le, iI_eq, iI_lt0, iI_le0, iI_gt0, iI_ge0, iI_eq0] <;> omega)
theorem near_ok {k sz ac f : Nat} {nx : Nat → Nat → Nat} {D : Nat → Int} {x y : Int32} (hd : 2 ≤ d) (hL : GL g R) (hk : k < 2) (e1 : x = iI (k : Int)) (e2 : y = iI (f : Int)) (hN : gN g I sz ac nx) (hD : ∀ s, s < sz → I (g + 12 + k) s = iI (D s)) (hr : ∀ s, s < sz → -1 ≤ D s ∧ D s < 1000) (hf : f < sz)
    (h1 : Q (.inl (some (zi (iI 1)))) (I, L, R)) (hex : ∃ a j, a < ac ∧ j < tt k ∧ (∀ i, i ≤ j → itf (nx a) (i + 1) f ≠ f) ∧ D (itf (nx a) (j + 1) f) = D f - 1) : zS 19 d [zr (some g), zi x, zi y] (I, L, R) Q := by
  subst e1; subst e2
  refine zW.go [2] rfl (by omega) trivial ?_
  exact near_lp hd hL hk hN hD hr hf h1 hex ac 0 (by omega) _ _ _ (fun b hb => absurd hb (Nat.not_lt_zero b)) rfl
theorem forgetD_ok (hd : 1 ≤ d) (hL : GL g R) (hQ : Q (.inl none) (upI (upI I (g + 15) 0 (iI 0)) (g + 15) 1 (iI 0), L, R)) : zS 11 d [zr (some g)] (I, L, R) Q := by
  obtain ⟨k0, p0, p1, p2, p3, p4, k1, k2, k3, k4, k5, k6, k7⟩ := hL
  have e0 : (zcn 0).toNatClampNeg = 0 := by decide
  have e1 : (zcn 1).toNatClampNeg = 1 := by decide
  refine zW.gr [] rfl rfl rfl hd ?_ trivial ?_
  · exact (by simp (disch := omega) only [true_or, or_true, eq_self, Option.some.injEq, Prod.mk.injEq, zall_0, zall_1, zall_2, zob_iff, zar_iff, zis_iff, zkIs_some, zkHas_some, iI_vp, z01_I, z01_bz, zch_I, true_and, and_true, or_false, false_or, and_self, upI_same, upL_same, upI_ne, upL_ne, iI_ixN, zI_mk, zL_mk, zP_mk, zK_mk, zN_mk, zwI_up, zwL_up, zg_some, Nat.reduceMod, Nat.reduceDiv, zcn_I, iI_add, iI_sub, iI_mul, iI_neg, iI_lt, iI_le, iI_eq, iI_lt0, iI_le0, iI_gt0, iI_ge0, iI_eq0, k0, p3, k4] <;> omega)
  · simp only [upI_same, upL_same, upI_ne, upL_ne, iI_ixN, zI_mk, zL_mk, zP_mk, zK_mk, zN_mk, zwI_up, zwL_up, zg_some, Nat.reduceMod, Nat.reduceDiv, p3, e0, e1, zcn_I]
    exact hQ
theorem forget_ok (hd : 2 ≤ d) (hL : GL g R) (hQ : Q (.inl none) (upI (upI (upI I g 8 (iI 0)) (g + 15) 0 (iI 0)) (g + 15) 1 (iI 0), L, R)) : zS 10 d [zr (some g)] (I, L, R) Q := by
  have hL' := hL
  obtain ⟨k0, p0, p1, p2, p3, p4, k1, k2, k3, k4, k5, k6, k7⟩ := hL'
  refine zW.gz [] rfl rfl rfl hd ?_ ?_ rfl rfl (Nat.le_refl _) (Nat.le_refl _) ?_
  · exact (by simp (disch := omega) only [true_or, or_true, eq_self, Option.some.injEq, Prod.mk.injEq, zall_0, zall_1, zall_2, zob_iff, zar_iff, zis_iff, zkIs_some, zkHas_some, iI_vp, z01_I, z01_bz, zch_I, true_and, and_true, or_false, false_or, and_self, upI_same, upL_same, upI_ne, upL_ne, iI_ixN, zI_mk, zL_mk, zP_mk, zK_mk, zN_mk, zwI_up, zwL_up, zg_some, Nat.reduceMod, Nat.reduceDiv, zcn_I, iI_add, iI_sub, iI_mul, iI_neg, iI_lt, iI_le, iI_eq, iI_lt0, iI_le0, iI_gt0, iI_ge0, iI_eq0, k0] <;> omega)
  · exact ⟨_, rfl, k0⟩
  · simp (disch := omega) only [upI_same, upL_same, upI_ne, upL_ne, iI_ixN, zI_mk, zL_mk, zP_mk, zK_mk, zN_mk, zwI_up, zwL_up, zg_some, Nat.reduceMod, Nat.reduceDiv, zcn_I, iI_add, iI_sub, iI_mul, iI_neg, iI_lt, iI_le, iI_eq, iI_lt0, iI_le0, iI_gt0, iI_ge0, iI_eq0, zcn_I]
    refine forgetD_ok (by omega) hL ?_
    exact zW.gr [] rfl rfl rfl (by omega) trivial trivial hQ
end GRAPH2
