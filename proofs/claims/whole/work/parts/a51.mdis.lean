/-! The model's distances: breadth first. -/
def bMm (y : Nat) (I : Nat → Nat → Int32) (sz : Nat) (b : bSt) : Prop := (∀ s, s < sz → I (y + 1779) s = iI (b.1 s)) ∧ hl (I (y + 1780)) b.2
def bfr (y : Nat) (I I' : Nat → Nat → Int32) : Prop := ∀ a, a ≠ y + 1779 → a ≠ y + 1780 → I' a = I a
theorem bMm_R {y sz s : Nat} {v : Int} {I : Nat → Nat → Int32} {b : bSt} (h : bMm y I sz b) (hn : b.1 s < 0) : bMm y (upI (upI I (y + 1779) s (iI v)) (y + 1780) b.2.length (iI (s : Int))) sz (bR s v b) := by
  unfold bR
  rw [if_pos hn]
  refine ⟨fun t ht => ?_, ?_⟩
  · rw [upI_row (by omega)]
    show _ = iI (if t = s then v else b.1 t)
    by_cases q : t = s
    · rw [if_pos q, q, upI_same]
    · rw [if_neg q, upI_ne (by omega)]
      exact h.1 t ht
  · exact hl_snoc (I := upI I (y + 1779) s (iI v)) (by rw [upI_row (by omega)]; exact h.2)
theorem bR_len {s : Nat} {v : Int} {b : bSt} (hn : b.1 s < 0) : (bR s v b).2.length = b.2.length + 1 := by
  unfold bR
  rw [if_pos hn]
  show (b.2 ++ [s]).length = _
  rw [List.length_append]
  rfl
theorem bR_no {s : Nat} {v : Int} {b : bSt} (hn : ¬ b.1 s < 0) : bR s v b = b := if_neg hn
section MDIS
variable {d y : Nat} {T : tfT} {I : Nat → Nat → Int32} {L : Nat → Nat → Int64} {R : zRt} {Q : zO → zM → Prop}
theorem dis_in {i sz ac f a iq mm : Nat} {c : Int32} {nx : Nat → Nat → Nat} {B : bSt} (hd : 2 ≤ d) (hM : ML y R) (h8 : sz ≤ 800) (hac : ac ≤ 8) (hnx : ∀ a s, a < ac → s < sz → nx a s < sz) (vx : ∀ s a, s < sz → a < ac → I (y + 979 + s) a = iI (nx a s : Int)) (ha : a < ac) (hmm : mm ≤ 800)
    (hQ : ∀ I' u v, bfr y I I' → bMm y I' sz B → zW 198 d 0 0 209 [some (zr (some y)), some (zi (iI (i : Int))), some (zi c), some (zi (iI (sz : Int))), some (zi (iI (B.2.length : Int))), some (zi (iI (iq : Int))), some (zi (iI (f : Int))), some (zi (iI (a : Int))), some (zi u), some (zi (iI (mm : Int))), some (zi v)] [] (I', L, R) Q) :
    ∀ n t, t + n = mm → ∀ (I1 : Nat → Nat → Int32) (to : Nat) (b : bSt) (x4 x8 x10 : Int32), bfr y I I1 → bMm y I1 sz b → bI sz b → iq < b.2.length → nth b.2 iq = f → to < sz → bW (nx a) f n to b = B → x4 = iI (b.2.length : Int) → x8 = iI (to : Int) → x10 = iI (t : Int) →
      zW 198 d 0 0 139 [some (zr (some y)), some (zi (iI (i : Int))), some (zi c), some (zi (iI (sz : Int))), some (zi x4), some (zi (iI (iq : Int))), some (zi (iI (f : Int))), some (zi (iI (a : Int))), some (zi x8), some (zi (iI (mm : Int))), some (zi x10)] [] (I1, L, R) Q
  | 0, t, ht, I1, to, b, x4, x8, x10, r1, r2, hb, hi, hf, hto, hB, e4, e8, e10 => by
    subst e4; subst e8; subst e10
    have hB : b = B := hB
    subst hB
    exact zW.gbt [] rfl rfl rfl (by omega) trivial (by simp (disch := omega) only [eq_self, not_true_eq_false, not_false_eq_true, upI_same, upL_same, upI_ne, upL_ne, iI_ixN, zI_mk, zL_mk, zP_mk, zK_mk, zN_mk, zwI_up, zwL_up, zg_some, Nat.reduceMod, Nat.reduceDiv, zcn_I, iI_add, iI_sub, iI_mul, iI_neg, iI_lt, iI_le, iI_eq, iI_lt0, iI_le0, iI_gt0, iI_ge0, iI_eq0] <;> omega) (hQ I1 _ _ r1 r2)
  | n + 1, t, ht, I1, to, b, x4, x8, x10, r1, r2, hb, hi, hf, hto, hB, e4, e8, e10 => by
    subst e4; subst e8; subst e10
    have k0 : R.2.1 y = some (7, 0) := hM.1
    have hfs : f < sz := by
      have := (hb.2.1 iq hi).1
      rwa [hf] at this
    obtain ⟨a1, a2, a3⟩ := hb.2.1 iq hi
    rw [hf] at a2 a3
    have hle := bI_le hb
    have rg := bI_rg hb hto
    have m1 := r2.1 to hto
    have m2 := r2.1 f hfs
    have p13 : R.1 y 13 = some (y + 978) := (hM.2.1 13 (by decide)).1; have k13 : R.2.1 (y + 978) = some (25, 800) := (hM.2.1 13 (by decide)).2; have q13 : R.1 (y + 978) (to) = some (y + 979 + to) := (hM.2.2.2.2.2.2.2.2.1 (to) (by omega)).1.trans (congrArg some (by omega)); have j13 : R.2.1 (y + 979 + to) = some (20, 8) := (congrArg R.2.1 (by omega)).trans (hM.2.2.2.2.2.2.2.2.1 (to) (by omega)).2; have p14 : R.1 y 14 = some (y + 1779) := (hM.2.1 14 (by decide)).1; have k14 : R.2.1 (y + 1779) = some (20, 800) := (hM.2.1 14 (by decide)).2; have p15 : R.1 y 15 = some (y + 1780) := (hM.2.1 15 (by decide)).1; have k15 : R.2.1 (y + 1780) = some (20, 800) := (hM.2.1 15 (by decide)).2
    refine zW.gbf [] rfl rfl rfl (by omega) trivial (by simp (disch := omega) only [eq_self, not_true_eq_false, not_false_eq_true, upI_same, upL_same, upI_ne, upL_ne, iI_ixN, zI_mk, zL_mk, zP_mk, zK_mk, zN_mk, zwI_up, zwL_up, zg_some, Nat.reduceMod, Nat.reduceDiv, zcn_I, iI_add, iI_sub, iI_mul, iI_neg, iI_lt, iI_le, iI_eq, iI_lt0, iI_le0, iI_gt0, iI_ge0, iI_eq0] <;> omega) ?_
    by_cases hf2 : to = f
    · have e : bW (nx a) f (n + 1) to b = b := if_pos hf2
      rw [e] at hB
      subst hB
      exact zW.gbt [] rfl rfl rfl (by omega) trivial (by simp (disch := omega) only [eq_self, not_true_eq_false, not_false_eq_true, upI_same, upL_same, upI_ne, upL_ne, iI_ixN, zI_mk, zL_mk, zP_mk, zK_mk, zN_mk, zwI_up, zwL_up, zg_some, Nat.reduceMod, Nat.reduceDiv, zcn_I, iI_add, iI_sub, iI_mul, iI_neg, iI_lt, iI_le, iI_eq, iI_lt0, iI_le0, iI_gt0, iI_ge0, iI_eq0] <;> omega) (hQ I1 _ _ r1 r2)
    · have hB' : bW (nx a) f n (nx a to) (bR to (b.1 f + 1) b) = B := by
        rw [← hB]
        exact (if_neg hf2).symm
      refine zW.gbf [] rfl rfl rfl (by omega) trivial (by simp (disch := omega) only [eq_self, not_true_eq_false, not_false_eq_true, upI_same, upL_same, upI_ne, upL_ne, iI_ixN, zI_mk, zL_mk, zP_mk, zK_mk, zN_mk, zwI_up, zwL_up, zg_some, Nat.reduceMod, Nat.reduceDiv, zcn_I, iI_add, iI_sub, iI_mul, iI_neg, iI_lt, iI_le, iI_eq, iI_lt0, iI_le0, iI_gt0, iI_ge0, iI_eq0] <;> omega) ?_
      have GO : ∀ (I2 : Nat → Nat → Int32) (x4 : Int32), bfr y I I2 → bMm y I2 sz (bR to (b.1 f + 1) b) → x4 = iI ((bR to (b.1 f + 1) b).2.length : Int) → zW 198 d 0 0 191 [some (zr (some y)), some (zi (iI (i : Int))), some (zi c), some (zi (iI (sz : Int))), some (zi x4), some (zi (iI (iq : Int))), some (zi (iI (f : Int))), some (zi (iI (a : Int))), some (zi (iI (to : Int))), some (zi (iI (mm : Int))), some (zi (iI (t : Int)))] [] (I2, L, R) Q := fun I2 x4 q1 q2 q3 => by
        have v1 : I2 (y + 979 + to) a = iI (nx a to : Int) := by rw [q1 _ (by omega) (by omega)]; exact vx to a hto ha
        have hle2 := bR_le to (b.1 f + 1) b
        refine zW.go [139] rfl (by omega) (by simp (disch := omega) only [true_or, or_true, eq_self, Option.some.injEq, Prod.mk.injEq, zall_0, zall_1, zall_2, zob_iff, zar_iff, zis_iff, zkIs_some, zkHas_some, iI_vp, z01_I, z01_bz, zch_I, true_and, and_true, or_false, false_or, and_self, upI_same, upL_same, upI_ne, upL_ne, iI_ixN, zI_mk, zL_mk, zP_mk, zK_mk, zN_mk, zwI_up, zwL_up, zg_some, Nat.reduceMod, Nat.reduceDiv, zcn_I, iI_add, iI_sub, iI_mul, iI_neg, iI_lt, iI_le, iI_eq, iI_lt0, iI_le0, iI_gt0, iI_ge0, iI_eq0, k0, p13, k13, q13, j13] <;> omega) ?_
        simp (disch := omega) only [upI_same, upL_same, upI_ne, upL_ne, iI_ixN, zI_mk, zL_mk, zP_mk, zK_mk, zN_mk, zwI_up, zwL_up, zg_some, Nat.reduceMod, Nat.reduceDiv, p13, q13, v1]
        exact dis_in hd hM h8 hac hnx vx ha hmm hQ n (t + 1) (by omega) I2 (nx a to) (bR to (b.1 f + 1) b) _ _ _ q1 q2 (bR_I hb hto (by omega) (by omega)) (by have := bLe_len hle2; omega) (by rw [bLe_nth hle2 hi, hf]) (hnx a to ha hto) hB' q3 rfl (by rw [zcn_I, iI_add]; rfl)
      by_cases hn : b.1 to < 0
      · have hlt := bI_lt hb hto hn
        refine zW.gbf [] rfl rfl rfl (by omega) (by simp (disch := omega) only [true_or, or_true, eq_self, Option.some.injEq, Prod.mk.injEq, zall_0, zall_1, zall_2, zob_iff, zar_iff, zis_iff, zkIs_some, zkHas_some, iI_vp, z01_I, z01_bz, zch_I, true_and, and_true, or_false, false_or, and_self, upI_same, upL_same, upI_ne, upL_ne, iI_ixN, zI_mk, zL_mk, zP_mk, zK_mk, zN_mk, zwI_up, zwL_up, zg_some, Nat.reduceMod, Nat.reduceDiv, zcn_I, iI_add, iI_sub, iI_mul, iI_neg, iI_lt, iI_le, iI_eq, iI_lt0, iI_le0, iI_gt0, iI_ge0, iI_eq0, k0, p14, k14] <;> omega) (by simp (disch := omega) only [eq_self, not_true_eq_false, not_false_eq_true, upI_same, upL_same, upI_ne, upL_ne, iI_ixN, zI_mk, zL_mk, zP_mk, zK_mk, zN_mk, zwI_up, zwL_up, zg_some, Nat.reduceMod, Nat.reduceDiv, zcn_I, iI_add, iI_sub, iI_mul, iI_neg, iI_lt, iI_le, iI_eq, iI_lt0, iI_le0, iI_gt0, iI_ge0, iI_eq0, p14, m1] <;> omega) ?_
        refine zW.go [191] rfl (by omega) ?_ ?_
        · simp (disch := omega) only [true_or, or_true, eq_self, Option.some.injEq, Prod.mk.injEq, zall_0, zall_1, zall_2, zob_iff, zar_iff, zis_iff, zkIs_some, zkHas_some, iI_vp, z01_I, z01_bz, zch_I, true_and, and_true, or_false, false_or, and_self, upI_same, upL_same, upI_ne, upL_ne, iI_ixN, zI_mk, zL_mk, zP_mk, zK_mk, zN_mk, zwI_up, zwL_up, zg_some, Nat.reduceMod, Nat.reduceDiv, zcn_I, iI_add, iI_sub, iI_mul, iI_neg, iI_lt, iI_le, iI_eq, iI_lt0, iI_le0, iI_gt0, iI_ge0, iI_eq0, k0, p14, k14, p15, k15]
          omega
        simp (disch := omega) only [upI_same, upL_same, upI_ne, upL_ne, iI_ixN, zI_mk, zL_mk, zP_mk, zK_mk, zN_mk, zwI_up, zwL_up, zg_some, Nat.reduceMod, Nat.reduceDiv, zcn_I, iI_add, iI_sub, iI_mul, iI_neg, iI_lt, iI_le, iI_eq, iI_lt0, iI_le0, iI_gt0, iI_ge0, iI_eq0, p14, p15, m2]
        refine GO _ _ (fun q q1 q2 => by rw [upI_row q2, upI_row q1]; exact r1 q q1 q2) (bMm_R r2 hn) ?_
        rw [bR_len hn]
        exact iI_cg (by omega)
      · refine zW.gbt [] rfl rfl rfl (by omega) (by simp (disch := omega) only [true_or, or_true, eq_self, Option.some.injEq, Prod.mk.injEq, zall_0, zall_1, zall_2, zob_iff, zar_iff, zis_iff, zkIs_some, zkHas_some, iI_vp, z01_I, z01_bz, zch_I, true_and, and_true, or_false, false_or, and_self, upI_same, upL_same, upI_ne, upL_ne, iI_ixN, zI_mk, zL_mk, zP_mk, zK_mk, zN_mk, zwI_up, zwL_up, zg_some, Nat.reduceMod, Nat.reduceDiv, zcn_I, iI_add, iI_sub, iI_mul, iI_neg, iI_lt, iI_le, iI_eq, iI_lt0, iI_le0, iI_gt0, iI_ge0, iI_eq0, k0, p14, k14] <;> omega) (by simp (disch := omega) only [eq_self, not_true_eq_false, not_false_eq_true, upI_same, upL_same, upI_ne, upL_ne, iI_ixN, zI_mk, zL_mk, zP_mk, zK_mk, zN_mk, zwI_up, zwL_up, zg_some, Nat.reduceMod, Nat.reduceDiv, zcn_I, iI_add, iI_sub, iI_mul, iI_neg, iI_lt, iI_le, iI_eq, iI_lt0, iI_le0, iI_gt0, iI_ge0, iI_eq0, p14, m1] <;> omega) ?_
        refine GO I1 _ r1 ?_ ?_
        · rw [bR_no hn]
          exact r2
        · rw [bR_no hn]
theorem dis_mid {i sz r f iq mm : Nat} {c : Int} {nx : Nat → Nat → Nat} {b0 : bSt} (hd : 2 ≤ d) (hM : ML y R) (hi4 : i < 4) (h8 : sz ≤ 800) (hr : r ≤ 4) (hnx : ∀ a s, a < 2 * r → s < sz → nx a s < sz) (vr : I (y + 3) i = iI (r : Int)) (vx : ∀ s a, s < sz → a < 2 * r → I (y + 979 + s) a = iI (nx a s : Int)) (hc : c = 113 ∨ c = 116) (hmm : mm = if c = 113 then 1 else 800) (hb0 : bI sz b0) (hi0 : iq < b0.2.length) (hf0 : nth b0.2 iq = f)
    (hQ : ∀ I' x v8 v9 v10, bfr y I I' → bMm y I' sz (bA nx mm f (2 * r) b0) → zW 198 d 0 0 215 [some (zr (some y)), some (zi (iI (i : Int))), some (zi (iI c)), some (zi (iI (sz : Int))), some (zi (iI ((bA nx mm f (2 * r) b0).2.length : Int))), some (zi (iI (iq : Int))), some (zi (iI (f : Int))), some (zi x), v8, v9, v10] [] (I', L, R) Q) :
    ∀ n a, a + n = 2 * r → ∀ (I1 : Nat → Nat → Int32) (x4 x7 : Int32) (v8 v9 v10 : Option zV), bfr y I I1 → bMm y I1 sz (bA nx mm f a b0) → x4 = iI ((bA nx mm f a b0).2.length : Int) → x7 = iI (a : Int) →
      zW 198 d 0 0 96 [some (zr (some y)), some (zi (iI (i : Int))), some (zi (iI c)), some (zi (iI (sz : Int))), some (zi x4), some (zi (iI (iq : Int))), some (zi (iI (f : Int))), some (zi x7), v8, v9, v10] [] (I1, L, R) Q
  | 0, a, ha, I1, x4, x7, v8, v9, v10, r1, r2, e4, e7 => by
    subst e4; subst e7
    have k0 : R.2.1 y = some (7, 0) := hM.1
    have vr1 : I1 (y + 3) i = iI (r : Int) := by rw [r1 _ (by omega) (by omega)]; exact vr
    have p2 : R.1 y 2 = some (y + 3) := (hM.2.1 2 (by decide)).1; have k2 : R.2.1 (y + 3) = some (20, 4) := (hM.2.1 2 (by decide)).2
    obtain rfl : a = 2 * r := by omega
    exact zW.gbt [] rfl rfl rfl (by omega) (by simp (disch := omega) only [true_or, or_true, eq_self, Option.some.injEq, Prod.mk.injEq, zall_0, zall_1, zall_2, zob_iff, zar_iff, zis_iff, zkIs_some, zkHas_some, iI_vp, z01_I, z01_bz, zch_I, true_and, and_true, or_false, false_or, and_self, upI_same, upL_same, upI_ne, upL_ne, iI_ixN, zI_mk, zL_mk, zP_mk, zK_mk, zN_mk, zwI_up, zwL_up, zg_some, Nat.reduceMod, Nat.reduceDiv, zcn_I, iI_add, iI_sub, iI_mul, iI_neg, iI_lt, iI_le, iI_eq, iI_lt0, iI_le0, iI_gt0, iI_ge0, iI_eq0, k0, p2, k2] <;> omega) (by simp (disch := omega) only [eq_self, not_true_eq_false, not_false_eq_true, upI_same, upL_same, upI_ne, upL_ne, iI_ixN, zI_mk, zL_mk, zP_mk, zK_mk, zN_mk, zwI_up, zwL_up, zg_some, Nat.reduceMod, Nat.reduceDiv, zcn_I, iI_add, iI_sub, iI_mul, iI_neg, iI_lt, iI_le, iI_eq, iI_lt0, iI_le0, iI_gt0, iI_ge0, iI_eq0, p2, vr1] <;> omega) (hQ I1 _ _ _ _ r1 r2)
  | n + 1, a, ha, I1, x4, x7, v8, v9, v10, r1, r2, e4, e7 => by
    subst e4; subst e7
    have k0 : R.2.1 y = some (7, 0) := hM.1
    have vr1 : I1 (y + 3) i = iI (r : Int) := by rw [r1 _ (by omega) (by omega)]; exact vr
    have hfs : f < sz := by
      have := (hb0.2.1 iq hi0).1
      rwa [hf0] at this
    have v1 : I1 (y + 979 + f) a = iI (nx a f : Int) := by rw [r1 _ (by omega) (by omega)]; exact vx f a hfs (by omega)
    have hle := bA_le nx mm f a b0
    have hbi := bA_I (ac := 2 * r) (t := mm) hnx a b0 (by omega) hb0 hi0 hf0
    have p2 : R.1 y 2 = some (y + 3) := (hM.2.1 2 (by decide)).1; have k2 : R.2.1 (y + 3) = some (20, 4) := (hM.2.1 2 (by decide)).2; have p13 : R.1 y 13 = some (y + 978) := (hM.2.1 13 (by decide)).1; have k13 : R.2.1 (y + 978) = some (25, 800) := (hM.2.1 13 (by decide)).2; have q13 : R.1 (y + 978) (f) = some (y + 979 + f) := (hM.2.2.2.2.2.2.2.2.1 (f) (by omega)).1.trans (congrArg some (by omega)); have j13 : R.2.1 (y + 979 + f) = some (20, 8) := (congrArg R.2.1 (by omega)).trans (hM.2.2.2.2.2.2.2.2.1 (f) (by omega)).2
    have ST : ∀ u : Int32, u = iI (mm : Int) → zW 198 d 0 0 134 [some (zr (some y)), some (zi (iI (i : Int))), some (zi (iI c)), some (zi (iI (sz : Int))), some (zi (iI ((bA nx mm f a b0).2.length : Int))), some (zi (iI (iq : Int))), some (zi (iI (f : Int))), some (zi (iI (a : Int))), some (zi (iI (nx a f : Int))), v9, v10] [zi u] (I1, L, R) Q := fun u hu => by
      subst hu
      refine zW.go [139] rfl (by omega) trivial ?_
      refine dis_in (f := f) (a := a) (iq := iq) (B := bA nx mm f (a + 1) b0) (I := I) hd hM h8 (show 2 * r ≤ 8 by omega) hnx vx (by omega) (by rw [hmm]; split <;> decide) (fun I' u v q1 q2 => ?_) mm 0 (Nat.zero_add _) I1 (nx a f) (bA nx mm f a b0) _ _ _ r1 r2 hbi (by have := bLe_len hle; omega) (by rw [bLe_nth hle hi0, hf0]) (hnx a f (by omega) hfs) rfl rfl rfl (zcn_I _)
      refine zW.go [96] rfl (by omega) trivial ?_
      exact dis_mid hd hM hi4 h8 hr hnx vr vx hc hmm hb0 hi0 hf0 hQ n (a + 1) (by omega) I' _ _ _ _ _ q1 q2 rfl (by rw [zcn_I, iI_add]; rfl)
    refine zW.gbf [] rfl rfl rfl (by omega) (by simp (disch := omega) only [true_or, or_true, eq_self, Option.some.injEq, Prod.mk.injEq, zall_0, zall_1, zall_2, zob_iff, zar_iff, zis_iff, zkIs_some, zkHas_some, iI_vp, z01_I, z01_bz, zch_I, true_and, and_true, or_false, false_or, and_self, upI_same, upL_same, upI_ne, upL_ne, iI_ixN, zI_mk, zL_mk, zP_mk, zK_mk, zN_mk, zwI_up, zwL_up, zg_some, Nat.reduceMod, Nat.reduceDiv, zcn_I, iI_add, iI_sub, iI_mul, iI_neg, iI_lt, iI_le, iI_eq, iI_lt0, iI_le0, iI_gt0, iI_ge0, iI_eq0, k0, p2, k2] <;> omega) (by simp (disch := omega) only [eq_self, not_true_eq_false, not_false_eq_true, upI_same, upL_same, upI_ne, upL_ne, iI_ixN, zI_mk, zL_mk, zP_mk, zK_mk, zN_mk, zwI_up, zwL_up, zg_some, Nat.reduceMod, Nat.reduceDiv, zcn_I, iI_add, iI_sub, iI_mul, iI_neg, iI_lt, iI_le, iI_eq, iI_lt0, iI_le0, iI_gt0, iI_ge0, iI_eq0, p2, vr1] <;> omega) ?_
    refine zW.gb [] rfl rfl rfl (by omega) (by simp (disch := omega) only [true_or, or_true, eq_self, Option.some.injEq, Prod.mk.injEq, zall_0, zall_1, zall_2, zob_iff, zar_iff, zis_iff, zkIs_some, zkHas_some, iI_vp, z01_I, z01_bz, zch_I, true_and, and_true, or_false, false_or, and_self, upI_same, upL_same, upI_ne, upL_ne, iI_ixN, zI_mk, zL_mk, zP_mk, zK_mk, zN_mk, zwI_up, zwL_up, zg_some, Nat.reduceMod, Nat.reduceDiv, zcn_I, iI_add, iI_sub, iI_mul, iI_neg, iI_lt, iI_le, iI_eq, iI_lt0, iI_le0, iI_gt0, iI_ge0, iI_eq0, k0, p13, k13, q13, j13] <;> omega) (fun h' => ?_) (fun h' => ?_) <;> simp (disch := omega) only [zcn_I, iI_add, iI_sub, iI_mul, iI_neg, iI_lt, iI_le, iI_eq, iI_lt0, iI_le0, iI_gt0, iI_ge0, iI_eq0] at h' <;> simp (disch := omega) only [upI_same, upL_same, upI_ne, upL_ne, iI_ixN, zI_mk, zL_mk, zP_mk, zK_mk, zN_mk, zwI_up, zwL_up, zg_some, Nat.reduceMod, Nat.reduceDiv, p13, q13, v1]
    · refine zW.go [134] rfl (by omega) trivial (ST _ ?_)
      rw [hmm, if_neg h']
      exact zcn_I _
    · refine zW.go [134] rfl (by omega) trivial (ST _ ?_)
      rw [hmm, if_pos (by omega)]
      exact zcn_I _
end MDIS
