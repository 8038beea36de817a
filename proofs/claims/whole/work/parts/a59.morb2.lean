/-! The model labels orbits. -/
def lbI (G : (Nat → Nat) → Prop) (tn : Nat → Nat → Nat) (ls l : Nat → Nat) (a q : Nat) : Prop := lbJ G l ∧ (∀ p, p < 10 → l p ≤ ls p) ∧ (∀ a' p, a' < a → p < 10 → l p ≤ ls (tn a' p)) ∧ ∀ p, p < q → l p ≤ ls (tn a p)
theorem lbI_s {n r : Nat} {tn : Nat → Nat → Nat} {col st : Nat → Nat} (hz : zOK n r tn col st) {ls l : Nat → Nat} {a q : Nat} (ha : a < 2 * r) (hq : q < 10) (h : lbI (zG r tn) tn ls l a q) : lbI (zG r tn) tn ls (fu l q (if l (tn a q) < l q then l (tn a q) else l q)) a (q + 1) := by
  obtain ⟨h1, h2, h3, h4⟩ := h
  have hG := zG_is hz
  have lt := (ztn_pm hz ha).1 q hq
  have hle : (if l (tn a q) < l q then l (tn a q) else l q) ≤ l q := by split <;> omega
  have hle2 : (if l (tn a q) < l q then l (tn a q) else l q) ≤ l (tn a q) := by split <;> omega
  have mono : ∀ p, fu l q (if l (tn a q) < l q then l (tn a q) else l q) p ≤ l p := fun p => by
    unfold fu
    by_cases c : p = q
    · rw [if_pos c, c]
      exact hle
    · rw [if_neg c]
      exact Nat.le_refl _
  refine ⟨fun p hp => ⟨Nat.le_trans (mono p) (h1 p hp).1, ?_⟩, fun p hp => Nat.le_trans (mono p) (h2 p hp), fun a' p q1 q2 => Nat.le_trans (mono p) (h3 a' p q1 q2), fun p hp => ?_⟩
  · unfold fu
    by_cases c : p = q
    · rw [if_pos c, c]
      split
      · exact orbR_tr hG ⟨tn a, zG_tn hz ha, rfl⟩ (h1 _ lt).2
      · exact (h1 q hq).2
    · rw [if_neg c]
      exact (h1 p hp).2
  · by_cases c : p = q
    · rw [c]
      have e : fu l q (if l (tn a q) < l q then l (tn a q) else l q) q = (if l (tn a q) < l q then l (tn a q) else l q) := if_pos rfl
      rw [e]
      exact Nat.le_trans hle2 (h2 _ lt)
    · exact Nat.le_trans (mono p) (h4 p (by omega))
section MORB2
variable {d y c s : Nat} {I : Nat → Nat → Int32} {L : Nat → Nat → Int64} {R : zRt} {Q : zO → zM → Prop}
theorem ob_in {i b n r x3 a : Nat} {tn : Nat → Nat → Nat} {col st ls : Nat → Nat} (hd : 1 ≤ d) (hM : ML y R) (hi : i < 4) (hz : zOK n r tn col st) (ha : a < 2 * r) (kb : R.2.1 b = some (20, 10)) (hb : y + 1941 ≤ b) (vn : I (y + 2) i = iI (n : Int)) (vt : ∀ a p, a < 2 * r → p < 10 → I (y + 6 + 9 * i + a) p = iI (tn a p : Int))
    (hQ : ∀ I' l x, (∀ e, e ≠ b → I' e = I e) → (∀ p, p < 10 → I' b p = iI (l p : Int)) → lbI (zG r tn) tn ls l (a + 1) 0 → zW 192 d c s 107 [some (zr (some y)), some (zi (iI (i : Int))), some (zr (some b)), some (zi (iI (x3 : Int))), some (zi (iI (a : Int))), some (zi x), none] [] (I', L, R) Q) :
    ∀ m q, q + m = n → ∀ (I1 : Nat → Nat → Int32) (l : Nat → Nat) (x : Int32), (∀ e, e ≠ b → I1 e = I e) → (∀ p, p < 10 → I1 b p = iI (l p : Int)) → lbI (zG r tn) tn ls l a q → x = iI (q : Int) → zW 192 d c s 65 [some (zr (some y)), some (zi (iI (i : Int))), some (zr (some b)), some (zi (iI (x3 : Int))), some (zi (iI (a : Int))), some (zi x), none] [] (I1, L, R) Q
  | 0, q, hq, I1, l, x, f1, f2, f3, e => by
    subst e
    have k0 : R.2.1 y = some (7, 0) := hM.1
    have hn := hz.2.1
    have vn1 : I1 (y + 2) i = iI (n : Int) := by rw [f1 _ (by omega)]; exact vn
    have p1 : R.1 y 1 = some (y + 2) := (hM.2.1 1 (by decide)).1; have k1 : R.2.1 (y + 2) = some (20, 4) := (hM.2.1 1 (by decide)).2
    obtain rfl : q = n := by omega
    refine zW.gbt [] rfl rfl rfl (by omega) (by simp (disch := omega) only [true_or, or_true, eq_self, Option.some.injEq, Prod.mk.injEq, zall_0, zall_1, zall_2, zob_iff, zar_iff, zis_iff, zkIs_some, zkHas_some, iI_vp, z01_I, z01_bz, zch_I, true_and, and_true, or_false, false_or, and_self, upI_same, upL_same, upI_ne, upL_ne, iI_ixN, zI_mk, zL_mk, zP_mk, zK_mk, zN_mk, zwI_up, zwL_up, zg_some, Nat.reduceMod, Nat.reduceDiv, zcn_I, iI_add, iI_sub, iI_mul, iI_neg, iI_lt, iI_le, iI_eq, iI_lt0, iI_le0, iI_gt0, iI_ge0, iI_eq0, k0, p1, k1] <;> omega) (by simp (disch := omega) only [eq_self, not_true_eq_false, not_false_eq_true, upI_same, upL_same, upI_ne, upL_ne, iI_ixN, zI_mk, zL_mk, zP_mk, zK_mk, zN_mk, zwI_up, zwL_up, zg_some, Nat.reduceMod, Nat.reduceDiv, zcn_I, iI_add, iI_sub, iI_mul, iI_neg, iI_lt, iI_le, iI_eq, iI_lt0, iI_le0, iI_gt0, iI_ge0, iI_eq0, p1, vn1] <;> omega) (hQ I1 l _ f1 f2 ?_)
    obtain ⟨h1, h2, h3, h4⟩ := f3
    refine ⟨h1, h2, fun a' p q1 q2 => ?_, fun p q => absurd q (Nat.not_lt_zero p)⟩
    by_cases e : a' = a
    · rw [e]
      by_cases c : p < q
      · exact h4 p c
      · rw [(hz.2.2.2.1 a ha).2.2 p (by omega)]
        exact h2 p q2
    · exact h3 a' p (by omega) q2
  | m + 1, q, hq, I1, l, x, f1, f2, f3, e => by
    subst e
    have k0 : R.2.1 y = some (7, 0) := hM.1
    have hn := hz.2.1
    have hr4 := hz.2.2.1
    have vn1 : I1 (y + 2) i = iI (n : Int) := by rw [f1 _ (by omega)]; exact vn
    have v1 : I1 (y + 6 + 9 * i + a) q = iI (tn a q : Int) := by rw [f1 _ (by omega)]; exact vt a q ha (by omega)
    have lt := (ztn_pm hz ha).1 q (by omega)
    have v2 := f2 q (by omega)
    have v3 := f2 (tn a q) lt
    have l1 := (f3.1 q (by omega)).1
    have l2 := (f3.1 (tn a q) lt).1
    have p1 : R.1 y 1 = some (y + 2) := (hM.2.1 1 (by decide)).1; have k1 : R.2.1 (y + 2) = some (20, 4) := (hM.2.1 1 (by decide)).2; have p3 : R.1 y 3 = some (y + 4) := (hM.2.1 3 (by decide)).1; have k3 : R.2.1 (y + 4) = some (26, 4) := (hM.2.1 3 (by decide)).2; have q3 : R.1 (y + 4) (i) = some (y + 5 + 9 * i) := (hM.2.2.1 (i) (by omega)).1.trans (congrArg some (by omega)); have j3 : R.2.1 (y + 5 + 9 * i) = some (25, 8) := (congrArg R.2.1 (by omega)).trans (hM.2.2.1 (i) (by omega)).2.1; have r3 : R.1 (y + 5 + 9 * i) (a) = some (y + 6 + 9 * i + a) := (congrFun (congrArg R.1 (show y + 5 + 9 * i = y + 4 + 1 + 9 * i by omega)) (a)).trans ((((hM.2.2.1 (i) (by omega)).2.2 (a) (by omega)).1).trans (congrArg some (by omega))); have s3 : R.2.1 (y + 6 + 9 * i + a) = some (20, 10) := (congrArg R.2.1 (by omega)).trans ((hM.2.2.1 (i) (by omega)).2.2 (a) (by omega)).2
    refine zW.gbf [] rfl rfl rfl (by omega) (by simp (disch := omega) only [true_or, or_true, eq_self, Option.some.injEq, Prod.mk.injEq, zall_0, zall_1, zall_2, zob_iff, zar_iff, zis_iff, zkIs_some, zkHas_some, iI_vp, z01_I, z01_bz, zch_I, true_and, and_true, or_false, false_or, and_self, upI_same, upL_same, upI_ne, upL_ne, iI_ixN, zI_mk, zL_mk, zP_mk, zK_mk, zN_mk, zwI_up, zwL_up, zg_some, Nat.reduceMod, Nat.reduceDiv, zcn_I, iI_add, iI_sub, iI_mul, iI_neg, iI_lt, iI_le, iI_eq, iI_lt0, iI_le0, iI_gt0, iI_ge0, iI_eq0, k0, p1, k1] <;> omega) (by simp (disch := omega) only [eq_self, not_true_eq_false, not_false_eq_true, upI_same, upL_same, upI_ne, upL_ne, iI_ixN, zI_mk, zL_mk, zP_mk, zK_mk, zN_mk, zwI_up, zwL_up, zg_some, Nat.reduceMod, Nat.reduceDiv, zcn_I, iI_add, iI_sub, iI_mul, iI_neg, iI_lt, iI_le, iI_eq, iI_lt0, iI_le0, iI_gt0, iI_ge0, iI_eq0, p1, vn1] <;> omega) ?_
    refine zW.go [65] rfl (by omega) (by simp (disch := omega) only [true_or, or_true, eq_self, Option.some.injEq, Prod.mk.injEq, zall_0, zall_1, zall_2, zob_iff, zar_iff, zis_iff, zkIs_some, zkHas_some, iI_vp, z01_I, z01_bz, zch_I, true_and, and_true, or_false, false_or, and_self, upI_same, upL_same, upI_ne, upL_ne, iI_ixN, zI_mk, zL_mk, zP_mk, zK_mk, zN_mk, zwI_up, zwL_up, zg_some, Nat.reduceMod, Nat.reduceDiv, zcn_I, iI_add, iI_sub, iI_mul, iI_neg, iI_lt, iI_le, iI_eq, iI_lt0, iI_le0, iI_gt0, iI_ge0, iI_eq0, k0, p3, k3, q3, j3, r3, s3, kb, v1] <;> omega) ?_
    simp (disch := omega) only [upI_same, upL_same, upI_ne, upL_ne, iI_ixN, zI_mk, zL_mk, zP_mk, zK_mk, zN_mk, zwI_up, zwL_up, zg_some, Nat.reduceMod, Nat.reduceDiv, p3, q3, r3, v1, v2, v3]
    rw [iI_min (by omega) (by omega) (by omega) (by omega)]
    refine ob_in hd hM hi hz ha kb hb vn vt hQ m (q + 1) (by omega) _ (fu l q (if l (tn a q) < l q then l (tn a q) else l q)) _ (fun e he => (upI_row he).trans (f1 e he)) (fun p hp => ?_) (lbI_s hz ha (by omega) f3) (by rw [zcn_I, iI_add]; rfl)
    unfold fu
    by_cases e : p = q
    · rw [e, upI_same, if_pos rfl]
      exact iI_cg (by split <;> split <;> omega)
    · rw [upI_ne (by omega), if_neg e]
      exact f2 p hp
theorem ob_tn {i b n r x3 : Nat} {tn : Nat → Nat → Nat} {col st ls : Nat → Nat} (hd : 1 ≤ d) (hM : ML y R) (hi : i < 4) (hz : zOK n r tn col st) (kb : R.2.1 b = some (20, 10)) (hb : y + 1941 ≤ b) (vn : I (y + 2) i = iI (n : Int)) (vr : I (y + 3) i = iI (r : Int)) (vt : ∀ a p, a < 2 * r → p < 10 → I (y + 6 + 9 * i + a) p = iI (tn a p : Int))
    (hQ : ∀ I' l x v, (∀ e, e ≠ b → I' e = I e) → (∀ p, p < 10 → I' b p = iI (l p : Int)) → lbI (zG r tn) tn ls l (2 * r) 0 → zW 192 d c s 113 [some (zr (some y)), some (zi (iI (i : Int))), some (zr (some b)), some (zi (iI (x3 : Int))), some (zi x), v, none] [] (I', L, R) Q) :
    ∀ m a, a + m = 2 * r → ∀ (I1 : Nat → Nat → Int32) (l : Nat → Nat) (x : Int32) (v5 : Option zV), (∀ e, e ≠ b → I1 e = I e) → (∀ p, p < 10 → I1 b p = iI (l p : Int)) → lbI (zG r tn) tn ls l a 0 → x = iI (a : Int) → zW 192 d c s 49 [some (zr (some y)), some (zi (iI (i : Int))), some (zr (some b)), some (zi (iI (x3 : Int))), some (zi x), v5, none] [] (I1, L, R) Q
  | 0, a, ha, I1, l, x, v5, f1, f2, f3, e => by
    subst e
    have k0 : R.2.1 y = some (7, 0) := hM.1
    have hr4 := hz.2.2.1
    have vr1 : I1 (y + 3) i = iI (r : Int) := by rw [f1 _ (by omega)]; exact vr
    have p2 : R.1 y 2 = some (y + 3) := (hM.2.1 2 (by decide)).1; have k2 : R.2.1 (y + 3) = some (20, 4) := (hM.2.1 2 (by decide)).2
    obtain rfl : a = 2 * r := by omega
    exact zW.gbt [] rfl rfl rfl (by omega) (by simp (disch := omega) only [true_or, or_true, eq_self, Option.some.injEq, Prod.mk.injEq, zall_0, zall_1, zall_2, zob_iff, zar_iff, zis_iff, zkIs_some, zkHas_some, iI_vp, z01_I, z01_bz, zch_I, true_and, and_true, or_false, false_or, and_self, upI_same, upL_same, upI_ne, upL_ne, iI_ixN, zI_mk, zL_mk, zP_mk, zK_mk, zN_mk, zwI_up, zwL_up, zg_some, Nat.reduceMod, Nat.reduceDiv, zcn_I, iI_add, iI_sub, iI_mul, iI_neg, iI_lt, iI_le, iI_eq, iI_lt0, iI_le0, iI_gt0, iI_ge0, iI_eq0, k0, p2, k2] <;> omega) (by simp (disch := omega) only [eq_self, not_true_eq_false, not_false_eq_true, upI_same, upL_same, upI_ne, upL_ne, iI_ixN, zI_mk, zL_mk, zP_mk, zK_mk, zN_mk, zwI_up, zwL_up, zg_some, Nat.reduceMod, Nat.reduceDiv, zcn_I, iI_add, iI_sub, iI_mul, iI_neg, iI_lt, iI_le, iI_eq, iI_lt0, iI_le0, iI_gt0, iI_ge0, iI_eq0, p2, vr1] <;> omega) (hQ I1 l _ _ f1 f2 f3)
  | m + 1, a, ha, I1, l, x, v5, f1, f2, f3, e => by
    subst e
    have k0 : R.2.1 y = some (7, 0) := hM.1
    have hr4 := hz.2.2.1
    have vr1 : I1 (y + 3) i = iI (r : Int) := by rw [f1 _ (by omega)]; exact vr
    have p2 : R.1 y 2 = some (y + 3) := (hM.2.1 2 (by decide)).1; have k2 : R.2.1 (y + 3) = some (20, 4) := (hM.2.1 2 (by decide)).2
    refine zW.gbf [] rfl rfl rfl (by omega) (by simp (disch := omega) only [true_or, or_true, eq_self, Option.some.injEq, Prod.mk.injEq, zall_0, zall_1, zall_2, zob_iff, zar_iff, zis_iff, zkIs_some, zkHas_some, iI_vp, z01_I, z01_bz, zch_I, true_and, and_true, or_false, false_or, and_self, upI_same, upL_same, upI_ne, upL_ne, iI_ixN, zI_mk, zL_mk, zP_mk, zK_mk, zN_mk, zwI_up, zwL_up, zg_some, Nat.reduceMod, Nat.reduceDiv, zcn_I, iI_add, iI_sub, iI_mul, iI_neg, iI_lt, iI_le, iI_eq, iI_lt0, iI_le0, iI_gt0, iI_ge0, iI_eq0, k0, p2, k2] <;> omega) (by simp (disch := omega) only [eq_self, not_true_eq_false, not_false_eq_true, upI_same, upL_same, upI_ne, upL_ne, iI_ixN, zI_mk, zL_mk, zP_mk, zK_mk, zN_mk, zwI_up, zwL_up, zg_some, Nat.reduceMod, Nat.reduceDiv, zcn_I, iI_add, iI_sub, iI_mul, iI_neg, iI_lt, iI_le, iI_eq, iI_lt0, iI_le0, iI_gt0, iI_ge0, iI_eq0, p2, vr1] <;> omega) ?_
    refine zW.go [65] rfl (by omega) trivial ?_
    refine ob_in (I := I) hd hM hi hz (show a < 2 * r by omega) kb hb vn vt (fun I2 l2 x2 g1 g2 g3 => ?_) n 0 (Nat.zero_add _) I1 l _ f1 f2 f3 (zcn_I _)
    refine zW.go [49] rfl (by omega) trivial ?_
    exact ob_tn hd hM hi hz kb hb vn vr vt hQ m (a + 1) (by omega) I2 l2 _ _ g1 g2 g3 (by rw [zcn_I, iI_add]; rfl)
theorem ob_rd {i b n r : Nat} {tn : Nat → Nat → Nat} {col st : Nat → Nat} (hd : 1 ≤ d) (hM : ML y R) (hi : i < 4) (hz : zOK n r tn col st) (kb : R.2.1 b = some (20, 10)) (hb : y + 1941 ≤ b) (vn : I (y + 2) i = iI (n : Int)) (vr : I (y + 3) i = iI (r : Int)) (vt : ∀ a p, a < 2 * r → p < 10 → I (y + 6 + 9 * i + a) p = iI (tn a p : Int))
    (hQ : ∀ I' l u v, (∀ e, e ≠ b → I' e = I e) → (∀ p, p < 10 → I' b p = iI (l p : Int)) → lbJ (zG r tn) l → lbP (zG r tn) 10 l → zW 192 d c s 119 [some (zr (some y)), some (zi (iI (i : Int))), some (zr (some b)), some (zi (iI 10)), u, v, none] [] (I', L, R) Q) :
    ∀ m k, k + m = 10 → ∀ (I1 : Nat → Nat → Int32) (l : Nat → Nat) (x : Int32) (v4 v5 : Option zV), (∀ e, e ≠ b → I1 e = I e) → (∀ p, p < 10 → I1 b p = iI (l p : Int)) → lbJ (zG r tn) l → lbP (zG r tn) k l → x = iI (k : Int) → zW 192 d c s 40 [some (zr (some y)), some (zi (iI (i : Int))), some (zr (some b)), some (zi x), v4, v5, none] [] (I1, L, R) Q
  | 0, k, hk, I1, l, x, v4, v5, f1, f2, f3, f4, e => by
    subst e
    obtain rfl : k = 10 := by omega
    exact zW.gbt [] rfl rfl rfl (by omega) trivial (by simp (disch := omega) only [eq_self, not_true_eq_false, not_false_eq_true, upI_same, upL_same, upI_ne, upL_ne, iI_ixN, zI_mk, zL_mk, zP_mk, zK_mk, zN_mk, zwI_up, zwL_up, zg_some, Nat.reduceMod, Nat.reduceDiv, zcn_I, iI_add, iI_sub, iI_mul, iI_neg, iI_lt, iI_le, iI_eq, iI_lt0, iI_le0, iI_gt0, iI_ge0, iI_eq0] <;> omega) (hQ I1 l _ _ f1 f2 f3 f4)
  | m + 1, k, hk, I1, l, x, v4, v5, f1, f2, f3, f4, e => by
    subst e
    refine zW.gbf [] rfl rfl rfl (by omega) trivial (by simp (disch := omega) only [eq_self, not_true_eq_false, not_false_eq_true, upI_same, upL_same, upI_ne, upL_ne, iI_ixN, zI_mk, zL_mk, zP_mk, zK_mk, zN_mk, zwI_up, zwL_up, zg_some, Nat.reduceMod, Nat.reduceDiv, zcn_I, iI_add, iI_sub, iI_mul, iI_neg, iI_lt, iI_le, iI_eq, iI_lt0, iI_le0, iI_gt0, iI_ge0, iI_eq0] <;> omega) ?_
    refine zW.go [49] rfl (by omega) trivial ?_
    refine ob_tn (I := I) (ls := l) hd hM hi hz kb hb vn vr vt (fun I2 l2 x2 v2 g1 g2 g3 => ?_) (2 * r) 0 (Nat.zero_add _) I1 l _ _ f1 f2 ⟨f3, fun p _ => Nat.le_refl _, fun a' p q _ => absurd q (Nat.not_lt_zero a'), fun p q => absurd q (Nat.not_lt_zero p)⟩ (zcn_I _)
    refine zW.go [40] rfl (by omega) trivial ?_
    exact ob_rd hd hM hi hz kb hb vn vr vt hQ m (k + 1) (by omega) I2 l2 _ _ _ g1 g2 g3.1 (lbP_s hz f4 f3 g3.1 g3.2.1 g3.2.2.1) (by rw [zcn_I, iI_add]; rfl)
end MORB2
