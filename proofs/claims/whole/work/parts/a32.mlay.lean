/-! The model's groups: the table laid anew. -/
section MLYI
variable {d y : Nat} {I : Nat → Nat → Int32} {L : Nat → Nat → Int64} {R : zRt} {Q : zO → zM → Prop}
theorem lay_in {i n k : Nat} (hd : 1 ≤ d) (hM : ML y R) (hk : k < 10)
    (hQ : ∀ I' x, (∀ a, a ≠ y + 52 + k → a ≠ y + 64 + 11 * k + k → I' a = I a) → (∀ b, b < 10 → I' (y + 52 + k) b = bz (decide (k = b))) → (∀ b : Nat, b < 10 → I' (y + 64 + 11 * k + k) b = iI (b : Int)) → zW 180 d 0 0 64 [some (zr (some y)), some (zi (iI (i : Int))), some (zi (iI (n : Int))), some (zi (iI (k : Int))), some (zi x), none, none] [] (I', L, R) Q) :
    ∀ m j, j + m = 10 → ∀ (I1 : Nat → Nat → Int32) (x : Int32), (∀ a, a ≠ y + 52 + k → a ≠ y + 64 + 11 * k + k → I1 a = I a) → (∀ b, b < j → I1 (y + 52 + k) b = bz (decide (k = b))) → (∀ b : Nat, b < j → I1 (y + 64 + 11 * k + k) b = iI (b : Int)) → x = iI (j : Int) → zW 180 d 0 0 18 [some (zr (some y)), some (zi (iI (i : Int))), some (zi (iI (n : Int))), some (zi (iI (k : Int))), some (zi x), none, none] [] (I1, L, R) Q
  | 0, j, hj, I1, x, f1, f2, f3, e => by
    subst e
    obtain rfl : j = 10 := by omega
    exact zW.gbt [] rfl rfl rfl (by omega) trivial (by simp (disch := omega) only [eq_self, not_true_eq_false, not_false_eq_true, upI_same, upL_same, upI_ne, upL_ne, iI_ixN, zI_mk, zL_mk, zP_mk, zK_mk, zN_mk, zwI_up, zwL_up, zg_some, Nat.reduceMod, Nat.reduceDiv, zcn_I, iI_add, iI_sub, iI_mul, iI_neg, iI_lt, iI_le, iI_eq, iI_lt0, iI_le0, iI_gt0, iI_ge0, iI_eq0] <;> omega) (hQ I1 _ f1 f2 f3)
  | m + 1, j, hj, I1, x, f1, f2, f3, e => by
    subst e
    have k0 : R.2.1 y = some (7, 0) := hM.1
    have p6 : R.1 y 6 = some (y + 51) := (hM.2.1 6 (by decide)).1; have k6 : R.2.1 (y + 51) = some (29, 10) := (hM.2.1 6 (by decide)).2; have q6 : R.1 (y + 51) (k) = some (y + 52 + k) := (hM.2.2.2.2.2.1 (k) (by omega)).1.trans (congrArg some (by omega)); have j6 : R.2.1 (y + 52 + k) = some (22, 10) := (congrArg R.2.1 (by omega)).trans (hM.2.2.2.2.2.1 (k) (by omega)).2; have p7 : R.1 y 7 = some (y + 62) := (hM.2.1 7 (by decide)).1; have k7 : R.2.1 (y + 62) = some (26, 10) := (hM.2.1 7 (by decide)).2; have q7 : R.1 (y + 62) (k) = some (y + 63 + 11 * k) := (hM.2.2.2.2.2.2.1 (k) (by omega)).1.trans (congrArg some (by omega)); have j7 : R.2.1 (y + 63 + 11 * k) = some (25, 10) := (congrArg R.2.1 (by omega)).trans (hM.2.2.2.2.2.2.1 (k) (by omega)).2.1; have r7 : R.1 (y + 63 + 11 * k) (k) = some (y + 64 + 11 * k + k) := (congrFun (congrArg R.1 (show y + 63 + 11 * k = y + 62 + 1 + 11 * k by omega)) (k)).trans ((((hM.2.2.2.2.2.2.1 (k) (by omega)).2.2 (k) (by omega)).1).trans (congrArg some (by omega))); have s7 : R.2.1 (y + 64 + 11 * k + k) = some (20, 10) := (congrArg R.2.1 (by omega)).trans ((hM.2.2.2.2.2.2.1 (k) (by omega)).2.2 (k) (by omega)).2
    have NX : ∀ (v : Int32), v = bz (decide (k = j)) → zW 180 d 0 0 44 [some (zr (some y)), some (zi (iI (i : Int))), some (zi (iI (n : Int))), some (zi (iI (k : Int))), some (zi (iI (j : Int))), none, none] [zi v, zi (iI (j : Int)), zr (some (y + 52 + k))] (I1, L, R) Q := fun v hv => by
      subst hv
      refine zW.go [18] rfl (by omega) (by simp (disch := omega) only [true_or, or_true, eq_self, Option.some.injEq, Prod.mk.injEq, zall_0, zall_1, zall_2, zob_iff, zar_iff, zis_iff, zkIs_some, zkHas_some, iI_vp, z01_I, z01_bz, zch_I, true_and, and_true, or_false, false_or, and_self, upI_same, upL_same, upI_ne, upL_ne, iI_ixN, zI_mk, zL_mk, zP_mk, zK_mk, zN_mk, zwI_up, zwL_up, zg_some, Nat.reduceMod, Nat.reduceDiv, zcn_I, iI_add, iI_sub, iI_mul, iI_neg, iI_lt, iI_le, iI_eq, iI_lt0, iI_le0, iI_gt0, iI_ge0, iI_eq0, k0, p6, k6, q6, j6, p7, k7, q7, j7, r7, s7] <;> omega) ?_
      simp (disch := omega) only [upI_same, upL_same, upI_ne, upL_ne, iI_ixN, zI_mk, zL_mk, zP_mk, zK_mk, zN_mk, zwI_up, zwL_up, zg_some, Nat.reduceMod, Nat.reduceDiv, zcn_I, iI_add, iI_sub, iI_mul, iI_neg, iI_lt, iI_le, iI_eq, iI_lt0, iI_le0, iI_gt0, iI_ge0, iI_eq0, p7, q7, r7]
      refine lay_in hd hM hk hQ m (j + 1) (by omega) _ _ (fun a q1 q2 => by rw [upI_row (by omega), upI_row (by omega)]; exact f1 a q1 q2) (fun b hb => ?_) (fun b hb => ?_) rfl
      · rw [upI_row (by omega)]
        by_cases q : b = j
        · rw [q, upI_same]
        · rw [upI_ne (by omega)]
          exact f2 b (by omega)
      · by_cases q : b = j
        · rw [q, upI_same]
        · rw [upI_ne (by omega), upI_row (by omega)]
          exact f3 b (by omega)
    refine zW.gbf [] rfl rfl rfl (by omega) trivial (by simp (disch := omega) only [eq_self, not_true_eq_false, not_false_eq_true, upI_same, upL_same, upI_ne, upL_ne, iI_ixN, zI_mk, zL_mk, zP_mk, zK_mk, zN_mk, zwI_up, zwL_up, zg_some, Nat.reduceMod, Nat.reduceDiv, zcn_I, iI_add, iI_sub, iI_mul, iI_neg, iI_lt, iI_le, iI_eq, iI_lt0, iI_le0, iI_gt0, iI_ge0, iI_eq0] <;> omega) ?_
    refine zW.gb [] rfl rfl rfl (by omega) (by simp (disch := omega) only [true_or, or_true, eq_self, Option.some.injEq, Prod.mk.injEq, zall_0, zall_1, zall_2, zob_iff, zar_iff, zis_iff, zkIs_some, zkHas_some, iI_vp, z01_I, z01_bz, zch_I, true_and, and_true, or_false, false_or, and_self, upI_same, upL_same, upI_ne, upL_ne, iI_ixN, zI_mk, zL_mk, zP_mk, zK_mk, zN_mk, zwI_up, zwL_up, zg_some, Nat.reduceMod, Nat.reduceDiv, zcn_I, iI_add, iI_sub, iI_mul, iI_neg, iI_lt, iI_le, iI_eq, iI_lt0, iI_le0, iI_gt0, iI_ge0, iI_eq0, k0, p6, k6] <;> omega) (fun h' => ?_) (fun h' => ?_) <;> simp (disch := omega) only [zcn_I, iI_add, iI_sub, iI_mul, iI_neg, iI_lt, iI_le, iI_eq, iI_lt0, iI_le0, iI_gt0, iI_ge0, iI_eq0] at h'
    · refine zW.go [44] rfl (by omega) trivial ?_
      simp (disch := omega) only [upI_same, upL_same, upI_ne, upL_ne, iI_ixN, zI_mk, zL_mk, zP_mk, zK_mk, zN_mk, zwI_up, zwL_up, zg_some, Nat.reduceMod, Nat.reduceDiv, p6, q6]
      refine NX _ ?_
      rw [zcn_I, decide_eq_false (by omega)]
      rfl
    · refine zW.go [44] rfl (by omega) trivial ?_
      simp (disch := omega) only [upI_same, upL_same, upI_ne, upL_ne, iI_ixN, zI_mk, zL_mk, zP_mk, zK_mk, zN_mk, zwI_up, zwL_up, zg_some, Nat.reduceMod, Nat.reduceDiv, p6, q6]
      refine NX _ ?_
      rw [zcn_I, decide_eq_true (by omega)]
      rfl
theorem lay_out {i n : Nat} (hd : 1 ≤ d) (hM : ML y R)
    (hQ : ∀ I' v x, (∀ a, ¬ (y + 52 ≤ a ∧ a ≤ y + 172) → I' a = I a) → mTb y I' tb0 → zW 180 d 0 0 70 [some (zr (some y)), some (zi (iI (i : Int))), some (zi (iI (n : Int))), some (zi x), v, none, none] [] (I', L, R) Q) :
    ∀ m k, k + m = 10 → ∀ (I1 : Nat → Nat → Int32) (v : Option zV) (x : Int32), (∀ a, ¬ (y + 52 ≤ a ∧ a ≤ y + 172) → I1 a = I a) → (∀ a b, a < k → b < 10 → I1 (y + 52 + a) b = bz (decide (a = b)) ∧ I1 (y + 64 + 11 * a + a) b = iI (b : Int)) → x = iI (k : Int) → zW 180 d 0 0 9 [some (zr (some y)), some (zi (iI (i : Int))), some (zi (iI (n : Int))), some (zi x), v, none, none] [] (I1, L, R) Q
  | 0, k, hk, I1, v, x, f1, f2, e => by
    subst e
    obtain rfl : k = 10 := by omega
    refine zW.gbt [] rfl rfl rfl (by omega) trivial (by simp (disch := omega) only [eq_self, not_true_eq_false, not_false_eq_true, upI_same, upL_same, upI_ne, upL_ne, iI_ixN, zI_mk, zL_mk, zP_mk, zK_mk, zN_mk, zwI_up, zwL_up, zg_some, Nat.reduceMod, Nat.reduceDiv, zcn_I, iI_add, iI_sub, iI_mul, iI_neg, iI_lt, iI_le, iI_eq, iI_lt0, iI_le0, iI_gt0, iI_ge0, iI_eq0] <;> omega) (hQ I1 _ _ f1 (fun a b ha hb => ?_))
    obtain ⟨t1, t2⟩ := f2 a b ha hb
    by_cases q : a = b
    · subst q
      have e0 : tb0 a a = some (fun p => p) := if_pos ⟨rfl, ha⟩
      rw [e0]
      rw [decide_eq_true rfl] at t1
      refine ⟨t1, fun u hu p hp => ?_⟩
      cases hu
      exact (f2 a p ha hp).2
    · have e0 : tb0 a b = none := if_neg (fun n => q n.1)
      rw [e0]
      rw [decide_eq_false q] at t1
      exact ⟨t1, fun u hu => by cases hu⟩
  | m + 1, k, hk, I1, v, x, f1, f2, e => by
    subst e
    refine zW.gbf [] rfl rfl rfl (by omega) trivial (by simp (disch := omega) only [eq_self, not_true_eq_false, not_false_eq_true, upI_same, upL_same, upI_ne, upL_ne, iI_ixN, zI_mk, zL_mk, zP_mk, zK_mk, zN_mk, zwI_up, zwL_up, zg_some, Nat.reduceMod, Nat.reduceDiv, zcn_I, iI_add, iI_sub, iI_mul, iI_neg, iI_lt, iI_le, iI_eq, iI_lt0, iI_le0, iI_gt0, iI_ge0, iI_eq0] <;> omega) ?_
    refine zW.go [18] rfl (by omega) trivial ?_
    refine lay_in hd hM (k := k) (by omega) (fun I2 x4 g1 g2 g3 => ?_) 10 0 (by omega) I1 _ (fun _ _ _ => rfl) (fun b q => absurd q (Nat.not_lt_zero b)) (fun b q => absurd q (Nat.not_lt_zero b)) (zcn_I _)
    refine zW.go [9] rfl (by omega) trivial ?_
    refine lay_out hd hM hQ m (k + 1) (by omega) I2 _ _ (fun a q => (g1 a (by omega) (by omega)).trans (f1 a q)) (fun a b ha hb => ?_) (by rw [zcn_I, iI_add]; rfl)
    by_cases q : a = k
    · rw [q]
      exact ⟨g2 b hb, g3 b hb⟩
    · rw [g1 _ (by omega) (by omega), g1 _ (by omega) (by omega)]
      exact f2 a b (by omega) hb
theorem lay_id {i n : Nat} {v : Option zV} (hd : 1 ≤ d) (hM : ML y R)
    (hQ : ∀ I' x, (∀ a, a ≠ y + 174 → I' a = I a) → (∀ p : Nat, p < 10 → I' (y + 174) p = iI (p : Int)) → zW 180 d 0 0 91 [some (zr (some y)), some (zi (iI (i : Int))), some (zi (iI (n : Int))), some (zi x), v, none, none] [] (I', L, R) Q) :
    ∀ m k, k + m = 10 → ∀ (I1 : Nat → Nat → Int32) (x : Int32), (∀ a, a ≠ y + 174 → I1 a = I a) → (∀ p : Nat, p < k → I1 (y + 174) p = iI (p : Int)) → x = iI (k : Int) → zW 180 d 0 0 72 [some (zr (some y)), some (zi (iI (i : Int))), some (zi (iI (n : Int))), some (zi x), v, none, none] [] (I1, L, R) Q
  | 0, k, hk, I1, x, f1, f2, e => by
    subst e
    obtain rfl : k = 10 := by omega
    exact zW.gbt [] rfl rfl rfl (by omega) trivial (by simp (disch := omega) only [eq_self, not_true_eq_false, not_false_eq_true, upI_same, upL_same, upI_ne, upL_ne, iI_ixN, zI_mk, zL_mk, zP_mk, zK_mk, zN_mk, zwI_up, zwL_up, zg_some, Nat.reduceMod, Nat.reduceDiv, zcn_I, iI_add, iI_sub, iI_mul, iI_neg, iI_lt, iI_le, iI_eq, iI_lt0, iI_le0, iI_gt0, iI_ge0, iI_eq0] <;> omega) (hQ I1 _ f1 f2)
  | m + 1, k, hk, I1, x, f1, f2, e => by
    subst e
    have k0 : R.2.1 y = some (7, 0) := hM.1
    have p9 : R.1 y 9 = some (y + 174) := (hM.2.1 9 (by decide)).1; have k9 : R.2.1 (y + 174) = some (20, 10) := (hM.2.1 9 (by decide)).2
    refine zW.gbf [] rfl rfl rfl (by omega) trivial (by simp (disch := omega) only [eq_self, not_true_eq_false, not_false_eq_true, upI_same, upL_same, upI_ne, upL_ne, iI_ixN, zI_mk, zL_mk, zP_mk, zK_mk, zN_mk, zwI_up, zwL_up, zg_some, Nat.reduceMod, Nat.reduceDiv, zcn_I, iI_add, iI_sub, iI_mul, iI_neg, iI_lt, iI_le, iI_eq, iI_lt0, iI_le0, iI_gt0, iI_ge0, iI_eq0] <;> omega) ?_
    refine zW.go [72] rfl (by omega) (by simp (disch := omega) only [true_or, or_true, eq_self, Option.some.injEq, Prod.mk.injEq, zall_0, zall_1, zall_2, zob_iff, zar_iff, zis_iff, zkIs_some, zkHas_some, iI_vp, z01_I, z01_bz, zch_I, true_and, and_true, or_false, false_or, and_self, upI_same, upL_same, upI_ne, upL_ne, iI_ixN, zI_mk, zL_mk, zP_mk, zK_mk, zN_mk, zwI_up, zwL_up, zg_some, Nat.reduceMod, Nat.reduceDiv, zcn_I, iI_add, iI_sub, iI_mul, iI_neg, iI_lt, iI_le, iI_eq, iI_lt0, iI_le0, iI_gt0, iI_ge0, iI_eq0, k0, p9, k9] <;> omega) ?_
    simp (disch := omega) only [upI_same, upL_same, upI_ne, upL_ne, iI_ixN, zI_mk, zL_mk, zP_mk, zK_mk, zN_mk, zwI_up, zwL_up, zg_some, Nat.reduceMod, Nat.reduceDiv, zcn_I, iI_add, iI_sub, iI_mul, iI_neg, iI_lt, iI_le, iI_eq, iI_lt0, iI_le0, iI_gt0, iI_ge0, iI_eq0, p9]
    refine lay_id hd hM hQ m (k + 1) (by omega) _ _ (fun a q => (upI_row q).trans (f1 a q)) (fun p hp => ?_) rfl
    by_cases q : p = k
    · rw [q, upI_same]
    · rw [upI_ne (by omega)]
      exact f2 p (by omega)
end MLYI
/-- a table under way -/
def mGw (y n : Nat) (I0 I : Nat → Nat → Int32) (A : (Nat → Nat) → Prop) (tb : zTb) : Prop := tW tb ∧ tN n tb ∧ mTb y I tb ∧ (∀ k j v, tb k j = some v → Gm A v) ∧ (∀ p, n ≤ p → p < 10 → I (y + 174) p = iI (p : Int)) ∧ ∀ a, ¬ (y + 52 ≤ a ∧ a ≤ y + 172) → a ≠ y + 174 → a ≠ y + 176 → I a = I0 a
theorem mGw_add {y n : Nat} {I0 I I' : Nat → Nat → Int32} {A : (Nat → Nat) → Prop} {tb tb' : zTb} {r : Nat → Nat} (h : mGw y n I0 I A tb) (hA : ∀ g, A g → pm 10 g) (hr : Gm A r) (s : mAd y n I I' tb tb' r) : mGw y n I0 I' A tb' := by
  obtain ⟨h1, h2, h3, h4, h5, h6⟩ := h
  obtain ⟨s1, s2, s3, s4, s5, s6, s7, s8⟩ := s
  exact ⟨s2, s3, s4, s6 A hA hr h4, fun p q1 q2 => (s8 p q1).trans (h5 p q1 q2), fun a q1 q2 q3 => (s7 a q1 q2 q3).trans (h6 a q1 q2 q3)⟩
section MLYG
variable {d y : Nat} {T : tfT} {I : Nat → Nat → Int32} {L : Nat → Nat → Int64} {R : zRt} {Q : zO → zM → Prop}
theorem lay_gen {i : Nat} (hd : 3 ≤ d) (h : mf y T (I, L, R)) (hi : i < tPn T)
    (hQ : ∀ I' tb x3 x4, mGw y (pzN (tPz T i)) I I' (zA (pzR (tPz T i)) (pzT (tPz T i))) tb → (∀ a, a < 2 * pzR (tPz T i) → Fl tb 10 (pzT (tPz T i) a)) → (x3 = iI 0 ∧ tb = tb0 ∨ x3 = iI 1) → zW 180 d 0 0 143 [some (zr (some y)), some (zi (iI (i : Int))), some (zi (iI (pzN (tPz T i) : Int))), some (zi x3), some (zi x4), none, none] [] (I', L, R) Q) :
    ∀ m a, a + m = 2 * pzR (tPz T i) → ∀ (I1 : Nat → Nat → Int32) (tb : zTb) (x3 x4 : Int32), mGw y (pzN (tPz T i)) I I1 (zA (pzR (tPz T i)) (pzT (tPz T i))) tb → (∀ b, b < a → Fl tb 10 (pzT (tPz T i) b)) → (x3 = iI 0 ∧ tb = tb0 ∨ x3 = iI 1) → x4 = iI (a : Int) → zW 180 d 0 0 96 [some (zr (some y)), some (zi (iI (i : Int))), some (zi (iI (pzN (tPz T i) : Int))), some (zi x3), some (zi x4), none, none] [] (I1, L, R) Q
  | 0, a, ha, I1, tb, x3, x4, g, hf, h3, e => by
    subst e
    have hM := h.2.1
    have k0 : R.2.1 y = some (7, 0) := hM.1
    obtain ⟨h4, hz, w1, w2, w3, w4, w5⟩ := m_pz h hi
    have hr4 := hz.2.2.1
    have w2' : I1 (y + 3) i = iI (pzR (tPz T i) : Int) := by rw [g.2.2.2.2.2 _ (by omega) (by omega) (by omega)]; exact w2
    obtain rfl : a = 2 * pzR (tPz T i) := by omega
    have p2 : R.1 y 2 = some (y + 3) := (hM.2.1 2 (by decide)).1; have k2 : R.2.1 (y + 3) = some (20, 4) := (hM.2.1 2 (by decide)).2
    exact zW.gbt [] rfl rfl rfl (by omega) (by simp (disch := omega) only [true_or, or_true, eq_self, Option.some.injEq, Prod.mk.injEq, zall_0, zall_1, zall_2, zob_iff, zar_iff, zis_iff, zkIs_some, zkHas_some, iI_vp, z01_I, z01_bz, zch_I, true_and, and_true, or_false, false_or, and_self, upI_same, upL_same, upI_ne, upL_ne, iI_ixN, zI_mk, zL_mk, zP_mk, zK_mk, zN_mk, zwI_up, zwL_up, zg_some, Nat.reduceMod, Nat.reduceDiv, zcn_I, iI_add, iI_sub, iI_mul, iI_neg, iI_lt, iI_le, iI_eq, iI_lt0, iI_le0, iI_gt0, iI_ge0, iI_eq0, k0, p2, k2] <;> omega) (by simp (disch := omega) only [eq_self, not_true_eq_false, not_false_eq_true, upI_same, upL_same, upI_ne, upL_ne, iI_ixN, zI_mk, zL_mk, zP_mk, zK_mk, zN_mk, zwI_up, zwL_up, zg_some, Nat.reduceMod, Nat.reduceDiv, zcn_I, iI_add, iI_sub, iI_mul, iI_neg, iI_lt, iI_le, iI_eq, iI_lt0, iI_le0, iI_gt0, iI_ge0, iI_eq0, p2, w2'] <;> omega) (hQ I1 tb x3 _ g hf h3)
  | m + 1, a, ha, I1, tb, x3, x4, g, hf, h3, e => by
    subst e
    have hM := h.2.1
    have k0 : R.2.1 y = some (7, 0) := hM.1
    obtain ⟨h4, hz, w1, w2, w3, w4, w5⟩ := m_pz h hi
    have hr4 := hz.2.2.1
    have hn := hz.2.1
    have g' := g
    obtain ⟨g1, g2, g3, g4, g5, g6⟩ := g'
    have w2' : I1 (y + 3) i = iI (pzR (tPz T i) : Int) := by rw [g6 _ (by omega) (by omega) (by omega)]; exact w2
    have w1' : I1 (y + 2) i = iI (pzN (tPz T i) : Int) := by rw [g6 _ (by omega) (by omega) (by omega)]; exact w1
    have hp := hz.2.2.2.1 a (by omega)
    have p2 : R.1 y 2 = some (y + 3) := (hM.2.1 2 (by decide)).1; have k2 : R.2.1 (y + 3) = some (20, 4) := (hM.2.1 2 (by decide)).2; have p3 : R.1 y 3 = some (y + 4) := (hM.2.1 3 (by decide)).1; have k3 : R.2.1 (y + 4) = some (26, 4) := (hM.2.1 3 (by decide)).2; have q3 : R.1 (y + 4) (i) = some (y + 5 + 9 * i) := (hM.2.2.1 (i) (by omega)).1.trans (congrArg some (by omega)); have j3 : R.2.1 (y + 5 + 9 * i) = some (25, 8) := (congrArg R.2.1 (by omega)).trans (hM.2.2.1 (i) (by omega)).2.1; have r3 : R.1 (y + 5 + 9 * i) (a) = some (y + 6 + 9 * i + a) := (congrFun (congrArg R.1 (show y + 5 + 9 * i = y + 4 + 1 + 9 * i by omega)) (a)).trans ((((hM.2.2.1 (i) (by omega)).2.2 (a) (by omega)).1).trans (congrArg some (by omega))); have s3 : R.2.1 (y + 6 + 9 * i + a) = some (20, 10) := (congrArg R.2.1 (by omega)).trans ((hM.2.2.1 (i) (by omega)).2.2 (a) (by omega)).2; have p9 : R.1 y 9 = some (y + 174) := (hM.2.1 9 (by decide)).1; have k9 : R.2.1 (y + 174) = some (20, 10) := (hM.2.1 9 (by decide)).2
    have l1 : zlenOf (I1, L, R) (some (y + 174)) = 10 := zlenOf_some k9
    have l2 : zlenOf (I1, L, R) (some (y + 6 + 9 * i + a)) = 10 := zlenOf_some s3
    refine zW.gbf [] rfl rfl rfl (by omega) (by simp (disch := omega) only [true_or, or_true, eq_self, Option.some.injEq, Prod.mk.injEq, zall_0, zall_1, zall_2, zob_iff, zar_iff, zis_iff, zkIs_some, zkHas_some, iI_vp, z01_I, z01_bz, zch_I, true_and, and_true, or_false, false_or, and_self, upI_same, upL_same, upI_ne, upL_ne, iI_ixN, zI_mk, zL_mk, zP_mk, zK_mk, zN_mk, zwI_up, zwL_up, zg_some, Nat.reduceMod, Nat.reduceDiv, zcn_I, iI_add, iI_sub, iI_mul, iI_neg, iI_lt, iI_le, iI_eq, iI_lt0, iI_le0, iI_gt0, iI_ge0, iI_eq0, k0, p2, k2] <;> omega) (by simp (disch := omega) only [eq_self, not_true_eq_false, not_false_eq_true, upI_same, upL_same, upI_ne, upL_ne, iI_ixN, zI_mk, zL_mk, zP_mk, zK_mk, zN_mk, zwI_up, zwL_up, zg_some, Nat.reduceMod, Nat.reduceDiv, zcn_I, iI_add, iI_sub, iI_mul, iI_neg, iI_lt, iI_le, iI_eq, iI_lt0, iI_le0, iI_gt0, iI_ge0, iI_eq0, p2, w2'] <;> omega) ?_
    refine zW.gz [] rfl rfl rfl (by omega) ?_ ⟨_, rfl, k0⟩ rfl rfl (by decide +kernel) (by decide +kernel) ?_
    · simp (disch := omega) only [true_or, or_true, eq_self, Option.some.injEq, Prod.mk.injEq, zall_0, zall_1, zall_2, zob_iff, zar_iff, zis_iff, zkIs_some, zkHas_some, iI_vp, z01_I, z01_bz, zch_I, true_and, and_true, or_false, false_or, and_self, upI_same, upL_same, upI_ne, upL_ne, iI_ixN, zI_mk, zL_mk, zP_mk, zK_mk, zN_mk, zwI_up, zwL_up, zg_some, Nat.reduceMod, Nat.reduceDiv, k0, p3, k3, q3, j3, r3, s3, p9, k9, zcn_I, l1, l2, zkHas_some, c0i]
      exact ⟨by decide +kernel, by omega, by omega⟩
    simp (disch := omega) only [upI_same, upL_same, upI_ne, upL_ne, iI_ixN, zI_mk, zL_mk, zP_mk, zK_mk, zN_mk, zwI_up, zwL_up, zg_some, Nat.reduceMod, Nat.reduceDiv, p3, q3, r3, p9, zcopy_up, zcn_I, c0i, show (iI 10).toNatClampNeg = 10 from by decide +kernel]
    have hGa : Gm (zA (pzR (tPz T i)) (pzT (tPz T i))) (pzT (tPz T i) a) := zG_tn hz (by omega)
    have gc : mGw y (pzN (tPz T i)) I (cpI I1 (y + 6 + 9 * i + a) 0 (y + 174) 0 10) (zA (pzR (tPz T i)) (pzT (tPz T i))) tb := ⟨g1, g2, mTb_fr g3 (fun b q1 q2 => cpI_row (by omega)), g4, fun p q1 q2 => by
      rw [cpI_in q2, g6 _ (by omega) (by omega) (by omega), w3 a p (by omega) q2, hp.2.2 p q1], fun b q1 q2 q3 => by rw [cpI_row q2]; exact g6 b q1 q2 q3⟩
    refine madds_ok (r := pzT (tPz T i) a) (by omega) hM rfl h4 hn g1 g2 gc.2.2.1 ?_ hp (fun p q => ?_) (fun I2 tb' q s hq => ?_)
    · rw [cpI_row (by omega)]
      exact w1'
    · rw [cpI_in q, g6 _ (by omega) (by omega) (by omega)]
      exact w3 a p (by omega) q
    have gn := mGw_add gc (zA_pm hz) hGa s
    refine zW.go [96] rfl (by omega) trivial ?_
    refine lay_gen hd h hi hQ m (a + 1) (by omega) I2 tb' _ _ gn (fun b hb => ?_) ?_ (by rw [zcn_I, iI_add]; rfl)
    · by_cases e : b = a
      · rw [e]
        exact s.2.2.2.2.1
      · exact Fl_le s.1 (hf b (by omega))
    · rcases h3 with ⟨rfl, e3⟩ | rfl
      · rcases hq with ⟨rfl, e4⟩ | ⟨rfl, _⟩
        · exact Or.inl ⟨by decide +kernel, e4.trans e3⟩
        · exact Or.inr (by decide +kernel)
      · rcases hq with ⟨rfl, e4⟩ | ⟨rfl, _⟩
        · exact Or.inr (by decide +kernel)
        · exact Or.inr (by decide +kernel)
end MLYG
