/-! The model's groups: the table; one sifted. -/
def mTb (y : Nat) (I : Nat → Nat → Int32) (tb : zTb) : Prop := ∀ k j, k < 10 → j < 10 → I (y + 52 + k) j = bz (tb k j).isSome ∧ ∀ u, tb k j = some u → ∀ p, p < 10 → I (y + 64 + 11 * k + j) p = iI (u p : Int)
def tN (n : Nat) (tb : zTb) : Prop := ∀ k j u, tb k j = some u → pm n u
/-- a sifting's writes -/
def msf (y n : Nat) (I I' : Nat → Nat → Int32) : Prop := (∀ a, a ≠ y + 174 → a ≠ y + 176 → I' a = I a) ∧ ∀ p, n ≤ p → I' (y + 174) p = I (y + 174) p
theorem msf_rf (y n : Nat) (I : Nat → Nat → Int32) : msf y n I I := ⟨fun _ _ _ => rfl, fun _ _ => rfl⟩
theorem msf_tr {y n : Nat} {I I1 I2 : Nat → Nat → Int32} (h : msf y n I I1) (k : msf y n I1 I2) : msf y n I I2 := ⟨fun a q1 q2 => (k.1 a q1 q2).trans (h.1 a q1 q2), fun p q => (k.2 p q).trans (h.2 p q)⟩
theorem mTb_fr {y : Nat} {I I' : Nat → Nat → Int32} {tb : zTb} (h : mTb y I tb) (f : ∀ a, y + 52 ≤ a → a ≤ y + 172 → I' a = I a) : mTb y I' tb := fun k j hk hj => by
  obtain ⟨h1, h2⟩ := h k j hk hj
  refine ⟨?_, fun u hu p hp => ?_⟩
  · rw [f _ (by omega) (by omega)]
    exact h1
  · rw [f _ (by omega) (by omega)]
    exact h2 u hu p hp
section MSFT
variable {d y : Nat} {I : Nat → Nat → Int32} {L : Nat → Nat → Int64} {R : zRt} {Q : zO → zM → Prop}
theorem sinv_lp {i k j n a : Nat} {u : Nat → Nat} (hd : 1 ≤ d) (hM : ML y R) (hi : i < 4) (hn : n ≤ 10) (hu : pm n u) (ka : R.2.1 a = some (20, 10)) (ha : a ≠ y + 176) (vn : I (y + 2) i = iI (n : Int)) (va : ∀ p, p < 10 → I a p = iI (u p : Int))
    (hQ : ∀ I', (∀ b, b ≠ y + 176 → I' b = I b) → (∀ q, q < n → I' (y + 176) q = iI (vi 10 u q : Int)) → zW 178 d 0 0 74 [some (zr (some y)), some (zi (iI (i : Int))), some (zi (iI (k : Int))), some (zi (iI (j : Int))), some (zr (some a)), some (zi (iI (n : Int)))] [] (I', L, R) Q) :
    ∀ m q, q + m = n → ∀ (I1 : Nat → Nat → Int32) (x : Int32), (∀ b, b ≠ y + 176 → I1 b = I b) → (∀ p, p < q → I1 (y + 176) (u p) = iI (p : Int)) → x = iI (q : Int) → zW 178 d 0 0 45 [some (zr (some y)), some (zi (iI (i : Int))), some (zi (iI (k : Int))), some (zi (iI (j : Int))), some (zr (some a)), some (zi x)] [] (I1, L, R) Q
  | 0, q, hq, I1, x, f1, f2, e => by
    subst e
    have k0 : R.2.1 y = some (7, 0) := hM.1
    have vn1 : I1 (y + 2) i = iI (n : Int) := by rw [f1 _ (by omega)]; exact vn
    have p1 : R.1 y 1 = some (y + 2) := (hM.2.1 1 (by decide)).1; have k1 : R.2.1 (y + 2) = some (20, 4) := (hM.2.1 1 (by decide)).2
    obtain rfl : q = n := by omega
    refine zW.gbt [] rfl rfl rfl (by omega) (by simp (disch := omega) only [true_or, or_true, eq_self, Option.some.injEq, Prod.mk.injEq, zall_0, zall_1, zall_2, zob_iff, zar_iff, zis_iff, zkIs_some, zkHas_some, iI_vp, z01_I, z01_bz, zch_I, true_and, and_true, or_false, false_or, and_self, upI_same, upL_same, upI_ne, upL_ne, iI_ixN, zI_mk, zL_mk, zP_mk, zK_mk, zN_mk, zwI_up, zwL_up, zg_some, Nat.reduceMod, Nat.reduceDiv, zcn_I, iI_add, iI_sub, iI_mul, iI_neg, iI_lt, iI_le, iI_eq, iI_lt0, iI_le0, iI_gt0, iI_ge0, iI_eq0, k0, p1, k1] <;> omega) (by simp (disch := omega) only [eq_self, not_true_eq_false, not_false_eq_true, upI_same, upL_same, upI_ne, upL_ne, iI_ixN, zI_mk, zL_mk, zP_mk, zK_mk, zN_mk, zwI_up, zwL_up, zg_some, Nat.reduceMod, Nat.reduceDiv, zcn_I, iI_add, iI_sub, iI_mul, iI_neg, iI_lt, iI_le, iI_eq, iI_lt0, iI_le0, iI_gt0, iI_ge0, iI_eq0, p1, vn1] <;> omega) (hQ I1 f1 (fun q hq => ?_))
    have h1 := vi_sp hu hq
    have h2 := f2 _ h1.1
    rw [h1.2] at h2
    rw [vi_up hu hn]
    exact h2
  | m + 1, q, hq, I1, x, f1, f2, e => by
    subst e
    have k0 : R.2.1 y = some (7, 0) := hM.1
    have vn1 : I1 (y + 2) i = iI (n : Int) := by rw [f1 _ (by omega)]; exact vn
    have v1 : I1 a q = iI (u q : Int) := by rw [f1 _ ha]; exact va q (by omega)
    have l1 := hu.1 q (by omega)
    have p1 : R.1 y 1 = some (y + 2) := (hM.2.1 1 (by decide)).1; have k1 : R.2.1 (y + 2) = some (20, 4) := (hM.2.1 1 (by decide)).2; have p11 : R.1 y 11 = some (y + 176) := (hM.2.1 11 (by decide)).1; have k11 : R.2.1 (y + 176) = some (20, 10) := (hM.2.1 11 (by decide)).2
    refine zW.gbf [] rfl rfl rfl (by omega) (by simp (disch := omega) only [true_or, or_true, eq_self, Option.some.injEq, Prod.mk.injEq, zall_0, zall_1, zall_2, zob_iff, zar_iff, zis_iff, zkIs_some, zkHas_some, iI_vp, z01_I, z01_bz, zch_I, true_and, and_true, or_false, false_or, and_self, upI_same, upL_same, upI_ne, upL_ne, iI_ixN, zI_mk, zL_mk, zP_mk, zK_mk, zN_mk, zwI_up, zwL_up, zg_some, Nat.reduceMod, Nat.reduceDiv, zcn_I, iI_add, iI_sub, iI_mul, iI_neg, iI_lt, iI_le, iI_eq, iI_lt0, iI_le0, iI_gt0, iI_ge0, iI_eq0, k0, p1, k1] <;> omega) (by simp (disch := omega) only [eq_self, not_true_eq_false, not_false_eq_true, upI_same, upL_same, upI_ne, upL_ne, iI_ixN, zI_mk, zL_mk, zP_mk, zK_mk, zN_mk, zwI_up, zwL_up, zg_some, Nat.reduceMod, Nat.reduceDiv, zcn_I, iI_add, iI_sub, iI_mul, iI_neg, iI_lt, iI_le, iI_eq, iI_lt0, iI_le0, iI_gt0, iI_ge0, iI_eq0, p1, vn1] <;> omega) ?_
    refine zW.go [45] rfl (by omega) (by simp (disch := omega) only [true_or, or_true, eq_self, Option.some.injEq, Prod.mk.injEq, zall_0, zall_1, zall_2, zob_iff, zar_iff, zis_iff, zkIs_some, zkHas_some, iI_vp, z01_I, z01_bz, zch_I, true_and, and_true, or_false, false_or, and_self, upI_same, upL_same, upI_ne, upL_ne, iI_ixN, zI_mk, zL_mk, zP_mk, zK_mk, zN_mk, zwI_up, zwL_up, zg_some, Nat.reduceMod, Nat.reduceDiv, zcn_I, iI_add, iI_sub, iI_mul, iI_neg, iI_lt, iI_le, iI_eq, iI_lt0, iI_le0, iI_gt0, iI_ge0, iI_eq0, k0, p11, k11, ka, v1] <;> omega) ?_
    simp (disch := omega) only [upI_same, upL_same, upI_ne, upL_ne, iI_ixN, zI_mk, zL_mk, zP_mk, zK_mk, zN_mk, zwI_up, zwL_up, zg_some, Nat.reduceMod, Nat.reduceDiv, zcn_I, iI_add, iI_sub, iI_mul, iI_neg, iI_lt, iI_le, iI_eq, iI_lt0, iI_le0, iI_gt0, iI_ge0, iI_eq0, p11, v1]
    refine sinv_lp hd hM hi hn hu ka ha vn va hQ m (q + 1) (by omega) _ _ (fun b hb => (upI_row hb).trans (f1 b hb)) (fun p hp => ?_) rfl
    by_cases e : p = q
    · rw [e, upI_same]
    · rw [upI_ne (fun q' => e (hu.2.1 p q (by omega) (by omega) q'.2))]
      exact f2 p (by omega)
theorem sthr_lp {i k j n a : Nat} {u r : Nat → Nat} (hd : 1 ≤ d) (hM : ML y R) (hi : i < 4) (hn : n ≤ 10) (hr : pm n r) (vn : I (y + 2) i = iI (n : Int)) (v9 : ∀ p, p < n → I (y + 174) p = iI (r p : Int)) (v11 : ∀ p, p < n → I (y + 176) p = iI (vi 10 u p : Int))
    (hQ : ∀ I' x, (∀ b, b ≠ y + 174 → I' b = I b) → (∀ p, p < n → I' (y + 174) p = iI (vi 10 u (r p) : Int)) → (∀ p, n ≤ p → I' (y + 174) p = I (y + 174) p) → zW 178 d 0 0 113 [some (zr (some y)), some (zi (iI (i : Int))), some (zi (iI (k : Int))), some (zi (iI (j : Int))), some (zr (some a)), some (zi x)] [] (I', L, R) Q) :
    ∀ m q, q + m = n → ∀ (I1 : Nat → Nat → Int32) (x : Int32), (∀ b, b ≠ y + 174 → I1 b = I b) → (∀ p, p < q → I1 (y + 174) p = iI (vi 10 u (r p) : Int)) → (∀ p, q ≤ p → I1 (y + 174) p = I (y + 174) p) → x = iI (q : Int) → zW 178 d 0 0 77 [some (zr (some y)), some (zi (iI (i : Int))), some (zi (iI (k : Int))), some (zi (iI (j : Int))), some (zr (some a)), some (zi x)] [] (I1, L, R) Q
  | 0, q, hq, I1, x, f1, f2, f3, e => by
    subst e
    have k0 : R.2.1 y = some (7, 0) := hM.1
    have vn1 : I1 (y + 2) i = iI (n : Int) := by rw [f1 _ (by omega)]; exact vn
    have p1 : R.1 y 1 = some (y + 2) := (hM.2.1 1 (by decide)).1; have k1 : R.2.1 (y + 2) = some (20, 4) := (hM.2.1 1 (by decide)).2
    obtain rfl : q = n := by omega
    exact zW.gbt [] rfl rfl rfl (by omega) (by simp (disch := omega) only [true_or, or_true, eq_self, Option.some.injEq, Prod.mk.injEq, zall_0, zall_1, zall_2, zob_iff, zar_iff, zis_iff, zkIs_some, zkHas_some, iI_vp, z01_I, z01_bz, zch_I, true_and, and_true, or_false, false_or, and_self, upI_same, upL_same, upI_ne, upL_ne, iI_ixN, zI_mk, zL_mk, zP_mk, zK_mk, zN_mk, zwI_up, zwL_up, zg_some, Nat.reduceMod, Nat.reduceDiv, zcn_I, iI_add, iI_sub, iI_mul, iI_neg, iI_lt, iI_le, iI_eq, iI_lt0, iI_le0, iI_gt0, iI_ge0, iI_eq0, k0, p1, k1] <;> omega) (by simp (disch := omega) only [eq_self, not_true_eq_false, not_false_eq_true, upI_same, upL_same, upI_ne, upL_ne, iI_ixN, zI_mk, zL_mk, zP_mk, zK_mk, zN_mk, zwI_up, zwL_up, zg_some, Nat.reduceMod, Nat.reduceDiv, zcn_I, iI_add, iI_sub, iI_mul, iI_neg, iI_lt, iI_le, iI_eq, iI_lt0, iI_le0, iI_gt0, iI_ge0, iI_eq0, p1, vn1] <;> omega) (hQ I1 _ f1 f2 f3)
  | m + 1, q, hq, I1, x, f1, f2, f3, e => by
    subst e
    have k0 : R.2.1 y = some (7, 0) := hM.1
    have vn1 : I1 (y + 2) i = iI (n : Int) := by rw [f1 _ (by omega)]; exact vn
    have v1 : I1 (y + 174) q = iI (r q : Int) := by rw [f3 q (Nat.le_refl _)]; exact v9 q (by omega)
    have l1 := hr.1 q (by omega)
    have v2 : I1 (y + 176) (r q) = iI (vi 10 u (r q) : Int) := by rw [f1 _ (by omega)]; exact v11 _ l1
    have p1 : R.1 y 1 = some (y + 2) := (hM.2.1 1 (by decide)).1; have k1 : R.2.1 (y + 2) = some (20, 4) := (hM.2.1 1 (by decide)).2; have p9 : R.1 y 9 = some (y + 174) := (hM.2.1 9 (by decide)).1; have k9 : R.2.1 (y + 174) = some (20, 10) := (hM.2.1 9 (by decide)).2; have p11 : R.1 y 11 = some (y + 176) := (hM.2.1 11 (by decide)).1; have k11 : R.2.1 (y + 176) = some (20, 10) := (hM.2.1 11 (by decide)).2
    refine zW.gbf [] rfl rfl rfl (by omega) (by simp (disch := omega) only [true_or, or_true, eq_self, Option.some.injEq, Prod.mk.injEq, zall_0, zall_1, zall_2, zob_iff, zar_iff, zis_iff, zkIs_some, zkHas_some, iI_vp, z01_I, z01_bz, zch_I, true_and, and_true, or_false, false_or, and_self, upI_same, upL_same, upI_ne, upL_ne, iI_ixN, zI_mk, zL_mk, zP_mk, zK_mk, zN_mk, zwI_up, zwL_up, zg_some, Nat.reduceMod, Nat.reduceDiv, zcn_I, iI_add, iI_sub, iI_mul, iI_neg, iI_lt, iI_le, iI_eq, iI_lt0, iI_le0, iI_gt0, iI_ge0, iI_eq0, k0, p1, k1] <;> omega) (by simp (disch := omega) only [eq_self, not_true_eq_false, not_false_eq_true, upI_same, upL_same, upI_ne, upL_ne, iI_ixN, zI_mk, zL_mk, zP_mk, zK_mk, zN_mk, zwI_up, zwL_up, zg_some, Nat.reduceMod, Nat.reduceDiv, zcn_I, iI_add, iI_sub, iI_mul, iI_neg, iI_lt, iI_le, iI_eq, iI_lt0, iI_le0, iI_gt0, iI_ge0, iI_eq0, p1, vn1] <;> omega) ?_
    refine zW.go [77] rfl (by omega) (by simp (disch := omega) only [true_or, or_true, eq_self, Option.some.injEq, Prod.mk.injEq, zall_0, zall_1, zall_2, zob_iff, zar_iff, zis_iff, zkIs_some, zkHas_some, iI_vp, z01_I, z01_bz, zch_I, true_and, and_true, or_false, false_or, and_self, upI_same, upL_same, upI_ne, upL_ne, iI_ixN, zI_mk, zL_mk, zP_mk, zK_mk, zN_mk, zwI_up, zwL_up, zg_some, Nat.reduceMod, Nat.reduceDiv, zcn_I, iI_add, iI_sub, iI_mul, iI_neg, iI_lt, iI_le, iI_eq, iI_lt0, iI_le0, iI_gt0, iI_ge0, iI_eq0, k0, p11, k11, p9, k9, v1, v2] <;> omega) ?_
    simp (disch := omega) only [upI_same, upL_same, upI_ne, upL_ne, iI_ixN, zI_mk, zL_mk, zP_mk, zK_mk, zN_mk, zwI_up, zwL_up, zg_some, Nat.reduceMod, Nat.reduceDiv, zcn_I, iI_add, iI_sub, iI_mul, iI_neg, iI_lt, iI_le, iI_eq, iI_lt0, iI_le0, iI_gt0, iI_ge0, iI_eq0, p11, p9, v1, v2]
    refine sthr_lp hd hM hi hn hr vn v9 v11 hQ m (q + 1) (by omega) _ _ (fun b hb => (upI_row hb).trans (f1 b hb)) (fun p hp => ?_) (fun p hp => (upI_ne (by omega)).trans (f3 p (by omega))) rfl
    by_cases e : p = q
    · rw [e, upI_same]
    · rw [upI_ne (by omega)]
      exact f2 p (by omega)
theorem msift_lp {i n : Nat} {tb : zTb} {r0 : Nat → Nat} (hd : 1 ≤ d) (hM : ML y R) (hi : i < 4) (hn : n ≤ 10) (hW : tW tb) (hN : tN n tb)
    (h1 : ∀ I', msf y n I I' → Fl tb 10 r0 → Q (.inl (some (zi (iI (-1))))) (I', L, R))
    (h0 : ∀ k r I', k < n → msf y n I I' → pm n r → (∀ p, p < n → I' (y + 174) p = iI (r p : Int)) → (∀ q, q < k → r q = q) → tb k (r k) = none → (∀ tb', tLe tb tb' → (Fl tb' 10 r0 ↔ Fl tb' (10 - k) r)) → (∀ A : (Nat → Nat) → Prop, (∀ g, A g → pm 10 g) → Gm A r0 → (∀ k j v, tb k j = some v → Gm A v) → Gm A r) → Q (.inl (some (zi (iI (k : Int))))) (I', L, R))
    (vn : I (y + 2) i = iI (n : Int)) (hT : mTb y I tb) :
    ∀ m k, k + m = n → ∀ (I1 : Nat → Nat → Int32) (r : Nat → Nat) (x : Int32) (v3 v4 v5 : Option zV), msf y n I I1 → pm n r → (∀ p, p < n → I1 (y + 174) p = iI (r p : Int)) → (∀ q, q < k → r q = q) → (∀ tb', tLe tb tb' → (Fl tb' 10 r0 ↔ Fl tb' (10 - k) r)) → (∀ A : (Nat → Nat) → Prop, (∀ g, A g → pm 10 g) → Gm A r0 → (∀ k j v, tb k j = some v → Gm A v) → Gm A r) → x = iI (k : Int) → zW 178 d 0 0 2 [some (zr (some y)), some (zi (iI (i : Int))), some (zi x), v3, v4, v5] [] (I1, L, R) Q
  | 0, k, hk, I1, r, x, v3, v4, v5, f, hr, v9, hf, hF, hA, e => by
    subst e
    have k0 : R.2.1 y = some (7, 0) := hM.1
    have vn1 : I1 (y + 2) i = iI (n : Int) := by rw [f.1 _ (by omega) (by omega)]; exact vn
    have p1 : R.1 y 1 = some (y + 2) := (hM.2.1 1 (by decide)).1; have k1 : R.2.1 (y + 2) = some (20, 4) := (hM.2.1 1 (by decide)).2
    obtain rfl : k = n := by omega
    refine zW.gbt [] rfl rfl rfl (by omega) (by simp (disch := omega) only [true_or, or_true, eq_self, Option.some.injEq, Prod.mk.injEq, zall_0, zall_1, zall_2, zob_iff, zar_iff, zis_iff, zkIs_some, zkHas_some, iI_vp, z01_I, z01_bz, zch_I, true_and, and_true, or_false, false_or, and_self, upI_same, upL_same, upI_ne, upL_ne, iI_ixN, zI_mk, zL_mk, zP_mk, zK_mk, zN_mk, zwI_up, zwL_up, zg_some, Nat.reduceMod, Nat.reduceDiv, zcn_I, iI_add, iI_sub, iI_mul, iI_neg, iI_lt, iI_le, iI_eq, iI_lt0, iI_le0, iI_gt0, iI_ge0, iI_eq0, k0, p1, k1] <;> omega) (by simp (disch := omega) only [eq_self, not_true_eq_false, not_false_eq_true, upI_same, upL_same, upI_ne, upL_ne, iI_ixN, zI_mk, zL_mk, zP_mk, zK_mk, zN_mk, zwI_up, zwL_up, zg_some, Nat.reduceMod, Nat.reduceDiv, zcn_I, iI_add, iI_sub, iI_mul, iI_neg, iI_lt, iI_le, iI_eq, iI_lt0, iI_le0, iI_gt0, iI_ge0, iI_eq0, p1, vn1] <;> omega) ?_
    refine zW.gr [] rfl rfl rfl (by omega) trivial trivial ?_
    rw [zcn_I]
    refine h1 I1 f ((hF tb (fun _ _ _ h => h)).mpr ?_)
    have er : r = fun p => p := funext fun p => by
      by_cases q : p < k
      · exact hf p q
      · exact hr.2.2 p (by omega)
    rw [er]
    exact (Fl_all hW (n := 10 - k) (by omega) (fun _ _ => rfl)).mp (Fl_id hW)
  | m + 1, k, hk, I1, r, x, v3, v4, v5, f, hr, v9, hf, hF, hA, e => by
    subst e
    have k0 : R.2.1 y = some (7, 0) := hM.1
    have vn1 : I1 (y + 2) i = iI (n : Int) := by rw [f.1 _ (by omega) (by omega)]; exact vn
    have vk := v9 k (by omega)
    have rk := hr.1 k (by omega)
    have hT1 : mTb y I1 tb := mTb_fr hT (fun a q1 q2 => f.1 a (by omega) (by omega))
    obtain ⟨t1, t2⟩ := hT1 k (r k) (by omega) (by omega)
    have p1 : R.1 y 1 = some (y + 2) := (hM.2.1 1 (by decide)).1; have k1 : R.2.1 (y + 2) = some (20, 4) := (hM.2.1 1 (by decide)).2; have p9 : R.1 y 9 = some (y + 174) := (hM.2.1 9 (by decide)).1; have k9 : R.2.1 (y + 174) = some (20, 10) := (hM.2.1 9 (by decide)).2; have p6 : R.1 y 6 = some (y + 51) := (hM.2.1 6 (by decide)).1; have k6 : R.2.1 (y + 51) = some (29, 10) := (hM.2.1 6 (by decide)).2; have q6 : R.1 (y + 51) (k) = some (y + 52 + k) := (hM.2.2.2.2.2.1 (k) (by omega)).1.trans (congrArg some (by omega)); have j6 : R.2.1 (y + 52 + k) = some (22, 10) := (congrArg R.2.1 (by omega)).trans (hM.2.2.2.2.2.1 (k) (by omega)).2; have p7 : R.1 y 7 = some (y + 62) := (hM.2.1 7 (by decide)).1; have k7 : R.2.1 (y + 62) = some (26, 10) := (hM.2.1 7 (by decide)).2; have q7 : R.1 (y + 62) (k) = some (y + 63 + 11 * k) := (hM.2.2.2.2.2.2.1 (k) (by omega)).1.trans (congrArg some (by omega)); have j7 : R.2.1 (y + 63 + 11 * k) = some (25, 10) := (congrArg R.2.1 (by omega)).trans (hM.2.2.2.2.2.2.1 (k) (by omega)).2.1; have r7 : R.1 (y + 63 + 11 * k) (r k) = some (y + 64 + 11 * k + r k) := (congrFun (congrArg R.1 (show y + 63 + 11 * k = y + 62 + 1 + 11 * k by omega)) (r k)).trans ((((hM.2.2.2.2.2.2.1 (k) (by omega)).2.2 (r k) (by omega)).1).trans (congrArg some (by omega))); have s7 : R.2.1 (y + 64 + 11 * k + r k) = some (20, 10) := (congrArg R.2.1 (by omega)).trans ((hM.2.2.2.2.2.2.1 (k) (by omega)).2.2 (r k) (by omega)).2
    refine zW.gbf [] rfl rfl rfl (by omega) (by simp (disch := omega) only [true_or, or_true, eq_self, Option.some.injEq, Prod.mk.injEq, zall_0, zall_1, zall_2, zob_iff, zar_iff, zis_iff, zkIs_some, zkHas_some, iI_vp, z01_I, z01_bz, zch_I, true_and, and_true, or_false, false_or, and_self, upI_same, upL_same, upI_ne, upL_ne, iI_ixN, zI_mk, zL_mk, zP_mk, zK_mk, zN_mk, zwI_up, zwL_up, zg_some, Nat.reduceMod, Nat.reduceDiv, zcn_I, iI_add, iI_sub, iI_mul, iI_neg, iI_lt, iI_le, iI_eq, iI_lt0, iI_le0, iI_gt0, iI_ge0, iI_eq0, k0, p1, k1] <;> omega) (by simp (disch := omega) only [eq_self, not_true_eq_false, not_false_eq_true, upI_same, upL_same, upI_ne, upL_ne, iI_ixN, zI_mk, zL_mk, zP_mk, zK_mk, zN_mk, zwI_up, zwL_up, zg_some, Nat.reduceMod, Nat.reduceDiv, zcn_I, iI_add, iI_sub, iI_mul, iI_neg, iI_lt, iI_le, iI_eq, iI_lt0, iI_le0, iI_gt0, iI_ge0, iI_eq0, p1, vn1] <;> omega) ?_
    cases ht : tb k (r k) with
    | none =>
      rw [ht] at t1
      refine zW.gbf [] rfl rfl rfl (by omega) (by simp (disch := omega) only [true_or, or_true, eq_self, Option.some.injEq, Prod.mk.injEq, zall_0, zall_1, zall_2, zob_iff, zar_iff, zis_iff, zkIs_some, zkHas_some, iI_vp, z01_I, z01_bz, zch_I, true_and, and_true, or_false, false_or, and_self, upI_same, upL_same, upI_ne, upL_ne, iI_ixN, zI_mk, zL_mk, zP_mk, zK_mk, zN_mk, zwI_up, zwL_up, zg_some, Nat.reduceMod, Nat.reduceDiv, zcn_I, iI_add, iI_sub, iI_mul, iI_neg, iI_lt, iI_le, iI_eq, iI_lt0, iI_le0, iI_gt0, iI_ge0, iI_eq0, k0, p9, k9, p6, k6, q6, j6, vk] <;> omega) ?_ ?_
      · simp (disch := omega) only [upI_same, upL_same, upI_ne, upL_ne, iI_ixN, zI_mk, zL_mk, zP_mk, zK_mk, zN_mk, zwI_up, zwL_up, zg_some, Nat.reduceMod, Nat.reduceDiv, p9, p6, q6, vk, t1, not_true_eq_false, not_false_eq_true]
        decide +kernel
      refine zW.gr [] rfl rfl rfl (by omega) trivial trivial ?_
      exact h0 k r I1 (by omega) f hr v9 hf ht hF hA
    | some u =>
      rw [ht] at t1
      have hun := hN _ _ _ ht
      obtain ⟨b1, b2, b3, b4, b5⟩ := hW.1 _ _ _ ht
      have t2 := t2 u ht
      refine zW.gbt [] rfl rfl rfl (by omega) (by simp (disch := omega) only [true_or, or_true, eq_self, Option.some.injEq, Prod.mk.injEq, zall_0, zall_1, zall_2, zob_iff, zar_iff, zis_iff, zkIs_some, zkHas_some, iI_vp, z01_I, z01_bz, zch_I, true_and, and_true, or_false, false_or, and_self, upI_same, upL_same, upI_ne, upL_ne, iI_ixN, zI_mk, zL_mk, zP_mk, zK_mk, zN_mk, zwI_up, zwL_up, zg_some, Nat.reduceMod, Nat.reduceDiv, zcn_I, iI_add, iI_sub, iI_mul, iI_neg, iI_lt, iI_le, iI_eq, iI_lt0, iI_le0, iI_gt0, iI_ge0, iI_eq0, k0, p9, k9, p6, k6, q6, j6, vk] <;> omega) ?_ ?_
      · simp (disch := omega) only [upI_same, upL_same, upI_ne, upL_ne, iI_ixN, zI_mk, zL_mk, zP_mk, zK_mk, zN_mk, zwI_up, zwL_up, zg_some, Nat.reduceMod, Nat.reduceDiv, p9, p6, q6, vk, t1, not_true_eq_false, not_false_eq_true]
        show ¬ bz true = 0
        decide +kernel
      refine zW.go [45] rfl (by omega) (by simp (disch := omega) only [true_or, or_true, eq_self, Option.some.injEq, Prod.mk.injEq, zall_0, zall_1, zall_2, zob_iff, zar_iff, zis_iff, zkIs_some, zkHas_some, iI_vp, z01_I, z01_bz, zch_I, true_and, and_true, or_false, false_or, and_self, upI_same, upL_same, upI_ne, upL_ne, iI_ixN, zI_mk, zL_mk, zP_mk, zK_mk, zN_mk, zwI_up, zwL_up, zg_some, Nat.reduceMod, Nat.reduceDiv, zcn_I, iI_add, iI_sub, iI_mul, iI_neg, iI_lt, iI_le, iI_eq, iI_lt0, iI_le0, iI_gt0, iI_ge0, iI_eq0, k0, p7, k7, q7, j7, p9, vk] <;> omega) ?_
      simp (disch := omega) only [upI_same, upL_same, upI_ne, upL_ne, iI_ixN, zI_mk, zL_mk, zP_mk, zK_mk, zN_mk, zwI_up, zwL_up, zg_some, Nat.reduceMod, Nat.reduceDiv, zcn_I, iI_add, iI_sub, iI_mul, iI_neg, iI_lt, iI_le, iI_eq, iI_lt0, iI_le0, iI_gt0, iI_ge0, iI_eq0, p7, q7, r7, p9, vk]
      refine sinv_lp (u := u) hd hM hi hn hun s7 (by omega) vn1 t2 (fun I2 g1 g2 => ?_) n 0 (by omega) I1 _ (fun _ _ => rfl) (fun p q => absurd q (Nat.not_lt_zero p)) rfl
      refine zW.go [77] rfl (by omega) trivial ?_
      refine sthr_lp (u := u) (r := r) hd hM hi hn hr (by rw [g1 _ (by omega)]; exact vn1) (fun p hp => by rw [g1 _ (by omega)]; exact v9 p hp) g2 (fun I3 x3 w1 w2 w3 => ?_) n 0 (by omega) I2 _ (fun _ _ => rfl) (fun p q => absurd q (Nat.not_lt_zero p)) (fun _ _ => rfl) (zcn_I _)
      refine zW.go [2] rfl (by omega) trivial ?_
      have hvn : pm n (vi 10 u) := by
        rw [vi_up hun hn]
        exact vi_pm hun
      refine msift_lp hd hM hi hn hW hN h1 h0 vn hT m (k + 1) (by omega) I3 (fun p => vi 10 u (r p)) _ _ _ _ ⟨fun a q1 q2 => ?_, fun p q => ?_⟩ (pm_comp hvn hr) w2 (fun q hq => ?_) (fun tb' le => ?_) (fun A a1 a2 a3 => ?_) (by rw [zcn_I, iI_add]; rfl)
      · rw [w1 a q1, g1 a q2]
        exact f.1 a q1 q2
      · rw [w3 p q, g1 _ (by omega)]
        exact f.2 p q
      · refine pm_inj b3 ?_
        show u (vi 10 u (r q)) = u q
        rw [vi_r b3]
        by_cases e : q = k
        · rw [e, b5]
        · rw [hf q (by omega), b4 q (by omega)]
      · refine (hF tb' le).trans ?_
        rw [show 10 - k = (10 - (k + 1)) + 1 by omega]
        have hk9 : 9 - (10 - (k + 1)) = k := by omega
        refine ⟨?_, fun h => ⟨u, by rw [hk9]; exact le _ _ _ ht, h⟩⟩
        rintro ⟨u', h1, h2⟩
        rw [hk9, le _ _ _ ht] at h1
        cases h1
        exact h2
      · exact Gm_mul (Gm_vi a1 (a3 _ _ _ ht)) (hA A a1 a2 a3)
theorem msift_ok {i n : Nat} {tb : zTb} {r : Nat → Nat} {x : Int32} (hd : 1 ≤ d) (hM : ML y R) (e : x = iI (i : Int)) (hi : i < 4) (hn : n ≤ 10) (hW : tW tb) (hN : tN n tb) (hT : mTb y I tb) (vn : I (y + 2) i = iI (n : Int)) (hr : pm n r) (v9 : ∀ p, p < n → I (y + 174) p = iI (r p : Int))
    (h1 : ∀ I', msf y n I I' → Fl tb 10 r → Q (.inl (some (zi (iI (-1))))) (I', L, R))
    (h0 : ∀ k r' I', k < n → msf y n I I' → pm n r' → (∀ p, p < n → I' (y + 174) p = iI (r' p : Int)) → (∀ q, q < k → r' q = q) → tb k (r' k) = none → (∀ tb', tLe tb tb' → (Fl tb' 10 r ↔ Fl tb' (10 - k) r')) → (∀ A : (Nat → Nat) → Prop, (∀ g, A g → pm 10 g) → Gm A r → (∀ k j v, tb k j = some v → Gm A v) → Gm A r') → Q (.inl (some (zi (iI (k : Int))))) (I', L, R)) : zS 178 d [zr (some y), zi x] (I, L, R) Q := by
  subst e
  refine zW.go [2] rfl (by omega) trivial ?_
  exact msift_lp hd hM hi hn hW hN h1 h0 vn hT n 0 (by omega) I r _ _ _ _ (msf_rf y n I) hr v9 (fun q h => absurd h (Nat.not_lt_zero q)) (fun _ _ => Iff.rfl) (fun _ _ h _ => h) (zcn_I _)
end MSFT
