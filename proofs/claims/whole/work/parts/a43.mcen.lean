/-! The model's checks of small groups; the centre. -/
section MCEN
variable {d y : Nat} {T : tfT} {I : Nat → Nat → Int32} {L : Nat → Nat → Int64} {R : zRt} {Q : zO → zM → Prop}
theorem mNot_ok {p : Int} {k : Nat} {a b : Int32} (hd : 6 ≤ d) (h : mf y T (I, L, R)) (e1 : a = iI p) (e2 : b = iI (k : Int)) (h1 : i32 p)
    (hb : noP T p → ∀ I' L', mf y T (I', L', R) → mfo y I L I' L' → I' y 41 = iI 1 → Q (.inl (some (zi (iI 1)))) (I', L', R))
    (hs : ∀ i : Nat, p = i → i < tPn T → ¬ pzZ (tPz T i) ≤ 800 → ∀ I' L', mf y T (I', L', R) → mfo y I L I' L' → I' y 41 = iI (k : Int) → Q (.inl (some (zi (iI 1)))) (I', L', R))
    (hg : ∀ i : Nat, p = i → i < tPn T → pzZ (tPz T i) ≤ 800 → ∀ I' L' tb, mf y T (I', L', R) → mfo y I L I' L' → I' y 41 = iI 0 → mGr y (pzN (tPz T i)) (zA (pzR (tPz T i)) (pzT (tPz T i))) I' L' tb → mLdi y I' (tPz T i) → Q (.inl (some (zi (iI 0)))) (I', L', R)) : zS 187 d [zr (some y), zi a, zi b] (I, L, R) Q := by
  subst e1; subst e2
  have hM := h.2.1
  have k0 : R.2.1 y = some (7, 0) := hM.1
  refine zW.gz [] rfl rfl rfl (by omega) trivial ⟨_, rfl, k0⟩ rfl rfl (by decide +kernel) (by decide +kernel) ?_
  refine noPz_ok (by omega) h rfl h1 (fun q hq => ?_)
  refine zW.gz [] rfl rfl rfl (by omega) trivial ⟨_, rfl, k0⟩ rfl rfl (by decide +kernel) (by decide +kernel) ?_
  refine mThr_ok (k := 1) (by omega) k0 hq (zcn_I _) (fun hb' => ?_) (fun hg' => ?_)
  · refine zW.gbt [] rfl rfl rfl (by omega) trivial (by simp (disch := omega) only [eq_self, not_true_eq_false, not_false_eq_true, upI_same, upL_same, upI_ne, upL_ne, iI_ixN, zI_mk, zL_mk, zP_mk, zK_mk, zN_mk, zwI_up, zwL_up, zg_some, Nat.reduceMod, Nat.reduceDiv, zcn_I, iI_add, iI_sub, iI_mul, iI_neg, iI_lt, iI_le, iI_eq, iI_lt0, iI_le0, iI_gt0, iI_ge0, iI_eq0] <;> omega) ?_
    refine zW.go [39] rfl (by omega) trivial ?_
    refine zW.gr [] rfl rfl rfl (by omega) trivial z01c1 ?_
    rw [zcn_I]
    exact hb hb' _ _ (mf_scr h th_scr) (scr_o th_scr) (upI_same _ _ _ _)
  · obtain ⟨i, rfl, hi, -⟩ := onP_yes (f := fun i => (0, 0, T)) hg'
    have hm : mf y T (upI I y 41 (iI 0), L, R) := mf_scr h th_scr
    refine zW.gbf [] rfl rfl rfl (by omega) trivial (by simp (disch := omega) only [eq_self, not_true_eq_false, not_false_eq_true, upI_same, upL_same, upI_ne, upL_ne, iI_ixN, zI_mk, zL_mk, zP_mk, zK_mk, zN_mk, zwI_up, zwL_up, zg_some, Nat.reduceMod, Nat.reduceDiv, zcn_I, iI_add, iI_sub, iI_mul, iI_neg, iI_lt, iI_le, iI_eq, iI_lt0, iI_le0, iI_gt0, iI_ge0, iI_eq0] <;> omega) ?_
    refine zW.gz [] rfl rfl rfl (by omega) trivial ⟨_, rfl, k0⟩ rfl rfl (by decide +kernel) (by decide +kernel) ?_
    refine msmall_ok (by omega) hm hi rfl (fun I' L' tb q m1 f1 t1 hG hq hL => ?_)
    have F : ∀ u, tru (¬ pzZ (tPz T i) ≤ 800) u → zW 187 d 0 0 27 [some (zr (some y)), some (zi (iI (i : Int))), some (zi (iI (k : Int)))] [zi u, zr (some y)] (I', L', R) Q := fun u hu => by
      refine zW.gz [] rfl rfl rfl (by omega) trivial ⟨_, rfl, k0⟩ rfl rfl (by decide +kernel) (by decide +kernel) ?_
      refine mThr_ok (k := k) (by omega) k0 hu rfl (fun hb2 => ?_) (fun hb2 => ?_)
      · refine zW.gbf [] rfl rfl rfl (by omega) trivial (by simp (disch := omega) only [eq_self, not_true_eq_false, not_false_eq_true, upI_same, upL_same, upI_ne, upL_ne, iI_ixN, zI_mk, zL_mk, zP_mk, zK_mk, zN_mk, zwI_up, zwL_up, zg_some, Nat.reduceMod, Nat.reduceDiv, zcn_I, iI_add, iI_sub, iI_mul, iI_neg, iI_lt, iI_le, iI_eq, iI_lt0, iI_le0, iI_gt0, iI_ge0, iI_eq0] <;> omega) ?_
        refine zW.go [39] rfl (by omega) trivial ?_
        refine zW.gr [] rfl rfl rfl (by omega) trivial z01c1 ?_
        rw [zcn_I]
        exact hs i rfl hi hb2 _ _ (mf_scr m1 th_scr) (mfo_tr (mfo_tr (scr_o th_scr) f1) (scr_o th_scr)) (upI_same _ _ _ _)
      · have hb2 := Classical.byContradiction hb2
        refine zW.gbt [] rfl rfl rfl (by omega) trivial (by simp (disch := omega) only [eq_self, not_true_eq_false, not_false_eq_true, upI_same, upL_same, upI_ne, upL_ne, iI_ixN, zI_mk, zL_mk, zP_mk, zK_mk, zN_mk, zwI_up, zwL_up, zg_some, Nat.reduceMod, Nat.reduceDiv, zcn_I, iI_add, iI_sub, iI_mul, iI_neg, iI_lt, iI_le, iI_eq, iI_lt0, iI_le0, iI_gt0, iI_ge0, iI_eq0] <;> omega) ?_
        refine zW.go [39] rfl (by omega) trivial ?_
        refine zW.gr [] rfl rfl rfl (by omega) trivial z01c0 ?_; rw [zcn_I]
        refine hg i rfl hi hb2 _ _ tb (mf_scr m1 th_scr) (mfo_tr (mfo_tr (scr_o th_scr) f1) (scr_o th_scr)) (upI_same _ _ _ _) (mGr_fr hG (fun a q1 q2 => upI_row (by omega)) rfl) (fun k hk => ?_)
        obtain ⟨q1, q2⟩ := hL hb2 k hk
        exact ⟨fun q hq => by rw [upI_row (by omega)]; exact q1 q hq, fun a ha => by rw [upI_row (by omega)]; exact q2 a ha⟩
    rcases hq with ⟨g, rfl⟩ | ⟨g, rfl⟩
    · refine zW.gbt [] rfl rfl rfl (by omega) trivial (by simp (disch := omega) only [eq_self, not_true_eq_false, not_false_eq_true, upI_same, upL_same, upI_ne, upL_ne, iI_ixN, zI_mk, zL_mk, zP_mk, zK_mk, zN_mk, zwI_up, zwL_up, zg_some, Nat.reduceMod, Nat.reduceDiv, zcn_I, iI_add, iI_sub, iI_mul, iI_neg, iI_lt, iI_le, iI_eq, iI_lt0, iI_le0, iI_gt0, iI_ge0, iI_eq0] <;> omega) ?_
      exact zW.go [27] rfl (by omega) trivial (F _ (tru_f (fun n => n g)))
    · refine zW.gbf [] rfl rfl rfl (by omega) trivial (by simp (disch := omega) only [eq_self, not_true_eq_false, not_false_eq_true, upI_same, upL_same, upI_ne, upL_ne, iI_ixN, zI_mk, zL_mk, zP_mk, zK_mk, zN_mk, zwI_up, zwL_up, zg_some, Nat.reduceMod, Nat.reduceDiv, zcn_I, iI_add, iI_sub, iI_mul, iI_neg, iI_lt, iI_le, iI_eq, iI_lt0, iI_le0, iI_gt0, iI_ge0, iI_eq0] <;> omega) ?_
      exact zW.go [27] rfl (by omega) trivial (F _ (tru_t g))
/-- two rows alike -/
theorem cen_cmp {i s a n c : Nat} {f g : Nat → Nat} {B : Prop} (hd : 1 ≤ d) (hM : ML y R) (hi : i < 4) (hn : n ≤ 10) (vn : I (y + 2) i = iI (n : Int)) (va : ∀ p, p < n → I (y + 175) p = iI (f p : Int)) (vb : ∀ p, p < n → I (y + 174) p = iI (g p : Int)) (hf : ∀ p, p < n → f p < 10) (hg : ∀ p, p < n → g p < 10)
    (hQ : ∀ q x, tru (B ∧ ∀ p, p < n → f p = g p) q → zW 188 d 0 0 148 [some (zr (some y)), some (zi (iI (i : Int))), some (zi (iI (c : Int))), some (zi (iI (s : Int))), some (zi q), some (zi (iI (a : Int))), some (zi x)] [] (I, L, R) Q) :
    ∀ m k, k + m = n → ∀ (q x : Int32), tru (B ∧ ∀ p, p < k → f p = g p) q → x = iI (k : Int) → zW 188 d 0 0 104 [some (zr (some y)), some (zi (iI (i : Int))), some (zi (iI (c : Int))), some (zi (iI (s : Int))), some (zi q), some (zi (iI (a : Int))), some (zi x)] [] (I, L, R) Q
  | 0, k, hk, q, x, hq, e => by
    subst e
    have k0 : R.2.1 y = some (7, 0) := hM.1
    have p1 : R.1 y 1 = some (y + 2) := (hM.2.1 1 (by decide)).1; have k1 : R.2.1 (y + 2) = some (20, 4) := (hM.2.1 1 (by decide)).2
    obtain rfl : k = n := by omega
    exact zW.gbt [] rfl rfl rfl (by omega) (by simp (disch := omega) only [true_or, or_true, eq_self, Option.some.injEq, Prod.mk.injEq, zall_0, zall_1, zall_2, zob_iff, zar_iff, zis_iff, zkIs_some, zkHas_some, iI_vp, z01_I, z01_bz, zch_I, true_and, and_true, or_false, false_or, and_self, upI_same, upL_same, upI_ne, upL_ne, iI_ixN, zI_mk, zL_mk, zP_mk, zK_mk, zN_mk, zwI_up, zwL_up, zg_some, Nat.reduceMod, Nat.reduceDiv, zcn_I, iI_add, iI_sub, iI_mul, iI_neg, iI_lt, iI_le, iI_eq, iI_lt0, iI_le0, iI_gt0, iI_ge0, iI_eq0, k0, p1, k1] <;> omega) (by simp (disch := omega) only [eq_self, not_true_eq_false, not_false_eq_true, upI_same, upL_same, upI_ne, upL_ne, iI_ixN, zI_mk, zL_mk, zP_mk, zK_mk, zN_mk, zwI_up, zwL_up, zg_some, Nat.reduceMod, Nat.reduceDiv, zcn_I, iI_add, iI_sub, iI_mul, iI_neg, iI_lt, iI_le, iI_eq, iI_lt0, iI_le0, iI_gt0, iI_ge0, iI_eq0, p1, vn] <;> omega) (hQ _ _ hq)
  | m + 1, k, hk, q, x, hq, e => by
    subst e
    have k0 : R.2.1 y = some (7, 0) := hM.1
    have v1 := va k (by omega)
    have v2 := vb k (by omega)
    have l1 := hf k (by omega)
    have l2 := hg k (by omega)
    have p1 : R.1 y 1 = some (y + 2) := (hM.2.1 1 (by decide)).1; have k1 : R.2.1 (y + 2) = some (20, 4) := (hM.2.1 1 (by decide)).2; have p9 : R.1 y 9 = some (y + 174) := (hM.2.1 9 (by decide)).1; have k9 : R.2.1 (y + 174) = some (20, 10) := (hM.2.1 9 (by decide)).2; have p10 : R.1 y 10 = some (y + 175) := (hM.2.1 10 (by decide)).1; have k10 : R.2.1 (y + 175) = some (20, 10) := (hM.2.1 10 (by decide)).2
    have NX : ∀ u, tru (f k = g k) u → zW 188 d 0 0 139 [some (zr (some y)), some (zi (iI (i : Int))), some (zi (iI (c : Int))), some (zi (iI (s : Int))), some (zi q), some (zi (iI (a : Int))), some (zi (iI (k : Int)))] [zi u, zi q] (I, L, R) Q := fun u hu => by
      refine zW.go [104] rfl (by omega) trivial ?_
      refine cen_cmp hd hM hi hn vn va vb hf hg hQ m (k + 1) (by omega) _ _ (tru_cg ?_ (tru_and hq hu)) (by rw [zcn_I, iI_add]; rfl)
      exact ⟨fun ⟨⟨q1, q2⟩, q3⟩ => ⟨q1, all_s.mp ⟨q2, q3⟩⟩, fun ⟨q1, q2⟩ => ⟨⟨q1, (all_s.mpr q2).1⟩, (all_s.mpr q2).2⟩⟩
    refine zW.gbf [] rfl rfl rfl (by omega) (by simp (disch := omega) only [true_or, or_true, eq_self, Option.some.injEq, Prod.mk.injEq, zall_0, zall_1, zall_2, zob_iff, zar_iff, zis_iff, zkIs_some, zkHas_some, iI_vp, z01_I, z01_bz, zch_I, true_and, and_true, or_false, false_or, and_self, upI_same, upL_same, upI_ne, upL_ne, iI_ixN, zI_mk, zL_mk, zP_mk, zK_mk, zN_mk, zwI_up, zwL_up, zg_some, Nat.reduceMod, Nat.reduceDiv, zcn_I, iI_add, iI_sub, iI_mul, iI_neg, iI_lt, iI_le, iI_eq, iI_lt0, iI_le0, iI_gt0, iI_ge0, iI_eq0, k0, p1, k1] <;> omega) (by simp (disch := omega) only [eq_self, not_true_eq_false, not_false_eq_true, upI_same, upL_same, upI_ne, upL_ne, iI_ixN, zI_mk, zL_mk, zP_mk, zK_mk, zN_mk, zwI_up, zwL_up, zg_some, Nat.reduceMod, Nat.reduceDiv, zcn_I, iI_add, iI_sub, iI_mul, iI_neg, iI_lt, iI_le, iI_eq, iI_lt0, iI_le0, iI_gt0, iI_ge0, iI_eq0, p1, vn] <;> omega) ?_
    refine zW.gb [] rfl rfl rfl (by omega) (by simp (disch := omega) only [true_or, or_true, eq_self, Option.some.injEq, Prod.mk.injEq, zall_0, zall_1, zall_2, zob_iff, zar_iff, zis_iff, zkIs_some, zkHas_some, iI_vp, z01_I, z01_bz, zch_I, true_and, and_true, or_false, false_or, and_self, upI_same, upL_same, upI_ne, upL_ne, iI_ixN, zI_mk, zL_mk, zP_mk, zK_mk, zN_mk, zwI_up, zwL_up, zg_some, Nat.reduceMod, Nat.reduceDiv, zcn_I, iI_add, iI_sub, iI_mul, iI_neg, iI_lt, iI_le, iI_eq, iI_lt0, iI_le0, iI_gt0, iI_ge0, iI_eq0, k0, p9, k9, p10, k10] <;> omega) (fun h' => ?_) (fun h' => ?_) <;> simp (disch := omega) only [zcn_I, iI_add, iI_sub, iI_mul, iI_neg, iI_lt, iI_le, iI_eq, iI_lt0, iI_le0, iI_gt0, iI_ge0, iI_eq0, upI_same, upL_same, upI_ne, upL_ne, iI_ixN, zI_mk, zL_mk, zP_mk, zK_mk, zN_mk, zwI_up, zwL_up, zg_some, Nat.reduceMod, Nat.reduceDiv, p9, p10, v1, v2] at h'
    · exact zW.go [139] rfl (by omega) trivial (NX _ (tru_f (by omega)))
    · exact zW.go [139] rfl (by omega) trivial (NX _ (tru_t (by omega)))
theorem cen_tn {i n r s c Z : Nat} {tn : Nat → Nat → Nat} {f : Nat → Nat} (hd : 2 ≤ d) (hM : ML y R) (hi : i < 4) (hn : n ≤ 10) (hr : r ≤ 4) (ht : ∀ a, a < 2 * r → pm n (tn a)) (hf : pm n f) (vn : I (y + 2) i = iI (n : Int)) (vr : I (y + 3) i = iI (r : Int)) (vt : ∀ a p, a < 2 * r → p < 10 → I (y + 6 + 9 * i + a) p = iI (tn a p : Int)) (hs : s < Z) (hZ8 : Z ≤ 800) (vs : ∀ p, p < 10 → I (y + 178 + s) p = iI (f p : Int))
    (hQ : ∀ I' q x v, (∀ a, a ≠ y + 174 → a ≠ y + 175 → I' a = I a) → tru (∀ a, a < 2 * r → ∀ p, p < n → f (tn a p) = tn a (f p)) q → zW 188 d 0 0 154 [some (zr (some y)), some (zi (iI (i : Int))), some (zi (iI (c : Int))), some (zi (iI (s : Int))), some (zi q), some (zi x), v] [] (I', L, R) Q) :
    ∀ m a, a + m = 2 * r → ∀ (I1 : Nat → Nat → Int32) (q x5 : Int32) (v6 : Option zV), (∀ b, b ≠ y + 174 → b ≠ y + 175 → I1 b = I b) → tru (∀ b, b < a → ∀ p, p < n → f (tn b p) = tn b (f p)) q → x5 = iI (a : Int) → zW 188 d 0 0 32 [some (zr (some y)), some (zi (iI (i : Int))), some (zi (iI (c : Int))), some (zi (iI (s : Int))), some (zi q), some (zi x5), v6] [] (I1, L, R) Q
  | 0, a, ha, I1, q, x5, v6, f1, hq, e => by
    subst e
    have k0 : R.2.1 y = some (7, 0) := hM.1
    have vr1 : I1 (y + 3) i = iI (r : Int) := by rw [f1 _ (by omega) (by omega)]; exact vr
    have p2 : R.1 y 2 = some (y + 3) := (hM.2.1 2 (by decide)).1; have k2 : R.2.1 (y + 3) = some (20, 4) := (hM.2.1 2 (by decide)).2
    obtain rfl : a = 2 * r := by omega
    exact zW.gbt [] rfl rfl rfl (by omega) (by simp (disch := omega) only [true_or, or_true, eq_self, Option.some.injEq, Prod.mk.injEq, zall_0, zall_1, zall_2, zob_iff, zar_iff, zis_iff, zkIs_some, zkHas_some, iI_vp, z01_I, z01_bz, zch_I, true_and, and_true, or_false, false_or, and_self, upI_same, upL_same, upI_ne, upL_ne, iI_ixN, zI_mk, zL_mk, zP_mk, zK_mk, zN_mk, zwI_up, zwL_up, zg_some, Nat.reduceMod, Nat.reduceDiv, zcn_I, iI_add, iI_sub, iI_mul, iI_neg, iI_lt, iI_le, iI_eq, iI_lt0, iI_le0, iI_gt0, iI_ge0, iI_eq0, k0, p2, k2] <;> omega) (by simp (disch := omega) only [eq_self, not_true_eq_false, not_false_eq_true, upI_same, upL_same, upI_ne, upL_ne, iI_ixN, zI_mk, zL_mk, zP_mk, zK_mk, zN_mk, zwI_up, zwL_up, zg_some, Nat.reduceMod, Nat.reduceDiv, zcn_I, iI_add, iI_sub, iI_mul, iI_neg, iI_lt, iI_le, iI_eq, iI_lt0, iI_le0, iI_gt0, iI_ge0, iI_eq0, p2, vr1] <;> omega) (hQ I1 _ _ _ f1 hq)
  | m + 1, a, ha, I1, q, x5, v6, f1, hq, e => by
    subst e
    have k0 : R.2.1 y = some (7, 0) := hM.1
    have vr1 : I1 (y + 3) i = iI (r : Int) := by rw [f1 _ (by omega) (by omega)]; exact vr
    have vn1 : I1 (y + 2) i = iI (n : Int) := by rw [f1 _ (by omega) (by omega)]; exact vn
    have vs1 : ∀ p, p < 10 → I1 (y + 178 + s) p = iI (f p : Int) := fun p hp => by rw [f1 _ (by omega) (by omega)]; exact vs p hp
    have vt1 : ∀ p, p < 10 → I1 (y + 6 + 9 * i + a) p = iI (tn a p : Int) := fun p hp => by rw [f1 _ (by omega) (by omega)]; exact vt a p (by omega) hp
    have hta := ht a (by omega)
    have p1 : R.1 y 1 = some (y + 2) := (hM.2.1 1 (by decide)).1; have k1 : R.2.1 (y + 2) = some (20, 4) := (hM.2.1 1 (by decide)).2; have p2 : R.1 y 2 = some (y + 3) := (hM.2.1 2 (by decide)).1; have k2 : R.2.1 (y + 3) = some (20, 4) := (hM.2.1 2 (by decide)).2; have p3 : R.1 y 3 = some (y + 4) := (hM.2.1 3 (by decide)).1; have k3 : R.2.1 (y + 4) = some (26, 4) := (hM.2.1 3 (by decide)).2; have q3 : R.1 (y + 4) (i) = some (y + 5 + 9 * i) := (hM.2.2.1 (i) (by omega)).1.trans (congrArg some (by omega)); have j3 : R.2.1 (y + 5 + 9 * i) = some (25, 8) := (congrArg R.2.1 (by omega)).trans (hM.2.2.1 (i) (by omega)).2.1; have r3 : R.1 (y + 5 + 9 * i) (a) = some (y + 6 + 9 * i + a) := (congrFun (congrArg R.1 (show y + 5 + 9 * i = y + 4 + 1 + 9 * i by omega)) (a)).trans ((((hM.2.2.1 (i) (by omega)).2.2 (a) (by omega)).1).trans (congrArg some (by omega))); have s3 : R.2.1 (y + 6 + 9 * i + a) = some (20, 10) := (congrArg R.2.1 (by omega)).trans ((hM.2.2.1 (i) (by omega)).2.2 (a) (by omega)).2; have p9 : R.1 y 9 = some (y + 174) := (hM.2.1 9 (by decide)).1; have k9 : R.2.1 (y + 174) = some (20, 10) := (hM.2.1 9 (by decide)).2; have p10 : R.1 y 10 = some (y + 175) := (hM.2.1 10 (by decide)).1; have k10 : R.2.1 (y + 175) = some (20, 10) := (hM.2.1 10 (by decide)).2; have p12 : R.1 y 12 = some (y + 177) := (hM.2.1 12 (by decide)).1; have k12 : R.2.1 (y + 177) = some (25, 800) := (hM.2.1 12 (by decide)).2; have q12 : R.1 (y + 177) (s) = some (y + 178 + s) := (hM.2.2.2.2.2.2.2.1 (s) (by omega)).1.trans (congrArg some (by omega)); have j12 : R.2.1 (y + 178 + s) = some (20, 10) := (congrArg R.2.1 (by omega)).trans (hM.2.2.2.2.2.2.2.1 (s) (by omega)).2
    refine zW.gbf [] rfl rfl rfl (by omega) (by simp (disch := omega) only [true_or, or_true, eq_self, Option.some.injEq, Prod.mk.injEq, zall_0, zall_1, zall_2, zob_iff, zar_iff, zis_iff, zkIs_some, zkHas_some, iI_vp, z01_I, z01_bz, zch_I, true_and, and_true, or_false, false_or, and_self, upI_same, upL_same, upI_ne, upL_ne, iI_ixN, zI_mk, zL_mk, zP_mk, zK_mk, zN_mk, zwI_up, zwL_up, zg_some, Nat.reduceMod, Nat.reduceDiv, zcn_I, iI_add, iI_sub, iI_mul, iI_neg, iI_lt, iI_le, iI_eq, iI_lt0, iI_le0, iI_gt0, iI_ge0, iI_eq0, k0, p2, k2] <;> omega) (by simp (disch := omega) only [eq_self, not_true_eq_false, not_false_eq_true, upI_same, upL_same, upI_ne, upL_ne, iI_ixN, zI_mk, zL_mk, zP_mk, zK_mk, zN_mk, zwI_up, zwL_up, zg_some, Nat.reduceMod, Nat.reduceDiv, zcn_I, iI_add, iI_sub, iI_mul, iI_neg, iI_lt, iI_le, iI_eq, iI_lt0, iI_le0, iI_gt0, iI_ge0, iI_eq0, p2, vr1] <;> omega) ?_
    refine zW.gz [] rfl rfl rfl (by omega) ?_ trivial rfl rfl (by decide +kernel) (by decide +kernel) ?_
    · simp (disch := omega) only [true_or, or_true, eq_self, Option.some.injEq, Prod.mk.injEq, zall_0, zall_1, zall_2, zob_iff, zar_iff, zis_iff, zkIs_some, zkHas_some, iI_vp, z01_I, z01_bz, zch_I, true_and, and_true, or_false, false_or, and_self, upI_same, upL_same, upI_ne, upL_ne, iI_ixN, zI_mk, zL_mk, zP_mk, zK_mk, zN_mk, zwI_up, zwL_up, zg_some, Nat.reduceMod, Nat.reduceDiv, k0, p1, k1, p10, p12, k12, p3, k3, q3, j3]
      omega
    simp (disch := omega) only [upI_same, upL_same, upI_ne, upL_ne, iI_ixN, zI_mk, zL_mk, zP_mk, zK_mk, zN_mk, zwI_up, zwL_up, zg_some, Nat.reduceMod, Nat.reduceDiv, p1, vn1, p10, p12, q12, p3, q3, r3]
    refine behind_ok (f := f) (g := tn a) (by omega) rfl k10 j12 s3 (by omega) (by omega) hn hn hn (by omega) vs1 (fun p hp => vt1 p (by omega)) (fun p hp => by have := hta.1 p hp; omega) (fun I2 g1 g2 g3 => ?_)
    have vn2 : I2 (y + 2) i = iI (n : Int) := by rw [g1 _ (by omega)]; exact vn1
    refine zW.gz [] rfl rfl rfl (by omega) ?_ trivial rfl rfl (by decide +kernel) (by decide +kernel) ?_
    · simp (disch := omega) only [true_or, or_true, eq_self, Option.some.injEq, Prod.mk.injEq, zall_0, zall_1, zall_2, zob_iff, zar_iff, zis_iff, zkIs_some, zkHas_some, iI_vp, z01_I, z01_bz, zch_I, true_and, and_true, or_false, false_or, and_self, upI_same, upL_same, upI_ne, upL_ne, iI_ixN, zI_mk, zL_mk, zP_mk, zK_mk, zN_mk, zwI_up, zwL_up, zg_some, Nat.reduceMod, Nat.reduceDiv, k0, p1, k1, p9, p12, k12, p3, k3, q3, j3]
      omega
    simp (disch := omega) only [upI_same, upL_same, upI_ne, upL_ne, iI_ixN, zI_mk, zL_mk, zP_mk, zK_mk, zN_mk, zwI_up, zwL_up, zg_some, Nat.reduceMod, Nat.reduceDiv, p1, vn2, p9, p12, q12, p3, q3, r3]
    refine behind_ok (f := tn a) (g := f) (by omega) rfl k9 s3 j12 (by omega) (by omega) hn hn hn (by omega) (fun p hp => by rw [g1 _ (by omega)]; exact vt1 p hp) (fun p hp => by rw [g1 _ (by omega)]; exact vs1 p (by omega)) (fun p hp => by have := hf.1 p hp; omega) (fun I3 u1 u2 u3 => ?_)
    refine zW.go [104] rfl (by omega) trivial ?_
    refine cen_cmp (f := fun p => f (tn a p)) (g := fun p => tn a (f p)) (B := ∀ b, b < a → ∀ p, p < n → f (tn b p) = tn b (f p)) (by omega) hM hi hn (by rw [u1 _ (by omega)]; exact vn2) (fun p hp => by rw [u1 _ (by omega)]; exact g2 p hp) u2 (fun p hp => by have := hf.1 _ (hta.1 p hp); omega) (fun p hp => by have := hta.1 _ (hf.1 p hp); omega) (fun q' x' hq' => ?_) n 0 (by omega) _ _ (tru_cg ⟨fun q => ⟨q, all_0⟩, fun q => q.1⟩ hq) (zcn_I _)
    refine zW.go [32] rfl (by omega) trivial ?_
    refine cen_tn hd hM hi hn hr ht hf vn vr vt hs hZ8 vs hQ m (a + 1) (by omega) I3 _ _ _ (fun b q1 q2 => by rw [u1 b q1, g1 b q2]; exact f1 b q1 q2) (tru_cg ?_ hq') (by rw [zcn_I, iI_add]; rfl)
    exact all_s
end MCEN
