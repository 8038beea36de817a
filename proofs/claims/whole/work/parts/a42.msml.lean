/-! The model lays a small group's states. -/
section MSML
variable {d y : Nat} {T : tfT} {I : Nat → Nat → Int32} {L : Nat → Nat → Int64} {R : zRt} {Q : zO → zM → Prop}
theorem mf_lay {I' : Nat → Nat → Int32} {L' : Nat → Nat → Int64} (h : mf y T (I, L, R)) (f : ∀ a, ¬ scA y a → ¬ (y + 178 ≤ a ∧ a ≤ y + 1778) → I' a = I a) (f0 : ∀ k, k ≠ 34 → k ≠ 36 → k ≠ 37 → k ≠ 41 → I' y k = I y k) (hl' : mLd y I' T) : mf y T (I', L', R) := by
  obtain ⟨hT, hM, hN, ⟨a1, a2⟩, ⟨b1, b2, b3⟩, ⟨c1, c2⟩, ⟨d1, d2⟩, ⟨g1, g2, g3⟩, gg, l⟩ := h
  have hp4 := hT.2.1.1
  have hr8 := hT.2.2.2.2.1.1
  have hI : ∀ a, ¬ scA y a → ¬ (y + 178 ≤ a ∧ a ≤ y + 1778) → I' a = I a := f
  refine ⟨hT, hM, hN, ⟨(f0 32 (by omega) (by omega) (by omega) (by omega)).trans a1, ?_⟩, ⟨(f0 33 (by omega) (by omega) (by omega) (by omega)).trans b1, fun k hk => ?_, fun k q1 q2 => ?_⟩, ⟨(f0 35 (by omega) (by omega) (by omega) (by omega)).trans c1, ?_⟩, ⟨(f0 38 (by omega) (by omega) (by omega) (by omega)).trans d1, fun c hc => ?_⟩, ⟨(f0 39 (by omega) (by omega) (by omega) (by omega)).trans g1, fun j hj => mRd_cg (by omega) (g2 j hj) (fun a q1 q2 => hI a (fun q => by unfold scA at q; omega) (by omega)), fun j q1 q2 => mR0_cg q2 (g3 j q1 q2) (fun a q1 q2 => hI a (fun q => by unfold scA at q; omega) (by omega))⟩, (f0 40 (by omega) (by omega) (by omega) (by omega)).trans gg, hl'⟩
  · show hl (I' (y + 1)) _
    rw [hI _ (fun q => by unfold scA at q; omega) (by omega)]
    exact a2
  · refine mPz_cg (b2 k hk) (hT.2.1.2 k hk).2.2.1 ?_ ?_ (fun a ha => ?_) ?_ ?_
    · exact congrFun (hI _ (fun q => by unfold scA at q; omega) (by omega)) _
    · exact congrFun (hI _ (fun q => by unfold scA at q; omega) (by omega)) _
    · exact hI _ (fun q => by unfold scA at q; omega) (by omega)
    · exact hI _ (fun q => by unfold scA at q; omega) (by omega)
    · exact hI _ (fun q => by unfold scA at q; omega) (by omega)
  · exact (congrFun (hI _ (fun q => by unfold scA at q; omega) (by omega)) _).trans (b3 k q1 q2)
  · show hl (I' (y + 1782)) _
    rw [hI _ (fun q => by unfold scA at q; omega) (by omega)]
    exact c2
  · exact (congrFun (hI _ (fun q => by unfold scA at q; omega) (by omega)) _).trans (d2 c hc)
/-- the states -/
theorem sml_st {i n Z : Nat} {A : (Nat → Nat) → Prop} {tb : zTb} {v4 : Option zV} (hd : 3 ≤ d) (hM : ML y R) (hi : i < 4) (hn : n ≤ 10) (hA : ∀ g, A g → pm 10 g) (hN : ∀ g, Gm A g → pm n g) (vn : I (y + 2) i = iI (n : Int)) (hG : mGr y n A I L tb) (hZ : szG (Gm A) 10 = Z) (hZ8 : Z ≤ 800)
    (hQ : ∀ I' x, (∀ a, ¬ (y + 178 ≤ a ∧ a ≤ y + 977) → a ≠ y + 175 → I' a = I a) → (∀ s p, s < Z → p < 10 → I' (y + 178 + s) p = iI (stG (Gm A) s p : Int)) → zW 186 d 0 0 62 [some (zr (some y)), some (zi (iI (i : Int))), some (zi (iI (Z : Int))), some (zi x), v4] [] (I', L, R) Q) :
    ∀ m s, s + m = Z → ∀ (I1 : Nat → Nat → Int32) (x3 : Int32), (∀ a, ¬ (y + 178 ≤ a ∧ a ≤ y + 977) → a ≠ y + 175 → I1 a = I a) → (∀ s' p, s' < s → p < 10 → I1 (y + 178 + s') p = iI (stG (Gm A) s' p : Int)) → x3 = iI (s : Int) → zW 186 d 0 0 38 [some (zr (some y)), some (zi (iI (i : Int))), some (zi (iI (Z : Int))), some (zi x3), v4] [] (I1, L, R) Q
  | 0, s, hs, I1, x3, f1, f2, e => by
    subst e
    obtain rfl : s = Z := by omega
    exact zW.gbt [] rfl rfl rfl (by omega) trivial (by simp (disch := omega) only [eq_self, not_true_eq_false, not_false_eq_true, upI_same, upL_same, upI_ne, upL_ne, iI_ixN, zI_mk, zL_mk, zP_mk, zK_mk, zN_mk, zwI_up, zwL_up, zg_some, Nat.reduceMod, Nat.reduceDiv, zcn_I, iI_add, iI_sub, iI_mul, iI_neg, iI_lt, iI_le, iI_eq, iI_lt0, iI_le0, iI_gt0, iI_ge0, iI_eq0] <;> omega) (hQ I1 _ f1 f2)
  | m + 1, s, hs, I1, x3, f1, f2, e => by
    subst e
    have k0 : R.2.1 y = some (7, 0) := hM.1
    obtain ⟨s1, s2⟩ := stG_sp (Gm_isG (A := A) hA) (show s < szG (Gm A) 10 by omega)
    have p12 : R.1 y 12 = some (y + 177) := (hM.2.1 12 (by decide)).1; have k12 : R.2.1 (y + 177) = some (25, 800) := (hM.2.1 12 (by decide)).2; have q12 : R.1 (y + 177) (s) = some (y + 178 + s) := (hM.2.2.2.2.2.2.2.1 (s) (by omega)).1.trans (congrArg some (by omega)); have j12 : R.2.1 (y + 178 + s) = some (20, 10) := (congrArg R.2.1 (by omega)).trans (hM.2.2.2.2.2.2.2.1 (s) (by omega)).2
    refine zW.gbf [] rfl rfl rfl (by omega) trivial (by simp (disch := omega) only [eq_self, not_true_eq_false, not_false_eq_true, upI_same, upL_same, upI_ne, upL_ne, iI_ixN, zI_mk, zL_mk, zP_mk, zK_mk, zN_mk, zwI_up, zwL_up, zg_some, Nat.reduceMod, Nat.reduceDiv, zcn_I, iI_add, iI_sub, iI_mul, iI_neg, iI_lt, iI_le, iI_eq, iI_lt0, iI_le0, iI_gt0, iI_ge0, iI_eq0] <;> omega) ?_
    refine zW.gz [] rfl rfl rfl (by omega) (by simp (disch := omega) only [true_or, or_true, eq_self, Option.some.injEq, Prod.mk.injEq, zall_0, zall_1, zall_2, zob_iff, zar_iff, zis_iff, zkIs_some, zkHas_some, iI_vp, z01_I, z01_bz, zch_I, true_and, and_true, or_false, false_or, and_self, upI_same, upL_same, upI_ne, upL_ne, iI_ixN, zI_mk, zL_mk, zP_mk, zK_mk, zN_mk, zwI_up, zwL_up, zg_some, Nat.reduceMod, Nat.reduceDiv, zcn_I, iI_add, iI_sub, iI_mul, iI_neg, iI_lt, iI_le, iI_eq, iI_lt0, iI_le0, iI_gt0, iI_ge0, iI_eq0, k0, p12, k12] <;> omega) ⟨_, rfl, k0⟩ rfl rfl (by decide +kernel) (by decide +kernel) ?_
    simp (disch := omega) only [upI_same, upL_same, upI_ne, upL_ne, iI_ixN, zI_mk, zL_mk, zP_mk, zK_mk, zN_mk, zwI_up, zwL_up, zg_some, Nat.reduceMod, Nat.reduceDiv, p12, q12, iI_L]
    refine mst_ok (s := stG (Gm A) s) (by omega) hM rfl (congrArg (fun n : Nat => iL (n : Int)) s2.symm) hi hn hA hN (by rw [f1 _ (by omega) (by omega)]; exact vn) (mGr_fr hG (fun a q1 q2 => f1 a (by omega) (by omega)) rfl) j12 (by omega) (by omega) (by omega) s1 (fun I2 g1 g2 => ?_)
    refine zW.go [38] rfl (by omega) trivial ?_
    refine sml_st hd hM hi hn hA hN vn hG hZ hZ8 hQ m (s + 1) (by omega) I2 _ (fun a q1 q2 => (g1 a (by omega) q2).trans (f1 a q1 q2)) (fun s' p q1 q2 => ?_) (by rw [zcn_I, iI_add]; rfl)
    by_cases e : s' = s
    · rw [e]
      exact g2 p q2
    · rw [g1 _ (by omega) (by omega)]
      exact f2 s' p (by omega) q2
/-- their neighbours -/
theorem sml_nx {i n r s Z : Nat} {A : (Nat → Nat) → Prop} {tb : zTb} {tn : Nat → Nat → Nat} (hd : 3 ≤ d) (hM : ML y R) (hi : i < 4) (hn : n ≤ 10) (hr : r ≤ 4) (hA : ∀ g, A g → pm 10 g) (ht : ∀ a, a < 2 * r → Gm A (tn a) ∧ pm n (tn a)) (vn : I (y + 2) i = iI (n : Int)) (vr : I (y + 3) i = iI (r : Int)) (vt : ∀ a p, a < 2 * r → p < 10 → I (y + 6 + 9 * i + a) p = iI (tn a p : Int)) (hG : mGr y n A I L tb) (hZ : szG (Gm A) 10 = Z) (hZ8 : Z ≤ 800) (hs : s < Z) (vs : ∀ p, p < 10 → I (y + 178 + s) p = iI (stG (Gm A) s p : Int))
    (hQ : ∀ I' x, (∀ a, a ≠ y + 979 + s → a ≠ y + 175 → I' a = I a) → (∀ a, a < 2 * r → I' (y + 979 + s) a = iI (nxG (Gm A) tn a s : Int)) → zW 186 d 0 0 138 [some (zr (some y)), some (zi (iI (i : Int))), some (zi (iI (Z : Int))), some (zi (iI (s : Int))), some (zi x)] [] (I', L, R) Q) :
    ∀ m a, a + m = 2 * r → ∀ (I1 : Nat → Nat → Int32) (x4 : Int32), (∀ b, b ≠ y + 979 + s → b ≠ y + 175 → I1 b = I b) → (∀ b, b < a → I1 (y + 979 + s) b = iI (nxG (Gm A) tn b s : Int)) → x4 = iI (a : Int) → zW 186 d 0 0 72 [some (zr (some y)), some (zi (iI (i : Int))), some (zi (iI (Z : Int))), some (zi (iI (s : Int))), some (zi x4)] [] (I1, L, R) Q
  | 0, a, ha, I1, x4, f1, f2, e => by
    subst e
    have k0 : R.2.1 y = some (7, 0) := hM.1
    have vr1 : I1 (y + 3) i = iI (r : Int) := by rw [f1 _ (by omega) (by omega)]; exact vr
    have p2 : R.1 y 2 = some (y + 3) := (hM.2.1 2 (by decide)).1; have k2 : R.2.1 (y + 3) = some (20, 4) := (hM.2.1 2 (by decide)).2
    obtain rfl : a = 2 * r := by omega
    exact zW.gbt [] rfl rfl rfl (by omega) (by simp (disch := omega) only [true_or, or_true, eq_self, Option.some.injEq, Prod.mk.injEq, zall_0, zall_1, zall_2, zob_iff, zar_iff, zis_iff, zkIs_some, zkHas_some, iI_vp, z01_I, z01_bz, zch_I, true_and, and_true, or_false, false_or, and_self, upI_same, upL_same, upI_ne, upL_ne, iI_ixN, zI_mk, zL_mk, zP_mk, zK_mk, zN_mk, zwI_up, zwL_up, zg_some, Nat.reduceMod, Nat.reduceDiv, zcn_I, iI_add, iI_sub, iI_mul, iI_neg, iI_lt, iI_le, iI_eq, iI_lt0, iI_le0, iI_gt0, iI_ge0, iI_eq0, k0, p2, k2] <;> omega) (by simp (disch := omega) only [eq_self, not_true_eq_false, not_false_eq_true, upI_same, upL_same, upI_ne, upL_ne, iI_ixN, zI_mk, zL_mk, zP_mk, zK_mk, zN_mk, zwI_up, zwL_up, zg_some, Nat.reduceMod, Nat.reduceDiv, zcn_I, iI_add, iI_sub, iI_mul, iI_neg, iI_lt, iI_le, iI_eq, iI_lt0, iI_le0, iI_gt0, iI_ge0, iI_eq0, p2, vr1] <;> omega) (hQ I1 _ f1 f2)
  | m + 1, a, ha, I1, x4, f1, f2, e => by
    subst e
    have k0 : R.2.1 y = some (7, 0) := hM.1
    have vr1 : I1 (y + 3) i = iI (r : Int) := by rw [f1 _ (by omega) (by omega)]; exact vr
    have vn1 : I1 (y + 2) i = iI (n : Int) := by rw [f1 _ (by omega) (by omega)]; exact vn
    obtain ⟨s1, s2⟩ := stG_sp (Gm_isG (A := A) hA) (show s < szG (Gm A) 10 by omega)
    obtain ⟨t1, t2⟩ := ht a (by omega)
    have hse := Gm_pm hA s1
    have hGc : Gm A (fun p => stG (Gm A) s (tn a p)) := Gm_mul s1 t1
    have p1 : R.1 y 1 = some (y + 2) := (hM.2.1 1 (by decide)).1; have k1 : R.2.1 (y + 2) = some (20, 4) := (hM.2.1 1 (by decide)).2; have p2 : R.1 y 2 = some (y + 3) := (hM.2.1 2 (by decide)).1; have k2 : R.2.1 (y + 3) = some (20, 4) := (hM.2.1 2 (by decide)).2; have p3 : R.1 y 3 = some (y + 4) := (hM.2.1 3 (by decide)).1; have k3 : R.2.1 (y + 4) = some (26, 4) := (hM.2.1 3 (by decide)).2; have q3 : R.1 (y + 4) (i) = some (y + 5 + 9 * i) := (hM.2.2.1 (i) (by omega)).1.trans (congrArg some (by omega)); have j3 : R.2.1 (y + 5 + 9 * i) = some (25, 8) := (congrArg R.2.1 (by omega)).trans (hM.2.2.1 (i) (by omega)).2.1; have r3 : R.1 (y + 5 + 9 * i) (a) = some (y + 6 + 9 * i + a) := (congrFun (congrArg R.1 (show y + 5 + 9 * i = y + 4 + 1 + 9 * i by omega)) (a)).trans ((((hM.2.2.1 (i) (by omega)).2.2 (a) (by omega)).1).trans (congrArg some (by omega))); have s3 : R.2.1 (y + 6 + 9 * i + a) = some (20, 10) := (congrArg R.2.1 (by omega)).trans ((hM.2.2.1 (i) (by omega)).2.2 (a) (by omega)).2; have p10 : R.1 y 10 = some (y + 175) := (hM.2.1 10 (by decide)).1; have k10 : R.2.1 (y + 175) = some (20, 10) := (hM.2.1 10 (by decide)).2; have p12 : R.1 y 12 = some (y + 177) := (hM.2.1 12 (by decide)).1; have k12 : R.2.1 (y + 177) = some (25, 800) := (hM.2.1 12 (by decide)).2; have q12 : R.1 (y + 177) (s) = some (y + 178 + s) := (hM.2.2.2.2.2.2.2.1 (s) (by omega)).1.trans (congrArg some (by omega)); have j12 : R.2.1 (y + 178 + s) = some (20, 10) := (congrArg R.2.1 (by omega)).trans (hM.2.2.2.2.2.2.2.1 (s) (by omega)).2; have p13 : R.1 y 13 = some (y + 978) := (hM.2.1 13 (by decide)).1; have k13 : R.2.1 (y + 978) = some (25, 800) := (hM.2.1 13 (by decide)).2; have q13 : R.1 (y + 978) (s) = some (y + 979 + s) := (hM.2.2.2.2.2.2.2.2.1 (s) (by omega)).1.trans (congrArg some (by omega)); have j13 : R.2.1 (y + 979 + s) = some (20, 8) := (congrArg R.2.1 (by omega)).trans (hM.2.2.2.2.2.2.2.2.1 (s) (by omega)).2
    refine zW.gbf [] rfl rfl rfl (by omega) (by simp (disch := omega) only [true_or, or_true, eq_self, Option.some.injEq, Prod.mk.injEq, zall_0, zall_1, zall_2, zob_iff, zar_iff, zis_iff, zkIs_some, zkHas_some, iI_vp, z01_I, z01_bz, zch_I, true_and, and_true, or_false, false_or, and_self, upI_same, upL_same, upI_ne, upL_ne, iI_ixN, zI_mk, zL_mk, zP_mk, zK_mk, zN_mk, zwI_up, zwL_up, zg_some, Nat.reduceMod, Nat.reduceDiv, zcn_I, iI_add, iI_sub, iI_mul, iI_neg, iI_lt, iI_le, iI_eq, iI_lt0, iI_le0, iI_gt0, iI_ge0, iI_eq0, k0, p2, k2] <;> omega) (by simp (disch := omega) only [eq_self, not_true_eq_false, not_false_eq_true, upI_same, upL_same, upI_ne, upL_ne, iI_ixN, zI_mk, zL_mk, zP_mk, zK_mk, zN_mk, zwI_up, zwL_up, zg_some, Nat.reduceMod, Nat.reduceDiv, zcn_I, iI_add, iI_sub, iI_mul, iI_neg, iI_lt, iI_le, iI_eq, iI_lt0, iI_le0, iI_gt0, iI_ge0, iI_eq0, p2, vr1] <;> omega) ?_
    refine zW.gz [] rfl rfl rfl (by omega) ?_ trivial rfl rfl (by decide +kernel) (by decide +kernel) ?_
    · simp (disch := omega) only [true_or, or_true, eq_self, Option.some.injEq, Prod.mk.injEq, zall_0, zall_1, zall_2, zob_iff, zar_iff, zis_iff, zkIs_some, zkHas_some, iI_vp, z01_I, z01_bz, zch_I, true_and, and_true, or_false, false_or, and_self, upI_same, upL_same, upI_ne, upL_ne, iI_ixN, zI_mk, zL_mk, zP_mk, zK_mk, zN_mk, zwI_up, zwL_up, zg_some, Nat.reduceMod, Nat.reduceDiv, k0, p1, k1, p10, p12, k12, p3, k3, q3, j3]
      omega
    simp (disch := omega) only [upI_same, upL_same, upI_ne, upL_ne, iI_ixN, zI_mk, zL_mk, zP_mk, zK_mk, zN_mk, zwI_up, zwL_up, zg_some, Nat.reduceMod, Nat.reduceDiv, p1, vn1, p10, p12, q12, p3, q3, r3]
    refine behind_ok (f := stG (Gm A) s) (g := tn a) (by omega) rfl k10 j12 s3 (by omega) (by omega) hn hn hn (by omega) (fun p hp => by rw [f1 _ (by omega) (by omega)]; exact vs p hp) (fun p hp => by rw [f1 _ (by omega) (by omega)]; exact vt a p (by omega) (by omega)) (fun p hp => by have := t2.1 p hp; omega) (fun I2 g1 g2 g3 => ?_)
    refine zW.gz [] rfl rfl rfl (by omega) ?_ ⟨_, rfl, k0⟩ rfl rfl (by decide +kernel) (by decide +kernel) ?_
    · simp (disch := omega) only [true_or, or_true, eq_self, Option.some.injEq, Prod.mk.injEq, zall_0, zall_1, zall_2, zob_iff, zar_iff, zis_iff, zkIs_some, zkHas_some, iI_vp, z01_I, z01_bz, zch_I, true_and, and_true, or_false, false_or, and_self, upI_same, upL_same, upI_ne, upL_ne, iI_ixN, zI_mk, zL_mk, zP_mk, zK_mk, zN_mk, zwI_up, zwL_up, zg_some, Nat.reduceMod, Nat.reduceDiv, k0, p13, k13]
      omega
    simp (disch := omega) only [upI_same, upL_same, upI_ne, upL_ne, iI_ixN, zI_mk, zL_mk, zP_mk, zK_mk, zN_mk, zwI_up, zwL_up, zg_some, Nat.reduceMod, Nat.reduceDiv, p13, q13, p10]
    refine mnum_ok (s := fun p => stG (Gm A) s (tn a p)) (by omega) hM rfl hi hn hA (by rw [g1 _ (by omega)]; exact vn1) (mGr_fr hG (fun b q1 q2 => (g1 b (by omega)).trans (f1 b (by omega) (by omega))) rfl) k10 g2 hGc ?_
    refine zW.go [72] rfl (by omega) ?_ ?_
    · simp (disch := omega) only [true_or, or_true, eq_self, Option.some.injEq, Prod.mk.injEq, zall_0, zall_1, zall_2, zob_iff, zar_iff, zis_iff, zkIs_some, zkHas_some, iI_vp, z01_I, z01_bz, zch_I, true_and, and_true, or_false, false_or, and_self, upI_same, upL_same, upI_ne, upL_ne, iI_ixN, zI_mk, zL_mk, zP_mk, zK_mk, zN_mk, zwI_up, zwL_up, zg_some, Nat.reduceMod, Nat.reduceDiv, j13]
      omega
    simp (disch := omega) only [upI_same, upL_same, upI_ne, upL_ne, iI_ixN, zI_mk, zL_mk, zP_mk, zK_mk, zN_mk, zwI_up, zwL_up, zg_some, Nat.reduceMod, Nat.reduceDiv, iL_I]
    refine sml_nx hd hM hi hn hr hA ht vn vr vt hG hZ hZ8 hs vs hQ m (a + 1) (by omega) _ _ (fun b q1 q2 => by rw [upI_row q1, g1 b q2]; exact f1 b q1 q2) (fun b hb => ?_) (by rw [zcn_I, iI_add]; rfl)
    by_cases e : b = a
    · rw [e, upI_same]
      rfl
    · rw [upI_ne (by omega), g1 _ (by omega)]
      exact f2 b (by omega)
theorem sml_ou {i n r Z : Nat} {A : (Nat → Nat) → Prop} {tb : zTb} {tn : Nat → Nat → Nat} (hd : 3 ≤ d) (hM : ML y R) (hi : i < 4) (hn : n ≤ 10) (hr : r ≤ 4) (hA : ∀ g, A g → pm 10 g) (ht : ∀ a, a < 2 * r → Gm A (tn a) ∧ pm n (tn a)) (vn : I (y + 2) i = iI (n : Int)) (vr : I (y + 3) i = iI (r : Int)) (vt : ∀ a p, a < 2 * r → p < 10 → I (y + 6 + 9 * i + a) p = iI (tn a p : Int)) (hG : mGr y n A I L tb) (hZ : szG (Gm A) 10 = Z) (hZ8 : Z ≤ 800) (vs : ∀ s p, s < Z → p < 10 → I (y + 178 + s) p = iI (stG (Gm A) s p : Int))
    (hQ : ∀ I' x v, (∀ a, ¬ (y + 979 ≤ a ∧ a ≤ y + 1778) → a ≠ y + 175 → I' a = I a) → (∀ s a, s < Z → a < 2 * r → I' (y + 979 + s) a = iI (nxG (Gm A) tn a s : Int)) → zW 186 d 0 0 144 [some (zr (some y)), some (zi (iI (i : Int))), some (zi (iI (Z : Int))), some (zi x), v] [] (I', L, R) Q) :
    ∀ m s, s + m = Z → ∀ (I1 : Nat → Nat → Int32) (x3 : Int32) (v4 : Option zV), (∀ a, ¬ (y + 979 ≤ a ∧ a ≤ y + 1778) → a ≠ y + 175 → I1 a = I a) → (∀ s' a, s' < s → a < 2 * r → I1 (y + 979 + s') a = iI (nxG (Gm A) tn a s' : Int)) → x3 = iI (s : Int) → zW 186 d 0 0 64 [some (zr (some y)), some (zi (iI (i : Int))), some (zi (iI (Z : Int))), some (zi x3), v4] [] (I1, L, R) Q
  | 0, s, hs, I1, x3, v4, f1, f2, e => by
    subst e
    obtain rfl : s = Z := by omega
    exact zW.gbt [] rfl rfl rfl (by omega) trivial (by simp (disch := omega) only [eq_self, not_true_eq_false, not_false_eq_true, upI_same, upL_same, upI_ne, upL_ne, iI_ixN, zI_mk, zL_mk, zP_mk, zK_mk, zN_mk, zwI_up, zwL_up, zg_some, Nat.reduceMod, Nat.reduceDiv, zcn_I, iI_add, iI_sub, iI_mul, iI_neg, iI_lt, iI_le, iI_eq, iI_lt0, iI_le0, iI_gt0, iI_ge0, iI_eq0] <;> omega) (hQ I1 _ _ f1 f2)
  | m + 1, s, hs, I1, x3, v4, f1, f2, e => by
    subst e
    refine zW.gbf [] rfl rfl rfl (by omega) trivial (by simp (disch := omega) only [eq_self, not_true_eq_false, not_false_eq_true, upI_same, upL_same, upI_ne, upL_ne, iI_ixN, zI_mk, zL_mk, zP_mk, zK_mk, zN_mk, zwI_up, zwL_up, zg_some, Nat.reduceMod, Nat.reduceDiv, zcn_I, iI_add, iI_sub, iI_mul, iI_neg, iI_lt, iI_le, iI_eq, iI_lt0, iI_le0, iI_gt0, iI_ge0, iI_eq0] <;> omega) ?_
    refine zW.go [72] rfl (by omega) trivial ?_
    refine sml_nx (I := I1) (s := s) hd hM hi hn hr hA ht (by rw [f1 _ (by omega) (by omega)]; exact vn) (by rw [f1 _ (by omega) (by omega)]; exact vr) (fun a p q1 q2 => by rw [f1 _ (by omega) (by omega)]; exact vt a p q1 q2) (mGr_fr hG (fun a q1 q2 => f1 a (by omega) (by omega)) rfl) hZ hZ8 (by omega) (fun p hp => by rw [f1 _ (by omega) (by omega)]; exact vs s p (by omega) hp) (fun I2 x4 g1 g2 => ?_) (2 * r) 0 (by omega) I1 _ (fun _ _ _ => rfl) (fun b q => absurd q (Nat.not_lt_zero b)) (zcn_I _)
    refine zW.go [64] rfl (by omega) trivial ?_
    refine sml_ou hd hM hi hn hr hA ht vn vr vt hG hZ hZ8 vs hQ m (s + 1) (by omega) I2 _ _ (fun a q1 q2 => (g1 a (by omega) q2).trans (f1 a q1 q2)) (fun s' a q1 q2 => ?_) (by rw [zcn_I, iI_add]; rfl)
    by_cases e : s' = s
    · rw [e]
      exact g2 a q2
    · rw [g1 _ (by omega) (by omega)]
      exact f2 s' a (by omega) q2
/-- the states laid, of a puzzle -/
def mLdi (y : Nat) (I : Nat → Nat → Int32) (w : zPz) : Prop := ∀ k, k < pzZ w → (∀ q, q < 10 → I (y + 178 + k) q = iI (stG (pzG w) k q : Int)) ∧ ∀ a, a < 2 * pzR w → I (y + 979 + k) a = iI (nxG (pzG w) (pzT w) a k : Int)
theorem msmall_ok {i : Nat} {x : Int32} (hd : 5 ≤ d) (h : mf y T (I, L, R)) (hi : i < tPn T) (e : x = iI (i : Int))
    (hQ : ∀ I' L' tb q, mf y T (I', L', R) → mfo y I L I' L' → I' y 41 = I y 41 → mGr y (pzN (tPz T i)) (zA (pzR (tPz T i)) (pzT (tPz T i))) I' L' tb → tru (pzZ (tPz T i) ≤ 800) q → (pzZ (tPz T i) ≤ 800 → mLdi y I' (tPz T i)) → Q (.inl (some (zi q))) (I', L', R)) : zS 186 d [zr (some y), zi x] (I, L, R) Q := by
  subst e
  have hM := h.2.1
  have k0 : R.2.1 y = some (7, 0) := hM.1
  refine zW.gz [] rfl rfl rfl (by omega) trivial ⟨_, rfl, k0⟩ rfl rfl (by decide +kernel) (by decide +kernel) ?_
  refine mlay_ok (by omega) h hi rfl (fun I1 L1 tb s sy hG => ?_)
  have m1 : mf y T (I1, L1, R) := mf_scr h s
  obtain ⟨h4, hz, w1, w2, w3, w4, w5⟩ := m_pz m1 hi
  have hn := hz.2.1
  have hr4 := hz.2.2.1
  have vz := hG.2.2.2.2.2.2 0 (Nat.zero_le _)
  have vz : L1 (y + 173) 0 = iL (pzZ (tPz T i) : Int) := vz
  have hle : pzZ (tPz T i) ≤ 10 ^ 10 := szG_le (pzG (tPz T i)) 10
  rw [show (10 : Nat) ^ 10 = 10000000000 by decide] at hle
  have z8 : Int64.ofInt (zldL 7090) = iL 800 := by decide +kernel
  have hld := m1.2.2.2.2.2.2.2.2.2
  have hld : mLd y I1 T := hld
  have p8 : R.1 y 8 = some (y + 173) := (hM.2.1 8 (by decide)).1; have k8 : R.2.1 (y + 173) = some (21, 11) := (hM.2.1 8 (by decide)).2
  refine zW.gb [] rfl rfl rfl (by omega) (by simp (disch := omega) only [true_or, or_true, eq_self, Option.some.injEq, Prod.mk.injEq, zall_0, zall_1, zall_2, zob_iff, zar_iff, zis_iff, zkIs_some, zkHas_some, iI_vp, z01_I, z01_bz, zch_I, true_and, and_true, or_false, false_or, and_self, upI_same, upL_same, upI_ne, upL_ne, iI_ixN, zI_mk, zL_mk, zP_mk, zK_mk, zN_mk, zwI_up, zwL_up, zg_some, Nat.reduceMod, Nat.reduceDiv, zcn_I, iI_add, iI_sub, iI_mul, iI_neg, iI_lt, iI_le, iI_eq, iI_lt0, iI_le0, iI_gt0, iI_ge0, iI_eq0, k0, p8, k8] <;> omega) (fun h' => ?_) (fun h' => ?_)
  · rw [lg_cmp_le] at h'
    simp only [upI_same, upL_same, upI_ne, upL_ne, iI_ixN, zI_mk, zL_mk, zP_mk, zK_mk, zN_mk, zwI_up, zwL_up, zg_some, Nat.reduceMod, Nat.reduceDiv, p8, zcn_I, c0i, vz, z8] at h'
    rw [iL_le (by omega) (by omega) (by omega) (by omega)] at h'
    have h8 : pzZ (tPz T i) ≤ 800 := by omega
    have YES : ∀ I' L', mf y T (I', L', R) → mfo y I L I' L' → I' y 41 = I y 41 → mGr y (pzN (tPz T i)) (zA (pzR (tPz T i)) (pzT (tPz T i))) I' L' tb → mLdi y I' (tPz T i) → zW 186 d 0 0 149 [some (zr (some y)), some (zi (iI (i : Int))), none, none, none] [] (I', L', R) Q := fun I' L' q1 q2 q3 q4 q5 => by
      refine zW.gr [] rfl rfl rfl (by omega) trivial z01c1 ?_
      exact hQ I' L' tb _ q1 q2 q3 q4 (tru_t h8) (fun _ => q5)
    have NO : zW 186 d 0 0 28 [some (zr (some y)), some (zi (iI (i : Int))), none, none, none] [] (I1, L1, R) Q := by
      have hA := zA_pm hz
      obtain ⟨Z, hZ⟩ : ∃ Z, pzZ (tPz T i) = Z := ⟨_, rfl⟩
      have hZ' : szG (Gm (zA (pzR (tPz T i)) (pzT (tPz T i)))) 10 = Z := hZ
      rw [hZ] at vz h8
      refine zW.go [38] rfl (by omega) (by simp (disch := omega) only [true_or, or_true, eq_self, Option.some.injEq, Prod.mk.injEq, zall_0, zall_1, zall_2, zob_iff, zar_iff, zis_iff, zkIs_some, zkHas_some, iI_vp, z01_I, z01_bz, zch_I, true_and, and_true, or_false, false_or, and_self, upI_same, upL_same, upI_ne, upL_ne, iI_ixN, zI_mk, zL_mk, zP_mk, zK_mk, zN_mk, zwI_up, zwL_up, zg_some, Nat.reduceMod, Nat.reduceDiv, zcn_I, iI_add, iI_sub, iI_mul, iI_neg, iI_lt, iI_le, iI_eq, iI_lt0, iI_le0, iI_gt0, iI_ge0, iI_eq0, k0, p8, k8] <;> omega) ?_
      simp (disch := omega) only [upI_same, upL_same, upI_ne, upL_ne, iI_ixN, zI_mk, zL_mk, zP_mk, zK_mk, zN_mk, zwI_up, zwL_up, zg_some, Nat.reduceMod, Nat.reduceDiv, zcn_I, c0i, p8, vz, iL_I]
      refine sml_st (by omega) hM h4 hn hA (fun g q => zG_pmn hz q) w1 hG hZ' h8 (fun I2 x3 f1 f2 => ?_) Z 0 (by omega) I1 _ (fun _ _ _ => rfl) (fun s' p q => absurd q (Nat.not_lt_zero s')) rfl
      refine zW.go [64] rfl (by omega) trivial ?_
      refine sml_ou (tn := pzT (tPz T i)) (r := pzR (tPz T i)) (by omega) hM h4 hn hr4 hA (fun a ha => ⟨zG_tn hz ha, hz.2.2.2.1 a ha⟩) (by rw [f1 _ (by omega) (by omega)]; exact w1) (by rw [f1 _ (by omega) (by omega)]; exact w2) (fun a p q1 q2 => by rw [f1 _ (by omega) (by omega)]; exact w3 a p q1 q2) (mGr_fr hG (fun a q1 q2 => f1 a (by omega) (by omega)) rfl) hZ' h8 f2 (fun I3 x v g1 g2 => ?_) Z 0 (by omega) I2 _ _ (fun _ _ _ => rfl) (fun s' p q => absurd q (Nat.not_lt_zero s')) (zcn_I _)
      refine zW.gr [] rfl rfl rfl (by omega) ⟨_, rfl, k0⟩ z01c1 ?_
      simp (disch := omega) only [upI_same, upL_same, upI_ne, upL_ne, iI_ixN, zI_mk, zL_mk, zP_mk, zK_mk, zN_mk, zwI_up, zwL_up, zg_some, Nat.reduceMod, Nat.reduceDiv]
      have fr : ∀ a, ¬ (y + 178 ≤ a ∧ a ≤ y + 1778) → a ≠ y + 175 → I3 a = I1 a := fun a q1 q2 => (g1 a (by omega) q2).trans (f1 a (by omega) q2)
      have hY : mLdi y (upI I3 y 34 (iI (i : Int))) (tPz T i) := fun k hk => ⟨fun q hq => by
        rw [upI_row (by omega), g1 _ (by omega) (by omega)]
        exact f2 k q (by omega) hq, fun a ha => by
        rw [upI_row (by omega)]
        exact g2 k a (by omega) ha⟩
      have mN : mf y T (upI I3 y 34 (iI (i : Int)), L1, R) := mf_lay m1 (fun a q1 q2 => by
        rw [upI_row (fun e => q1 (Or.inl e))]
        exact fr a q2 (fun e => q1 (by unfold scA; omega))) (fun k q1 q2 q3 q4 => by rw [upI_ne (by omega), fr _ (by omega) (by omega)]) (Or.inr ⟨i, hi, upI_same _ _ _ _, by omega, hY⟩)
      refine hQ _ L1 tb _ mN (mfo_tr (scr_o s) (mfo_of fun a q => ?_)) ?_ (mGr_fr hG (fun a q1 q2 => ?_) rfl) (tru_t (by omega)) (fun _ => hY)
      · rw [upI_row (by omega)]
        exact fr a (by omega) (by omega)
      · rw [upI_ne (by omega), fr _ (by omega) (by omega)]
        exact sy 41
      · rw [upI_row (by omega)]
        exact fr a (by omega) (by omega)
    rcases hld with v34 | ⟨p, hp, v34, b1, b2⟩
    · refine zW.gbf [] rfl rfl rfl (by omega) (by simp (disch := omega) only [true_or, or_true, eq_self, Option.some.injEq, Prod.mk.injEq, zall_0, zall_1, zall_2, zob_iff, zar_iff, zis_iff, zkIs_some, zkHas_some, iI_vp, z01_I, z01_bz, zch_I, true_and, and_true, or_false, false_or, and_self, upI_same, upL_same, upI_ne, upL_ne, iI_ixN, zI_mk, zL_mk, zP_mk, zK_mk, zN_mk, zwI_up, zwL_up, zg_some, Nat.reduceMod, Nat.reduceDiv, zcn_I, iI_add, iI_sub, iI_mul, iI_neg, iI_lt, iI_le, iI_eq, iI_lt0, iI_le0, iI_gt0, iI_ge0, iI_eq0, k0] <;> omega) ?_ NO
      simp (disch := omega) only [upI_same, upL_same, upI_ne, upL_ne, iI_ixN, zI_mk, zL_mk, zP_mk, zK_mk, zN_mk, zwI_up, zwL_up, zg_some, Nat.reduceMod, Nat.reduceDiv, v34]
      rw [iI_eq (by omega) (by omega) (by omega) (by omega)]
      omega
    · have hp4 := m1.1.2.1.1
      by_cases q : p = i
      · subst q
        refine zW.gbt [] rfl rfl rfl (by omega) (by simp (disch := omega) only [true_or, or_true, eq_self, Option.some.injEq, Prod.mk.injEq, zall_0, zall_1, zall_2, zob_iff, zar_iff, zis_iff, zkIs_some, zkHas_some, iI_vp, z01_I, z01_bz, zch_I, true_and, and_true, or_false, false_or, and_self, upI_same, upL_same, upI_ne, upL_ne, iI_ixN, zI_mk, zL_mk, zP_mk, zK_mk, zN_mk, zwI_up, zwL_up, zg_some, Nat.reduceMod, Nat.reduceDiv, zcn_I, iI_add, iI_sub, iI_mul, iI_neg, iI_lt, iI_le, iI_eq, iI_lt0, iI_le0, iI_gt0, iI_ge0, iI_eq0, k0] <;> omega) (by simp (disch := omega) only [eq_self, not_true_eq_false, not_false_eq_true, upI_same, upL_same, upI_ne, upL_ne, iI_ixN, zI_mk, zL_mk, zP_mk, zK_mk, zN_mk, zwI_up, zwL_up, zg_some, Nat.reduceMod, Nat.reduceDiv, zcn_I, iI_add, iI_sub, iI_mul, iI_neg, iI_lt, iI_le, iI_eq, iI_lt0, iI_le0, iI_gt0, iI_ge0, iI_eq0, v34] <;> omega) ?_
        exact YES I1 L1 m1 (scr_o s) (sy 41) hG b2
      · refine zW.gbf [] rfl rfl rfl (by omega) (by simp (disch := omega) only [true_or, or_true, eq_self, Option.some.injEq, Prod.mk.injEq, zall_0, zall_1, zall_2, zob_iff, zar_iff, zis_iff, zkIs_some, zkHas_some, iI_vp, z01_I, z01_bz, zch_I, true_and, and_true, or_false, false_or, and_self, upI_same, upL_same, upI_ne, upL_ne, iI_ixN, zI_mk, zL_mk, zP_mk, zK_mk, zN_mk, zwI_up, zwL_up, zg_some, Nat.reduceMod, Nat.reduceDiv, zcn_I, iI_add, iI_sub, iI_mul, iI_neg, iI_lt, iI_le, iI_eq, iI_lt0, iI_le0, iI_gt0, iI_ge0, iI_eq0, k0] <;> omega) ?_ NO
        simp (disch := omega) only [upI_same, upL_same, upI_ne, upL_ne, iI_ixN, zI_mk, zL_mk, zP_mk, zK_mk, zN_mk, zwI_up, zwL_up, zg_some, Nat.reduceMod, Nat.reduceDiv, v34]
        rw [iI_eq (by omega) (by omega) (by omega) (by omega)]
        omega
  · rw [lg_cmp_le] at h'
    simp only [upI_same, upL_same, upI_ne, upL_ne, iI_ixN, zI_mk, zL_mk, zP_mk, zK_mk, zN_mk, zwI_up, zwL_up, zg_some, Nat.reduceMod, Nat.reduceDiv, p8, zcn_I, c0i, vz, z8] at h'
    rw [iL_le (by omega) (by omega) (by omega) (by omega)] at h'
    refine zW.gr [] rfl rfl rfl (by omega) trivial z01c0 ?_
    exact hQ I1 L1 tb _ m1 (scr_o s) (sy 41) hG (tru_f (by omega)) (fun q => absurd q (by omega))
end MSML
