/-! The model's centre; looking alike. -/
theorem zCen_iff {n r : Nat} {tn : Nat → Nat → Nat} {col st f : Nat → Nat} (hz : zOK n r tn col st) (hf : pm n f) : (∀ a, a < 2 * r → ∀ p, p < n → f (tn a p) = tn a (f p)) ↔ zCen r tn f := by
  constructor
  · intro h i hi
    funext p
    by_cases c : p < n
    · exact h (2 * i) (by omega) p c
    · have h1 := (hz.2.2.2.1 (2 * i) (by omega)).2.2 p (by omega)
      show f (tn (2 * i) p) = tn (2 * i) (f p)
      rw [h1, hf.2.2 p (by omega), h1]
  · intro h a ha p hp
    obtain ⟨i, hi⟩ : ∃ i, a / 2 = i := ⟨_, rfl⟩
    have h2 := h i (by omega)
    by_cases c : a = 2 * i
    · rw [c]
      exact congrFun h2 p
    · have e : a = 2 * i + 1 := by omega
      have hp10 := ztn_pm hz (a := 2 * i) (by omega)
      rw [e, hz.2.2.2.2.1 i (by omega)]
      refine pm_inj hp10 ?_
      rw [vi_r hp10]
      have h3 := congrFun h2 (vi 10 (tn (2 * i)) p)
      have h3 : f (tn (2 * i) (vi 10 (tn (2 * i)) p)) = tn (2 * i) (f (vi 10 (tn (2 * i)) p)) := h3
      rw [vi_r hp10] at h3
      exact h3.symm
section MCEN2
variable {d y : Nat} {T : tfT} {I : Nat → Nat → Int32} {L : Nat → Nat → Int64} {R : zRt} {Q : zO → zM → Prop}
theorem cen_lp {i n r Z : Nat} {tn : Nat → Nat → Nat} {g : Nat → Nat → Nat} {col st : Nat → Nat} (hd : 2 ≤ d) (hM : ML y R) (hi : i < 4) (hz : zOK n r tn col st) (hg : ∀ s, s < Z → pm n (g s)) (vn : I (y + 2) i = iI (n : Int)) (vr : I (y + 3) i = iI (r : Int)) (vt : ∀ a p, a < 2 * r → p < 10 → I (y + 6 + 9 * i + a) p = iI (tn a p : Int)) (hZ8 : Z ≤ 800) (vz : L (y + 173) 0 = iL (Z : Int)) (vs : ∀ s p, s < Z → p < 10 → I (y + 178 + s) p = iI (g s p : Int))
    (hQ : ∀ I', (∀ a, a ≠ y + 174 → a ≠ y + 175 → I' a = I a) → Q (.inl (some (zi (iI (ct (fun s => dc (zCen r tn (g s))) Z : Int))))) (I', L, R)) :
    ∀ m s, s + m = Z → ∀ (I1 : Nat → Nat → Int32) (x2 x3 : Int32) (v4 v5 v6 : Option zV), (∀ b, b ≠ y + 174 → b ≠ y + 175 → I1 b = I b) → x2 = iI (ct (fun s => dc (zCen r tn (g s))) s : Int) → x3 = iI (s : Int) → zW 188 d 0 0 15 [some (zr (some y)), some (zi (iI (i : Int))), some (zi x2), some (zi x3), v4, v5, v6] [] (I1, L, R) Q
  | 0, s, hs, I1, x2, x3, v4, v5, v6, f1, e2, e3 => by
    subst e2; subst e3
    have k0 : R.2.1 y = some (7, 0) := hM.1
    have p8 : R.1 y 8 = some (y + 173) := (hM.2.1 8 (by decide)).1; have k8 : R.2.1 (y + 173) = some (21, 11) := (hM.2.1 8 (by decide)).2
    obtain rfl : s = Z := by omega
    refine zW.gbt [] rfl rfl rfl (by omega) (by simp (disch := omega) only [true_or, or_true, eq_self, Option.some.injEq, Prod.mk.injEq, zall_0, zall_1, zall_2, zob_iff, zar_iff, zis_iff, zkIs_some, zkHas_some, iI_vp, z01_I, z01_bz, zch_I, true_and, and_true, or_false, false_or, and_self, upI_same, upL_same, upI_ne, upL_ne, iI_ixN, zI_mk, zL_mk, zP_mk, zK_mk, zN_mk, zwI_up, zwL_up, zg_some, Nat.reduceMod, Nat.reduceDiv, zcn_I, iI_add, iI_sub, iI_mul, iI_neg, iI_lt, iI_le, iI_eq, iI_lt0, iI_le0, iI_gt0, iI_ge0, iI_eq0, k0, p8, k8] <;> omega) (by simp (disch := omega) only [eq_self, not_true_eq_false, not_false_eq_true, upI_same, upL_same, upI_ne, upL_ne, iI_ixN, zI_mk, zL_mk, zP_mk, zK_mk, zN_mk, zwI_up, zwL_up, zg_some, Nat.reduceMod, Nat.reduceDiv, zcn_I, iI_add, iI_sub, iI_mul, iI_neg, iI_lt, iI_le, iI_eq, iI_lt0, iI_le0, iI_gt0, iI_ge0, iI_eq0, p8, c0i, vz, iL_I] <;> omega) ?_
    exact zW.gr [] rfl rfl rfl (by omega) trivial trivial (hQ I1 f1)
  | m + 1, s, hs, I1, x2, x3, v4, v5, v6, f1, e2, e3 => by
    subst e2; subst e3
    have k0 : R.2.1 y = some (7, 0) := hM.1
    have p8 : R.1 y 8 = some (y + 173) := (hM.2.1 8 (by decide)).1; have k8 : R.2.1 (y + 173) = some (21, 11) := (hM.2.1 8 (by decide)).2
    refine zW.gbf [] rfl rfl rfl (by omega) (by simp (disch := omega) only [true_or, or_true, eq_self, Option.some.injEq, Prod.mk.injEq, zall_0, zall_1, zall_2, zob_iff, zar_iff, zis_iff, zkIs_some, zkHas_some, iI_vp, z01_I, z01_bz, zch_I, true_and, and_true, or_false, false_or, and_self, upI_same, upL_same, upI_ne, upL_ne, iI_ixN, zI_mk, zL_mk, zP_mk, zK_mk, zN_mk, zwI_up, zwL_up, zg_some, Nat.reduceMod, Nat.reduceDiv, zcn_I, iI_add, iI_sub, iI_mul, iI_neg, iI_lt, iI_le, iI_eq, iI_lt0, iI_le0, iI_gt0, iI_ge0, iI_eq0, k0, p8, k8] <;> omega) (by simp (disch := omega) only [eq_self, not_true_eq_false, not_false_eq_true, upI_same, upL_same, upI_ne, upL_ne, iI_ixN, zI_mk, zL_mk, zP_mk, zK_mk, zN_mk, zwI_up, zwL_up, zg_some, Nat.reduceMod, Nat.reduceDiv, zcn_I, iI_add, iI_sub, iI_mul, iI_neg, iI_lt, iI_le, iI_eq, iI_lt0, iI_le0, iI_gt0, iI_ge0, iI_eq0, p8, c0i, vz, iL_I] <;> omega) ?_
    refine zW.go [32] rfl (by omega) trivial ?_
    have hr4 := hz.2.2.1
    refine cen_tn (I := I1) (tn := tn) (f := g s) (Z := Z) (r := r) hd hM hi hz.2.1 hz.2.2.1 hz.2.2.2.1 (hg s (by omega)) (by rw [f1 _ (by omega) (by omega)]; exact vn) (by rw [f1 _ (by omega) (by omega)]; exact vr) (fun a p q1 q2 => by rw [f1 _ (by omega) (by omega)]; exact vt a p q1 q2) (by omega) hZ8 (fun p hp => by rw [f1 _ (by omega) (by omega)]; exact vs s p (by omega) hp) (fun I2 q x v u1 hq => ?_) (2 * r) 0 (by omega) I1 _ _ _ (fun _ _ _ => rfl) (tru_t (fun b q => absurd q (Nat.not_lt_zero b))) (zcn_I _)
    have NX : ∀ (u : Int32) (e : Nat), u = iI (e : Int) → ct (fun s => dc (zCen r tn (g s))) (s + 1) = ct (fun s => dc (zCen r tn (g s))) s + e → zW 188 d 0 0 165 [some (zr (some y)), some (zi (iI (i : Int))), some (zi (iI (ct (fun s => dc (zCen r tn (g s))) s : Int))), some (zi (iI (s : Int))), some (zi q), some (zi x), v] [zi u, zi (iI (ct (fun s => dc (zCen r tn (g s))) s : Int))] (I2, L, R) Q := fun u e hu he => by
      subst hu
      refine zW.go [15] rfl (by omega) trivial ?_
      exact cen_lp hd hM hi hz hg vn vr vt hZ8 vz vs hQ m (s + 1) (by omega) I2 _ _ _ _ _ (fun b q1 q2 => (u1 b q1 q2).trans (f1 b q1 q2)) (by rw [iI_add, he]; rfl) (by rw [zcn_I, iI_add]; rfl)
    have cs : ∀ b : Bool, dc (zCen r tn (g s)) = b → ct (fun s => dc (zCen r tn (g s))) (s + 1) = ct (fun s => dc (zCen r tn (g s))) s + (if b then 1 else 0) := fun b hb => by
      rw [← hb]
      rfl
    rcases hq with ⟨g1, rfl⟩ | ⟨g1, rfl⟩
    · refine zW.gbf [] rfl rfl rfl (by omega) trivial (by simp (disch := omega) only [eq_self, not_true_eq_false, not_false_eq_true, upI_same, upL_same, upI_ne, upL_ne, iI_ixN, zI_mk, zL_mk, zP_mk, zK_mk, zN_mk, zwI_up, zwL_up, zg_some, Nat.reduceMod, Nat.reduceDiv, zcn_I, iI_add, iI_sub, iI_mul, iI_neg, iI_lt, iI_le, iI_eq, iI_lt0, iI_le0, iI_gt0, iI_ge0, iI_eq0] <;> omega) ?_
      exact zW.go [165] rfl (by omega) trivial (NX _ 1 (zcn_I _) (cs true (dc_t.mpr ((zCen_iff hz (hg s (by omega))).mp g1))))
    · refine zW.gbt [] rfl rfl rfl (by omega) trivial (by simp (disch := omega) only [eq_self, not_true_eq_false, not_false_eq_true, upI_same, upL_same, upI_ne, upL_ne, iI_ixN, zI_mk, zL_mk, zP_mk, zK_mk, zN_mk, zwI_up, zwL_up, zg_some, Nat.reduceMod, Nat.reduceDiv, zcn_I, iI_add, iI_sub, iI_mul, iI_neg, iI_lt, iI_le, iI_eq, iI_lt0, iI_le0, iI_gt0, iI_ge0, iI_eq0] <;> omega) ?_
      exact zW.go [165] rfl (by omega) trivial (NX _ 0 (zcn_I _) (cs false (dc_f.mpr (fun q => g1 ((zCen_iff hz (hg s (by omega))).mpr q)))))
theorem mCentre_ok {p : Int} {a : Int32} (hd : 8 ≤ d) (h : mf y T (I, L, R)) (e1 : a = iI p) (h1 : i32 p) (hQ : mP y (I, L, R) (oCentre T p) eI Q) : zS 188 d [zr (some y), zi a] (I, L, R) Q := by
  subst e1
  have hM := h.2.1
  have k0 : R.2.1 y = some (7, 0) := hM.1
  refine zW.gz [] rfl rfl rfl (by omega) trivial ⟨_, rfl, k0⟩ rfl rfl (by decide +kernel) (by decide +kernel) ?_
  refine mNot_ok (k := 2) (by omega) h rfl (zcn_I _) h1 (fun hb I' L' m1 f1 t1 => ?_) (fun i hp hi hb I' L' m1 f1 t1 => ?_) (fun i hp hi hg I' L' tb m1 f1 t1 hG hL => ?_)
  · refine zW.gbf [] rfl rfl rfl (by omega) trivial (by simp (disch := omega) only [eq_self, not_true_eq_false, not_false_eq_true, upI_same, upL_same, upI_ne, upL_ne, iI_ixN, zI_mk, zL_mk, zP_mk, zK_mk, zN_mk, zwI_up, zwL_up, zg_some, Nat.reduceMod, Nat.reduceDiv, zcn_I, iI_add, iI_sub, iI_mul, iI_neg, iI_lt, iI_le, iI_eq, iI_lt0, iI_le0, iI_gt0, iI_ge0, iI_eq0] <;> omega) ?_
    refine zW.gr [] rfl rfl rfl (by omega) trivial trivial ?_; rw [zcn_I]
    exact mP_t hQ (c := 0) (v := 0) (onP_no hb) m1 (mgr_o f1) t1 0
  · subst hp
    unfold oCentre at hQ
    rw [onP_i hi] at hQ
    refine zW.gbf [] rfl rfl rfl (by omega) trivial (by simp (disch := omega) only [eq_self, not_true_eq_false, not_false_eq_true, upI_same, upL_same, upI_ne, upL_ne, iI_ixN, zI_mk, zL_mk, zP_mk, zK_mk, zN_mk, zwI_up, zwL_up, zg_some, Nat.reduceMod, Nat.reduceDiv, zcn_I, iI_add, iI_sub, iI_mul, iI_neg, iI_lt, iI_le, iI_eq, iI_lt0, iI_le0, iI_gt0, iI_ge0, iI_eq0] <;> omega) ?_
    refine zW.gr [] rfl rfl rfl (by omega) trivial trivial ?_; rw [zcn_I]
    exact mP_t hQ (c := 1) (v := 0) (if_pos hb) m1 (mgr_o f1) t1 0
  · subst hp
    unfold oCentre at hQ
    rw [onP_i hi, if_neg (fun n => n hg)] at hQ
    obtain ⟨h4, hz, w1, w2, w3, w4, w5⟩ := m_pz m1 hi
    have vz := hG.2.2.2.2.2.2 0 (Nat.zero_le _)
    have vz : L' (y + 173) 0 = iL (pzZ (tPz T i) : Int) := vz
    refine zW.gbt [] rfl rfl rfl (by omega) trivial (by simp (disch := omega) only [eq_self, not_true_eq_false, not_false_eq_true, upI_same, upL_same, upI_ne, upL_ne, iI_ixN, zI_mk, zL_mk, zP_mk, zK_mk, zN_mk, zwI_up, zwL_up, zg_some, Nat.reduceMod, Nat.reduceDiv, zcn_I, iI_add, iI_sub, iI_mul, iI_neg, iI_lt, iI_le, iI_eq, iI_lt0, iI_le0, iI_gt0, iI_ge0, iI_eq0] <;> omega) ?_
    refine zW.go [15] rfl (by omega) trivial ?_
    refine cen_lp (g := stG (pzG (tPz T i))) (by omega) hM h4 hz (fun s hs => zG_pmn hz (stG_sp (zG_is hz) hs).1) w1 w2 w3 hg vz (fun s p q1 q2 => (hL s q1).1 p q2) (fun I2 g1 => ?_) (pzZ (tPz T i)) 0 (Nat.zero_add _) I' _ _ _ _ _ (fun _ _ _ => rfl) (zcn_I _) (zcn_I _)
    have s2 : scr y I' L' I2 L' := ⟨fun a q => g1 a (fun e => q (by unfold scA; omega)) (fun e => q (by unfold scA; omega)), fun k _ _ _ => by rw [g1 y (by omega) (by omega)], fun _ _ => rfl⟩
    refine mP_0 hQ rfl (mf_scr m1 s2) (mgr_o (mfo_tr f1 (scr_o s2))) ?_
    show I2 y 41 = iI 0
    rw [g1 y (by omega) (by omega)]
    exact t1
end MCEN2
