/-! The model's distance and mean distance. -/
section MDST
variable {d y : Nat} {T : tfT} {I : Nat → Nat → Int32} {L : Nat → Nat → Int64} {R : zRt} {Q : zO → zM → Prop}
theorem mDist_ok {p c : Int} {a b : Int32} (hd : 9 ≤ d) (h : mf y T (I, L, R)) (e1 : a = iI p) (e2 : b = iI c) (h1 : i32 p) (h2 : 0 ≤ c) (h2' : c < 65536) (hQ : mP y (I, L, R) (oDist T p c) eI Q) : zS 200 d [zr (some y), zi a, zi b] (I, L, R) Q := by
  subst e1; subst e2
  have hM := h.2.1
  have k0 : R.2.1 y = some (7, 0) := hM.1
  refine zW.gz [] rfl rfl rfl (by omega) trivial ⟨_, rfl, k0⟩ rfl rfl (by decide +kernel) (by decide +kernel) ?_
  refine mNoG_ok (by omega) h rfl rfl h1 h2 h2' (fun hb I' L' m1 f1 t1 => ?_) (fun i hp hi hb I' L' m1 f1 t1 => ?_) (fun i hp hi hc hb I' L' m1 f1 t1 => ?_) (fun i hp hi hc hg I' L' tb m1 f1 t1 hG hL => ?_)
  · refine zW.gbt [] rfl rfl rfl (by omega) trivial (by simp (disch := omega) only [eq_self, not_true_eq_false, not_false_eq_true, upI_same, upL_same, upI_ne, upL_ne, iI_ixN, zI_mk, zL_mk, zP_mk, zK_mk, zN_mk, zwI_up, zwL_up, zg_some, Nat.reduceMod, Nat.reduceDiv, zcn_I, iI_add, iI_sub, iI_mul, iI_neg, iI_lt, iI_le, iI_eq, iI_lt0, iI_le0, iI_gt0, iI_ge0, iI_eq0] <;> omega) ?_
    refine zW.gr [] rfl rfl rfl (by omega) trivial trivial ?_; rw [zcn_I]
    exact mP_t hQ (c := 0) (v := 0) (show oDist T p c = (1, 0, T) by unfold oDist onG; exact onP_no hb) m1 (mgr_o f1) t1 0
  · subst hp
    refine zW.gbt [] rfl rfl rfl (by omega) trivial (by simp (disch := omega) only [eq_self, not_true_eq_false, not_false_eq_true, upI_same, upL_same, upI_ne, upL_ne, iI_ixN, zI_mk, zL_mk, zP_mk, zK_mk, zN_mk, zwI_up, zwL_up, zg_some, Nat.reduceMod, Nat.reduceDiv, zcn_I, iI_add, iI_sub, iI_mul, iI_neg, iI_lt, iI_le, iI_eq, iI_lt0, iI_le0, iI_gt0, iI_ge0, iI_eq0] <;> omega) ?_
    refine zW.gr [] rfl rfl rfl (by omega) trivial trivial ?_; rw [zcn_I]
    exact mP_t hQ (c := 1) (v := 0) (onG_2 hi hb) m1 (mgr_o f1) t1 0
  · subst hp
    refine zW.gbt [] rfl rfl rfl (by omega) trivial (by simp (disch := omega) only [eq_self, not_true_eq_false, not_false_eq_true, upI_same, upL_same, upI_ne, upL_ne, iI_ixN, zI_mk, zL_mk, zP_mk, zK_mk, zN_mk, zwI_up, zwL_up, zg_some, Nat.reduceMod, Nat.reduceDiv, zcn_I, iI_add, iI_sub, iI_mul, iI_neg, iI_lt, iI_le, iI_eq, iI_lt0, iI_le0, iI_gt0, iI_ge0, iI_eq0] <;> omega) ?_
    refine zW.gr [] rfl rfl rfl (by omega) trivial trivial ?_; rw [zcn_I]
    exact mP_t hQ (c := 2) (v := 0) ((onG_3 (r := fun _ _ => (0, 0, T)) hi hc).trans (sml_f hb)) m1 (mgr_o f1) t1 0
  · subst hp
    obtain ⟨h4, hz, w1, w2, w3, w4, w5⟩ := m_pz m1 hi
    have eo : oDist T (i : Int) c = (if dc (pzG (tPz T i) (pzS (tPz T i))) then (0, pzF (if c = 113 then 0 else 1) (tPz T i) (numG (pzG (tPz T i)) (pzS (tPz T i)) 10), T) else (4, 0, T)) := (onG_3 (r := fun _ _ => (0, 0, T)) hi hc).trans (sml_t hg)
    rw [eo] at hQ
    have p5 : R.1 y 5 = some (y + 46) := (hM.2.1 5 (by decide)).1; have k5 : R.2.1 (y + 46) = some (25, 4) := (hM.2.1 5 (by decide)).2; have q5 : R.1 (y + 46) (i) = some (y + 47 + i) := (hM.2.2.2.2.1 (i) (by omega)).1.trans (congrArg some (by omega)); have j5 : R.2.1 (y + 47 + i) = some (20, 10) := (congrArg R.2.1 (by omega)).trans (hM.2.2.2.2.1 (i) (by omega)).2
    refine zW.gbf [] rfl rfl rfl (by omega) trivial (by simp (disch := omega) only [eq_self, not_true_eq_false, not_false_eq_true, upI_same, upL_same, upI_ne, upL_ne, iI_ixN, zI_mk, zL_mk, zP_mk, zK_mk, zN_mk, zwI_up, zwL_up, zg_some, Nat.reduceMod, Nat.reduceDiv, zcn_I, iI_add, iI_sub, iI_mul, iI_neg, iI_lt, iI_le, iI_eq, iI_lt0, iI_le0, iI_gt0, iI_ge0, iI_eq0] <;> omega) ?_
    refine zW.gz [] rfl rfl rfl (by omega) (by simp (disch := omega) only [true_or, or_true, eq_self, Option.some.injEq, Prod.mk.injEq, zall_0, zall_1, zall_2, zob_iff, zar_iff, zis_iff, zkIs_some, zkHas_some, iI_vp, z01_I, z01_bz, zch_I, true_and, and_true, or_false, false_or, and_self, upI_same, upL_same, upI_ne, upL_ne, iI_ixN, zI_mk, zL_mk, zP_mk, zK_mk, zN_mk, zwI_up, zwL_up, zg_some, Nat.reduceMod, Nat.reduceDiv, zcn_I, iI_add, iI_sub, iI_mul, iI_neg, iI_lt, iI_le, iI_eq, iI_lt0, iI_le0, iI_gt0, iI_ge0, iI_eq0, k0, p5, k5] <;> omega) ⟨_, rfl, k0⟩ rfl rfl (by decide +kernel) (by decide +kernel) ?_
    simp (disch := omega) only [upI_same, upL_same, upI_ne, upL_ne, iI_ixN, zI_mk, zL_mk, zP_mk, zK_mk, zN_mk, zwI_up, zwL_up, zg_some, Nat.reduceMod, Nat.reduceDiv, p5, q5]
    refine mmem_ok (by omega) hM rfl h4 hz.2.1 (zA_pm hz) w1 hG j5 w5 hz.2.2.2.2.2.2.2.2 (fun q I2 f hq => ?_)
    have s2 : scr y I' L' I2 L' := ⟨fun a q => f a (fun e => q (by unfold scA; omega)) (fun e => q (by unfold scA; omega)), fun k _ _ _ => by rw [f y (by omega) (by omega)], fun _ _ => rfl⟩
    have F : ∀ u, tru (¬ pzG (tPz T i) (pzS (tPz T i))) u → zW 200 d 0 0 29 [some (zr (some y)), some (zi (iI (i : Int))), some (zi (iI c)), none] [zi u, zr (some y)] (I2, L', R) Q := fun u hu => by
      have s3 : ∀ v, scr y I' L' (upI I2 y 41 v) L' := fun v => scr_tr s2 th_scr
      refine zW.gz [] rfl rfl rfl (by omega) trivial ⟨_, rfl, k0⟩ rfl rfl (by decide +kernel) (by decide +kernel) ?_
      refine mThr_ok (k := 4) (by omega) k0 hu (zcn_I _) (fun hb => ?_) (fun hb => ?_)
      · refine zW.gbf [] rfl rfl rfl (by omega) trivial (by simp (disch := omega) only [eq_self, not_true_eq_false, not_false_eq_true, upI_same, upL_same, upI_ne, upL_ne, iI_ixN, zI_mk, zL_mk, zP_mk, zK_mk, zN_mk, zwI_up, zwL_up, zg_some, Nat.reduceMod, Nat.reduceDiv, zcn_I, iI_add, iI_sub, iI_mul, iI_neg, iI_lt, iI_le, iI_eq, iI_lt0, iI_le0, iI_gt0, iI_ge0, iI_eq0] <;> omega) ?_
        refine zW.gr [] rfl rfl rfl (by omega) trivial trivial ?_; rw [zcn_I]
        exact mP_t hQ (c := 3) (v := 0) (if_neg (fun q => hb (dc_t.mp q))) (mf_scr m1 (s3 _)) (mgr_o (mfo_tr f1 (scr_o (s3 _)))) (upI_same _ _ _ _) 0
      · have hb := Classical.byContradiction hb
        rw [if_pos (dc_t.mpr hb)] at hQ
        have hb' : Gm (zA (pzR (tPz T i)) (pzT (tPz T i))) (pzS (tPz T i)) := hb
        have m3 : mf y T (upI I2 y 41 (iI 0), L', R) := mf_scr m1 (s3 _)
        have fr : ∀ a, a ≠ y → a ≠ y + 174 → a ≠ y + 176 → upI I2 y 41 (iI 0) a = I' a := fun a q1 q2 q3 => by rw [upI_row q1]; exact f a q2 q3
        have vz := hG.2.2.2.2.2.2 0 (Nat.zero_le _)
        have hn := numG_lt (zG_is hz) hb 10 (Nat.le_refl _)
        have hn : numG (pzG (tPz T i)) (pzS (tPz T i)) 10 < pzZ (tPz T i) := hn
        obtain ⟨N, hN⟩ : ∃ N, numG (pzG (tPz T i)) (pzS (tPz T i)) 10 = N := ⟨_, rfl⟩
        rw [hN] at hn hQ
        refine zW.gbt [] rfl rfl rfl (by omega) trivial (by simp (disch := omega) only [eq_self, not_true_eq_false, not_false_eq_true, upI_same, upL_same, upI_ne, upL_ne, iI_ixN, zI_mk, zL_mk, zP_mk, zK_mk, zN_mk, zwI_up, zwL_up, zg_some, Nat.reduceMod, Nat.reduceDiv, zcn_I, iI_add, iI_sub, iI_mul, iI_neg, iI_lt, iI_le, iI_eq, iI_lt0, iI_le0, iI_gt0, iI_ge0, iI_eq0] <;> omega) ?_
        refine zW.gz [] rfl rfl rfl (by omega) trivial ⟨_, rfl, k0⟩ rfl rfl (by decide +kernel) (by decide +kernel) ?_
        refine mDis_ok (by omega) m3 hi rfl rfl hc hg vz (fun k hk => ?_) (fun I3 g1 g2 => ?_)
        · obtain ⟨q1, q2⟩ := hL k hk
          exact ⟨fun q hq => by rw [fr _ (by omega) (by omega) (by omega)]; exact q1 q hq, fun a ha => by rw [fr _ (by omega) (by omega) (by omega)]; exact q2 a ha⟩
        have p14 : R.1 y 14 = some (y + 1779) := (hM.2.1 14 (by decide)).1; have k14 : R.2.1 (y + 1779) = some (20, 800) := (hM.2.1 14 (by decide)).2
        refine zW.gz [] rfl rfl rfl (by omega) (by simp (disch := omega) only [true_or, or_true, eq_self, Option.some.injEq, Prod.mk.injEq, zall_0, zall_1, zall_2, zob_iff, zar_iff, zis_iff, zkIs_some, zkHas_some, iI_vp, z01_I, z01_bz, zch_I, true_and, and_true, or_false, false_or, and_self, upI_same, upL_same, upI_ne, upL_ne, iI_ixN, zI_mk, zL_mk, zP_mk, zK_mk, zN_mk, zwI_up, zwL_up, zg_some, Nat.reduceMod, Nat.reduceDiv, zcn_I, iI_add, iI_sub, iI_mul, iI_neg, iI_lt, iI_le, iI_eq, iI_lt0, iI_le0, iI_gt0, iI_ge0, iI_eq0, k0, p5, k5, p14, k14] <;> omega) ⟨_, rfl, k0⟩ rfl rfl (by decide +kernel) (by decide +kernel) ?_
        simp (disch := omega) only [upI_same, upL_same, upI_ne, upL_ne, iI_ixN, zI_mk, zL_mk, zP_mk, zK_mk, zN_mk, zwI_up, zwL_up, zg_some, Nat.reduceMod, Nat.reduceDiv, p5, q5, p14]
        refine mnum_ok (s := pzS (tPz T i)) (by omega) hM rfl h4 hz.2.1 (zA_pm hz) ?_ (mGr_fr hG (fun a q1 q2 => (g1 a (by omega) (by omega)).trans (fr a (by omega) (by omega) (by omega))) rfl) j5 (fun p hp => ?_) hb' ?_
        · rw [g1 _ (by omega) (by omega), fr _ (by omega) (by omega) (by omega)]
          exact w1
        · rw [g1 _ (by omega) (by omega), fr _ (by omega) (by omega) (by omega)]
          exact w5 p (by have := hz.2.1; omega)
        have hN' : numG (Gm (zA (pzR (tPz T i)) (pzT (tPz T i)))) (pzS (tPz T i)) 10 = N := hN
        rw [hN']
        refine zW.gr [] rfl rfl rfl (by omega) ?_ trivial ?_
        · simp (disch := omega) only [true_or, or_true, eq_self, Option.some.injEq, Prod.mk.injEq, zall_0, zall_1, zall_2, zob_iff, zar_iff, zis_iff, zkIs_some, zkHas_some, iI_vp, z01_I, z01_bz, zch_I, true_and, and_true, or_false, false_or, and_self, upI_same, upL_same, upI_ne, upL_ne, iI_ixN, zI_mk, zL_mk, zP_mk, zK_mk, zN_mk, zwI_up, zwL_up, zg_some, Nat.reduceMod, Nat.reduceDiv, iL_I, k14]
          omega
        simp (disch := omega) only [upI_same, upL_same, upI_ne, upL_ne, iI_ixN, zI_mk, zL_mk, zP_mk, zK_mk, zN_mk, zwI_up, zwL_up, zg_some, Nat.reduceMod, Nat.reduceDiv, iL_I]
        rw [g2 N hn]
        refine mP_0 hQ rfl (mf_scr m3 (bfr_scr g1)) (mgr_o (mfo_tr f1 (mfo_tr (scr_o (s3 _)) (scr_o (bfr_scr g1))))) ?_
        show I3 y 41 = iI 0
        rw [g1 y (by omega) (by omega)]
        exact upI_same _ _ _ _
    rcases hq with ⟨g, rfl⟩ | ⟨g, rfl⟩
    · refine zW.gbt [] rfl rfl rfl (by omega) trivial (by simp (disch := omega) only [eq_self, not_true_eq_false, not_false_eq_true, upI_same, upL_same, upI_ne, upL_ne, iI_ixN, zI_mk, zL_mk, zP_mk, zK_mk, zN_mk, zwI_up, zwL_up, zg_some, Nat.reduceMod, Nat.reduceDiv, zcn_I, iI_add, iI_sub, iI_mul, iI_neg, iI_lt, iI_le, iI_eq, iI_lt0, iI_le0, iI_gt0, iI_ge0, iI_eq0] <;> omega) ?_
      exact zW.go [29] rfl (by omega) trivial (F _ (tru_f (fun n => n g)))
    · refine zW.gbf [] rfl rfl rfl (by omega) trivial (by simp (disch := omega) only [eq_self, not_true_eq_false, not_false_eq_true, upI_same, upL_same, upI_ne, upL_ne, iI_ixN, zI_mk, zL_mk, zP_mk, zK_mk, zN_mk, zwI_up, zwL_up, zg_some, Nat.reduceMod, Nat.reduceDiv, zcn_I, iI_add, iI_sub, iI_mul, iI_neg, iI_lt, iI_le, iI_eq, iI_lt0, iI_le0, iI_gt0, iI_ge0, iI_eq0] <;> omega) ?_
      exact zW.go [29] rfl (by omega) trivial (F _ (tru_t g))
end MDST
