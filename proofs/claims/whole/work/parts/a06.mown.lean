/-! The model's own rows. -/
section MOWN
variable {d y : Nat} {T : tfT} {I : Nat → Nat → Int32} {L : Nat → Nat → Int64} {R : zRt} {Q : zO → zM → Prop}
theorem mf_own {I' : Nat → Nat → Int32} {L' : Nat → Nat → Int64} {ty : List Nat} {u : List Nat × Nat × (Nat → Nat)} (h : mf y T (I, L, R)) (hO : tOK ((ty, T.1.2), u, T.2.2)) (f : ∀ a, ¬ scA y a → a ≠ y + 1 → a ≠ y + 1782 → a ≠ y + 1784 → I' a = I a) (f0 : ∀ k, k = 33 ∨ k = 34 ∨ k = 39 ∨ k = 40 → I' y k = I y k) (ht : I' y 32 = iI (ty.length : Int) ∧ hl (I' (y + 1)) ty) (hs : I' y 35 = iI (u.1.length : Int) ∧ hl (I' (y + 1782)) u.1) (hr : I' y 38 = iI (u.2.1 : Int) ∧ ∀ c, c < u.2.1 → I' (y + 1784) c = iI (u.2.2 c : Int)) : mf y ((ty, T.1.2), u, T.2.2) (I', L', R) := by
  obtain ⟨hT, hM, hN, ⟨a1, a2⟩, ⟨b1, b2, b3⟩, ⟨c1, c2⟩, ⟨d1, d2⟩, ⟨g1, g2, g3⟩, g, l⟩ := h
  have hp4 := hT.2.1.1
  have hr8 := hT.2.2.2.2.1.1
  have hI : ∀ a, ¬ scA y a → a ≠ y + 1 → a ≠ y + 1782 → a ≠ y + 1784 → I' a = I a := f
  refine ⟨hO, hM, hN, ht, ⟨(f0 33 (by omega)).trans b1, fun k hk => ?_, fun k q1 q2 => ?_⟩, hs, hr, ⟨(f0 39 (by omega)).trans g1, fun j hj => mRd_cg (by have : j < tRn T := hj; omega) (g2 j hj) (fun a q1 q2 => hI a (fun q => by unfold scA at q; omega) (by omega) (by omega) (by omega)), fun j q1 q2 => mR0_cg q2 (g3 j q1 q2) (fun a q1 q2 => hI a (fun q => by unfold scA at q; omega) (by omega) (by omega) (by omega))⟩, (f0 40 (by omega)).trans g, mLd_cg l (f0 34 (by omega)) (fun a q1 q2 => hI a (fun q => by unfold scA at q; omega) (by omega) (by omega) (by omega))⟩
  · have hk : k < tPn T := hk
    refine mPz_cg (b2 k hk) (hT.2.1.2 k hk).2.2.1 ?_ ?_ (fun a ha => ?_) ?_ ?_
    · exact congrFun (hI _ (fun q => by unfold scA at q; omega) (by omega) (by omega) (by omega)) _
    · exact congrFun (hI _ (fun q => by unfold scA at q; omega) (by omega) (by omega) (by omega)) _
    · exact hI _ (fun q => by unfold scA at q; omega) (by omega) (by omega) (by omega)
    · exact hI _ (fun q => by unfold scA at q; omega) (by omega) (by omega) (by omega)
    · exact hI _ (fun q => by unfold scA at q; omega) (by omega) (by omega) (by omega)
  · have q1 : tPn T ≤ k := q1
    show I' (y + 3) k = iI 0
    rw [hI _ (fun q => by unfold scA at q; omega) (by omega) (by omega) (by omega)]
    exact b3 k q1 q2
theorem m_own (h : mf y T (I, L, R)) : (I y 32 = iI ((tTy T).length : Int) ∧ hl (I (y + 1)) (tTy T)) ∧ (I y 35 = iI ((tSg T).length : Int) ∧ hl (I (y + 1782)) (tSg T)) ∧ (I y 38 = iI (tCn T : Int) ∧ ∀ c, c < tCn T → I (y + 1784) c = iI (tRg T c : Int)) ∧ I y 40 = iI (tDy T : Int) := ⟨h.2.2.2.1, h.2.2.2.2.2.1, h.2.2.2.2.2.2.1, h.2.2.2.2.2.2.2.2.1⟩
theorem mWipeP_ok (hd : 1 ≤ d) (h : mf y T (I, L, R)) (hQ : mP y (I, L, R) (oWipeP T) eI Q) : zS 165 d [zr (some y)] (I, L, R) Q := by
  have k0 : R.2.1 y = some (7, 0) := h.2.1.1
  obtain ⟨⟨a1, a2⟩, ⟨c1, c2⟩, ⟨b1, b2⟩, g⟩ := m_own h
  refine zW.gr [] rfl rfl rfl (by omega) (by simp (disch := omega) only [true_or, or_true, eq_self, Option.some.injEq, Prod.mk.injEq, zall_0, zall_1, zall_2, zob_iff, zar_iff, zis_iff, zkIs_some, zkHas_some, iI_vp, z01_I, z01_bz, zch_I, true_and, and_true, or_false, false_or, and_self, upI_same, upL_same, upI_ne, upL_ne, iI_ixN, zI_mk, zL_mk, zP_mk, zK_mk, zN_mk, zwI_up, zwL_up, zg_some, Nat.reduceMod, Nat.reduceDiv, zcn_I, iI_add, iI_sub, iI_mul, iI_neg, iI_lt, iI_le, iI_eq, iI_lt0, iI_le0, iI_gt0, iI_ge0, iI_eq0, k0] <;> omega) trivial ?_
  simp (disch := omega) only [upI_same, upL_same, upI_ne, upL_ne, iI_ixN, zI_mk, zL_mk, zP_mk, zK_mk, zN_mk, zwI_up, zwL_up, zg_some, Nat.reduceMod, Nat.reduceDiv, zcn_I, iI_add, iI_sub, iI_mul, iI_neg, iI_lt, iI_le, iI_eq, iI_lt0, iI_le0, iI_gt0, iI_ge0, iI_eq0, a1, zcn_I]
  refine mP_0 hQ rfl (mf_own (ty := []) (u := T.2.1) h ⟨⟨Nat.zero_le _, fun i hi => absurd hi (Nat.not_lt_zero _), fun i j _ hj => absurd hj (Nat.not_lt_zero _)⟩, h.1.2⟩ (fun a q1 q2 q3 q4 => ?_) (fun k q => ?_) ⟨?_, fun i hi => absurd hi (Nat.not_lt_zero _)⟩ ⟨?_, ?_⟩ ⟨?_, fun c hc => ?_⟩) (mgr_o (mfo_of fun a q => ?_)) ?_
  · rw [upI_row (fun e => q1 (by rw [e]; exact Or.inl rfl)), upI_row (fun e => q1 (by rw [e]; exact Or.inl rfl))]
  · simp (disch := omega) only [upI_same, upL_same, upI_ne, upL_ne, iI_ixN, zI_mk, zL_mk, zP_mk, zK_mk, zN_mk, zwI_up, zwL_up, zg_some, Nat.reduceMod, Nat.reduceDiv, zcn_I, iI_add, iI_sub, iI_mul, iI_neg, iI_lt, iI_le, iI_eq, iI_lt0, iI_le0, iI_gt0, iI_ge0, iI_eq0]
  · simp (disch := omega) only [upI_same, upL_same, upI_ne, upL_ne, iI_ixN, zI_mk, zL_mk, zP_mk, zK_mk, zN_mk, zwI_up, zwL_up, zg_some, Nat.reduceMod, Nat.reduceDiv, zcn_I, iI_add, iI_sub, iI_mul, iI_neg, iI_lt, iI_le, iI_eq, iI_lt0, iI_le0, iI_gt0, iI_ge0, iI_eq0]
    rfl
  · simp (disch := omega) only [upI_same, upL_same, upI_ne, upL_ne, iI_ixN, zI_mk, zL_mk, zP_mk, zK_mk, zN_mk, zwI_up, zwL_up, zg_some, Nat.reduceMod, Nat.reduceDiv, zcn_I, iI_add, iI_sub, iI_mul, iI_neg, iI_lt, iI_le, iI_eq, iI_lt0, iI_le0, iI_gt0, iI_ge0, iI_eq0]
    exact c1
  · intro i hi
    simp (disch := omega) only [upI_same, upL_same, upI_ne, upL_ne, iI_ixN, zI_mk, zL_mk, zP_mk, zK_mk, zN_mk, zwI_up, zwL_up, zg_some, Nat.reduceMod, Nat.reduceDiv, zcn_I, iI_add, iI_sub, iI_mul, iI_neg, iI_lt, iI_le, iI_eq, iI_lt0, iI_le0, iI_gt0, iI_ge0, iI_eq0]
    exact c2 i hi
  · simp (disch := omega) only [upI_same, upL_same, upI_ne, upL_ne, iI_ixN, zI_mk, zL_mk, zP_mk, zK_mk, zN_mk, zwI_up, zwL_up, zg_some, Nat.reduceMod, Nat.reduceDiv, zcn_I, iI_add, iI_sub, iI_mul, iI_neg, iI_lt, iI_le, iI_eq, iI_lt0, iI_le0, iI_gt0, iI_ge0, iI_eq0]
    exact b1
  · simp (disch := omega) only [upI_same, upL_same, upI_ne, upL_ne, iI_ixN, zI_mk, zL_mk, zP_mk, zK_mk, zN_mk, zwI_up, zwL_up, zg_some, Nat.reduceMod, Nat.reduceDiv, zcn_I, iI_add, iI_sub, iI_mul, iI_neg, iI_lt, iI_le, iI_eq, iI_lt0, iI_le0, iI_gt0, iI_ge0, iI_eq0]
    exact b2 c hc
  · rw [upI_row (by omega), upI_row (by omega)]
  · simp (disch := omega) only [upI_same, upL_same, upI_ne, upL_ne, iI_ixN, zI_mk, zL_mk, zP_mk, zK_mk, zN_mk, zwI_up, zwL_up, zg_some, Nat.reduceMod, Nat.reduceDiv, zcn_I, iI_add, iI_sub, iI_mul, iI_neg, iI_lt, iI_le, iI_eq, iI_lt0, iI_le0, iI_gt0, iI_ge0, iI_eq0]
theorem mWipe_ok (hd : 1 ≤ d) (h : mf y T (I, L, R)) (hQ : mP y (I, L, R) (oWipe T) eI Q) : zS 209 d [zr (some y)] (I, L, R) Q := by
  have k0 : R.2.1 y = some (7, 0) := h.2.1.1
  obtain ⟨⟨a1, a2⟩, ⟨c1, c2⟩, ⟨b1, b2⟩, g⟩ := m_own h
  refine zW.gr [] rfl rfl rfl (by omega) (by simp (disch := omega) only [true_or, or_true, eq_self, Option.some.injEq, Prod.mk.injEq, zall_0, zall_1, zall_2, zob_iff, zar_iff, zis_iff, zkIs_some, zkHas_some, iI_vp, z01_I, z01_bz, zch_I, true_and, and_true, or_false, false_or, and_self, upI_same, upL_same, upI_ne, upL_ne, iI_ixN, zI_mk, zL_mk, zP_mk, zK_mk, zN_mk, zwI_up, zwL_up, zg_some, Nat.reduceMod, Nat.reduceDiv, zcn_I, iI_add, iI_sub, iI_mul, iI_neg, iI_lt, iI_le, iI_eq, iI_lt0, iI_le0, iI_gt0, iI_ge0, iI_eq0, k0] <;> omega) trivial ?_
  simp (disch := omega) only [upI_same, upL_same, upI_ne, upL_ne, iI_ixN, zI_mk, zL_mk, zP_mk, zK_mk, zN_mk, zwI_up, zwL_up, zg_some, Nat.reduceMod, Nat.reduceDiv, zcn_I, iI_add, iI_sub, iI_mul, iI_neg, iI_lt, iI_le, iI_eq, iI_lt0, iI_le0, iI_gt0, iI_ge0, iI_eq0, c1, zcn_I]
  refine mP_0 hQ rfl (mf_own (ty := tTy T) (u := ([], T.2.1.2)) h ⟨h.1.1, h.1.2.1, ⟨Nat.zero_le _, fun c hc => by cases hc⟩, h.1.2.2.2⟩ (fun a q1 q2 q3 q4 => ?_) (fun k q => ?_) ⟨?_, ?_⟩ ⟨?_, fun i hi => absurd hi (Nat.not_lt_zero _)⟩ ⟨?_, fun c hc => ?_⟩) (mgr_o (mfo_of fun a q => ?_)) ?_
  · rw [upI_row (fun e => q1 (by rw [e]; exact Or.inl rfl)), upI_row (fun e => q1 (by rw [e]; exact Or.inl rfl))]
  · simp (disch := omega) only [upI_same, upL_same, upI_ne, upL_ne, iI_ixN, zI_mk, zL_mk, zP_mk, zK_mk, zN_mk, zwI_up, zwL_up, zg_some, Nat.reduceMod, Nat.reduceDiv, zcn_I, iI_add, iI_sub, iI_mul, iI_neg, iI_lt, iI_le, iI_eq, iI_lt0, iI_le0, iI_gt0, iI_ge0, iI_eq0]
  · simp (disch := omega) only [upI_same, upL_same, upI_ne, upL_ne, iI_ixN, zI_mk, zL_mk, zP_mk, zK_mk, zN_mk, zwI_up, zwL_up, zg_some, Nat.reduceMod, Nat.reduceDiv, zcn_I, iI_add, iI_sub, iI_mul, iI_neg, iI_lt, iI_le, iI_eq, iI_lt0, iI_le0, iI_gt0, iI_ge0, iI_eq0]
    exact a1
  · intro i hi
    simp (disch := omega) only [upI_same, upL_same, upI_ne, upL_ne, iI_ixN, zI_mk, zL_mk, zP_mk, zK_mk, zN_mk, zwI_up, zwL_up, zg_some, Nat.reduceMod, Nat.reduceDiv, zcn_I, iI_add, iI_sub, iI_mul, iI_neg, iI_lt, iI_le, iI_eq, iI_lt0, iI_le0, iI_gt0, iI_ge0, iI_eq0]
    exact a2 i hi
  · simp (disch := omega) only [upI_same, upL_same, upI_ne, upL_ne, iI_ixN, zI_mk, zL_mk, zP_mk, zK_mk, zN_mk, zwI_up, zwL_up, zg_some, Nat.reduceMod, Nat.reduceDiv, zcn_I, iI_add, iI_sub, iI_mul, iI_neg, iI_lt, iI_le, iI_eq, iI_lt0, iI_le0, iI_gt0, iI_ge0, iI_eq0]
    rfl
  · simp (disch := omega) only [upI_same, upL_same, upI_ne, upL_ne, iI_ixN, zI_mk, zL_mk, zP_mk, zK_mk, zN_mk, zwI_up, zwL_up, zg_some, Nat.reduceMod, Nat.reduceDiv, zcn_I, iI_add, iI_sub, iI_mul, iI_neg, iI_lt, iI_le, iI_eq, iI_lt0, iI_le0, iI_gt0, iI_ge0, iI_eq0]
    exact b1
  · simp (disch := omega) only [upI_same, upL_same, upI_ne, upL_ne, iI_ixN, zI_mk, zL_mk, zP_mk, zK_mk, zN_mk, zwI_up, zwL_up, zg_some, Nat.reduceMod, Nat.reduceDiv, zcn_I, iI_add, iI_sub, iI_mul, iI_neg, iI_lt, iI_le, iI_eq, iI_lt0, iI_le0, iI_gt0, iI_ge0, iI_eq0]
    exact b2 c hc
  · rw [upI_row (by omega), upI_row (by omega)]
  · simp (disch := omega) only [upI_same, upL_same, upI_ne, upL_ne, iI_ixN, zI_mk, zL_mk, zP_mk, zK_mk, zN_mk, zwI_up, zwL_up, zg_some, Nat.reduceMod, Nat.reduceDiv, zcn_I, iI_add, iI_sub, iI_mul, iI_neg, iI_lt, iI_le, iI_eq, iI_lt0, iI_le0, iI_gt0, iI_ge0, iI_eq0]
theorem mComp_ok {v : Int} {a : Int32} (hd : 6 ≤ d) (h : mf y T (I, L, R)) (e1 : a = iI v) (h1 : i32 v) (hQ : mP y (I, L, R) (oComp T v) eI Q) : zS 223 d [zr (some y), zi a] (I, L, R) Q := by
  subst e1
  have hM := h.2.1
  have k0 : R.2.1 y = some (7, 0) := hM.1
  obtain ⟨⟨a1, a2⟩, ⟨c1, c2⟩, ⟨b1, b2⟩, g⟩ := m_own h
  have hc12 := h.1.2.2.2.1.1
  have F : ∀ q, tru (¬ (0 ≤ v ∧ v ≤ 5)) q → zW 223 d 0 0 15 [some (zr (some y)), some (zi (iI v))] [zi q, zr (some y)] (I, L, R) Q := fun q hq => by
    refine zW.gz [] rfl rfl rfl (by omega) trivial ⟨_, rfl, k0⟩ rfl rfl (by decide +kernel) (by decide +kernel) ?_
    refine mThr_ok (k := 1) (by omega) k0 hq (zcn_I _) (fun hb => ?_) (fun hg => ?_)
    · refine zW.gbt [] rfl rfl rfl (by omega) trivial (by simp (disch := omega) only [eq_self, not_true_eq_false, not_false_eq_true, upI_same, upL_same, upI_ne, upL_ne, iI_ixN, zI_mk, zL_mk, zP_mk, zK_mk, zN_mk, zwI_up, zwL_up, zg_some, Nat.reduceMod, Nat.reduceDiv, zcn_I, iI_add, iI_sub, iI_mul, iI_neg, iI_lt, iI_le, iI_eq, iI_lt0, iI_le0, iI_gt0, iI_ge0, iI_eq0] <;> omega) ?_
      refine zW.gr [] rfl rfl rfl (by omega) trivial trivial ?_; rw [zcn_I]
      refine mP_t hQ (c := 0) (v := 0) ?_ (mf_scr h th_scr) (mgr_o (scr_o th_scr)) (upI_same _ _ _ _) 0
      exact if_pos hb
    · refine zW.gbf [] rfl rfl rfl (by omega) trivial (by simp (disch := omega) only [eq_self, not_true_eq_false, not_false_eq_true, upI_same, upL_same, upI_ne, upL_ne, iI_ixN, zI_mk, zL_mk, zP_mk, zK_mk, zN_mk, zwI_up, zwL_up, zg_some, Nat.reduceMod, Nat.reduceDiv, zcn_I, iI_add, iI_sub, iI_mul, iI_neg, iI_lt, iI_le, iI_eq, iI_lt0, iI_le0, iI_gt0, iI_ge0, iI_eq0] <;> omega) ?_
      unfold oComp at hQ
      rw [if_neg hg] at hQ
      have G : ∀ q, tru (¬ tCn T < 12) q → zW 223 d 0 0 37 [some (zr (some y)), some (zi (iI v))] [zi q, zr (some y)] (upI I y 41 (iI 0), L, R) Q := fun q hq => by
        refine zW.gz [] rfl rfl rfl (by omega) trivial ⟨_, rfl, k0⟩ rfl rfl (by decide +kernel) (by decide +kernel) ?_
        refine mThr_ok (k := 2) (by omega) k0 hq (zcn_I _) (fun hb => ?_) (fun hg2 => ?_)
        · refine zW.gbf [] rfl rfl rfl (by omega) trivial (by simp (disch := omega) only [eq_self, not_true_eq_false, not_false_eq_true, upI_same, upL_same, upI_ne, upL_ne, iI_ixN, zI_mk, zL_mk, zP_mk, zK_mk, zN_mk, zwI_up, zwL_up, zg_some, Nat.reduceMod, Nat.reduceDiv, zcn_I, iI_add, iI_sub, iI_mul, iI_neg, iI_lt, iI_le, iI_eq, iI_lt0, iI_le0, iI_gt0, iI_ge0, iI_eq0] <;> omega) ?_
          refine zW.gr [] rfl rfl rfl (by omega) trivial trivial ?_; rw [zcn_I]
          exact mP_t hQ (c := 1) (v := 0) (if_pos hb) (mf_scr h th2_scr) (mgr_o (scr_o th2_scr)) (upI_same _ _ _ _) 0
        · refine zW.gbt [] rfl rfl rfl (by omega) trivial (by simp (disch := omega) only [eq_self, not_true_eq_false, not_false_eq_true, upI_same, upL_same, upI_ne, upL_ne, iI_ixN, zI_mk, zL_mk, zP_mk, zK_mk, zN_mk, zwI_up, zwL_up, zg_some, Nat.reduceMod, Nat.reduceDiv, zcn_I, iI_add, iI_sub, iI_mul, iI_neg, iI_lt, iI_le, iI_eq, iI_lt0, iI_le0, iI_gt0, iI_ge0, iI_eq0] <;> omega) ?_
          rw [if_neg hg2] at hQ
          obtain ⟨j, rfl⟩ : ∃ j : Nat, v = j := ⟨v.toNat, by omega⟩
          rw [show ((j : Int)).toNat = j from rfl] at hQ
          have p19 : R.1 y 19 = some (y + 1784) := (hM.2.1 19 (by decide)).1; have k19 : R.2.1 (y + 1784) = some (20, 12) := (hM.2.1 19 (by decide)).2
          refine zW.gr [] rfl rfl rfl (by omega) ?_ trivial ?_
          · simp (disch := omega) only [true_or, or_true, eq_self, Option.some.injEq, Prod.mk.injEq, zall_0, zall_1, zall_2, zob_iff, zar_iff, zis_iff, zkIs_some, zkHas_some, iI_vp, z01_I, z01_bz, zch_I, true_and, and_true, or_false, false_or, and_self, upI_same, upL_same, upI_ne, upL_ne, iI_ixN, zI_mk, zL_mk, zP_mk, zK_mk, zN_mk, zwI_up, zwL_up, zg_some, Nat.reduceMod, Nat.reduceDiv, zcn_I, iI_add, iI_sub, iI_mul, iI_neg, iI_lt, iI_le, iI_eq, iI_lt0, iI_le0, iI_gt0, iI_ge0, iI_eq0, k0, p19, k19, b1]
            omega
          simp (disch := omega) only [upI_same, upL_same, upI_ne, upL_ne, iI_ixN, zI_mk, zL_mk, zP_mk, zK_mk, zN_mk, zwI_up, zwL_up, zg_some, Nat.reduceMod, Nat.reduceDiv, p19, b1, iI_add, iI_sub, zcn_I]
          rw [show (tCn T : Int) + 1 - 1 = (tCn T : Int) by omega]
          have hO2 : ∀ c, c < tCn T + 1 → (if c = tCn T then j else tRg T c) ≤ 5 := fun c hc => by
            split
            · omega
            · exact h.1.2.2.2.1.2 c (by omega)
          have hm2 : mf y T (upI (upI I y 41 (iI 0)) y 41 (iI 0), L, R) := mf_scr h th2_scr
          refine mP_0 hQ rfl (mf_own (ty := tTy T) (u := (tSg T, tCn T + 1, fun c => if c = tCn T then j else tRg T c)) hm2 ⟨h.1.1, h.1.2.1, h.1.2.2.1, ⟨by show tCn T + 1 ≤ 12; omega, hO2⟩, ⟨h.1.2.2.2.2.1.1, fun r hr => ⟨(h.1.2.2.2.2.1.2 r hr).1, fun c q1 q2 => (h.1.2.2.2.2.1.2 r hr).2 c (by have : tCn T + 1 ≤ c := q1; omega) q2⟩⟩, h.1.2.2.2.2.2⟩ (fun a q1 q2 q3 q4 => ?_) (fun k q => ?_) ⟨?_, ?_⟩ ⟨?_, ?_⟩ ⟨?_, fun c hc => ?_⟩) (mgr_o (mfo_of fun a q => ?_)) ?_
          · rw [upI_row (fun e => q1 (by rw [e]; exact Or.inl rfl)), upI_row q4]
          · simp (disch := omega) only [upI_same, upL_same, upI_ne, upL_ne, iI_ixN, zI_mk, zL_mk, zP_mk, zK_mk, zN_mk, zwI_up, zwL_up, zg_some, Nat.reduceMod, Nat.reduceDiv, zcn_I, iI_add, iI_sub, iI_mul, iI_neg, iI_lt, iI_le, iI_eq, iI_lt0, iI_le0, iI_gt0, iI_ge0, iI_eq0]
          · simp (disch := omega) only [upI_same, upL_same, upI_ne, upL_ne, iI_ixN, zI_mk, zL_mk, zP_mk, zK_mk, zN_mk, zwI_up, zwL_up, zg_some, Nat.reduceMod, Nat.reduceDiv, zcn_I, iI_add, iI_sub, iI_mul, iI_neg, iI_lt, iI_le, iI_eq, iI_lt0, iI_le0, iI_gt0, iI_ge0, iI_eq0]
            exact a1
          · intro i hi
            simp (disch := omega) only [upI_same, upL_same, upI_ne, upL_ne, iI_ixN, zI_mk, zL_mk, zP_mk, zK_mk, zN_mk, zwI_up, zwL_up, zg_some, Nat.reduceMod, Nat.reduceDiv, zcn_I, iI_add, iI_sub, iI_mul, iI_neg, iI_lt, iI_le, iI_eq, iI_lt0, iI_le0, iI_gt0, iI_ge0, iI_eq0]
            exact a2 i hi
          · simp (disch := omega) only [upI_same, upL_same, upI_ne, upL_ne, iI_ixN, zI_mk, zL_mk, zP_mk, zK_mk, zN_mk, zwI_up, zwL_up, zg_some, Nat.reduceMod, Nat.reduceDiv, zcn_I, iI_add, iI_sub, iI_mul, iI_neg, iI_lt, iI_le, iI_eq, iI_lt0, iI_le0, iI_gt0, iI_ge0, iI_eq0]
            exact c1
          · intro i hi
            simp (disch := omega) only [upI_same, upL_same, upI_ne, upL_ne, iI_ixN, zI_mk, zL_mk, zP_mk, zK_mk, zN_mk, zwI_up, zwL_up, zg_some, Nat.reduceMod, Nat.reduceDiv, zcn_I, iI_add, iI_sub, iI_mul, iI_neg, iI_lt, iI_le, iI_eq, iI_lt0, iI_le0, iI_gt0, iI_ge0, iI_eq0]
            exact c2 i hi
          · simp (disch := omega) only [upI_same, upL_same, upI_ne, upL_ne, iI_ixN, zI_mk, zL_mk, zP_mk, zK_mk, zN_mk, zwI_up, zwL_up, zg_some, Nat.reduceMod, Nat.reduceDiv, zcn_I, iI_add, iI_sub, iI_mul, iI_neg, iI_lt, iI_le, iI_eq, iI_lt0, iI_le0, iI_gt0, iI_ge0, iI_eq0]
            rfl
          · have hc : c < tCn T + 1 := hc
            show upI _ y 38 _ (y + 1784) c = iI ((if c = tCn T then j else tRg T c : Nat) : Int)
            by_cases e : c = tCn T
            · subst e
              rw [if_pos rfl]
              simp (disch := omega) only [upI_same, upL_same, upI_ne, upL_ne, iI_ixN, zI_mk, zL_mk, zP_mk, zK_mk, zN_mk, zwI_up, zwL_up, zg_some, Nat.reduceMod, Nat.reduceDiv, zcn_I, iI_add, iI_sub, iI_mul, iI_neg, iI_lt, iI_le, iI_eq, iI_lt0, iI_le0, iI_gt0, iI_ge0, iI_eq0]
            · rw [if_neg e]
              simp (disch := omega) only [upI_same, upL_same, upI_ne, upL_ne, iI_ixN, zI_mk, zL_mk, zP_mk, zK_mk, zN_mk, zwI_up, zwL_up, zg_some, Nat.reduceMod, Nat.reduceDiv, zcn_I, iI_add, iI_sub, iI_mul, iI_neg, iI_lt, iI_le, iI_eq, iI_lt0, iI_le0, iI_gt0, iI_ge0, iI_eq0]
              exact b2 c (by omega)
          · rw [upI_row (by omega), upI_row (by omega), upI_row (by omega), upI_row (by omega)]
          · simp (disch := omega) only [upI_same, upL_same, upI_ne, upL_ne, iI_ixN, zI_mk, zL_mk, zP_mk, zK_mk, zN_mk, zwI_up, zwL_up, zg_some, Nat.reduceMod, Nat.reduceDiv, zcn_I, iI_add, iI_sub, iI_mul, iI_neg, iI_lt, iI_le, iI_eq, iI_lt0, iI_le0, iI_gt0, iI_ge0, iI_eq0]
      refine zW.gb [] rfl rfl rfl (by omega) (by simp (disch := omega) only [true_or, or_true, eq_self, Option.some.injEq, Prod.mk.injEq, zall_0, zall_1, zall_2, zob_iff, zar_iff, zis_iff, zkIs_some, zkHas_some, iI_vp, z01_I, z01_bz, zch_I, true_and, and_true, or_false, false_or, and_self, upI_same, upL_same, upI_ne, upL_ne, iI_ixN, zI_mk, zL_mk, zP_mk, zK_mk, zN_mk, zwI_up, zwL_up, zg_some, Nat.reduceMod, Nat.reduceDiv, zcn_I, iI_add, iI_sub, iI_mul, iI_neg, iI_lt, iI_le, iI_eq, iI_lt0, iI_le0, iI_gt0, iI_ge0, iI_eq0, k0] <;> omega) (fun h' => ?_) (fun h' => ?_)
      · simp (disch := omega) only [zcn_I, iI_add, iI_sub, iI_mul, iI_neg, iI_lt, iI_le, iI_eq, iI_lt0, iI_le0, iI_gt0, iI_ge0, iI_eq0, upI_same, upL_same, upI_ne, upL_ne, iI_ixN, zI_mk, zL_mk, zP_mk, zK_mk, zN_mk, zwI_up, zwL_up, zg_some, Nat.reduceMod, Nat.reduceDiv, b1] at h'
        exact zW.go [37] rfl (by omega) trivial (G _ (tru_f (by omega)))
      · simp (disch := omega) only [zcn_I, iI_add, iI_sub, iI_mul, iI_neg, iI_lt, iI_le, iI_eq, iI_lt0, iI_le0, iI_gt0, iI_ge0, iI_eq0, upI_same, upL_same, upI_ne, upL_ne, iI_ixN, zI_mk, zL_mk, zP_mk, zK_mk, zN_mk, zwI_up, zwL_up, zg_some, Nat.reduceMod, Nat.reduceDiv, b1] at h'
        exact zW.go [37] rfl (by omega) trivial (G _ (tru_t (by omega)))
  refine zW.gz [] rfl rfl rfl (by omega) trivial trivial rfl rfl (by decide +kernel) (by decide +kernel) ?_
  refine mIn_ok (lo := 0) (hi := 5) (by omega) rfl (zcn_I _) (zcn_I _) h1 ⟨by omega, by omega⟩ ⟨by omega, by omega⟩ (fun q hq => ?_)
  rcases hq with ⟨g2, rfl⟩ | ⟨g2, rfl⟩
  · refine zW.gbt [] rfl rfl rfl (by omega) trivial (by simp (disch := omega) only [eq_self, not_true_eq_false, not_false_eq_true, upI_same, upL_same, upI_ne, upL_ne, iI_ixN, zI_mk, zL_mk, zP_mk, zK_mk, zN_mk, zwI_up, zwL_up, zg_some, Nat.reduceMod, Nat.reduceDiv, zcn_I, iI_add, iI_sub, iI_mul, iI_neg, iI_lt, iI_le, iI_eq, iI_lt0, iI_le0, iI_gt0, iI_ge0, iI_eq0] <;> omega) ?_
    exact zW.go [15] rfl (by omega) trivial (F _ (tru_f (fun c => c g2)))
  · refine zW.gbf [] rfl rfl rfl (by omega) trivial (by simp (disch := omega) only [eq_self, not_true_eq_false, not_false_eq_true, upI_same, upL_same, upI_ne, upL_ne, iI_ixN, zI_mk, zL_mk, zP_mk, zK_mk, zN_mk, zwI_up, zwL_up, zg_some, Nat.reduceMod, Nat.reduceDiv, zcn_I, iI_add, iI_sub, iI_mul, iI_neg, iI_lt, iI_le, iI_eq, iI_lt0, iI_le0, iI_gt0, iI_ge0, iI_eq0] <;> omega) ?_
    exact zW.go [15] rfl (by omega) trivial (F _ (tru_t g2))
end MOWN
