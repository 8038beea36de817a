/-! The model's methods of one puzzle. -/
theorem th_scr {y : Nat} {v : Int32} {I : Nat → Nat → Int32} {L : Nat → Nat → Int64} : scr y I L (upI I y 41 v) L := scr_u (Or.inl rfl) (Or.inr (Or.inr (Or.inr rfl)))
theorem onP_no {T : tfT} {p : Int} {f : Nat → tRes} (h : noP T p) : onP T p f = (1, 0, T) := if_pos h
theorem onP_yes {T : tfT} {p : Int} {f : Nat → tRes} (h : ¬ noP T p) : ∃ i : Nat, p = i ∧ i < tPn T ∧ onP T p f = f i := by
  have h' : 0 ≤ p ∧ p < tPn T := by omega
  exact ⟨p.toNat, by omega, by omega, if_neg h⟩
theorem tPz_s {T : tfT} {i : Nat} {w : zPz} : tPz (tSetP T i w) i = w := if_pos rfl
theorem tSetP_2 {T : tfT} {i : Nat} {w w' : zPz} : tSetP (tSetP T i w) i w' = tSetP T i w' := by
  have e : (fun k => if k = i then w' else (fun k => if k = i then w else tPz T k) k) = fun k => if k = i then w' else tPz T k := by
    funext k
    by_cases c : k = i
    · rw [if_pos c, if_pos c]
    · rw [if_neg c, if_neg c]
      exact if_neg c
  show ((tTy T, tPn T, fun k => if k = i then w' else (fun k => if k = i then w else tPz T k) k), T.2) = ((tTy T, tPn T, fun k => if k = i then w' else tPz T k), T.2)
  rw [e]
section MPZ2
variable {d y : Nat} {T : tfT} {I : Nat → Nat → Int32} {L : Nat → Nat → Int64} {R : zRt} {Q : zO → zM → Prop}
theorem mPiece_ok {p v : Int} {a b : Int32} (hd : 6 ≤ d) (h : mf y T (I, L, R)) (e1 : a = iI p) (e2 : b = iI v) (h1 : i32 p) (h2 : i32 v) (hQ : mP y (I, L, R) (oPiece T p v) eI Q) : zS 173 d [zr (some y), zi a, zi b] (I, L, R) Q := by
  subst e1; subst e2
  have hM := h.2.1
  have k0 : R.2.1 y = some (7, 0) := hM.1
  have F : ∀ q, tru (noP T p ∨ ¬ (0 ≤ v ∧ v < pzN (tPz T p.toNat))) q → zW 173 d 0 0 30 [some (zr (some y)), some (zi (iI p)), some (zi (iI v))] [zi q, zr (some y)] (I, L, R) Q := fun q hq => by
    refine zW.gz [] rfl rfl rfl (by omega) trivial ⟨_, rfl, k0⟩ rfl rfl (by decide +kernel) (by decide +kernel) ?_
    refine mThr_ok (k := 1) (by omega) k0 hq (zcn_I _) (fun hb => ?_) (fun hg => ?_)
    · refine zW.gbf [] rfl rfl rfl (by omega) trivial (by simp (disch := omega) only [eq_self, not_true_eq_false, not_false_eq_true, upI_same, upL_same, upI_ne, upL_ne, iI_ixN, zI_mk, zL_mk, zP_mk, zK_mk, zN_mk, zwI_up, zwL_up, zg_some, Nat.reduceMod, Nat.reduceDiv, zcn_I, iI_add, iI_sub, iI_mul, iI_neg, iI_lt, iI_le, iI_eq, iI_lt0, iI_le0, iI_gt0, iI_ge0, iI_eq0] <;> omega) ?_
      refine zW.gr [] rfl rfl rfl (by omega) trivial trivial ?_; rw [zcn_I]
      refine mP_t hQ (c := 0) (v := 0) ?_ (mf_scr h th_scr) (mgr_o (scr_o th_scr)) (upI_same _ _ _ _) 0
      unfold oPiece
      by_cases c : noP T p
      · exact onP_no c
      · obtain ⟨i, rfl, hi, e⟩ := onP_yes (f := fun i => if ¬ (0 ≤ v ∧ v < pzN (tPz T i)) then (1, 0, T) else (0, (pzS (tPz T i) v.toNat : Nat), T)) c
        rw [e]
        exact if_pos (hb.resolve_left c)
    · refine zW.gbt [] rfl rfl rfl (by omega) trivial (by simp (disch := omega) only [eq_self, not_true_eq_false, not_false_eq_true, upI_same, upL_same, upI_ne, upL_ne, iI_ixN, zI_mk, zL_mk, zP_mk, zK_mk, zN_mk, zwI_up, zwL_up, zg_some, Nat.reduceMod, Nat.reduceDiv, zcn_I, iI_add, iI_sub, iI_mul, iI_neg, iI_lt, iI_le, iI_eq, iI_lt0, iI_le0, iI_gt0, iI_ge0, iI_eq0] <;> omega) ?_
      obtain ⟨i, rfl, hi, e⟩ := onP_yes (f := fun i => if ¬ (0 ≤ v ∧ v < pzN (tPz T i)) then (1, 0, T) else (0, (pzS (tPz T i) v.toNat : Nat), T)) (fun c => hg (Or.inl c))
      have hv : 0 ≤ v ∧ v < pzN (tPz T i) := Classical.byContradiction fun c => hg (Or.inr c)
      rw [show oPiece T (i : Int) v = _ from e, if_neg (fun c => c hv)] at hQ
      obtain ⟨v, rfl⟩ : ∃ k : Nat, v = k := ⟨v.toNat, by omega⟩
      obtain ⟨h4, hz, w1, w2, w3, w4, w5⟩ := m_pz h hi
      have hn := hz.2.1
      have v5 := w5 v (by omega)
      have p5 : R.1 y 5 = some (y + 46) := (hM.2.1 5 (by decide)).1; have k5 : R.2.1 (y + 46) = some (25, 4) := (hM.2.1 5 (by decide)).2; have q5 : R.1 (y + 46) (i) = some (y + 47 + i) := (hM.2.2.2.2.1 (i) (by omega)).1.trans (congrArg some (by omega)); have j5 : R.2.1 (y + 47 + i) = some (20, 10) := (congrArg R.2.1 (by omega)).trans (hM.2.2.2.2.1 (i) (by omega)).2
      refine zW.gr [] rfl rfl rfl (by omega) (by simp (disch := omega) only [true_or, or_true, eq_self, Option.some.injEq, Prod.mk.injEq, zall_0, zall_1, zall_2, zob_iff, zar_iff, zis_iff, zkIs_some, zkHas_some, iI_vp, z01_I, z01_bz, zch_I, true_and, and_true, or_false, false_or, and_self, upI_same, upL_same, upI_ne, upL_ne, iI_ixN, zI_mk, zL_mk, zP_mk, zK_mk, zN_mk, zwI_up, zwL_up, zg_some, Nat.reduceMod, Nat.reduceDiv, zcn_I, iI_add, iI_sub, iI_mul, iI_neg, iI_lt, iI_le, iI_eq, iI_lt0, iI_le0, iI_gt0, iI_ge0, iI_eq0, k0, p5, k5, q5, j5] <;> omega) trivial ?_
      simp (disch := omega) only [upI_same, upL_same, upI_ne, upL_ne, iI_ixN, zI_mk, zL_mk, zP_mk, zK_mk, zN_mk, zwI_up, zwL_up, zg_some, Nat.reduceMod, Nat.reduceDiv, p5, q5, v5]
      exact mP_0 hQ rfl (mf_scr h th_scr) (mgr_o (scr_o th_scr)) (upI_same _ _ _ _)
  refine zW.gz [] rfl rfl rfl (by omega) trivial ⟨_, rfl, k0⟩ rfl rfl (by decide +kernel) (by decide +kernel) ?_
  refine noPz_ok (by omega) h rfl h1 (fun q hq => ?_)
  rcases hq with ⟨g, rfl⟩ | ⟨g, rfl⟩
  · refine zW.gbt [] rfl rfl rfl (by omega) trivial (by simp (disch := omega) only [eq_self, not_true_eq_false, not_false_eq_true, upI_same, upL_same, upI_ne, upL_ne, iI_ixN, zI_mk, zL_mk, zP_mk, zK_mk, zN_mk, zwI_up, zwL_up, zg_some, Nat.reduceMod, Nat.reduceDiv, zcn_I, iI_add, iI_sub, iI_mul, iI_neg, iI_lt, iI_le, iI_eq, iI_lt0, iI_le0, iI_gt0, iI_ge0, iI_eq0] <;> omega) ?_
    exact zW.go [30] rfl (by omega) trivial (F _ (tru_t (Or.inl g)))
  · refine zW.gbf [] rfl rfl rfl (by omega) trivial (by simp (disch := omega) only [eq_self, not_true_eq_false, not_false_eq_true, upI_same, upL_same, upI_ne, upL_ne, iI_ixN, zI_mk, zL_mk, zP_mk, zK_mk, zN_mk, zwI_up, zwL_up, zg_some, Nat.reduceMod, Nat.reduceDiv, zcn_I, iI_add, iI_sub, iI_mul, iI_neg, iI_lt, iI_le, iI_eq, iI_lt0, iI_le0, iI_gt0, iI_ge0, iI_eq0] <;> omega) ?_
    obtain ⟨i, rfl, hi, -⟩ := onP_yes (f := fun i => (0, 0, T)) g
    obtain ⟨h4, hz, w1, w2, w3, w4, w5⟩ := m_pz h hi
    have hn := hz.2.1
    have p1 : R.1 y 1 = some (y + 2) := (hM.2.1 1 (by decide)).1; have k1 : R.2.1 (y + 2) = some (20, 4) := (hM.2.1 1 (by decide)).2
    refine zW.gz [] rfl rfl rfl (by omega) (by simp (disch := omega) only [true_or, or_true, eq_self, Option.some.injEq, Prod.mk.injEq, zall_0, zall_1, zall_2, zob_iff, zar_iff, zis_iff, zkIs_some, zkHas_some, iI_vp, z01_I, z01_bz, zch_I, true_and, and_true, or_false, false_or, and_self, upI_same, upL_same, upI_ne, upL_ne, iI_ixN, zI_mk, zL_mk, zP_mk, zK_mk, zN_mk, zwI_up, zwL_up, zg_some, Nat.reduceMod, Nat.reduceDiv, zcn_I, iI_add, iI_sub, iI_mul, iI_neg, iI_lt, iI_le, iI_eq, iI_lt0, iI_le0, iI_gt0, iI_ge0, iI_eq0, k0, p1, k1] <;> omega) trivial rfl rfl (by decide +kernel) (by decide +kernel) ?_
    simp (disch := omega) only [upI_same, upL_same, upI_ne, upL_ne, iI_ixN, zI_mk, zL_mk, zP_mk, zK_mk, zN_mk, zwI_up, zwL_up, zg_some, Nat.reduceMod, Nat.reduceDiv, zcn_I, iI_add, iI_sub, iI_mul, iI_neg, iI_lt, iI_le, iI_eq, iI_lt0, iI_le0, iI_gt0, iI_ge0, iI_eq0, p1, w1, iI_sub, zcn_I]
    refine mIn_ok (lo := 0) (hi := (pzN (tPz T i) : Int) - 1) (by omega) rfl rfl rfl h2 ⟨by omega, by omega⟩ ⟨by omega, by omega⟩ (fun q hq => ?_)
    rcases hq with ⟨g2, rfl⟩ | ⟨g2, rfl⟩
    · refine zW.gbt [] rfl rfl rfl (by omega) trivial (by simp (disch := omega) only [eq_self, not_true_eq_false, not_false_eq_true, upI_same, upL_same, upI_ne, upL_ne, iI_ixN, zI_mk, zL_mk, zP_mk, zK_mk, zN_mk, zwI_up, zwL_up, zg_some, Nat.reduceMod, Nat.reduceDiv, zcn_I, iI_add, iI_sub, iI_mul, iI_neg, iI_lt, iI_le, iI_eq, iI_lt0, iI_le0, iI_gt0, iI_ge0, iI_eq0] <;> omega) ?_
      exact zW.go [30] rfl (by omega) trivial (F _ (tru_f (fun c => c.elim g (fun c => c ⟨g2.1, by rw [show ((i : Int)).toNat = i from rfl]; omega⟩))))
    · refine zW.gbf [] rfl rfl rfl (by omega) trivial (by simp (disch := omega) only [eq_self, not_true_eq_false, not_false_eq_true, upI_same, upL_same, upI_ne, upL_ne, iI_ixN, zI_mk, zL_mk, zP_mk, zK_mk, zN_mk, zwI_up, zwL_up, zg_some, Nat.reduceMod, Nat.reduceDiv, zcn_I, iI_add, iI_sub, iI_mul, iI_neg, iI_lt, iI_le, iI_eq, iI_lt0, iI_le0, iI_gt0, iI_ge0, iI_eq0] <;> omega) ?_
      exact zW.go [30] rfl (by omega) trivial (F _ (tru_t (Or.inr (fun c => g2 ⟨c.1, by have := c.2; rw [show ((i : Int)).toNat = i from rfl] at this; omega⟩))))
theorem mReset_ok {p : Int} {a : Int32} (hd : 6 ≤ d) (h : mf y T (I, L, R)) (e1 : a = iI p) (h1 : i32 p) (hQ : mP y (I, L, R) (oReset T p) eI Q) : zS 175 d [zr (some y), zi a] (I, L, R) Q := by
  subst e1
  have hM := h.2.1
  have k0 : R.2.1 y = some (7, 0) := hM.1
  refine zW.gz [] rfl rfl rfl (by omega) trivial ⟨_, rfl, k0⟩ rfl rfl (by decide +kernel) (by decide +kernel) ?_
  refine noPz_ok (by omega) h rfl h1 (fun q hq => ?_)
  refine zW.gz [] rfl rfl rfl (by omega) trivial ⟨_, rfl, k0⟩ rfl rfl (by decide +kernel) (by decide +kernel) ?_
  refine mThr_ok (k := 1) (by omega) k0 hq (zcn_I _) (fun hb => ?_) (fun hg => ?_)
  · refine zW.gbf [] rfl rfl rfl (by omega) trivial (by simp (disch := omega) only [eq_self, not_true_eq_false, not_false_eq_true, upI_same, upL_same, upI_ne, upL_ne, iI_ixN, zI_mk, zL_mk, zP_mk, zK_mk, zN_mk, zwI_up, zwL_up, zg_some, Nat.reduceMod, Nat.reduceDiv, zcn_I, iI_add, iI_sub, iI_mul, iI_neg, iI_lt, iI_le, iI_eq, iI_lt0, iI_le0, iI_gt0, iI_ge0, iI_eq0] <;> omega) ?_
    refine zW.gr [] rfl rfl rfl (by omega) trivial trivial ?_; rw [zcn_I]
    refine mP_t hQ (c := 0) (v := 0) ?_ (mf_scr h th_scr) (mgr_o (scr_o th_scr)) (upI_same _ _ _ _) 0
    exact onP_no hb
  · obtain ⟨i, rfl, hi, e⟩ := onP_yes (f := fun i => (0, (nst (pzS (tPz T i)) : Int), tSetP T i (pzSt (tPz T i) (fun q => q)))) hg
    rw [show oReset T (i : Int) = _ from e] at hQ
    refine zW.gbt [] rfl rfl rfl (by omega) trivial (by simp (disch := omega) only [eq_self, not_true_eq_false, not_false_eq_true, upI_same, upL_same, upI_ne, upL_ne, iI_ixN, zI_mk, zL_mk, zP_mk, zK_mk, zN_mk, zwI_up, zwL_up, zg_some, Nat.reduceMod, Nat.reduceDiv, zcn_I, iI_add, iI_sub, iI_mul, iI_neg, iI_lt, iI_le, iI_eq, iI_lt0, iI_le0, iI_gt0, iI_ge0, iI_eq0] <;> omega) ?_
    refine zW.gz [] rfl rfl rfl (by omega) trivial ⟨_, rfl, k0⟩ rfl rfl (by decide +kernel) (by decide +kernel) ?_
    refine first_ok (by omega) (mf_scr h th_scr) hi rfl (fun I' m1 m2 m3 => ?_)
    refine zW.gr [] rfl rfl rfl (by omega) trivial trivial ?_
    exact mP_0 hQ rfl m1 (mgr_o (mfo_tr (scr_o th_scr) m2)) (by show I' y 41 = _; rw [m3]; exact upI_same _ _ _ _)
theorem mSolved_ok {p : Int} {a : Int32} (hd : 6 ≤ d) (h : mf y T (I, L, R)) (e1 : a = iI p) (h1 : i32 p) (hQ : mP y (I, L, R) (oSolved T p) eI Q) : zS 177 d [zr (some y), zi a] (I, L, R) Q := by
  subst e1
  have hM := h.2.1
  have k0 : R.2.1 y = some (7, 0) := hM.1
  refine zW.gz [] rfl rfl rfl (by omega) trivial ⟨_, rfl, k0⟩ rfl rfl (by decide +kernel) (by decide +kernel) ?_
  refine noPz_ok (by omega) h rfl h1 (fun q hq => ?_)
  refine zW.gz [] rfl rfl rfl (by omega) trivial ⟨_, rfl, k0⟩ rfl rfl (by decide +kernel) (by decide +kernel) ?_
  refine mThr_ok (k := 1) (by omega) k0 hq (zcn_I _) (fun hb => ?_) (fun hg => ?_)
  · refine zW.gbt [] rfl rfl rfl (by omega) trivial (by simp (disch := omega) only [eq_self, not_true_eq_false, not_false_eq_true, upI_same, upL_same, upI_ne, upL_ne, iI_ixN, zI_mk, zL_mk, zP_mk, zK_mk, zN_mk, zwI_up, zwL_up, zg_some, Nat.reduceMod, Nat.reduceDiv, zcn_I, iI_add, iI_sub, iI_mul, iI_neg, iI_lt, iI_le, iI_eq, iI_lt0, iI_le0, iI_gt0, iI_ge0, iI_eq0] <;> omega) ?_
    refine zW.gr [] rfl rfl rfl (by omega) trivial z01c0 ?_; rw [zcn_I]
    refine mP_t hQ (c := 0) (v := 0) ?_ (mf_scr h th_scr) (mgr_o (scr_o th_scr)) (upI_same _ _ _ _) 0
    exact onP_no hb
  · obtain ⟨i, rfl, hi, e⟩ := onP_yes (f := fun i => (0, b01 (∀ q, q < 10 → pzC (tPz T i) (pzS (tPz T i) q) = pzC (tPz T i) q), T)) hg
    rw [show oSolved T (i : Int) = _ from e] at hQ
    have hm := mf_scr h (th_scr (v := iI 0) (L := L))
    obtain ⟨h4, hz, w1, w2, w3, w4, w5⟩ := m_pz hm hi
    have p5 : R.1 y 5 = some (y + 46) := (hM.2.1 5 (by decide)).1; have k5 : R.2.1 (y + 46) = some (25, 4) := (hM.2.1 5 (by decide)).2; have q5 : R.1 (y + 46) (i) = some (y + 47 + i) := (hM.2.2.2.2.1 (i) (by omega)).1.trans (congrArg some (by omega)); have j5 : R.2.1 (y + 47 + i) = some (20, 10) := (congrArg R.2.1 (by omega)).trans (hM.2.2.2.2.1 (i) (by omega)).2
    refine zW.gbf [] rfl rfl rfl (by omega) trivial (by simp (disch := omega) only [eq_self, not_true_eq_false, not_false_eq_true, upI_same, upL_same, upI_ne, upL_ne, iI_ixN, zI_mk, zL_mk, zP_mk, zK_mk, zN_mk, zwI_up, zwL_up, zg_some, Nat.reduceMod, Nat.reduceDiv, zcn_I, iI_add, iI_sub, iI_mul, iI_neg, iI_lt, iI_le, iI_eq, iI_lt0, iI_le0, iI_gt0, iI_ge0, iI_eq0] <;> omega) ?_
    refine zW.gz [] rfl rfl rfl (by omega) (by simp (disch := omega) only [true_or, or_true, eq_self, Option.some.injEq, Prod.mk.injEq, zall_0, zall_1, zall_2, zob_iff, zar_iff, zis_iff, zkIs_some, zkHas_some, iI_vp, z01_I, z01_bz, zch_I, true_and, and_true, or_false, false_or, and_self, upI_same, upL_same, upI_ne, upL_ne, iI_ixN, zI_mk, zL_mk, zP_mk, zK_mk, zN_mk, zwI_up, zwL_up, zg_some, Nat.reduceMod, Nat.reduceDiv, zcn_I, iI_add, iI_sub, iI_mul, iI_neg, iI_lt, iI_le, iI_eq, iI_lt0, iI_le0, iI_gt0, iI_ge0, iI_eq0, k0, p5, k5] <;> omega) ⟨_, rfl, k0⟩ rfl rfl (by decide +kernel) (by decide +kernel) ?_
    simp (disch := omega) only [upI_same, upL_same, upI_ne, upL_ne, iI_ixN, zI_mk, zL_mk, zP_mk, zK_mk, zN_mk, zwI_up, zwL_up, zg_some, Nat.reduceMod, Nat.reduceDiv, p5, q5]
    refine solvB_ok (by omega) hm hi rfl j5 w5 hz.2.2.2.2.2.2.2.2 (fun q hq => ?_)
    rcases hq with ⟨g, rfl⟩ | ⟨g, rfl⟩
    · refine zW.gbf [] rfl rfl rfl (by omega) trivial (by simp (disch := omega) only [eq_self, not_true_eq_false, not_false_eq_true, upI_same, upL_same, upI_ne, upL_ne, iI_ixN, zI_mk, zL_mk, zP_mk, zK_mk, zN_mk, zwI_up, zwL_up, zg_some, Nat.reduceMod, Nat.reduceDiv, zcn_I, iI_add, iI_sub, iI_mul, iI_neg, iI_lt, iI_le, iI_eq, iI_lt0, iI_le0, iI_gt0, iI_ge0, iI_eq0] <;> omega) ?_
      refine zW.gr [] rfl rfl rfl (by omega) trivial z01c1 ?_
      rw [zcn_I]
      rw [b01_t g] at hQ
      exact mP_0 hQ rfl hm (mgr_o (scr_o th_scr)) (upI_same _ _ _ _)
    · refine zW.gbt [] rfl rfl rfl (by omega) trivial (by simp (disch := omega) only [eq_self, not_true_eq_false, not_false_eq_true, upI_same, upL_same, upI_ne, upL_ne, iI_ixN, zI_mk, zL_mk, zP_mk, zK_mk, zN_mk, zwI_up, zwL_up, zg_some, Nat.reduceMod, Nat.reduceDiv, zcn_I, iI_add, iI_sub, iI_mul, iI_neg, iI_lt, iI_le, iI_eq, iI_lt0, iI_le0, iI_gt0, iI_ge0, iI_eq0] <;> omega) ?_
      refine zW.gr [] rfl rfl rfl (by omega) trivial z01c0 ?_; rw [zcn_I]
      rw [b01_f g] at hQ
      exact mP_0 hQ rfl hm (mgr_o (scr_o th_scr)) (upI_same _ _ _ _)
end MPZ2
