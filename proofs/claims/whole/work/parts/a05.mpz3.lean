/-! The model's methods of one puzzle: colours, turns, swaps. -/
section MPZ3
variable {d y : Nat} {T : tfT} {I : Nat → Nat → Int32} {L : Nat → Nat → Int64} {R : zRt} {Q : zO → zM → Prop}
theorem th2_scr {y : Nat} {v w : Int32} {I : Nat → Nat → Int32} {L : Nat → Nat → Int64} : scr y I L (upI (upI I y 41 v) y 41 w) L := scr_tr th_scr th_scr
theorem mColour_ok {p u v : Int} {a b c : Int32} (hd : 6 ≤ d) (h : mf y T (I, L, R)) (e1 : a = iI p) (e2 : b = iI u) (e3 : c = iI v) (h1 : i32 p) (h2 : i32 u) (h3 : i32 v) (hQ : mP y (I, L, R) (oColour T p u v) eI Q) : zS 169 d [zr (some y), zi a, zi b, zi c] (I, L, R) Q := by
  subst e1; subst e2; subst e3
  have hM := h.2.1
  have k0 : R.2.1 y = some (7, 0) := hM.1
  have F : ∀ q, tru (noP T p ∨ ¬ (0 ≤ u ∧ u < pzN (tPz T p.toNat))) q → zW 169 d 0 0 30 [some (zr (some y)), some (zi (iI p)), some (zi (iI u)), some (zi (iI v)), none] [zi q, zr (some y)] (I, L, R) Q := fun q hq => by
    refine zW.gz [] rfl rfl rfl (by omega) trivial ⟨_, rfl, k0⟩ rfl rfl (by decide +kernel) (by decide +kernel) ?_
    refine mThr_ok (k := 1) (by omega) k0 hq (zcn_I _) (fun hb => ?_) (fun hg => ?_)
    · refine zW.gbt [] rfl rfl rfl (by omega) trivial (by simp (disch := omega) only [eq_self, not_true_eq_false, not_false_eq_true, upI_same, upL_same, upI_ne, upL_ne, iI_ixN, zI_mk, zL_mk, zP_mk, zK_mk, zN_mk, zwI_up, zwL_up, zg_some, Nat.reduceMod, Nat.reduceDiv, zcn_I, iI_add, iI_sub, iI_mul, iI_neg, iI_lt, iI_le, iI_eq, iI_lt0, iI_le0, iI_gt0, iI_ge0, iI_eq0] <;> omega) ?_
      refine zW.gr [] rfl rfl rfl (by omega) trivial trivial ?_; rw [zcn_I]
      refine mP_t hQ (c := 0) (v := 0) ?_ (mf_scr h th_scr) (mgr_o (scr_o th_scr)) (upI_same _ _ _ _) 0
      unfold oColour
      by_cases c : noP T p
      · exact onP_no c
      · obtain ⟨i, rfl, hi, e⟩ := onP_yes (f := fun i => if ¬ (0 ≤ u ∧ u < pzN (tPz T i)) then (1, 0, T) else if ¬ (0 ≤ v ∧ v ≤ 9) then (2, 0, T) else (0, (pzC (tPz T i) u.toNat : Nat), tSetP T i (pzCo (tPz T i) (fu (pzC (tPz T i)) u.toNat v.toNat)))) c
        rw [e]
        exact if_pos (hb.resolve_left c)
    · refine zW.gbf [] rfl rfl rfl (by omega) trivial (by simp (disch := omega) only [eq_self, not_true_eq_false, not_false_eq_true, upI_same, upL_same, upI_ne, upL_ne, iI_ixN, zI_mk, zL_mk, zP_mk, zK_mk, zN_mk, zwI_up, zwL_up, zg_some, Nat.reduceMod, Nat.reduceDiv, zcn_I, iI_add, iI_sub, iI_mul, iI_neg, iI_lt, iI_le, iI_eq, iI_lt0, iI_le0, iI_gt0, iI_ge0, iI_eq0] <;> omega) ?_
      obtain ⟨i, rfl, hi, e⟩ := onP_yes (f := fun i => if ¬ (0 ≤ u ∧ u < pzN (tPz T i)) then (1, 0, T) else if ¬ (0 ≤ v ∧ v ≤ 9) then (2, 0, T) else (0, (pzC (tPz T i) u.toNat : Nat), tSetP T i (pzCo (tPz T i) (fu (pzC (tPz T i)) u.toNat v.toNat)))) (fun c => hg (Or.inl c))
      have hu : 0 ≤ u ∧ u < pzN (tPz T i) := Classical.byContradiction fun c => hg (Or.inr c)
      rw [show oColour T (i : Int) u v = _ from e, if_neg (fun c => c hu)] at hQ
      obtain ⟨u, rfl⟩ : ∃ k : Nat, u = k := ⟨u.toNat, by omega⟩
      rw [show ((u : Int)).toNat = u from rfl] at hQ
      have hm := mf_scr h (th_scr (v := iI 0) (L := L))
      obtain ⟨h4, hz, w1, w2, w3, w4, w5⟩ := m_pz h hi
      have hn := hz.2.1
      have v4 := w4 u (by omega)
      have G : ∀ q, tru (¬ (0 ≤ v ∧ v ≤ 9)) q → zW 169 d 0 0 53 [some (zr (some y)), some (zi (iI (i : Int))), some (zi (iI (u : Int))), some (zi (iI v)), none] [zi q, zr (some y)] (upI I y 41 (iI 0), L, R) Q := fun q hq => by
        refine zW.gz [] rfl rfl rfl (by omega) trivial ⟨_, rfl, k0⟩ rfl rfl (by decide +kernel) (by decide +kernel) ?_
        refine mThr_ok (k := 2) (by omega) k0 hq (zcn_I _) (fun hb => ?_) (fun hg => ?_)
        · refine zW.gbf [] rfl rfl rfl (by omega) trivial (by simp (disch := omega) only [eq_self, not_true_eq_false, not_false_eq_true, upI_same, upL_same, upI_ne, upL_ne, iI_ixN, zI_mk, zL_mk, zP_mk, zK_mk, zN_mk, zwI_up, zwL_up, zg_some, Nat.reduceMod, Nat.reduceDiv, zcn_I, iI_add, iI_sub, iI_mul, iI_neg, iI_lt, iI_le, iI_eq, iI_lt0, iI_le0, iI_gt0, iI_ge0, iI_eq0] <;> omega) ?_
          refine zW.gr [] rfl rfl rfl (by omega) trivial trivial ?_; rw [zcn_I]
          exact mP_t hQ (c := 1) (v := 0) (if_pos hb) (mf_scr h th2_scr) (mgr_o (scr_o th2_scr)) (upI_same _ _ _ _) 0
        · refine zW.gbt [] rfl rfl rfl (by omega) trivial (by simp (disch := omega) only [eq_self, not_true_eq_false, not_false_eq_true, upI_same, upL_same, upI_ne, upL_ne, iI_ixN, zI_mk, zL_mk, zP_mk, zK_mk, zN_mk, zwI_up, zwL_up, zg_some, Nat.reduceMod, Nat.reduceDiv, zcn_I, iI_add, iI_sub, iI_mul, iI_neg, iI_lt, iI_le, iI_eq, iI_lt0, iI_le0, iI_gt0, iI_ge0, iI_eq0] <;> omega) ?_
          rw [if_neg hg] at hQ
          obtain ⟨v, rfl⟩ : ∃ k : Nat, v = k := ⟨v.toNat, by omega⟩
          rw [show ((v : Int)).toNat = v from rfl] at hQ
          have p4 : R.1 y 4 = some (y + 41) := (hM.2.1 4 (by decide)).1; have k4 : R.2.1 (y + 41) = some (25, 4) := (hM.2.1 4 (by decide)).2; have q4 : R.1 (y + 41) (i) = some (y + 42 + i) := (hM.2.2.2.1 (i) (by omega)).1.trans (congrArg some (by omega)); have j4 : R.2.1 (y + 42 + i) = some (20, 10) := (congrArg R.2.1 (by omega)).trans (hM.2.2.2.1 (i) (by omega)).2
          refine zW.gr [] rfl rfl rfl (by omega) (by simp (disch := omega) only [true_or, or_true, eq_self, Option.some.injEq, Prod.mk.injEq, zall_0, zall_1, zall_2, zob_iff, zar_iff, zis_iff, zkIs_some, zkHas_some, iI_vp, z01_I, z01_bz, zch_I, true_and, and_true, or_false, false_or, and_self, upI_same, upL_same, upI_ne, upL_ne, iI_ixN, zI_mk, zL_mk, zP_mk, zK_mk, zN_mk, zwI_up, zwL_up, zg_some, Nat.reduceMod, Nat.reduceDiv, zcn_I, iI_add, iI_sub, iI_mul, iI_neg, iI_lt, iI_le, iI_eq, iI_lt0, iI_le0, iI_gt0, iI_ge0, iI_eq0, k0, p4, k4, q4, j4] <;> omega) trivial ?_
          simp (disch := omega) only [upI_same, upL_same, upI_ne, upL_ne, iI_ixN, zI_mk, zL_mk, zP_mk, zK_mk, zN_mk, zwI_up, zwL_up, zg_some, Nat.reduceMod, Nat.reduceDiv, p4, q4, v4]
          have hz' : zOK (pzN (tPz T i)) (pzR (tPz T i)) (pzT (tPz T i)) (fu (pzC (tPz T i)) u v) (pzS (tPz T i)) := by
            obtain ⟨z1, z2, z3, z4, z5, z6, z7, z8, z9⟩ := hz
            refine ⟨z1, z2, z3, z4, z5, z6, fun q hq => ?_, fun q hq => ?_, z9⟩
            · unfold fu
              split
              · omega
              · exact z7 q hq
            · unfold fu
              rw [if_neg (by omega)]
              exact z8 q hq
          refine mP_0 hQ rfl (mf_pz (w := pzCo (tPz T i) (fu (pzC (tPz T i)) u v)) (mf_scr h th2_scr) hi hz' rfl rfl rfl (fun r q1 q2 q3 => upI_row q2) (fun k _ _ _ => upI_ne (by omega)) (fun q hq => ?_) (fun q hq => ?_)) (mgr_o (mfo_of fun r q => ?_)) ?_
          · show upI _ (y + 42 + i) u _ (y + 42 + i) q = iI (fu (pzC (tPz T i)) u v q : Int)
            unfold fu
            by_cases c : q = u
            · rw [c, upI_same, if_pos rfl]
            · simp (disch := omega) only [upI_same, upL_same, upI_ne, upL_ne, iI_ixN, zI_mk, zL_mk, zP_mk, zK_mk, zN_mk, zwI_up, zwL_up, zg_some, Nat.reduceMod, Nat.reduceDiv]
              rw [if_neg c]
              exact w4 q hq
          · simp (disch := omega) only [upI_same, upL_same, upI_ne, upL_ne, iI_ixN, zI_mk, zL_mk, zP_mk, zK_mk, zN_mk, zwI_up, zwL_up, zg_some, Nat.reduceMod, Nat.reduceDiv]
            exact w5 q hq
          · rw [upI_row (by omega), upI_row (by omega), upI_row (by omega)]
          · simp (disch := omega) only [upI_same, upL_same, upI_ne, upL_ne, iI_ixN, zI_mk, zL_mk, zP_mk, zK_mk, zN_mk, zwI_up, zwL_up, zg_some, Nat.reduceMod, Nat.reduceDiv]
      refine zW.gz [] rfl rfl rfl (by omega) trivial trivial rfl rfl (by decide +kernel) (by decide +kernel) ?_
      refine mIn_ok (lo := 0) (hi := 9) (by omega) rfl (zcn_I _) (zcn_I _) h3 ⟨by omega, by omega⟩ ⟨by omega, by omega⟩ (fun q hq => ?_)
      rcases hq with ⟨g2, rfl⟩ | ⟨g2, rfl⟩
      · refine zW.gbt [] rfl rfl rfl (by omega) trivial (by simp (disch := omega) only [eq_self, not_true_eq_false, not_false_eq_true, upI_same, upL_same, upI_ne, upL_ne, iI_ixN, zI_mk, zL_mk, zP_mk, zK_mk, zN_mk, zwI_up, zwL_up, zg_some, Nat.reduceMod, Nat.reduceDiv, zcn_I, iI_add, iI_sub, iI_mul, iI_neg, iI_lt, iI_le, iI_eq, iI_lt0, iI_le0, iI_gt0, iI_ge0, iI_eq0] <;> omega) ?_
        exact zW.go [53] rfl (by omega) trivial (G _ (tru_f (fun c => c g2)))
      · refine zW.gbf [] rfl rfl rfl (by omega) trivial (by simp (disch := omega) only [eq_self, not_true_eq_false, not_false_eq_true, upI_same, upL_same, upI_ne, upL_ne, iI_ixN, zI_mk, zL_mk, zP_mk, zK_mk, zN_mk, zwI_up, zwL_up, zg_some, Nat.reduceMod, Nat.reduceDiv, zcn_I, iI_add, iI_sub, iI_mul, iI_neg, iI_lt, iI_le, iI_eq, iI_lt0, iI_le0, iI_gt0, iI_ge0, iI_eq0] <;> omega) ?_
        exact zW.go [53] rfl (by omega) trivial (G _ (tru_t g2))
  refine zW.gz [] rfl rfl rfl (by omega) trivial ⟨_, rfl, k0⟩ rfl rfl (by decide +kernel) (by decide +kernel) ?_
  refine noPz_ok (by omega) h rfl h1 (fun q hq => ?_)
  rcases hq with ⟨g, rfl⟩ | ⟨g, rfl⟩
  · refine zW.gbt [] rfl rfl rfl (by omega) trivial (by simp (disch := omega) only [eq_self, not_true_eq_false, not_false_eq_true, upI_same, upL_same, upI_ne, upL_ne, iI_ixN, zI_mk, zL_mk, zP_mk, zK_mk, zN_mk, zwI_up, zwL_up, zg_some, Nat.reduceMod, Nat.reduceDiv, zcn_I, iI_add, iI_sub, iI_mul, iI_neg, iI_lt, iI_le, iI_eq, iI_lt0, iI_le0, iI_gt0, iI_ge0, iI_eq0] <;> omega) ?_
    exact zW.go [30] rfl (by omega) trivial (F _ (tru_t (Or.inl g)))
  · refine zW.gbf [] rfl rfl rfl (by omega) trivial (by simp (disch := omega) only [eq_self, not_true_eq_false, not_false_eq_true, upI_same, upL_same, upI_ne, upL_ne, iI_ixN, zI_mk, zL_mk, zP_mk, zK_mk, zN_mk, zwI_up, zwL_up, zg_some, Nat.reduceMod, Nat.reduceDiv, zcn_I, iI_add, iI_sub, iI_mul, iI_neg, iI_lt, iI_le, iI_eq, iI_lt0, iI_le0, iI_gt0, iI_ge0, iI_eq0] <;> omega) ?_
    obtain ⟨i, rfl, hi, -⟩ := onP_yes (f := fun i => (0, 0, T)) g
    obtain ⟨h4, hz, w1, w2, w3, w4, w5⟩ := m_pz h hi
    have hn := hz.2.1
    have p1 : R.1 y 1 = some (y + 2) := (hM.2.1 1 (by decide)).1; have k1 : R.2.1 (y + 2) = some (20, 4) := (hM.2.1 1 (by decide)).2
    refine zW.gz [] rfl rfl rfl (by omega) (by simp (disch := omega) only [true_or, or_true, eq_self, Option.some.injEq, Prod.mk.injEq, zall_0, zall_1, zall_2, zob_iff, zar_iff, zis_iff, zkIs_some, zkHas_some, iI_vp, z01_I, z01_bz, zch_I, true_and, and_true, or_false, false_or, and_self, upI_same, upL_same, upI_ne, upL_ne, iI_ixN, zI_mk, zL_mk, zP_mk, zK_mk, zN_mk, zwI_up, zwL_up, zg_some, Nat.reduceMod, Nat.reduceDiv, zcn_I, iI_add, iI_sub, iI_mul, iI_neg, iI_lt, iI_le, iI_eq, iI_lt0, iI_le0, iI_gt0, iI_ge0, iI_eq0, k0, p1, k1] <;> omega) trivial rfl rfl (by decide +kernel) (by decide +kernel) ?_
    simp (disch := omega) only [upI_same, upL_same, upI_ne, upL_ne, iI_ixN, zI_mk, zL_mk, zP_mk, zK_mk, zN_mk, zwI_up, zwL_up, zg_some, Nat.reduceMod, Nat.reduceDiv, zcn_I, iI_add, iI_sub, iI_mul, iI_neg, iI_lt, iI_le, iI_eq, iI_lt0, iI_le0, iI_gt0, iI_ge0, iI_eq0, p1, w1, iI_sub, zcn_I]
    refine mIn_ok (lo := 0) (hi := (pzN (tPz T i) : Int) - 1) (by omega) rfl rfl rfl h2 ⟨by omega, by omega⟩ ⟨by omega, by omega⟩ (fun q hq => ?_)
    rcases hq with ⟨g2, rfl⟩ | ⟨g2, rfl⟩
    · refine zW.gbt [] rfl rfl rfl (by omega) trivial (by simp (disch := omega) only [eq_self, not_true_eq_false, not_false_eq_true, upI_same, upL_same, upI_ne, upL_ne, iI_ixN, zI_mk, zL_mk, zP_mk, zK_mk, zN_mk, zwI_up, zwL_up, zg_some, Nat.reduceMod, Nat.reduceDiv, zcn_I, iI_add, iI_sub, iI_mul, iI_neg, iI_lt, iI_le, iI_eq, iI_lt0, iI_le0, iI_gt0, iI_ge0, iI_eq0] <;> omega) ?_
      exact zW.go [30] rfl (by omega) trivial (F _ (tru_f (fun c => c.elim g (fun c => c ⟨g2.1, by rw [show ((i : Int)).toNat = i from rfl]; omega⟩))))
    · refine zW.gbf [] rfl rfl rfl (by omega) trivial (by simp (disch := omega) only [eq_self, not_true_eq_false, not_false_eq_true, upI_same, upL_same, upI_ne, upL_ne, iI_ixN, zI_mk, zL_mk, zP_mk, zK_mk, zN_mk, zwI_up, zwL_up, zg_some, Nat.reduceMod, Nat.reduceDiv, zcn_I, iI_add, iI_sub, iI_mul, iI_neg, iI_lt, iI_le, iI_eq, iI_lt0, iI_le0, iI_gt0, iI_ge0, iI_eq0] <;> omega) ?_
      exact zW.go [30] rfl (by omega) trivial (F _ (tru_t (Or.inr (fun c => g2 ⟨c.1, by have := c.2; rw [show ((i : Int)).toNat = i from rfl] at this; omega⟩))))
theorem ct_not (b : Nat → Bool) : ∀ n, ct b n + ct (fun q => !(b q)) n = n
  | 0 => rfl
  | n + 1 => by
    have h := ct_not b n
    show (ct b n + (if b n then 1 else 0)) + (ct (fun q => !(b q)) n + (if !(b n) then 1 else 0)) = n + 1
    cases b n <;> simp <;> omega
theorem swap_lp {i : Nat} {u v : Nat} (hd : 1 ≤ d) (h : mf y T (I, L, R)) (hi : i < tPn T) (hu : u < pzN (tPz T i)) (hv : v < pzN (tPz T i))
    (hQ : ∀ I', mf y (tSetP T i (pzSt (tPz T i) (swf (pzS (tPz T i)) u v))) (I', L, R) → mfo y I L I' L → I' y = I y → Q (.inl (some (zi (iI (ct (fun q => swf (pzS (tPz T i)) u v q == q) (pzN (tPz T i)) : Int))))) (I', L, R)) :
    ∀ m k, k + m = pzN (tPz T i) → ∀ (I1 : Nat → Nat → Int32) (x z : Int32) (t : Option zV), (∀ r, r ≠ y + 47 + i → I1 r = I r) → (∀ p, p < k → I1 (y + 47 + i) p = iI (swf (pzS (tPz T i)) u v p : Int)) → (∀ p, k ≤ p → I1 (y + 47 + i) p = I (y + 47 + i) p) → x = iI (ct (fun q => swf (pzS (tPz T i)) u v q == q) k : Int) → z = iI (k : Int) → zW 174 d 0 0 66 [some (zr (some y)), some (zi (iI (i : Int))), some (zi (iI (u : Int))), some (zi (iI (v : Int))), some (zi x), some (zi z), t] [] (I1, L, R) Q
  | 0, k, hk, I1, x, z, t, f1, f2, f3, e1, e2 => by
    subst e1; subst e2
    have hM := h.2.1
    have k0 : R.2.1 y = some (7, 0) := hM.1
    obtain ⟨h4, hz, w1, w2, w3, w4, w5⟩ := m_pz h hi
    have hn := hz.2.1
    have hst := hz.2.2.2.2.2.2.2.2
    have p1 : R.1 y 1 = some (y + 2) := (hM.2.1 1 (by decide)).1; have k1 : R.2.1 (y + 2) = some (20, 4) := (hM.2.1 1 (by decide)).2
    have v1 : I1 (y + 2) i = iI (pzN (tPz T i) : Int) := by
      rw [f1 _ (by omega)]
      exact w1
    obtain rfl : k = pzN (tPz T i) := by omega
    refine zW.gbt [] rfl rfl rfl (by omega) (by simp (disch := omega) only [true_or, or_true, eq_self, Option.some.injEq, Prod.mk.injEq, zall_0, zall_1, zall_2, zob_iff, zar_iff, zis_iff, zkIs_some, zkHas_some, iI_vp, z01_I, z01_bz, zch_I, true_and, and_true, or_false, false_or, and_self, upI_same, upL_same, upI_ne, upL_ne, iI_ixN, zI_mk, zL_mk, zP_mk, zK_mk, zN_mk, zwI_up, zwL_up, zg_some, Nat.reduceMod, Nat.reduceDiv, zcn_I, iI_add, iI_sub, iI_mul, iI_neg, iI_lt, iI_le, iI_eq, iI_lt0, iI_le0, iI_gt0, iI_ge0, iI_eq0, k0, p1, k1] <;> omega) (by simp (disch := omega) only [eq_self, not_true_eq_false, not_false_eq_true, upI_same, upL_same, upI_ne, upL_ne, iI_ixN, zI_mk, zL_mk, zP_mk, zK_mk, zN_mk, zwI_up, zwL_up, zg_some, Nat.reduceMod, Nat.reduceDiv, zcn_I, iI_add, iI_sub, iI_mul, iI_neg, iI_lt, iI_le, iI_eq, iI_lt0, iI_le0, iI_gt0, iI_ge0, iI_eq0, p1, v1] <;> omega) ?_
    refine zW.gr [] rfl rfl rfl (by omega) trivial trivial ?_
    have hp := swf_pm hst hu hv
    refine hQ _ (mf_pz (w := pzSt (tPz T i) (swf (pzS (tPz T i)) u v)) h hi (zOK_st hz hp) rfl rfl rfl (fun r q1 q2 q3 => f1 r q3) (fun k _ _ _ => by rw [f1 _ (by omega)]) (fun p hp10 => by rw [f1 _ (by omega)]; exact w4 p hp10) (fun p hp10 => ?_)) (mfo_of fun r q => f1 r (by omega)) (f1 y (by omega))
    by_cases c : p < pzN (tPz T i)
    · exact f2 p c
    · rw [f3 p (by omega), w5 p hp10, hst.2.2 p (by omega)]
      show iI (p : Int) = iI (swf (pzS (tPz T i)) u v p : Int)
      rw [hp.2.2 p (by omega)]
  | m + 1, k, hk, I1, x, z, t, f1, f2, f3, e1, e2 => by
    subst e1; subst e2
    have hM := h.2.1
    have k0 : R.2.1 y = some (7, 0) := hM.1
    obtain ⟨h4, hz, w1, w2, w3, w4, w5⟩ := m_pz h hi
    have hn := hz.2.1
    have hst := hz.2.2.2.2.2.2.2.2
    have p1 : R.1 y 1 = some (y + 2) := (hM.2.1 1 (by decide)).1; have k1 : R.2.1 (y + 2) = some (20, 4) := (hM.2.1 1 (by decide)).2; have p5 : R.1 y 5 = some (y + 46) := (hM.2.1 5 (by decide)).1; have k5 : R.2.1 (y + 46) = some (25, 4) := (hM.2.1 5 (by decide)).2; have q5 : R.1 (y + 46) (i) = some (y + 47 + i) := (hM.2.2.2.2.1 (i) (by omega)).1.trans (congrArg some (by omega)); have j5 : R.2.1 (y + 47 + i) = some (20, 10) := (congrArg R.2.1 (by omega)).trans (hM.2.2.2.2.1 (i) (by omega)).2
    have v1 : I1 (y + 2) i = iI (pzN (tPz T i) : Int) := by
      rw [f1 _ (by omega)]
      exact w1
    have v5 : I1 (y + 47 + i) k = iI (pzS (tPz T i) k : Int) := by
      rw [f3 k (Nat.le_refl _)]
      exact w5 k (by omega)
    have hsk := hst.1 k (by omega)
    have hp := swf_pm hst hu hv
    have hsw := hp.1 k (by omega)
    have e3 := ct_le (fun q => swf (pzS (tPz T i)) u v q == q) k
    have NX : ∀ (x : Int32), x = iI (swf (pzS (tPz T i)) u v k : Int) → zW 174 d 0 0 118 [some (zr (some y)), some (zi (iI (i : Int))), some (zi (iI (u : Int))), some (zi (iI (v : Int))), some (zi (iI (ct (fun q => swf (pzS (tPz T i)) u v q == q) k : Int))), some (zi (iI (k : Int))), some (zi (iI (pzS (tPz T i) k : Int)))] [zi x, zi (iI (k : Int)), zr (some (y + 47 + i))] (I1, L, R) Q := fun x ex => by
      subst ex
      have NY : ∀ (x : Int32) (e : Nat), x = iI (e : Int) → ct (fun q => swf (pzS (tPz T i)) u v q == q) (k + 1) = ct (fun q => swf (pzS (tPz T i)) u v q == q) k + e → zW 174 d 0 0 140 [some (zr (some y)), some (zi (iI (i : Int))), some (zi (iI (u : Int))), some (zi (iI (v : Int))), some (zi (iI (ct (fun q => swf (pzS (tPz T i)) u v q == q) k : Int))), some (zi (iI (k : Int))), some (zi (iI (pzS (tPz T i) k : Int)))] [zi x, zi (iI (ct (fun q => swf (pzS (tPz T i)) u v q == q) k : Int))] (upI I1 (y + 47 + i) k (iI (swf (pzS (tPz T i)) u v k : Int)), L, R) Q := fun x e ex hx => by
        subst ex
        refine zW.go [66] rfl (by omega) trivial ?_
        refine swap_lp hd h hi hu hv hQ m (k + 1) (by omega) _ _ _ _ (fun r hr => (upI_row hr).trans (f1 r hr)) (fun p hp => ?_) (fun p hp => (upI_ne (by omega)).trans (f3 p (by omega))) (by rw [iI_add, hx]; rfl) (by rw [zcn_I, iI_add]; rfl)
        by_cases e : p = k
        · rw [e, upI_same]
        · rw [upI_ne (by omega)]
          exact f2 p (by omega)
      refine zW.gb [] rfl rfl rfl (by omega) (by simp (disch := omega) only [true_or, or_true, eq_self, Option.some.injEq, Prod.mk.injEq, zall_0, zall_1, zall_2, zob_iff, zar_iff, zis_iff, zkIs_some, zkHas_some, iI_vp, z01_I, z01_bz, zch_I, true_and, and_true, or_false, false_or, and_self, upI_same, upL_same, upI_ne, upL_ne, iI_ixN, zI_mk, zL_mk, zP_mk, zK_mk, zN_mk, zwI_up, zwL_up, zg_some, Nat.reduceMod, Nat.reduceDiv, zcn_I, iI_add, iI_sub, iI_mul, iI_neg, iI_lt, iI_le, iI_eq, iI_lt0, iI_le0, iI_gt0, iI_ge0, iI_eq0, k0, p5, k5, q5, j5] <;> omega) (fun h' => ?_) (fun h' => ?_)
      · simp (disch := omega) only [zcn_I, iI_add, iI_sub, iI_mul, iI_neg, iI_lt, iI_le, iI_eq, iI_lt0, iI_le0, iI_gt0, iI_ge0, iI_eq0, upI_same, upL_same, upI_ne, upL_ne, iI_ixN, zI_mk, zL_mk, zP_mk, zK_mk, zN_mk, zwI_up, zwL_up, zg_some, Nat.reduceMod, Nat.reduceDiv, p5, q5] at h'
        simp (disch := omega) only [upI_same, upL_same, upI_ne, upL_ne, iI_ixN, zI_mk, zL_mk, zP_mk, zK_mk, zN_mk, zwI_up, zwL_up, zg_some, Nat.reduceMod, Nat.reduceDiv]
        refine zW.go [140] rfl (by omega) trivial (NY _ 0 (zcn_I _) ?_)
        exact congrArg (fun b : Bool => ct (fun q => swf (pzS (tPz T i)) u v q == q) k + (if b then 1 else 0)) (show (swf (pzS (tPz T i)) u v k == k) = false by simp; omega)
      · simp (disch := omega) only [zcn_I, iI_add, iI_sub, iI_mul, iI_neg, iI_lt, iI_le, iI_eq, iI_lt0, iI_le0, iI_gt0, iI_ge0, iI_eq0, upI_same, upL_same, upI_ne, upL_ne, iI_ixN, zI_mk, zL_mk, zP_mk, zK_mk, zN_mk, zwI_up, zwL_up, zg_some, Nat.reduceMod, Nat.reduceDiv, p5, q5] at h'
        simp (disch := omega) only [upI_same, upL_same, upI_ne, upL_ne, iI_ixN, zI_mk, zL_mk, zP_mk, zK_mk, zN_mk, zwI_up, zwL_up, zg_some, Nat.reduceMod, Nat.reduceDiv]
        refine zW.go [140] rfl (by omega) trivial (NY _ 1 (zcn_I _) ?_)
        exact congrArg (fun b : Bool => ct (fun q => swf (pzS (tPz T i)) u v q == q) k + (if b then 1 else 0)) (show (swf (pzS (tPz T i)) u v k == k) = true by simp; omega)
    refine zW.gbf [] rfl rfl rfl (by omega) (by simp (disch := omega) only [true_or, or_true, eq_self, Option.some.injEq, Prod.mk.injEq, zall_0, zall_1, zall_2, zob_iff, zar_iff, zis_iff, zkIs_some, zkHas_some, iI_vp, z01_I, z01_bz, zch_I, true_and, and_true, or_false, false_or, and_self, upI_same, upL_same, upI_ne, upL_ne, iI_ixN, zI_mk, zL_mk, zP_mk, zK_mk, zN_mk, zwI_up, zwL_up, zg_some, Nat.reduceMod, Nat.reduceDiv, zcn_I, iI_add, iI_sub, iI_mul, iI_neg, iI_lt, iI_le, iI_eq, iI_lt0, iI_le0, iI_gt0, iI_ge0, iI_eq0, k0, p1, k1] <;> omega) (by simp (disch := omega) only [eq_self, not_true_eq_false, not_false_eq_true, upI_same, upL_same, upI_ne, upL_ne, iI_ixN, zI_mk, zL_mk, zP_mk, zK_mk, zN_mk, zwI_up, zwL_up, zg_some, Nat.reduceMod, Nat.reduceDiv, zcn_I, iI_add, iI_sub, iI_mul, iI_neg, iI_lt, iI_le, iI_eq, iI_lt0, iI_le0, iI_gt0, iI_ge0, iI_eq0, p1, v1] <;> omega) ?_
    refine zW.gb [] rfl rfl rfl (by omega) (by simp (disch := omega) only [true_or, or_true, eq_self, Option.some.injEq, Prod.mk.injEq, zall_0, zall_1, zall_2, zob_iff, zar_iff, zis_iff, zkIs_some, zkHas_some, iI_vp, z01_I, z01_bz, zch_I, true_and, and_true, or_false, false_or, and_self, upI_same, upL_same, upI_ne, upL_ne, iI_ixN, zI_mk, zL_mk, zP_mk, zK_mk, zN_mk, zwI_up, zwL_up, zg_some, Nat.reduceMod, Nat.reduceDiv, zcn_I, iI_add, iI_sub, iI_mul, iI_neg, iI_lt, iI_le, iI_eq, iI_lt0, iI_le0, iI_gt0, iI_ge0, iI_eq0, k0, p5, k5, q5, j5] <;> omega) (fun h' => ?_) (fun h' => ?_)
    · simp (disch := omega) only [zcn_I, iI_add, iI_sub, iI_mul, iI_neg, iI_lt, iI_le, iI_eq, iI_lt0, iI_le0, iI_gt0, iI_ge0, iI_eq0, upI_same, upL_same, upI_ne, upL_ne, iI_ixN, zI_mk, zL_mk, zP_mk, zK_mk, zN_mk, zwI_up, zwL_up, zg_some, Nat.reduceMod, Nat.reduceDiv, p5, q5, v5] at h'
      simp (disch := omega) only [upI_same, upL_same, upI_ne, upL_ne, iI_ixN, zI_mk, zL_mk, zP_mk, zK_mk, zN_mk, zwI_up, zwL_up, zg_some, Nat.reduceMod, Nat.reduceDiv, p5, q5, v5]
      refine zW.gb [] rfl rfl rfl (by omega) trivial (fun h2 => ?_) (fun h2 => ?_)
      · simp (disch := omega) only [zcn_I, iI_add, iI_sub, iI_mul, iI_neg, iI_lt, iI_le, iI_eq, iI_lt0, iI_le0, iI_gt0, iI_ge0, iI_eq0] at h2
        refine zW.go [118] rfl (by omega) trivial (NX _ ?_)
        unfold swf
        rw [if_neg (by omega), if_neg (by omega)]
      · simp (disch := omega) only [zcn_I, iI_add, iI_sub, iI_mul, iI_neg, iI_lt, iI_le, iI_eq, iI_lt0, iI_le0, iI_gt0, iI_ge0, iI_eq0] at h2
        refine zW.go [118] rfl (by omega) trivial (NX _ ?_)
        unfold swf
        rw [if_neg (by omega), if_pos (by omega)]
    · simp (disch := omega) only [zcn_I, iI_add, iI_sub, iI_mul, iI_neg, iI_lt, iI_le, iI_eq, iI_lt0, iI_le0, iI_gt0, iI_ge0, iI_eq0, upI_same, upL_same, upI_ne, upL_ne, iI_ixN, zI_mk, zL_mk, zP_mk, zK_mk, zN_mk, zwI_up, zwL_up, zg_some, Nat.reduceMod, Nat.reduceDiv, p5, q5, v5] at h'
      simp (disch := omega) only [upI_same, upL_same, upI_ne, upL_ne, iI_ixN, zI_mk, zL_mk, zP_mk, zK_mk, zN_mk, zwI_up, zwL_up, zg_some, Nat.reduceMod, Nat.reduceDiv, p5, q5, v5]
      refine zW.go [118] rfl (by omega) trivial (NX _ ?_)
      unfold swf
      rw [if_pos (by omega)]
theorem mSwap_ok {p u v : Int} {a b c : Int32} (hd : 6 ≤ d) (h : mf y T (I, L, R)) (e1 : a = iI p) (e2 : b = iI u) (e3 : c = iI v) (h1 : i32 p) (h2 : i32 u) (h3 : i32 v) (hQ : mP y (I, L, R) (oSwap T p u v) eI Q) : zS 174 d [zr (some y), zi a, zi b, zi c] (I, L, R) Q := by
  subst e1; subst e2; subst e3
  have hM := h.2.1
  have k0 : R.2.1 y = some (7, 0) := hM.1
  refine zW.gz [] rfl rfl rfl (by omega) trivial ⟨_, rfl, k0⟩ rfl rfl (by decide +kernel) (by decide +kernel) ?_
  refine noPz_ok (by omega) h rfl h1 (fun q hq => ?_)
  refine zW.gz [] rfl rfl rfl (by omega) trivial ⟨_, rfl, k0⟩ rfl rfl (by decide +kernel) (by decide +kernel) ?_
  refine mThr_ok (k := 1) (by omega) k0 hq (zcn_I _) (fun hb => ?_) (fun hg => ?_)
  · refine zW.gbt [] rfl rfl rfl (by omega) trivial (by simp (disch := omega) only [eq_self, not_true_eq_false, not_false_eq_true, upI_same, upL_same, upI_ne, upL_ne, iI_ixN, zI_mk, zL_mk, zP_mk, zK_mk, zN_mk, zwI_up, zwL_up, zg_some, Nat.reduceMod, Nat.reduceDiv, zcn_I, iI_add, iI_sub, iI_mul, iI_neg, iI_lt, iI_le, iI_eq, iI_lt0, iI_le0, iI_gt0, iI_ge0, iI_eq0] <;> omega) ?_
    refine zW.gr [] rfl rfl rfl (by omega) trivial trivial ?_; rw [zcn_I]
    refine mP_t hQ (c := 0) (v := 0) ?_ (mf_scr h th_scr) (mgr_o (scr_o th_scr)) (upI_same _ _ _ _) 0
    exact onP_no hb
  · obtain ⟨i, rfl, hi, e⟩ := onP_yes (f := fun i => if ¬ (0 ≤ u ∧ u < pzN (tPz T i)) ∨ ¬ (0 ≤ v ∧ v < pzN (tPz T i)) then (2, 0, T) else (0, (pzN (tPz T i) : Int) - (nst (swf (pzS (tPz T i)) u.toNat v.toNat) : Int), tSetP T i (pzSt (tPz T i) (swf (pzS (tPz T i)) u.toNat v.toNat)))) hg
    rw [show oSwap T (i : Int) u v = _ from e] at hQ
    clear e
    obtain ⟨h4, hz, w1, w2, w3, w4, w5⟩ := m_pz h hi
    have hn := hz.2.1
    have hst := hz.2.2.2.2.2.2.2.2
    have hm := mf_scr h (th_scr (v := iI 0) (L := L))
    refine zW.gbf [] rfl rfl rfl (by omega) trivial (by simp (disch := omega) only [eq_self, not_true_eq_false, not_false_eq_true, upI_same, upL_same, upI_ne, upL_ne, iI_ixN, zI_mk, zL_mk, zP_mk, zK_mk, zN_mk, zwI_up, zwL_up, zg_some, Nat.reduceMod, Nat.reduceDiv, zcn_I, iI_add, iI_sub, iI_mul, iI_neg, iI_lt, iI_le, iI_eq, iI_lt0, iI_le0, iI_gt0, iI_ge0, iI_eq0] <;> omega) ?_
    have G : ∀ q, tru (¬ (0 ≤ u ∧ u < pzN (tPz T i)) ∨ ¬ (0 ≤ v ∧ v < pzN (tPz T i))) q → zW 174 d 0 0 51 [some (zr (some y)), some (zi (iI (i : Int))), some (zi (iI u)), some (zi (iI v)), none, none, none] [zi q, zr (some y)] (upI I y 41 (iI 0), L, R) Q := fun q hq => by
      refine zW.gz [] rfl rfl rfl (by omega) trivial ⟨_, rfl, k0⟩ rfl rfl (by decide +kernel) (by decide +kernel) ?_
      refine mThr_ok (k := 2) (by omega) k0 hq (zcn_I _) (fun hb => ?_) (fun hg => ?_)
      · refine zW.gbf [] rfl rfl rfl (by omega) trivial (by simp (disch := omega) only [eq_self, not_true_eq_false, not_false_eq_true, upI_same, upL_same, upI_ne, upL_ne, iI_ixN, zI_mk, zL_mk, zP_mk, zK_mk, zN_mk, zwI_up, zwL_up, zg_some, Nat.reduceMod, Nat.reduceDiv, zcn_I, iI_add, iI_sub, iI_mul, iI_neg, iI_lt, iI_le, iI_eq, iI_lt0, iI_le0, iI_gt0, iI_ge0, iI_eq0] <;> omega) ?_
        refine zW.gr [] rfl rfl rfl (by omega) trivial trivial ?_; rw [zcn_I]
        exact mP_t hQ (c := 1) (v := 0) (if_pos hb) (mf_scr h th2_scr) (mgr_o (scr_o th2_scr)) (upI_same _ _ _ _) 0
      · refine zW.gbt [] rfl rfl rfl (by omega) trivial (by simp (disch := omega) only [eq_self, not_true_eq_false, not_false_eq_true, upI_same, upL_same, upI_ne, upL_ne, iI_ixN, zI_mk, zL_mk, zP_mk, zK_mk, zN_mk, zwI_up, zwL_up, zg_some, Nat.reduceMod, Nat.reduceDiv, zcn_I, iI_add, iI_sub, iI_mul, iI_neg, iI_lt, iI_le, iI_eq, iI_lt0, iI_le0, iI_gt0, iI_ge0, iI_eq0] <;> omega) ?_
        rw [if_neg hg] at hQ
        have hu : 0 ≤ u ∧ u < pzN (tPz T i) := Classical.byContradiction fun c => hg (Or.inl c)
        have hv : 0 ≤ v ∧ v < pzN (tPz T i) := Classical.byContradiction fun c => hg (Or.inr c)
        obtain ⟨u, rfl⟩ : ∃ k : Nat, u = k := ⟨u.toNat, by omega⟩
        obtain ⟨v, rfl⟩ : ∃ k : Nat, v = k := ⟨v.toNat, by omega⟩
        rw [show ((u : Int)).toNat = u from rfl, show ((v : Int)).toNat = v from rfl] at hQ
        refine zW.go [66] rfl (by omega) trivial ?_
        refine swap_lp (by omega) (mf_scr h th2_scr) hi (by omega) (by omega) (fun I' m1 m2 m3 => ?_) (pzN (tPz T i)) 0 (by omega) _ _ _ _ (fun _ _ => rfl) (fun p q => absurd q (Nat.not_lt_zero p)) (fun _ _ => rfl) (zcn_I _) (zcn_I _)
        have hp := swf_pm hst (show u < pzN (tPz T i) by omega) (show v < pzN (tPz T i) by omega)
        have e := ct_not (fun q => swf (pzS (tPz T i)) u v q == q) (pzN (tPz T i))
        have e2 : ct (fun q => !(swf (pzS (tPz T i)) u v q == q)) (pzN (tPz T i)) = nst (swf (pzS (tPz T i)) u v) := by
          unfold nst
          have := ct_more (b := fun q => !(swf (pzS (tPz T i)) u v q == q)) (n := pzN (tPz T i)) (m := 10 - pzN (tPz T i)) (fun k q1 q2 => by rw [hp.2.2 k q1]; simp)
          rw [show pzN (tPz T i) + (10 - pzN (tPz T i)) = 10 by omega] at this
          exact this.symm
        have e3 : (ct (fun q => swf (pzS (tPz T i)) u v q == q) (pzN (tPz T i)) : Int) = (pzN (tPz T i) : Int) - (nst (swf (pzS (tPz T i)) u v) : Int) := by omega
        rw [e3]
        exact mP_0 hQ rfl m1 (mgr_o (mfo_tr (scr_o th2_scr) m2)) (by show I' y 41 = _; rw [m3]; exact upI_same _ _ _ _)
    have p1 : R.1 y 1 = some (y + 2) := (hM.2.1 1 (by decide)).1; have k1 : R.2.1 (y + 2) = some (20, 4) := (hM.2.1 1 (by decide)).2
    refine zW.gz [] rfl rfl rfl (by omega) (by simp (disch := omega) only [true_or, or_true, eq_self, Option.some.injEq, Prod.mk.injEq, zall_0, zall_1, zall_2, zob_iff, zar_iff, zis_iff, zkIs_some, zkHas_some, iI_vp, z01_I, z01_bz, zch_I, true_and, and_true, or_false, false_or, and_self, upI_same, upL_same, upI_ne, upL_ne, iI_ixN, zI_mk, zL_mk, zP_mk, zK_mk, zN_mk, zwI_up, zwL_up, zg_some, Nat.reduceMod, Nat.reduceDiv, zcn_I, iI_add, iI_sub, iI_mul, iI_neg, iI_lt, iI_le, iI_eq, iI_lt0, iI_le0, iI_gt0, iI_ge0, iI_eq0, k0, p1, k1] <;> omega) trivial rfl rfl (by decide +kernel) (by decide +kernel) ?_
    simp (disch := omega) only [upI_same, upL_same, upI_ne, upL_ne, iI_ixN, zI_mk, zL_mk, zP_mk, zK_mk, zN_mk, zwI_up, zwL_up, zg_some, Nat.reduceMod, Nat.reduceDiv, zcn_I, iI_add, iI_sub, iI_mul, iI_neg, iI_lt, iI_le, iI_eq, iI_lt0, iI_le0, iI_gt0, iI_ge0, iI_eq0, p1, w1, iI_sub, zcn_I]
    refine mIn_ok (lo := 0) (hi := (pzN (tPz T i) : Int) - 1) (by omega) rfl rfl rfl h2 ⟨by omega, by omega⟩ ⟨by omega, by omega⟩ (fun q hq => ?_)
    rcases hq with ⟨g2, rfl⟩ | ⟨g2, rfl⟩
    · refine zW.gbf [] rfl rfl rfl (by omega) trivial (by simp (disch := omega) only [eq_self, not_true_eq_false, not_false_eq_true, upI_same, upL_same, upI_ne, upL_ne, iI_ixN, zI_mk, zL_mk, zP_mk, zK_mk, zN_mk, zwI_up, zwL_up, zg_some, Nat.reduceMod, Nat.reduceDiv, zcn_I, iI_add, iI_sub, iI_mul, iI_neg, iI_lt, iI_le, iI_eq, iI_lt0, iI_le0, iI_gt0, iI_ge0, iI_eq0] <;> omega) ?_
      refine zW.gz [] rfl rfl rfl (by omega) (by simp (disch := omega) only [true_or, or_true, eq_self, Option.some.injEq, Prod.mk.injEq, zall_0, zall_1, zall_2, zob_iff, zar_iff, zis_iff, zkIs_some, zkHas_some, iI_vp, z01_I, z01_bz, zch_I, true_and, and_true, or_false, false_or, and_self, upI_same, upL_same, upI_ne, upL_ne, iI_ixN, zI_mk, zL_mk, zP_mk, zK_mk, zN_mk, zwI_up, zwL_up, zg_some, Nat.reduceMod, Nat.reduceDiv, zcn_I, iI_add, iI_sub, iI_mul, iI_neg, iI_lt, iI_le, iI_eq, iI_lt0, iI_le0, iI_gt0, iI_ge0, iI_eq0, k0, p1, k1] <;> omega) trivial rfl rfl (by decide +kernel) (by decide +kernel) ?_
      simp (disch := omega) only [upI_same, upL_same, upI_ne, upL_ne, iI_ixN, zI_mk, zL_mk, zP_mk, zK_mk, zN_mk, zwI_up, zwL_up, zg_some, Nat.reduceMod, Nat.reduceDiv, zcn_I, iI_add, iI_sub, iI_mul, iI_neg, iI_lt, iI_le, iI_eq, iI_lt0, iI_le0, iI_gt0, iI_ge0, iI_eq0, p1, w1, iI_sub, zcn_I]
      refine mIn_ok (lo := 0) (hi := (pzN (tPz T i) : Int) - 1) (by omega) rfl rfl rfl h3 ⟨by omega, by omega⟩ ⟨by omega, by omega⟩ (fun q hq => ?_)
      rcases hq with ⟨g3, rfl⟩ | ⟨g3, rfl⟩
      · refine zW.gbt [] rfl rfl rfl (by omega) trivial (by simp (disch := omega) only [eq_self, not_true_eq_false, not_false_eq_true, upI_same, upL_same, upI_ne, upL_ne, iI_ixN, zI_mk, zL_mk, zP_mk, zK_mk, zN_mk, zwI_up, zwL_up, zg_some, Nat.reduceMod, Nat.reduceDiv, zcn_I, iI_add, iI_sub, iI_mul, iI_neg, iI_lt, iI_le, iI_eq, iI_lt0, iI_le0, iI_gt0, iI_ge0, iI_eq0] <;> omega) ?_
        exact zW.go [51] rfl (by omega) trivial (G _ (tru_f (fun c => c.elim (fun c => c (by omega)) (fun c => c (by omega)))))
      · refine zW.gbf [] rfl rfl rfl (by omega) trivial (by simp (disch := omega) only [eq_self, not_true_eq_false, not_false_eq_true, upI_same, upL_same, upI_ne, upL_ne, iI_ixN, zI_mk, zL_mk, zP_mk, zK_mk, zN_mk, zwI_up, zwL_up, zg_some, Nat.reduceMod, Nat.reduceDiv, zcn_I, iI_add, iI_sub, iI_mul, iI_neg, iI_lt, iI_le, iI_eq, iI_lt0, iI_le0, iI_gt0, iI_ge0, iI_eq0] <;> omega) ?_
        exact zW.go [51] rfl (by omega) trivial (G _ (tru_t (Or.inr (fun c => g3 (by omega)))))
    · refine zW.gbt [] rfl rfl rfl (by omega) trivial (by simp (disch := omega) only [eq_self, not_true_eq_false, not_false_eq_true, upI_same, upL_same, upI_ne, upL_ne, iI_ixN, zI_mk, zL_mk, zP_mk, zK_mk, zN_mk, zwI_up, zwL_up, zg_some, Nat.reduceMod, Nat.reduceDiv, zcn_I, iI_add, iI_sub, iI_mul, iI_neg, iI_lt, iI_le, iI_eq, iI_lt0, iI_le0, iI_gt0, iI_ge0, iI_eq0] <;> omega) ?_
      exact zW.go [51] rfl (by omega) trivial (G _ (tru_t (Or.inl (fun c => g2 (by omega)))))
end MPZ3
