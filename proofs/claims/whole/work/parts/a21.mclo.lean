/-! The model's rounds: one changed; closing. -/
section MCLO
variable {d y : Nat} {T : tfT} {I : Nat → Nat → Int32} {L : Nat → Nat → Int64} {R : zRt} {Q : zO → zM → Prop}
theorem mf_setR {j dy : Nat} {w : zRd} {I' : Nat → Nat → Int32} (h : mf y T (I, L, R)) (hj : j < tRn T) (hw : rOK w) (hz : ∀ c, tCn T ≤ c → c < 12 → rMa w c = 0) (hdy : dy ≤ 999) (f : ∀ a, ¬ scA y a → ¬ (y + 1785 ≤ a ∧ a ≤ y + 1940) → I' a = I a) (f0 : ∀ k, 32 ≤ k → k ≤ 39 → k ≠ 36 → k ≠ 37 → I' y k = I y k) (f1 : I' y 40 = iI (dy : Int)) (g1 : ∀ a k, y + 1785 ≤ a → a ≤ y + 1790 → k ≠ j → I' a k = I a k) (g2 : ∀ a, y + 1792 ≤ a → a ≤ y + 1940 → a ≠ y + 1792 + j → a ≠ y + 1906 + j → a ≠ y + 1915 + j → a ≠ y + 1924 + j → a ≠ y + 1933 + j → ¬ (y + 1802 + 13 * j ≤ a ∧ a < y + 1814 + 13 * j) → I' a = I a) (hr : mRd y j I' w) : mf y (tSetR T j w dy) (I', L, R) := by
  obtain ⟨rd0, rd8, rd1, rd2⟩ := m_rds h
  obtain ⟨o1, o2, o3, o4, ⟨o5, o6⟩, o7⟩ := h.1
  refine mf_rd (L' := L) h rfl rfl ⟨o1, o2, o3, o4, ⟨o5, fun k hk' => ?_⟩, hdy⟩ f (fun k q => f0 k (by omega) (by omega) (by omega) (by omega)) ⟨(f0 39 (by omega) (by omega) (by omega) (by omega)).trans rd0, fun k hk => ?_, fun k q1 q2 => ?_⟩ f1
  · show rOK (if k = j then w else tRd T k) ∧ ∀ c, tCn T ≤ c → c < 12 → rMa (if k = j then w else tRd T k) c = 0
    by_cases q : k = j
    · rw [if_pos q]
      exact ⟨hw, hz⟩
    · rw [if_neg q]
      exact o6 k hk'
  · show mRd y k I' (if k = j then w else tRd T k)
    have hk : k < tRn T := hk
    by_cases q : k = j
    · rw [if_pos q, q]
      exact hr
    · rw [if_neg q]
      obtain ⟨r1, r2, r3, r4, r5, r6, r7⟩ := rd1 k hk
      refine ⟨(g1 _ _ (by omega) (by omega) q).trans r1, (g1 _ _ (by omega) (by omega) q).trans r2, (g1 _ _ (by omega) (by omega) q).trans r3, (g1 _ _ (by omega) (by omega) q).trans r4, (g1 _ _ (by omega) (by omega) q).trans r5, (g1 _ _ (by omega) (by omega) q).trans r6, fun c hc => ?_⟩
      have ff : ∀ a, y + 1792 ≤ a → a ≤ y + 1940 → a ≠ y + 1792 + j → a ≠ y + 1906 + j → a ≠ y + 1915 + j → a ≠ y + 1924 + j → a ≠ y + 1933 + j → ¬ (y + 1802 + 13 * j ≤ a ∧ a < y + 1814 + 13 * j) → ∀ i, I' a i = I a i := fun a q1 q2 q3 q4 q5 q6 q7 q8 i => congrFun (g2 a q1 q2 q3 q4 q5 q6 q7 q8) i
      obtain ⟨s1, s2, s3, s4, s5, s6⟩ := r7 c hc
      refine ⟨(ff _ (by omega) (by omega) (by omega) (by omega) (by omega) (by omega) (by omega) (by omega) _).trans s1, (ff _ (by omega) (by omega) (by omega) (by omega) (by omega) (by omega) (by omega) (by omega) _).trans s2, (ff _ (by omega) (by omega) (by omega) (by omega) (by omega) (by omega) (by omega) (by omega) _).trans s3, (ff _ (by omega) (by omega) (by omega) (by omega) (by omega) (by omega) (by omega) (by omega) _).trans s4, (ff _ (by omega) (by omega) (by omega) (by omega) (by omega) (by omega) (by omega) (by omega) _).trans s5, fun i hi => (ff _ (by omega) (by omega) (by omega) (by omega) (by omega) (by omega) (by omega) (by omega) _).trans (s6 i hi)⟩
  · have q1 : tRn T ≤ k := q1
    have q : k ≠ j := by omega
    obtain ⟨r4, r5, r6, r7⟩ := rd2 k q1 q2
    refine ⟨(g1 _ _ (by omega) (by omega) q).trans r4, (g1 _ _ (by omega) (by omega) q).trans r5, (g1 _ _ (by omega) (by omega) q).trans r6, fun c hc => ?_⟩
    have ff : ∀ a, y + 1792 ≤ a → a ≤ y + 1940 → a ≠ y + 1792 + j → a ≠ y + 1906 + j → a ≠ y + 1915 + j → a ≠ y + 1924 + j → a ≠ y + 1933 + j → ¬ (y + 1802 + 13 * j ≤ a ∧ a < y + 1814 + 13 * j) → ∀ i, I' a i = I a i := fun a q1 q2 q3 q4 q5 q6 q7 q8 i => congrFun (g2 a q1 q2 q3 q4 q5 q6 q7 q8) i
    obtain ⟨s1, s2, s3, s4, s5⟩ := r7 c hc
    exact ⟨(ff _ (by omega) (by omega) (by omega) (by omega) (by omega) (by omega) (by omega) (by omega) _).trans s1, (ff _ (by omega) (by omega) (by omega) (by omega) (by omega) (by omega) (by omega) (by omega) _).trans s2, (ff _ (by omega) (by omega) (by omega) (by omega) (by omega) (by omega) (by omega) (by omega) _).trans s3, (ff _ (by omega) (by omega) (by omega) (by omega) (by omega) (by omega) (by omega) (by omega) _).trans s4, (ff _ (by omega) (by omega) (by omega) (by omega) (by omega) (by omega) (by omega) (by omega) _).trans s5⟩
theorem tru_b {b : Bool} : tru (b = true) (bz b) := by
  cases b
  · exact tru_0 (by decide)
  · exact tru_1 rfl
theorem onR_no {T : tfT} {r : Int} {f : Nat → tRes} (h : noR T r) : onR T r f = (1, 0, T) := if_pos h
theorem onR_yes {T : tfT} {r : Int} (h : ¬ noR T r) : ∃ j : Nat, r = j ∧ j < tRn T ∧ ∀ f, onR T r f = f j := by
  have h1 : 0 ≤ r ∧ r < tRn T := Classical.byContradiction fun q => h q
  refine ⟨r.toNat, by omega, by omega, fun f => if_neg h⟩
theorem mClose_ok {r dy : Int} {a b : Int32} (hd : 6 ≤ d) (h : mf y T (I, L, R)) (e1 : a = iI r) (e2 : b = iI dy) (h1 : i32 r) (h2 : i32 dy) (hQ : mP y (I, L, R) (oClose T r dy) eI Q) : zS 244 d [zr (some y), zi a, zi b] (I, L, R) Q := by
  subst e1; subst e2
  have hM := h.2.1
  have k0 : R.2.1 y = some (7, 0) := hM.1
  have d40 := (m_own h).2.2.2
  have hd9 := h.1.2.2.2.2.2
  refine zW.gz [] rfl rfl rfl (by omega) trivial ⟨_, rfl, k0⟩ rfl rfl (by decide +kernel) (by decide +kernel) ?_
  refine noRd_ok (by omega) h rfl h1 (fun q hq => ?_)
  refine zW.gz [] rfl rfl rfl (by omega) trivial ⟨_, rfl, k0⟩ rfl rfl (by decide +kernel) (by decide +kernel) ?_
  refine mThr_ok (k := 1) (by omega) k0 hq (zcn_I _) (fun hb => ?_) (fun hg => ?_)
  · refine zW.gbt [] rfl rfl rfl (by omega) trivial (by simp (disch := omega) only [eq_self, not_true_eq_false, not_false_eq_true, upI_same, upL_same, upI_ne, upL_ne, iI_ixN, zI_mk, zL_mk, zP_mk, zK_mk, zN_mk, zwI_up, zwL_up, zg_some, Nat.reduceMod, Nat.reduceDiv, zcn_I, iI_add, iI_sub, iI_mul, iI_neg, iI_lt, iI_le, iI_eq, iI_lt0, iI_le0, iI_gt0, iI_ge0, iI_eq0] <;> omega) ?_
    refine zW.gr [] rfl rfl rfl (by omega) trivial trivial ?_; rw [zcn_I]
    refine mP_t hQ (c := 0) (v := 0) ?_ (mf_scr h th_scr) (mgr_o (scr_o th_scr)) (upI_same _ _ _ _) 0
    exact onR_no hb
  · obtain ⟨j, rfl, hj, e⟩ := onR_yes hg
    unfold oClose at hQ
    rw [e] at hQ
    obtain ⟨j8, ho, hz, hRd⟩ := m_rd h hj
    have hRd' := hRd
    obtain ⟨r1, r2, r3, r4, r5, r6, r7⟩ := hRd'
    have p24 : R.1 y 24 = some (y + 1789) := (hM.2.1 24 (by decide)).1; have k24 : R.2.1 (y + 1789) = some (22, 8) := (hM.2.1 24 (by decide)).2; have p23 : R.1 y 23 = some (y + 1788) := (hM.2.1 23 (by decide)).1; have k23 : R.2.1 (y + 1788) = some (20, 8) := (hM.2.1 23 (by decide)).2
    refine zW.gbf [] rfl rfl rfl (by omega) trivial (by simp (disch := omega) only [eq_self, not_true_eq_false, not_false_eq_true, upI_same, upL_same, upI_ne, upL_ne, iI_ixN, zI_mk, zL_mk, zP_mk, zK_mk, zN_mk, zwI_up, zwL_up, zg_some, Nat.reduceMod, Nat.reduceDiv, zcn_I, iI_add, iI_sub, iI_mul, iI_neg, iI_lt, iI_le, iI_eq, iI_lt0, iI_le0, iI_gt0, iI_ge0, iI_eq0] <;> omega) ?_
    refine zW.gz [] rfl rfl rfl (by omega) trivial trivial rfl rfl (by decide +kernel) (by decide +kernel) ?_
    refine mIn_ok (by omega) rfl (zcn_I _) (zcn_I _) h2 ⟨by omega, by omega⟩ ⟨by omega, by omega⟩ (fun q0 hq0 => ?_)
    have F : ∀ q, tru (¬ ((tDy T : Int) ≤ dy ∧ dy ≤ 999)) q → zW 244 d 0 0 38 [some (zr (some y)), some (zi (iI (j : Int))), some (zi (iI dy))] [zi q, zr (some y)] (upI I y 41 (iI 0), L, R) Q := fun q hq => by
      refine zW.gz [] rfl rfl rfl (by omega) trivial ⟨_, rfl, k0⟩ rfl rfl (by decide +kernel) (by decide +kernel) ?_
      refine mThr_ok (k := 2) (by omega) k0 hq (zcn_I _) (fun hb => ?_) (fun hb => ?_)
      · refine zW.gbt [] rfl rfl rfl (by omega) trivial (by simp (disch := omega) only [eq_self, not_true_eq_false, not_false_eq_true, upI_same, upL_same, upI_ne, upL_ne, iI_ixN, zI_mk, zL_mk, zP_mk, zK_mk, zN_mk, zwI_up, zwL_up, zg_some, Nat.reduceMod, Nat.reduceDiv, zcn_I, iI_add, iI_sub, iI_mul, iI_neg, iI_lt, iI_le, iI_eq, iI_lt0, iI_le0, iI_gt0, iI_ge0, iI_eq0] <;> omega) ?_
        refine zW.gr [] rfl rfl rfl (by omega) trivial trivial ?_; rw [zcn_I]
        exact mP_t hQ (c := 1) (v := 0) (if_pos hb) (mf_scr h th2_scr) (mgr_o (scr_o th2_scr)) (upI_same _ _ _ _) 0
      · rw [if_neg hb] at hQ
        obtain ⟨n, rfl⟩ : ∃ n : Nat, dy = n := ⟨dy.toNat, by omega⟩
        rw [show ((n : Int)).toNat = n from rfl] at hQ
        refine zW.gbf [] rfl rfl rfl (by omega) trivial (by simp (disch := omega) only [eq_self, not_true_eq_false, not_false_eq_true, upI_same, upL_same, upI_ne, upL_ne, iI_ixN, zI_mk, zL_mk, zP_mk, zK_mk, zN_mk, zwI_up, zwL_up, zg_some, Nat.reduceMod, Nat.reduceDiv, zcn_I, iI_add, iI_sub, iI_mul, iI_neg, iI_lt, iI_le, iI_eq, iI_lt0, iI_le0, iI_gt0, iI_ge0, iI_eq0] <;> omega) ?_
        refine zW.gz [] rfl rfl rfl (by omega) (by simp (disch := omega) only [true_or, or_true, eq_self, Option.some.injEq, Prod.mk.injEq, zall_0, zall_1, zall_2, zob_iff, zar_iff, zis_iff, zkIs_some, zkHas_some, iI_vp, z01_I, z01_bz, zch_I, true_and, and_true, or_false, false_or, and_self, upI_same, upL_same, upI_ne, upL_ne, iI_ixN, zI_mk, zL_mk, zP_mk, zK_mk, zN_mk, zwI_up, zwL_up, zg_some, Nat.reduceMod, Nat.reduceDiv, zcn_I, iI_add, iI_sub, iI_mul, iI_neg, iI_lt, iI_le, iI_eq, iI_lt0, iI_le0, iI_gt0, iI_ge0, iI_eq0, k0, p24, k24] <;> omega) ⟨_, rfl, k0⟩ rfl rfl (by decide +kernel) (by decide +kernel) ?_
        simp (disch := omega) only [upI_same, upL_same, upI_ne, upL_ne, iI_ixN, zI_mk, zL_mk, zP_mk, zK_mk, zN_mk, zwI_up, zwL_up, zg_some, Nat.reduceMod, Nat.reduceDiv, zcn_I, iI_add, iI_sub, iI_mul, iI_neg, iI_lt, iI_le, iI_eq, iI_lt0, iI_le0, iI_gt0, iI_ge0, iI_eq0, p24, r5]
        refine mThr_ok (p := rCl (tRd T j) = true) (k := 3) (by omega) k0 tru_b rfl (fun hb => ?_) (fun hb => ?_)
        · refine zW.gbf [] rfl rfl rfl (by omega) trivial (by simp (disch := omega) only [eq_self, not_true_eq_false, not_false_eq_true, upI_same, upL_same, upI_ne, upL_ne, iI_ixN, zI_mk, zL_mk, zP_mk, zK_mk, zN_mk, zwI_up, zwL_up, zg_some, Nat.reduceMod, Nat.reduceDiv, zcn_I, iI_add, iI_sub, iI_mul, iI_neg, iI_lt, iI_le, iI_eq, iI_lt0, iI_le0, iI_gt0, iI_ge0, iI_eq0] <;> omega) ?_
          refine zW.gr [] rfl rfl rfl (by omega) trivial trivial ?_; rw [zcn_I]
          exact mP_t hQ (c := 2) (v := 0) (if_pos hb) (mf_scr h (scr_tr th2_scr th_scr)) (mgr_o (scr_o (scr_tr th2_scr th_scr))) (upI_same _ _ _ _) 0
        · rw [if_neg hb] at hQ
          refine zW.gbt [] rfl rfl rfl (by omega) trivial (by simp (disch := omega) only [eq_self, not_true_eq_false, not_false_eq_true, upI_same, upL_same, upI_ne, upL_ne, iI_ixN, zI_mk, zL_mk, zP_mk, zK_mk, zN_mk, zwI_up, zwL_up, zg_some, Nat.reduceMod, Nat.reduceDiv, zcn_I, iI_add, iI_sub, iI_mul, iI_neg, iI_lt, iI_le, iI_eq, iI_lt0, iI_le0, iI_gt0, iI_ge0, iI_eq0] <;> omega) ?_
          obtain ⟨J, hJ⟩ : ∃ J, upI (upI (upI I y 41 (iI 0)) y 41 (iI 0)) y 41 (iI 0) = J := ⟨_, rfl⟩
          have sJ : scr y I L J L := by rw [← hJ]; exact scr_tr th2_scr th_scr
          have mJ : mf y T (J, L, R) := mf_scr h sJ
          have tJ : J y 41 = iI 0 := by rw [← hJ]; exact upI_same _ _ _ _
          rw [hJ]
          obtain ⟨-, -, -, s1, s2, s3, s4, s5, s6, s7⟩ := m_rd mJ hj
          refine zW.gz [] rfl rfl rfl (by omega) (by simp (disch := omega) only [true_or, or_true, eq_self, Option.some.injEq, Prod.mk.injEq, zall_0, zall_1, zall_2, zob_iff, zar_iff, zis_iff, zkIs_some, zkHas_some, iI_vp, z01_I, z01_bz, zch_I, true_and, and_true, or_false, false_or, and_self, upI_same, upL_same, upI_ne, upL_ne, iI_ixN, zI_mk, zL_mk, zP_mk, zK_mk, zN_mk, zwI_up, zwL_up, zg_some, Nat.reduceMod, Nat.reduceDiv, zcn_I, iI_add, iI_sub, iI_mul, iI_neg, iI_lt, iI_le, iI_eq, iI_lt0, iI_le0, iI_gt0, iI_ge0, iI_eq0, k0, p24, k24, p23, k23] <;> omega) ⟨_, rfl, k0⟩ rfl rfl (by decide +kernel) (by decide +kernel) ?_
          simp (disch := omega) only [upI_same, upL_same, upI_ne, upL_ne, iI_ixN, zI_mk, zL_mk, zP_mk, zK_mk, zN_mk, zwI_up, zwL_up, zg_some, Nat.reduceMod, Nat.reduceDiv, zcn_I, iI_add, iI_sub, iI_mul, iI_neg, iI_lt, iI_le, iI_eq, iI_lt0, iI_le0, iI_gt0, iI_ge0, iI_eq0, p24, p23, zcn_I]
          have mT : mf y (tSetR T j (wClo (tRd T j) n) n) (upI (upI (upI J (y + 1789) j (iI 1)) (y + 1788) j (iI (n : Int))) y 40 (iI (n : Int)), L, R) := by
            refine mf_setR mJ hj ⟨ho.1, ho.2.1, ho.2.2.1, by show n ≤ 999; omega, ho.2.2.2.2⟩ hz (by omega) (fun a q1 q2 => ?_) (fun k q1 q2 q3 q4 => ?_) (upI_same _ _ _ _) (fun a k q1 q2 q3 => ?_) (fun a q1 q2 q3 q4 q5 q6 q7 q8 => ?_) ⟨?_, ?_, ?_, ?_, ?_, ?_, fun c hc => ⟨?_, ?_, ?_, ?_, ?_, fun i hi => ?_⟩⟩
            · have : a ≠ y := fun e => q1 (Or.inl e)
              rw [upI_row (by omega), upI_row (by omega), upI_row (by omega)]
            · simp (disch := omega) only [upI_same, upL_same, upI_ne, upL_ne, iI_ixN, zI_mk, zL_mk, zP_mk, zK_mk, zN_mk, zwI_up, zwL_up, zg_some, Nat.reduceMod, Nat.reduceDiv, zcn_I, iI_add, iI_sub, iI_mul, iI_neg, iI_lt, iI_le, iI_eq, iI_lt0, iI_le0, iI_gt0, iI_ge0, iI_eq0]
            · rw [upI_row (by omega), upI_ne (by omega), upI_ne (by omega)]
            · rw [upI_row (by omega), upI_row (by omega), upI_row (by omega)]
            · simp (disch := omega) only [upI_same, upL_same, upI_ne, upL_ne, iI_ixN, zI_mk, zL_mk, zP_mk, zK_mk, zN_mk, zwI_up, zwL_up, zg_some, Nat.reduceMod, Nat.reduceDiv, zcn_I, iI_add, iI_sub, iI_mul, iI_neg, iI_lt, iI_le, iI_eq, iI_lt0, iI_le0, iI_gt0, iI_ge0, iI_eq0]
              exact s1
            · simp (disch := omega) only [upI_same, upL_same, upI_ne, upL_ne, iI_ixN, zI_mk, zL_mk, zP_mk, zK_mk, zN_mk, zwI_up, zwL_up, zg_some, Nat.reduceMod, Nat.reduceDiv, zcn_I, iI_add, iI_sub, iI_mul, iI_neg, iI_lt, iI_le, iI_eq, iI_lt0, iI_le0, iI_gt0, iI_ge0, iI_eq0]
              exact s2
            · simp (disch := omega) only [upI_same, upL_same, upI_ne, upL_ne, iI_ixN, zI_mk, zL_mk, zP_mk, zK_mk, zN_mk, zwI_up, zwL_up, zg_some, Nat.reduceMod, Nat.reduceDiv, zcn_I, iI_add, iI_sub, iI_mul, iI_neg, iI_lt, iI_le, iI_eq, iI_lt0, iI_le0, iI_gt0, iI_ge0, iI_eq0]
              exact s3
            · simp (disch := omega) only [upI_same, upL_same, upI_ne, upL_ne, iI_ixN, zI_mk, zL_mk, zP_mk, zK_mk, zN_mk, zwI_up, zwL_up, zg_some, Nat.reduceMod, Nat.reduceDiv, zcn_I, iI_add, iI_sub, iI_mul, iI_neg, iI_lt, iI_le, iI_eq, iI_lt0, iI_le0, iI_gt0, iI_ge0, iI_eq0]
              rfl
            · simp (disch := omega) only [upI_same, upL_same, upI_ne, upL_ne, iI_ixN, zI_mk, zL_mk, zP_mk, zK_mk, zN_mk, zwI_up, zwL_up, zg_some, Nat.reduceMod, Nat.reduceDiv, zcn_I, iI_add, iI_sub, iI_mul, iI_neg, iI_lt, iI_le, iI_eq, iI_lt0, iI_le0, iI_gt0, iI_ge0, iI_eq0]
              rfl
            · simp (disch := omega) only [upI_same, upL_same, upI_ne, upL_ne, iI_ixN, zI_mk, zL_mk, zP_mk, zK_mk, zN_mk, zwI_up, zwL_up, zg_some, Nat.reduceMod, Nat.reduceDiv, zcn_I, iI_add, iI_sub, iI_mul, iI_neg, iI_lt, iI_le, iI_eq, iI_lt0, iI_le0, iI_gt0, iI_ge0, iI_eq0]
              exact s6
            · simp (disch := omega) only [upI_same, upL_same, upI_ne, upL_ne, iI_ixN, zI_mk, zL_mk, zP_mk, zK_mk, zN_mk, zwI_up, zwL_up, zg_some, Nat.reduceMod, Nat.reduceDiv, zcn_I, iI_add, iI_sub, iI_mul, iI_neg, iI_lt, iI_le, iI_eq, iI_lt0, iI_le0, iI_gt0, iI_ge0, iI_eq0]
              exact (s7 c hc).1
            · simp (disch := omega) only [upI_same, upL_same, upI_ne, upL_ne, iI_ixN, zI_mk, zL_mk, zP_mk, zK_mk, zN_mk, zwI_up, zwL_up, zg_some, Nat.reduceMod, Nat.reduceDiv, zcn_I, iI_add, iI_sub, iI_mul, iI_neg, iI_lt, iI_le, iI_eq, iI_lt0, iI_le0, iI_gt0, iI_ge0, iI_eq0]
              exact (s7 c hc).2.1
            · simp (disch := omega) only [upI_same, upL_same, upI_ne, upL_ne, iI_ixN, zI_mk, zL_mk, zP_mk, zK_mk, zN_mk, zwI_up, zwL_up, zg_some, Nat.reduceMod, Nat.reduceDiv, zcn_I, iI_add, iI_sub, iI_mul, iI_neg, iI_lt, iI_le, iI_eq, iI_lt0, iI_le0, iI_gt0, iI_ge0, iI_eq0]
              exact (s7 c hc).2.2.1
            · simp (disch := omega) only [upI_same, upL_same, upI_ne, upL_ne, iI_ixN, zI_mk, zL_mk, zP_mk, zK_mk, zN_mk, zwI_up, zwL_up, zg_some, Nat.reduceMod, Nat.reduceDiv, zcn_I, iI_add, iI_sub, iI_mul, iI_neg, iI_lt, iI_le, iI_eq, iI_lt0, iI_le0, iI_gt0, iI_ge0, iI_eq0]
              exact (s7 c hc).2.2.2.1
            · simp (disch := omega) only [upI_same, upL_same, upI_ne, upL_ne, iI_ixN, zI_mk, zL_mk, zP_mk, zK_mk, zN_mk, zwI_up, zwL_up, zg_some, Nat.reduceMod, Nat.reduceDiv, zcn_I, iI_add, iI_sub, iI_mul, iI_neg, iI_lt, iI_le, iI_eq, iI_lt0, iI_le0, iI_gt0, iI_ge0, iI_eq0]
              exact (s7 c hc).2.2.2.2.1
            · simp (disch := omega) only [upI_same, upL_same, upI_ne, upL_ne, iI_ixN, zI_mk, zL_mk, zP_mk, zK_mk, zN_mk, zwI_up, zwL_up, zg_some, Nat.reduceMod, Nat.reduceDiv, zcn_I, iI_add, iI_sub, iI_mul, iI_neg, iI_lt, iI_le, iI_eq, iI_lt0, iI_le0, iI_gt0, iI_ge0, iI_eq0]
              exact (s7 c hc).2.2.2.2.2 i hi
          refine mHav_ok (by omega) mT hj rfl ?_
          refine zW.gr [] rfl rfl rfl (by omega) trivial trivial ?_
          have en : nSta (tRd (tSetR T j (wClo (tRd T j) n) n) j) = nSta (tRd T j) := by
            show nSta (if j = j then wClo (tRd T j) n else tRd T j) = _
            rw [if_pos rfl]
            rfl
          rw [en]
          refine mP_0 hQ rfl mT (mgr_tr (mgr_o (scr_o sJ)) (mgr_o (fun a q => ?_))) ?_
          · exact ⟨by rw [upI_row (by omega), upI_row (by omega), upI_row (by omega)], rfl⟩
          · show _ = iI 0
            simp (disch := omega) only [upI_same, upL_same, upI_ne, upL_ne, iI_ixN, zI_mk, zL_mk, zP_mk, zK_mk, zN_mk, zwI_up, zwL_up, zg_some, Nat.reduceMod, Nat.reduceDiv, zcn_I, iI_add, iI_sub, iI_mul, iI_neg, iI_lt, iI_le, iI_eq, iI_lt0, iI_le0, iI_gt0, iI_ge0, iI_eq0]
            exact tJ
    rcases hq0 with ⟨g, rfl⟩ | ⟨g, rfl⟩
    · refine zW.gbf [] rfl rfl rfl (by omega) trivial (by simp (disch := omega) only [eq_self, not_true_eq_false, not_false_eq_true, upI_same, upL_same, upI_ne, upL_ne, iI_ixN, zI_mk, zL_mk, zP_mk, zK_mk, zN_mk, zwI_up, zwL_up, zg_some, Nat.reduceMod, Nat.reduceDiv, zcn_I, iI_add, iI_sub, iI_mul, iI_neg, iI_lt, iI_le, iI_eq, iI_lt0, iI_le0, iI_gt0, iI_ge0, iI_eq0] <;> omega) ?_
      refine zW.gb [] rfl rfl rfl (by omega) (by simp (disch := omega) only [true_or, or_true, eq_self, Option.some.injEq, Prod.mk.injEq, zall_0, zall_1, zall_2, zob_iff, zar_iff, zis_iff, zkIs_some, zkHas_some, iI_vp, z01_I, z01_bz, zch_I, true_and, and_true, or_false, false_or, and_self, upI_same, upL_same, upI_ne, upL_ne, iI_ixN, zI_mk, zL_mk, zP_mk, zK_mk, zN_mk, zwI_up, zwL_up, zg_some, Nat.reduceMod, Nat.reduceDiv, zcn_I, iI_add, iI_sub, iI_mul, iI_neg, iI_lt, iI_le, iI_eq, iI_lt0, iI_le0, iI_gt0, iI_ge0, iI_eq0, k0] <;> omega) (fun h' => ?_) (fun h' => ?_) <;> simp (disch := omega) only [zcn_I, iI_add, iI_sub, iI_mul, iI_neg, iI_lt, iI_le, iI_eq, iI_lt0, iI_le0, iI_gt0, iI_ge0, iI_eq0, upI_same, upL_same, upI_ne, upL_ne, iI_ixN, zI_mk, zL_mk, zP_mk, zK_mk, zN_mk, zwI_up, zwL_up, zg_some, Nat.reduceMod, Nat.reduceDiv, d40] at h'
      · exact zW.go [38] rfl (by omega) trivial (F _ (tru_f (by omega)))
      · exact zW.go [38] rfl (by omega) trivial (F _ (tru_t (by omega)))
    · refine zW.gbt [] rfl rfl rfl (by omega) trivial (by simp (disch := omega) only [eq_self, not_true_eq_false, not_false_eq_true, upI_same, upL_same, upI_ne, upL_ne, iI_ixN, zI_mk, zL_mk, zP_mk, zK_mk, zN_mk, zwI_up, zwL_up, zg_some, Nat.reduceMod, Nat.reduceDiv, zcn_I, iI_add, iI_sub, iI_mul, iI_neg, iI_lt, iI_le, iI_eq, iI_lt0, iI_le0, iI_gt0, iI_ge0, iI_eq0] <;> omega) ?_
      exact zW.go [38] rfl (by omega) trivial (F _ (tru_t (by omega)))
end MCLO
