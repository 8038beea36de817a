/-! The model's rounds: fewest moves. -/
theorem mHas_fr {y : Nat} {I I' : Nat → Nat → Int32} {T : tfT} (hT : tOK T) (h : mHas y I T) (hI : ∀ a, y ≤ a → a < y + 1941 → I' a = I a) : mHas y I' T := by
  obtain ⟨⟨a1, a2⟩, ⟨b1, b2, b3⟩, ⟨c1, c2⟩, ⟨d1, d2⟩, ⟨e1, e2, e3⟩, g, l⟩ := h
  have hp4 := hT.2.1.1
  have hr8 := hT.2.2.2.2.1.1
  have hy := hI y (by omega) (by omega)
  refine ⟨⟨(congrFun hy _).trans a1, ?_⟩, ⟨(congrFun hy _).trans b1, fun i hi => mPz_cg (b2 i hi) (hT.2.1.2 i hi).2.2.1 ?_ ?_ (fun a ha => ?_) ?_ ?_, fun i q1 q2 => ?_⟩, ⟨(congrFun hy _).trans c1, ?_⟩, ⟨(congrFun hy _).trans d1, fun c hc => ?_⟩, ⟨(congrFun hy _).trans e1, fun j hj => mRd_cg (by omega) (e2 j hj) (fun a q1 q2 => hI a (by omega) (by omega)), fun j q1 q2 => mR0_cg q2 (e3 j q1 q2) (fun a q1 q2 => hI a (by omega) (by omega))⟩, (congrFun hy _).trans g, mLd_cg l (congrFun hy _) (fun a q1 q2 => hI a (by omega) (by omega))⟩
  · rw [hI _ (by omega) (by omega)]
    exact a2
  · rw [hI _ (by omega) (by omega)]
  · rw [hI _ (by omega) (by omega)]
  · exact hI _ (by omega) (by omega)
  · exact hI _ (by omega) (by omega)
  · exact hI _ (by omega) (by omega)
  · rw [hI _ (by omega) (by omega)]
    exact b3 i q1 q2
  · rw [hI _ (by omega) (by omega)]
    exact c2
  · rw [hI _ (by omega) (by omega)]
    exact d2 c hc
theorem mf_fr {y : Nat} {T : tfT} {M M' : zM} (h : mf y T M) (f : ∀ a, y ≤ a → a < y + 1941 → M'.1 a = M.1 a ∧ M'.2.1 a = M.2.1 a ∧ M'.2.2.1 a = M.2.2.1 a ∧ M'.2.2.2.1 a = M.2.2.2.1 a) (n : M.2.2.2.2 ≤ M'.2.2.2.2) : mf y T M' :=
  ⟨h.1, ML_cg (fun b q1 q2 => ⟨(f b q1 q2).2.2.2, (f b q1 q2).2.2.1⟩) h.2.1, Nat.le_trans h.2.2.1 n, mHas_fr h.1 h.2.2.2 (fun a q1 q2 => (f a q1 q2).1)⟩
theorem tSaf_id {T : tfT} {i : Nat} {l : List Nat} : tSetP (tSaf T i l) i (tPz T i) = T := by
  unfold tSaf
  rw [tSetP_2, tSetP_id]
section MMOV
variable {d y : Nat} {T : tfT} {I : Nat → Nat → Int32} {L : Nat → Nat → Int64} {R : zRt} {Q : zO → zM → Prop}
theorem mv_fin {i j k n v c s : Nat} {l : List Nat} {q4 : Int32} {x6 : Option zV} (hd : 3 ≤ d) (h : mf y (tSaf T i l) (I, L, R)) (hT : tOK T) (hi : i < tPn T) (hj : j < tRn T) (hk : k < tCn T) (u : rMa (tRd T j) k < mxA (rFm (tRd T j))) (hn : y + 1941 ≤ n) (kn : R.2.1 n = some (20, 10)) (vn : ∀ p, p < 10 → I n p = iI (pzS (tPz T i) p : Int)) (hv : v ≤ 120) (hcc : c ≤ 1) (hss : s ≤ 10)
    (hQ : ∀ I', mf y (tSetR T j (wTell (tRd T j) k v) (tDy T)) (I', L, R) → mfo y I L I' L → I' y 41 = I y 41 → Q (.inl (some (zi (iI (v : Int))))) (I', L, R)) : zW 231 d c s 165 [some (zr (some y)), some (zi (iI (j : Int))), some (zi (iI (k : Int))), some (zi (iI (i : Int))), some (zi q4), some (zr (some n)), x6] [zi (iI (v : Int))] (I, L, R) Q := by
  have hM := h.2.1
  have k0 : R.2.1 y = some (7, 0) := hM.1
  have h4 : i < 4 := by have := hT.2.1.1; omega
  have h12 := hT.2.2.2.1.1
  have h8 := hT.2.2.2.2.1.1
  have hz := hT.2.1.2 i hi
  have ho := (hT.2.2.2.2.1.2 j hj).1
  have hmx := mxA_le (rFm (tRd T j))
  have p5 : R.1 y 5 = some (y + 46) := (hM.2.1 5 (by decide)).1; have k5 : R.2.1 (y + 46) = some (25, 4) := (hM.2.1 5 (by decide)).2; have q5 : R.1 (y + 46) (i) = some (y + 47 + i) := (hM.2.2.2.2.1 (i) (by omega)).1.trans (congrArg some (by omega)); have j5 : R.2.1 (y + 47 + i) = some (20, 10) := (congrArg R.2.1 (by omega)).trans (hM.2.2.2.2.1 (i) (by omega)).2
  have l1 : zlenOf (I, L, R) (some n) = 10 := zlenOf_some kn
  have l2 : zlenOf (I, L, R) (some (y + 47 + i)) = 10 := zlenOf_some j5
  have c10 : (zcn 10).toNatClampNeg = 10 := by decide +kernel
  refine zW.gz [] rfl rfl rfl (by omega) ?_ ⟨_, rfl, k0⟩ rfl rfl hcc hss ?_
  · simp (disch := omega) only [true_or, or_true, eq_self, Option.some.injEq, Prod.mk.injEq, zall_0, zall_1, zall_2, zob_iff, zar_iff, zis_iff, zkIs_some, zkHas_some, iI_vp, z01_I, z01_bz, zch_I, true_and, and_true, or_false, false_or, and_self, upI_same, upL_same, upI_ne, upL_ne, iI_ixN, zI_mk, zL_mk, zP_mk, zK_mk, zN_mk, zwI_up, zwL_up, zg_some, Nat.reduceMod, Nat.reduceDiv, k0, p5, k5, q5, j5, kn, l1, l2, zkHas_some, c0i, c0n, c10]
    exact ⟨by decide +kernel, Or.inl ⟨by omega, by omega⟩⟩
  simp (disch := omega) only [upI_same, upL_same, upI_ne, upL_ne, iI_ixN, zI_mk, zL_mk, zP_mk, zK_mk, zN_mk, zwI_up, zwL_up, zg_some, Nat.reduceMod, Nat.reduceDiv, zcopy_up, p5, q5, c0n, c10]
  have m0 : mf y T (cpI I n 0 (y + 47 + i) 0 10, L, R) := by
    have hw : mf y (tSetP (tSaf T i l) i (tPz T i)) (cpI I n 0 (y + 47 + i) 0 10, L, R) := by
      obtain ⟨-, -, w1, w2, w3, w4, w5⟩ := m_pz h hi
      have eT : tPz (tSaf T i l) i = pzSt (tPz T i) (saf (pzT (tPz T i)) (pzS (tPz T i)) l) := tSaf_z T i l
      rw [eT] at w4
      refine mf_pz (L' := L) h hi hz (by rw [eT]; rfl) (by rw [eT]; rfl) (by rw [eT]; rfl) (fun a q1 q2 q3 => cpI_row q3) (fun k q1 q2 q3 => by rw [cpI_row (by omega)]) (fun p hp => ?_) (fun p hp => ?_)
      · rw [cpI_row (by omega)]
        exact w4 p hp
      · rw [cpI_in hp]
        exact vn p hp
    rw [tSaf_id] at hw
    exact hw
  refine makes_ok (m := rMa (tRd T j) k) (by omega) hM (by omega) (by omega) rfl rfl rfl ((m_rd m0 hj).2.2.2.2.2.2.2.2.2 k (by omega)).1 (by omega) ?_
  have hkk : rOK (wTell (wRows (tRd T j) (rSp (tRd T j)) (rOv (tRd T j)) (rTi (tRd T j)) (rUn (tRd T j))) k v) := by
    refine rOK_tell ho.1 ho.2.1 ho.2.2.1 ho.2.2.2.1 u (by omega) (fun m hm' => ?_)
    obtain ⟨y1, y2, y3, y4, y5, y6⟩ := ho.2.2.2.2 m hm'
    refine ⟨y1, y2, ?_, y4, y5, y6⟩
    show rSp (tRd T j) m ≤ (if m = k then rMa (tRd T j) k + 1 else rMa (tRd T j) m) * 60399
    by_cases q : m = k
    · rw [if_pos q]
      subst q
      exact Nat.le_trans y3 (Nat.mul_le_mul_right _ (Nat.le_succ _))
    · rw [if_neg q]
      exact y3
  obtain ⟨m1, m2, m3⟩ := mf_tell (J := cpI I n 0 (y + 47 + i) 0 10) m0 hj hk hkk (fun a q1 q2 q3 q4 => rfl) (fun p hp => by
    obtain ⟨z1, z2, z3, z4, z5, z6⟩ := (m_rd m0 hj).2.2.2.2.2.2.2.2.2 p hp
    exact ⟨z2, z3, z4, z5⟩)
  refine zW.gr [] rfl rfl rfl (by omega) trivial trivial ?_
  refine hQ _ m1 (mfo_tr (mfo_of fun a q => cpI_row (by omega)) m2) (m3.trans ?_)
  rw [cpI_row (by omega)]
theorem mv_lp {i j k n c s : Nat} {l : List Nat} (hd : 3 ≤ d) (hi : i < tPn T) (ht : ∀ t, t ∈ l → t / 2 < pzR (tPz T i)) (hl120 : l.length ≤ 120) {I0 : Nat → Nat → Int32} (hcc : c ≤ 1) (hss : s ≤ 10)
    (hQ : ∀ I' x, mf y (tSaf T i l) (I', L, R) → mfo y I0 L I' L → I' y = I0 y → spR y I' l → zW 231 d c s 136 [some (zr (some y)), some (zi (iI (j : Int))), some (zi (iI (k : Int))), some (zi (iI (i : Int))), some (zi (iI 1)), some (zr (some n)), some (zi x)] [] (I', L, R) Q) :
    ∀ m t, t + m = l.length → ∀ (I1 : Nat → Nat → Int32) (x : Int32), mf y (tSaf T i (l.take t)) (I1, L, R) → mfo y I0 L I1 L → I1 y = I0 y → spR y I1 l → x = iI (t : Int) → zW 231 d c s 104 [some (zr (some y)), some (zi (iI (j : Int))), some (zi (iI (k : Int))), some (zi (iI (i : Int))), some (zi (iI 1)), some (zr (some n)), some (zi x)] [] (I1, L, R) Q
  | 0, t, htk, I1, x, f1, f2, f3, f4, e => by
    subst e
    have k0 : R.2.1 y = some (7, 0) := f1.2.1.1
    have f41 := f4.1
    obtain rfl : t = l.length := by omega
    rw [List.take_length] at f1
    exact zW.gbt [] rfl rfl rfl (by omega) (by simp (disch := omega) only [true_or, or_true, eq_self, Option.some.injEq, Prod.mk.injEq, zall_0, zall_1, zall_2, zob_iff, zar_iff, zis_iff, zkIs_some, zkHas_some, iI_vp, z01_I, z01_bz, zch_I, true_and, and_true, or_false, false_or, and_self, upI_same, upL_same, upI_ne, upL_ne, iI_ixN, zI_mk, zL_mk, zP_mk, zK_mk, zN_mk, zwI_up, zwL_up, zg_some, Nat.reduceMod, Nat.reduceDiv, zcn_I, iI_add, iI_sub, iI_mul, iI_neg, iI_lt, iI_le, iI_eq, iI_lt0, iI_le0, iI_gt0, iI_ge0, iI_eq0, k0] <;> omega) (by simp (disch := omega) only [eq_self, not_true_eq_false, not_false_eq_true, upI_same, upL_same, upI_ne, upL_ne, iI_ixN, zI_mk, zL_mk, zP_mk, zK_mk, zN_mk, zwI_up, zwL_up, zg_some, Nat.reduceMod, Nat.reduceDiv, zcn_I, iI_add, iI_sub, iI_mul, iI_neg, iI_lt, iI_le, iI_eq, iI_lt0, iI_le0, iI_gt0, iI_ge0, iI_eq0, f41] <;> omega) (hQ I1 _ f1 f2 f3 f4)
  | m + 1, t, htk, I1, x, f1, f2, f3, f4, e => by
    subst e
    have hM := f1.2.1
    have k0 : R.2.1 y = some (7, 0) := hM.1
    have f41 := f4.1
    have v1 := f4.2 t (by omega)
    have t1 := ht _ (nth_mem (l := l) (i := t) (by omega))
    have h4 : i < 4 := (m_pz f1 hi).1
    have p18 : R.1 y 18 = some (y + 1783) := (hM.2.1 18 (by decide)).1; have k18 : R.2.1 (y + 1783) = some (20, 120) := (hM.2.1 18 (by decide)).2
    refine zW.gbf [] rfl rfl rfl (by omega) (by simp (disch := omega) only [true_or, or_true, eq_self, Option.some.injEq, Prod.mk.injEq, zall_0, zall_1, zall_2, zob_iff, zar_iff, zis_iff, zkIs_some, zkHas_some, iI_vp, z01_I, z01_bz, zch_I, true_and, and_true, or_false, false_or, and_self, upI_same, upL_same, upI_ne, upL_ne, iI_ixN, zI_mk, zL_mk, zP_mk, zK_mk, zN_mk, zwI_up, zwL_up, zg_some, Nat.reduceMod, Nat.reduceDiv, zcn_I, iI_add, iI_sub, iI_mul, iI_neg, iI_lt, iI_le, iI_eq, iI_lt0, iI_le0, iI_gt0, iI_ge0, iI_eq0, k0] <;> omega) (by simp (disch := omega) only [eq_self, not_true_eq_false, not_false_eq_true, upI_same, upL_same, upI_ne, upL_ne, iI_ixN, zI_mk, zL_mk, zP_mk, zK_mk, zN_mk, zwI_up, zwL_up, zg_some, Nat.reduceMod, Nat.reduceDiv, zcn_I, iI_add, iI_sub, iI_mul, iI_neg, iI_lt, iI_le, iI_eq, iI_lt0, iI_le0, iI_gt0, iI_ge0, iI_eq0, f41] <;> omega) ?_
    refine zW.gbf [] rfl rfl rfl (by omega) trivial (by simp (disch := omega) only [eq_self, not_true_eq_false, not_false_eq_true, upI_same, upL_same, upI_ne, upL_ne, iI_ixN, zI_mk, zL_mk, zP_mk, zK_mk, zN_mk, zwI_up, zwL_up, zg_some, Nat.reduceMod, Nat.reduceDiv, zcn_I, iI_add, iI_sub, iI_mul, iI_neg, iI_lt, iI_le, iI_eq, iI_lt0, iI_le0, iI_gt0, iI_ge0, iI_eq0] <;> omega) ?_
    refine zW.gz [] rfl rfl rfl (by omega) (by simp (disch := omega) only [true_or, or_true, eq_self, Option.some.injEq, Prod.mk.injEq, zall_0, zall_1, zall_2, zob_iff, zar_iff, zis_iff, zkIs_some, zkHas_some, iI_vp, z01_I, z01_bz, zch_I, true_and, and_true, or_false, false_or, and_self, upI_same, upL_same, upI_ne, upL_ne, iI_ixN, zI_mk, zL_mk, zP_mk, zK_mk, zN_mk, zwI_up, zwL_up, zg_some, Nat.reduceMod, Nat.reduceDiv, zcn_I, iI_add, iI_sub, iI_mul, iI_neg, iI_lt, iI_le, iI_eq, iI_lt0, iI_le0, iI_gt0, iI_ge0, iI_eq0, k0, p18, k18] <;> omega) ⟨_, rfl, k0⟩ rfl rfl hcc hss ?_
    simp (disch := omega) only [upI_same, upL_same, upI_ne, upL_ne, iI_ixN, zI_mk, zL_mk, zP_mk, zK_mk, zN_mk, zwI_up, zwL_up, zg_some, Nat.reduceMod, Nat.reduceDiv, zcn_I, iI_add, iI_sub, iI_mul, iI_neg, iI_lt, iI_le, iI_eq, iI_lt0, iI_le0, iI_gt0, iI_ge0, iI_eq0, p18, v1]
    refine turned_ok (a := nth l t) (by omega) f1 hi (by rw [tSaf_z]; show nth l t < 2 * pzR (tPz T i); omega) rfl rfl (fun I2 g1 g2 g3 g4 => ?_)
    rw [tSaf_s, ← take_snoc (by omega)] at g1
    refine zW.go [104] rfl (by omega) trivial ?_
    exact mv_lp hd hi ht hl120 hcc hss hQ m (t + 1) (by omega) I2 _ g1 (mfo_tr f2 g2) (g3.trans f3) ⟨by rw [g3]; exact f41, by rw [g4 _ (by omega) (by omega)]; exact f4.2⟩ (by rw [zcn_I, iI_add]; rfl)
theorem mMov_ok {r c p : Int} {a b f1 : Int32} (hd : 80 ≤ d) (h : mf y T (I, L, R)) (e1 : a = iI r) (e2 : b = iI c) (e3 : f1 = iI p) (h1 : i32 r) (h2 : i32 c) (h3 : i32 p) (hQ : mP y (I, L, R) (oMov T r c p) eI Q) : zS 231 d [zr (some y), zi a, zi b, zi f1] (I, L, R) Q := by
  subst e1; subst e2; subst e3
  have hM := h.2.1
  have k0 : R.2.1 y = some (7, 0) := hM.1
  have F : ∀ q, tru ((noR T r ∨ ¬ (0 ≤ c ∧ c < tCn T)) ∨ noP T p) q → zW 231 d 0 0 23 [some (zr (some y)), some (zi (iI r)), some (zi (iI c)), some (zi (iI p)), none, none, none] [zi q, zr (some y)] (I, L, R) Q := fun q hq => by
    refine zW.gz [] rfl rfl rfl (by omega) trivial ⟨_, rfl, k0⟩ rfl rfl (by decide +kernel) (by decide +kernel) ?_
    refine mThr_ok (k := 1) (by omega) k0 hq (zcn_I _) (fun hb => ?_) (fun hg => ?_)
    · refine zW.gbt [] rfl rfl rfl (by omega) trivial (by simp (disch := omega) only [eq_self, not_true_eq_false, not_false_eq_true, upI_same, upL_same, upI_ne, upL_ne, iI_ixN, zI_mk, zL_mk, zP_mk, zK_mk, zN_mk, zwI_up, zwL_up, zg_some, Nat.reduceMod, Nat.reduceDiv, zcn_I, iI_add, iI_sub, iI_mul, iI_neg, iI_lt, iI_le, iI_eq, iI_lt0, iI_le0, iI_gt0, iI_ge0, iI_eq0] <;> omega) ?_
      refine zW.gr [] rfl rfl rfl (by omega) trivial trivial ?_; rw [zcn_I]
      refine mP_t hQ (c := 0) (v := 0) ?_ (mf_scr h th_scr) (mgr_o (scr_o th_scr)) (upI_same _ _ _ _) 0
      by_cases hn : noR T r ∨ ¬ (0 ≤ c ∧ c < tCn T)
      · exact onC_no hn
      · obtain ⟨j, k, rfl, rfl, hj, hk, e⟩ := onC_yes hn
        unfold oMov
        rw [e]
        exact if_pos (hb.resolve_left hn)
    · have hn : ¬ (noR T r ∨ ¬ (0 ≤ c ∧ c < tCn T)) := fun q => hg (Or.inl q)
      have hnp : ¬ noP T p := fun q => hg (Or.inr q)
      obtain ⟨j, k, rfl, rfl, hj, hk, e⟩ := onC_yes hn
      obtain ⟨i, rfl, hi, -⟩ := onP_yes (f := fun i => (0, 0, T)) hnp
      unfold oMov at hQ
      rw [e, if_neg hnp] at hQ
      obtain ⟨j8, ho, hz, r1, r2, r3, r4, r5, r6, r7⟩ := m_rd h hj
      have h12 := h.1.2.2.2.1.1
      have h4 : i < 4 := (m_pz h hi).1
      have hfm := fm_lt ho
      have p20 : R.1 y 20 = some (y + 1785) := (hM.2.1 20 (by decide)).1; have k20 : R.2.1 (y + 1785) = some (23, 8) := (hM.2.1 20 (by decide)).2
      refine zW.gbf [] rfl rfl rfl (by omega) trivial (by simp (disch := omega) only [eq_self, not_true_eq_false, not_false_eq_true, upI_same, upL_same, upI_ne, upL_ne, iI_ixN, zI_mk, zL_mk, zP_mk, zK_mk, zN_mk, zwI_up, zwL_up, zg_some, Nat.reduceMod, Nat.reduceDiv, zcn_I, iI_add, iI_sub, iI_mul, iI_neg, iI_lt, iI_le, iI_eq, iI_lt0, iI_le0, iI_gt0, iI_ge0, iI_eq0] <;> omega) ?_
      have G : ∀ q, tru (¬ (rFm (tRd T j) = 102 ∧ opn (tRd T j) k)) q → zW 231 d 0 0 56 [some (zr (some y)), some (zi (iI (j : Int))), some (zi (iI (k : Int))), some (zi (iI (i : Int))), none, none, none] [zi q, zr (some y)] (upI I y 41 (iI 0), L, R) Q := fun q hq => by
        refine zW.gz [] rfl rfl rfl (by omega) trivial ⟨_, rfl, k0⟩ rfl rfl (by decide +kernel) (by decide +kernel) ?_
        refine mThr_ok (k := 2) (by omega) k0 hq (zcn_I _) (fun hb => ?_) (fun hb => ?_)
        · refine zW.gbf [] rfl rfl rfl (by omega) trivial (by simp (disch := omega) only [eq_self, not_true_eq_false, not_false_eq_true, upI_same, upL_same, upI_ne, upL_ne, iI_ixN, zI_mk, zL_mk, zP_mk, zK_mk, zN_mk, zwI_up, zwL_up, zg_some, Nat.reduceMod, Nat.reduceDiv, zcn_I, iI_add, iI_sub, iI_mul, iI_neg, iI_lt, iI_le, iI_eq, iI_lt0, iI_le0, iI_gt0, iI_ge0, iI_eq0] <;> omega) ?_
          refine zW.gr [] rfl rfl rfl (by omega) trivial trivial ?_; rw [zcn_I]
          exact mP_t hQ (c := 1) (v := 0) (if_neg (fun q => hb (dc_t.mp q))) (mf_scr h th2_scr) (mgr_o (scr_o th2_scr)) (upI_same _ _ _ _) 0
        · have hb := Classical.byContradiction hb
          obtain ⟨u1, u2, u3⟩ := hb
          rw [if_pos (dc_t.mpr ⟨u1, u2, u3⟩)] at hQ
          rw [show ((i : Int)).toNat = i from rfl] at hQ
          refine zW.gbt [] rfl rfl rfl (by omega) trivial (by simp (disch := omega) only [eq_self, not_true_eq_false, not_false_eq_true, upI_same, upL_same, upI_ne, upL_ne, iI_ixN, zI_mk, zL_mk, zP_mk, zK_mk, zN_mk, zwI_up, zwL_up, zg_some, Nat.reduceMod, Nat.reduceDiv, zcn_I, iI_add, iI_sub, iI_mul, iI_neg, iI_lt, iI_le, iI_eq, iI_lt0, iI_le0, iI_gt0, iI_ge0, iI_eq0] <;> omega) ?_
          have hm2 : mf y T (upI (upI I y 41 (iI 0)) y 41 (iI 0), L, R) := mf_scr h th2_scr
          -- the state copied
          have C : ∀ (o : Option (List Nat)) (q : Int32) (I' : Nat → Nat → Int32), spell (tSg T) = o → tru (∃ l, o = some l ∧ ∀ t, t ∈ l → t / 2 < pzR (tPz T i)) q → pfr y (upI (upI I y 41 (iI 0)) y 41 (iI 0)) I' → (∀ l, o = some l → spR y I' l) → zW 231 d 0 0 85 [some (zr (some y)), some (zi (iI (j : Int))), some (zi (iI (k : Int))), some (zi (iI (i : Int))), none, none, none] [zi q] (I', L, R) Q := fun o q I' hso hq f s => by
            have sI : scr y I L I' L := scr_tr th2_scr (pfr_scr f)
            have mI : mf y T (I', L, R) := mf_scr h sI
            have tI : I' y 41 = iI 0 := (f.2 41 (by decide) (by decide)).trans (upI_same _ _ _ _)
            obtain ⟨-, hz, w1, w2, w3, w4, w5⟩ := m_pz mI hi
            have hN := h.2.2.1
            have hN : y + 1941 ≤ R.2.2 := hN
            have p5 : R.1 y 5 = some (y + 46) := (hM.2.1 5 (by decide)).1; have k5 : R.2.1 (y + 46) = some (25, 4) := (hM.2.1 5 (by decide)).2; have q5 : R.1 (y + 46) (i) = some (y + 47 + i) := (hM.2.2.2.2.1 (i) (by omega)).1.trans (congrArg some (by omega)); have j5 : R.2.1 (y + 47 + i) = some (20, 10) := (congrArg R.2.1 (by omega)).trans (hM.2.2.2.2.1 (i) (by omega)).2
            have l2 : zlenOf (I', L, R) (some (y + 47 + i)) = 10 := zlenOf_some j5
            refine zW.gm [] rfl rfl rfl (by omega) ?_ ?_ (by decide +kernel) ?_ (fun _ => ?_)
            · exact (by simp (disch := omega) only [true_or, or_true, eq_self, Option.some.injEq, Prod.mk.injEq, zall_0, zall_1, zall_2, zob_iff, zar_iff, zis_iff, zkIs_some, zkHas_some, iI_vp, z01_I, z01_bz, zch_I, true_and, and_true, or_false, false_or, and_self, upI_same, upL_same, upI_ne, upL_ne, iI_ixN, zI_mk, zL_mk, zP_mk, zK_mk, zN_mk, zwI_up, zwL_up, zg_some, Nat.reduceMod, Nat.reduceDiv, zcn_I, iI_add, iI_sub, iI_mul, iI_neg, iI_lt, iI_le, iI_eq, iI_lt0, iI_le0, iI_gt0, iI_ge0, iI_eq0, k0, p5, k5] <;> omega)
            · simp (disch := omega) only [true_or, or_true, eq_self, Option.some.injEq, Prod.mk.injEq, zall_0, zall_1, zall_2, zob_iff, zar_iff, zis_iff, zkIs_some, zkHas_some, iI_vp, z01_I, z01_bz, zch_I, true_and, and_true, or_false, false_or, and_self, upI_same, upL_same, upI_ne, upL_ne, iI_ixN, zI_mk, zL_mk, zP_mk, zK_mk, zN_mk, zwI_up, zwL_up, zg_some, Nat.reduceMod, Nat.reduceDiv, p5, q5, j5]
            · simp (disch := omega) only [upI_same, upL_same, upI_ne, upL_ne, iI_ixN, zI_mk, zL_mk, zP_mk, zK_mk, zN_mk, zwI_up, zwL_up, zg_some, Nat.reduceMod, Nat.reduceDiv, p5, q5, l2]
              decide +kernel
            simp (disch := omega) only [upI_same, upL_same, upI_ne, upL_ne, iI_ixN, zI_mk, zL_mk, zP_mk, zK_mk, zN_mk, zwI_up, zwL_up, zg_some, Nat.reduceMod, Nat.reduceDiv, znew_up, zcopy_up, p5, q5, l2]
            obtain ⟨n, hn⟩ : ∃ n, R.2.2 = n := ⟨_, rfl⟩
            rw [hn] at hN
            rw [hn]
            have r2 : ∀ a, a < n → (nwR R n 20 10).2.1 a = R.2.1 a := fun a q => nwR_Ko (by omega)
            have m0 : mf y T (cpI I' (y + 47 + i) 0 n 0 10, L, nwR R n 20 10) := mf_fr mI (fun a q1 q2 => ⟨cpI_row (by omega), rfl, rfl, r2 a (by omega)⟩) (by show R.2.2 ≤ n + 1; omega)
            have k0' : (nwR R n 20 10).2.1 y = some (7, 0) := (r2 y (by omega)).trans k0
            have vn : ∀ p, p < 10 → cpI I' (y + 47 + i) 0 n 0 10 n p = iI (pzS (tPz T i) p : Int) := fun p hp => (cpI_in hp).trans (w5 p hp)
            have c231 : zmc 231 = 1 := by decide +kernel
            have s231 : zms 231 = 10 := by decide +kernel
            have kn : (nwR R n 20 10).2.1 n = some (20, 10) := nwR_Ks rfl
            refine zW.go [104] rfl (by omega) (by simp (disch := omega) only [true_or, or_true, eq_self, Option.some.injEq, Prod.mk.injEq, zall_0, zall_1, zall_2, zob_iff, zar_iff, zis_iff, zkIs_some, zkHas_some, iI_vp, z01_I, z01_bz, zch_I, true_and, and_true, or_false, false_or, and_self, upI_same, upL_same, upI_ne, upL_ne, iI_ixN, zI_mk, zL_mk, zP_mk, zK_mk, zN_mk, zwI_up, zwL_up, zg_some, Nat.reduceMod, Nat.reduceDiv, kn]) ?_
            have FIN : ∀ (v : Nat) (I2 : Nat → Nat → Int32) (l : List Nat) (q4 : Int32) (x6 : Option zV), mf y (tSaf T i l) (I2, L, nwR R n 20 10) → mfo y (cpI I' (y + 47 + i) 0 n 0 10) L I2 L → I2 y 41 = iI 0 → v = mvN T i → zW 231 d (0 + 1) (0 + 10) 165 [some (zr (some y)), some (zi (iI (j : Int))), some (zi (iI (k : Int))), some (zi (iI (i : Int))), some (zi q4), some (zr (some n)), x6] [zi (iI (v : Int))] (I2, L, nwR R n 20 10) Q := fun v I2 l q4 x6 m1 f2 t2 hv => by
              have hv120 := mvN_le T i
              subst hv
              refine mv_fin (by omega) m1 h.1 hi hj hk u3.1 hN (nwR_Ks rfl) (fun p hp => ?_) hv120 (by omega) (by omega) (fun I3 m3 f3 t3 => ?_)
              · rw [(f2 n (by omega)).1]
                exact vn p hp
              · refine mP_0 hQ rfl m3 ⟨fun a q1 q2 => ⟨?_, rfl, rfl, r2 a (by have : a < R.2.2 := q1; omega)⟩, by show R.2.2 ≤ n + 1; omega⟩ (t3.trans t2)
                have q1 : a < R.2.2 := q1
                show I3 a = I a
                rw [(f3 a q2).1, (f2 a q2).1, cpI_row (by omega), (scr_o sI a q2).1]
            rcases hq with ⟨⟨l, hl, hr⟩, rfl⟩ | ⟨hno, rfl⟩
            · subst hl
              obtain ⟨n1, n2⟩ := spell_ok hso
              have sl := s l rfl
              refine mv_lp (l := l) (I0 := cpI I' (y + 47 + i) 0 n 0 10) (by omega) hi hr n1 (by omega) (by omega) (fun I2 x g1 g2 g3 g4 => ?_) l.length 0 (by omega) _ _ (by rw [List.take_zero, tSaf_0]; exact m0) mfo_rf rfl ⟨by rw [cpI_row (by omega)]; exact sl.1, by rw [cpI_row (by omega)]; exact sl.2⟩ (zcn_I _)
              have t2 : I2 y 41 = iI 0 := by rw [g3, cpI_row (by omega)]; exact tI
              have hM' := g1.2.1
              obtain ⟨-, hz', -, -, -, -, w5'⟩ := m_pz g1 hi
              rw [tSaf_z] at hz' w5'
              have hst : pm (pzN (tPz T i)) (saf (pzT (tPz T i)) (pzS (tPz T i)) l) := hz'.2.2.2.2.2.2.2.2
              have eT : tPz (tSaf T i l) i = pzSt (tPz T i) (saf (pzT (tPz T i)) (pzS (tPz T i)) l) := tSaf_z T i l
              have p5' : (nwR R n 20 10).1 y 5 = some (y + 46) := p5
              have k5' : (nwR R n 20 10).2.1 (y + 46) = some (25, 4) := (r2 _ (by omega)).trans k5
              have q5' : (nwR R n 20 10).1 (y + 46) i = some (y + 47 + i) := q5
              have j5' : (nwR R n 20 10).2.1 (y + 47 + i) = some (20, 10) := (r2 _ (by omega)).trans j5
              have em : mvN T i = if dc ((∀ t, t ∈ l → t / 2 < pzR (tPz T i)) ∧ solv (tPz T i) (saf (pzT (tPz T i)) (pzS (tPz T i)) l)) then ct (rn l) l.length else 0 := by
                unfold mvN
                rw [hso]
              refine zW.gbf [] rfl rfl rfl (by omega) trivial (by simp (disch := omega) only [eq_self, not_true_eq_false, not_false_eq_true, upI_same, upL_same, upI_ne, upL_ne, iI_ixN, zI_mk, zL_mk, zP_mk, zK_mk, zN_mk, zwI_up, zwL_up, zg_some, Nat.reduceMod, Nat.reduceDiv, zcn_I, iI_add, iI_sub, iI_mul, iI_neg, iI_lt, iI_le, iI_eq, iI_lt0, iI_le0, iI_gt0, iI_ge0, iI_eq0] <;> omega) ?_
              refine zW.gz [] rfl rfl rfl (by omega) (by simp (disch := omega) only [true_or, or_true, eq_self, Option.some.injEq, Prod.mk.injEq, zall_0, zall_1, zall_2, zob_iff, zar_iff, zis_iff, zkIs_some, zkHas_some, iI_vp, z01_I, z01_bz, zch_I, true_and, and_true, or_false, false_or, and_self, upI_same, upL_same, upI_ne, upL_ne, iI_ixN, zI_mk, zL_mk, zP_mk, zK_mk, zN_mk, zwI_up, zwL_up, zg_some, Nat.reduceMod, Nat.reduceDiv, zcn_I, iI_add, iI_sub, iI_mul, iI_neg, iI_lt, iI_le, iI_eq, iI_lt0, iI_le0, iI_gt0, iI_ge0, iI_eq0, k0', p5', k5'] <;> omega) ⟨_, rfl, k0'⟩ rfl rfl (by omega) (by omega) ?_
              simp (disch := omega) only [upI_same, upL_same, upI_ne, upL_ne, iI_ixN, zI_mk, zL_mk, zP_mk, zK_mk, zN_mk, zwI_up, zwL_up, zg_some, Nat.reduceMod, Nat.reduceDiv, p5', q5']
              refine solvB_ok (f := saf (pzT (tPz T i)) (pzS (tPz T i)) l) (by omega) g1 hi rfl j5' w5' (by rw [eT]; exact hst) (fun q hq => ?_)
              rw [eT] at hq
              rcases hq with ⟨g, rfl⟩ | ⟨g, rfl⟩
              · rw [if_pos (dc_t.mpr ⟨hr, g⟩)] at em
                refine zW.gbf [] rfl rfl rfl (by omega) trivial (by simp (disch := omega) only [eq_self, not_true_eq_false, not_false_eq_true, upI_same, upL_same, upI_ne, upL_ne, iI_ixN, zI_mk, zL_mk, zP_mk, zK_mk, zN_mk, zwI_up, zwL_up, zg_some, Nat.reduceMod, Nat.reduceDiv, zcn_I, iI_add, iI_sub, iI_mul, iI_neg, iI_lt, iI_le, iI_eq, iI_lt0, iI_le0, iI_gt0, iI_ge0, iI_eq0] <;> omega) ?_
                refine zW.gz [] rfl rfl rfl (by omega) trivial ⟨_, rfl, k0'⟩ rfl rfl (by omega) (by omega) ?_
                refine cntd_ok (by omega) hM' (zcn_I _) (by omega) (by omega) g4 n1 n2 ?_
                have ec : cnt1 116 l l.length = ct (rn l) l.length := if_pos rfl
                rw [ec]
                refine zW.go [165] rfl (by omega) trivial ?_
                exact FIN _ I2 l _ _ g1 g2 t2 em.symm
              · rw [if_neg (fun q => g (dc_t.mp q).2)] at em
                refine zW.gbt [] rfl rfl rfl (by omega) trivial (by simp (disch := omega) only [eq_self, not_true_eq_false, not_false_eq_true, upI_same, upL_same, upI_ne, upL_ne, iI_ixN, zI_mk, zL_mk, zP_mk, zK_mk, zN_mk, zwI_up, zwL_up, zg_some, Nat.reduceMod, Nat.reduceDiv, zcn_I, iI_add, iI_sub, iI_mul, iI_neg, iI_lt, iI_le, iI_eq, iI_lt0, iI_le0, iI_gt0, iI_ge0, iI_eq0] <;> omega) ?_
                refine zW.go [165] rfl (by omega) trivial ?_
                rw [zcn_I]
                exact FIN 0 I2 l _ _ g1 g2 t2 em.symm
            · have em : mvN T i = 0 := by
                unfold mvN
                rw [hso]
                cases o with
                | none => rfl
                | some l => exact if_neg (fun q => hno ⟨l, rfl, (dc_t.mp q).1⟩)
              have E : zW 231 d (0 + 1) (0 + 10) 136 [some (zr (some y)), some (zi (iI (j : Int))), some (zi (iI (k : Int))), some (zi (iI (i : Int))), some (zi (iI 0)), some (zr (some n)), some (zi (zcn 0))] [] (cpI I' (y + 47 + i) 0 n 0 10, L, nwR R n 20 10) Q := by
                refine zW.gbt [] rfl rfl rfl (by omega) trivial (by simp (disch := omega) only [eq_self, not_true_eq_false, not_false_eq_true, upI_same, upL_same, upI_ne, upL_ne, iI_ixN, zI_mk, zL_mk, zP_mk, zK_mk, zN_mk, zwI_up, zwL_up, zg_some, Nat.reduceMod, Nat.reduceDiv, zcn_I, iI_add, iI_sub, iI_mul, iI_neg, iI_lt, iI_le, iI_eq, iI_lt0, iI_le0, iI_gt0, iI_ge0, iI_eq0] <;> omega) ?_
                refine zW.go [165] rfl (by omega) trivial ?_
                rw [zcn_I]
                refine FIN 0 _ [] _ _ (by rw [tSaf_0]; exact m0) mfo_rf ?_ em.symm
                rw [cpI_row (by omega)]
                exact tI
              refine zW.gb [] rfl rfl rfl (by omega) (by simp (disch := omega) only [true_or, or_true, eq_self, Option.some.injEq, Prod.mk.injEq, zall_0, zall_1, zall_2, zob_iff, zar_iff, zis_iff, zkIs_some, zkHas_some, iI_vp, z01_I, z01_bz, zch_I, true_and, and_true, or_false, false_or, and_self, upI_same, upL_same, upI_ne, upL_ne, iI_ixN, zI_mk, zL_mk, zP_mk, zK_mk, zN_mk, zwI_up, zwL_up, zg_some, Nat.reduceMod, Nat.reduceDiv, zcn_I, iI_add, iI_sub, iI_mul, iI_neg, iI_lt, iI_le, iI_eq, iI_lt0, iI_le0, iI_gt0, iI_ge0, iI_eq0, k0'] <;> omega) (fun _ => E) (fun _ => ?_)
              exact zW.gbt [] rfl rfl rfl (by omega) trivial (by simp (disch := omega) only [eq_self, not_true_eq_false, not_false_eq_true, upI_same, upL_same, upI_ne, upL_ne, iI_ixN, zI_mk, zL_mk, zP_mk, zK_mk, zN_mk, zwI_up, zwL_up, zg_some, Nat.reduceMod, Nat.reduceDiv, zcn_I, iI_add, iI_sub, iI_mul, iI_neg, iI_lt, iI_le, iI_eq, iI_lt0, iI_le0, iI_gt0, iI_ge0, iI_eq0] <;> omega) E
          refine zW.gz [] rfl rfl rfl (by omega) trivial ⟨_, rfl, k0⟩ rfl rfl (by decide +kernel) (by decide +kernel) ?_
          refine mSpel_ok (by omega) hm2 (fun l hl I' f s => ?_) (fun hl I' f => ?_)
          · obtain ⟨n1, n2⟩ := spell_ok hl
            refine zW.gbf [] rfl rfl rfl (by omega) trivial (by simp (disch := omega) only [eq_self, not_true_eq_false, not_false_eq_true, upI_same, upL_same, upI_ne, upL_ne, iI_ixN, zI_mk, zL_mk, zP_mk, zK_mk, zN_mk, zwI_up, zwL_up, zg_some, Nat.reduceMod, Nat.reduceDiv, zcn_I, iI_add, iI_sub, iI_mul, iI_neg, iI_lt, iI_le, iI_eq, iI_lt0, iI_le0, iI_gt0, iI_ge0, iI_eq0] <;> omega) ?_
            refine zW.gz [] rfl rfl rfl (by omega) trivial ⟨_, rfl, k0⟩ rfl rfl (by decide +kernel) (by decide +kernel) ?_
            refine hasR_ok (by omega) (mf_scr h (scr_tr th2_scr (pfr_scr f))) hi rfl s n1 n2 (fun q hq => ?_)
            rcases hq with ⟨g, rfl⟩ | ⟨g, rfl⟩
            · refine zW.gbf [] rfl rfl rfl (by omega) trivial (by simp (disch := omega) only [eq_self, not_true_eq_false, not_false_eq_true, upI_same, upL_same, upI_ne, upL_ne, iI_ixN, zI_mk, zL_mk, zP_mk, zK_mk, zN_mk, zwI_up, zwL_up, zg_some, Nat.reduceMod, Nat.reduceDiv, zcn_I, iI_add, iI_sub, iI_mul, iI_neg, iI_lt, iI_le, iI_eq, iI_lt0, iI_le0, iI_gt0, iI_ge0, iI_eq0] <;> omega) ?_
              exact zW.go [85] rfl (by omega) trivial (C (some l) _ I' hl (tru_t ⟨l, rfl, g⟩) f (fun l' e => by cases e; exact s))
            · refine zW.gbt [] rfl rfl rfl (by omega) trivial (by simp (disch := omega) only [eq_self, not_true_eq_false, not_false_eq_true, upI_same, upL_same, upI_ne, upL_ne, iI_ixN, zI_mk, zL_mk, zP_mk, zK_mk, zN_mk, zwI_up, zwL_up, zg_some, Nat.reduceMod, Nat.reduceDiv, zcn_I, iI_add, iI_sub, iI_mul, iI_neg, iI_lt, iI_le, iI_eq, iI_lt0, iI_le0, iI_gt0, iI_ge0, iI_eq0] <;> omega) ?_
              exact zW.go [85] rfl (by omega) trivial (C (some l) _ I' hl (tru_f (fun ⟨l', e, q⟩ => by cases e; exact g q)) f (fun l' e => by cases e; exact s))
          · refine zW.gbt [] rfl rfl rfl (by omega) trivial (by simp (disch := omega) only [eq_self, not_true_eq_false, not_false_eq_true, upI_same, upL_same, upI_ne, upL_ne, iI_ixN, zI_mk, zL_mk, zP_mk, zK_mk, zN_mk, zwI_up, zwL_up, zg_some, Nat.reduceMod, Nat.reduceDiv, zcn_I, iI_add, iI_sub, iI_mul, iI_neg, iI_lt, iI_le, iI_eq, iI_lt0, iI_le0, iI_gt0, iI_ge0, iI_eq0] <;> omega) ?_
            exact zW.go [85] rfl (by omega) trivial (C none _ I' hl (tru_f (fun ⟨l', e, q⟩ => by cases e)) f (fun l' e => by cases e))
      refine zW.gb [] rfl rfl rfl (by omega) (by simp (disch := omega) only [true_or, or_true, eq_self, Option.some.injEq, Prod.mk.injEq, zall_0, zall_1, zall_2, zob_iff, zar_iff, zis_iff, zkIs_some, zkHas_some, iI_vp, z01_I, z01_bz, zch_I, true_and, and_true, or_false, false_or, and_self, upI_same, upL_same, upI_ne, upL_ne, iI_ixN, zI_mk, zL_mk, zP_mk, zK_mk, zN_mk, zwI_up, zwL_up, zg_some, Nat.reduceMod, Nat.reduceDiv, zcn_I, iI_add, iI_sub, iI_mul, iI_neg, iI_lt, iI_le, iI_eq, iI_lt0, iI_le0, iI_gt0, iI_ge0, iI_eq0, k0, p20, k20] <;> omega) (fun h' => ?_) (fun h' => ?_) <;> simp (disch := omega) only [zcn_I, iI_add, iI_sub, iI_mul, iI_neg, iI_lt, iI_le, iI_eq, iI_lt0, iI_le0, iI_gt0, iI_ge0, iI_eq0, upI_same, upL_same, upI_ne, upL_ne, iI_ixN, zI_mk, zL_mk, zP_mk, zK_mk, zN_mk, zwI_up, zwL_up, zg_some, Nat.reduceMod, Nat.reduceDiv, p20, r1] at h'
      · exact zW.go [56] rfl (by omega) trivial (G _ (tru_t (fun n => by omega)))
      · refine zW.gz [] rfl rfl rfl (by omega) trivial ⟨_, rfl, k0⟩ rfl rfl (by decide +kernel) (by decide +kernel) ?_
        refine mMay_ok (by omega) (mf_scr h th_scr) hj (by omega) rfl rfl (fun q hq => ?_)
        rcases hq with ⟨g, rfl⟩ | ⟨g, rfl⟩
        · refine zW.gbt [] rfl rfl rfl (by omega) trivial (by simp (disch := omega) only [eq_self, not_true_eq_false, not_false_eq_true, upI_same, upL_same, upI_ne, upL_ne, iI_ixN, zI_mk, zL_mk, zP_mk, zK_mk, zN_mk, zwI_up, zwL_up, zg_some, Nat.reduceMod, Nat.reduceDiv, zcn_I, iI_add, iI_sub, iI_mul, iI_neg, iI_lt, iI_le, iI_eq, iI_lt0, iI_le0, iI_gt0, iI_ge0, iI_eq0] <;> omega) ?_
          exact zW.go [56] rfl (by omega) trivial (G _ (tru_f (fun n => n ⟨by omega, g⟩)))
        · refine zW.gbf [] rfl rfl rfl (by omega) trivial (by simp (disch := omega) only [eq_self, not_true_eq_false, not_false_eq_true, upI_same, upL_same, upI_ne, upL_ne, iI_ixN, zI_mk, zL_mk, zP_mk, zK_mk, zN_mk, zwI_up, zwL_up, zg_some, Nat.reduceMod, Nat.reduceDiv, zcn_I, iI_add, iI_sub, iI_mul, iI_neg, iI_lt, iI_le, iI_eq, iI_lt0, iI_le0, iI_gt0, iI_ge0, iI_eq0] <;> omega) ?_
          exact zW.go [56] rfl (by omega) trivial (G _ (tru_t (fun n => g n.2)))
  refine zW.gz [] rfl rfl rfl (by omega) trivial ⟨_, rfl, k0⟩ rfl rfl (by decide +kernel) (by decide +kernel) ?_
  refine nobody_ok (by omega) h rfl rfl h1 h2 (fun q hq => ?_)
  rcases hq with ⟨g, rfl⟩ | ⟨g, rfl⟩
  · refine zW.gbt [] rfl rfl rfl (by omega) trivial (by simp (disch := omega) only [eq_self, not_true_eq_false, not_false_eq_true, upI_same, upL_same, upI_ne, upL_ne, iI_ixN, zI_mk, zL_mk, zP_mk, zK_mk, zN_mk, zwI_up, zwL_up, zg_some, Nat.reduceMod, Nat.reduceDiv, zcn_I, iI_add, iI_sub, iI_mul, iI_neg, iI_lt, iI_le, iI_eq, iI_lt0, iI_le0, iI_gt0, iI_ge0, iI_eq0] <;> omega) ?_
    exact zW.go [23] rfl (by omega) trivial (F _ (tru_t (Or.inl g)))
  · refine zW.gbf [] rfl rfl rfl (by omega) trivial (by simp (disch := omega) only [eq_self, not_true_eq_false, not_false_eq_true, upI_same, upL_same, upI_ne, upL_ne, iI_ixN, zI_mk, zL_mk, zP_mk, zK_mk, zN_mk, zwI_up, zwL_up, zg_some, Nat.reduceMod, Nat.reduceDiv, zcn_I, iI_add, iI_sub, iI_mul, iI_neg, iI_lt, iI_le, iI_eq, iI_lt0, iI_le0, iI_gt0, iI_ge0, iI_eq0] <;> omega) ?_
    refine zW.gz [] rfl rfl rfl (by omega) trivial ⟨_, rfl, k0⟩ rfl rfl (by decide +kernel) (by decide +kernel) ?_
    refine noPz_ok (by omega) h rfl h3 (fun q hq => ?_)
    rcases hq with ⟨g2, rfl⟩ | ⟨g2, rfl⟩
    · refine zW.gbf [] rfl rfl rfl (by omega) trivial (by simp (disch := omega) only [eq_self, not_true_eq_false, not_false_eq_true, upI_same, upL_same, upI_ne, upL_ne, iI_ixN, zI_mk, zL_mk, zP_mk, zK_mk, zN_mk, zwI_up, zwL_up, zg_some, Nat.reduceMod, Nat.reduceDiv, zcn_I, iI_add, iI_sub, iI_mul, iI_neg, iI_lt, iI_le, iI_eq, iI_lt0, iI_le0, iI_gt0, iI_ge0, iI_eq0] <;> omega) ?_
      exact zW.go [23] rfl (by omega) trivial (F _ (tru_t (Or.inr g2)))
    · refine zW.gbt [] rfl rfl rfl (by omega) trivial (by simp (disch := omega) only [eq_self, not_true_eq_false, not_false_eq_true, upI_same, upL_same, upI_ne, upL_ne, iI_ixN, zI_mk, zL_mk, zP_mk, zK_mk, zN_mk, zwI_up, zwL_up, zg_some, Nat.reduceMod, Nat.reduceDiv, zcn_I, iI_add, iI_sub, iI_mul, iI_neg, iI_lt, iI_le, iI_eq, iI_lt0, iI_le0, iI_gt0, iI_ge0, iI_eq0] <;> omega) ?_
      exact zW.go [23] rfl (by omega) trivial (F _ (tru_f (fun q => q.elim g g2)))
end MMOV
