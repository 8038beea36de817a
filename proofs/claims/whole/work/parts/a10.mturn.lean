/-! The model turns. -/
theorem abs_I {t : Int} (h1 : -20 ≤ t) (h2 : t ≤ 20) : (if 0 ≤ iI t then iI t else 0 - iI t) = iI (t.natAbs : Int) := by
  rw [← iI_0]
  by_cases c : 0 ≤ t
  · rw [if_pos ((iI_le (by omega) (by omega) (by omega) (by omega)).mpr c)]
    exact iI_cg (by omega)
  · rw [if_neg (fun g => c ((iI_le (by omega) (by omega) (by omega) (by omega)).mp g)), iI_sub]
    exact iI_cg (by omega)
section MTURN
variable {d y : Nat} {T : tfT} {I : Nat → Nat → Int32} {L : Nat → Nat → Int64} {R : zRt} {Q : zO → zM → Prop}
/-- how many places have another piece than the row b says -/
theorem mDiff_lp {i : Nat} {pp c t : Int32} {f : Nat → Nat} (hd : 1 ≤ d) (h : mf y T (I, L, R)) (hi : i < tPn T) (hf : ∀ p, p < 10 → f p < 10) (hb : ∀ p, p < 10 → I (y + 176) p = iI (f p : Int)) (e0 : pp = iI (i : Int))
    (hQ : Q (.inl (some (zi (iI (ct (fun q => !(f q == pzS (tPz T i) q)) (pzN (tPz T i)) : Int))))) (I, L, R)) :
    ∀ m k, k + m = pzN (tPz T i) → ∀ (x z : Int32), x = iI (ct (fun q => !(f q == pzS (tPz T i) q)) k : Int) → z = iI (k : Int) → zW 172 d 0 0 121 [some (zr (some y)), some (zi pp), some (zi c), some (zi t), some (zi x), some (zi z)] [] (I, L, R) Q
  | 0, k, hk, x, z, e1, e2 => by
    subst e1; subst e2; subst e0
    have hM := h.2.1
    have k0 : R.2.1 y = some (7, 0) := hM.1
    obtain ⟨h4, hz, w1, w2, w3, w4, w5⟩ := m_pz h hi
    have hn := hz.2.1
    have p1 : R.1 y 1 = some (y + 2) := (hM.2.1 1 (by decide)).1; have k1 : R.2.1 (y + 2) = some (20, 4) := (hM.2.1 1 (by decide)).2
    obtain rfl : k = pzN (tPz T i) := by omega
    refine zW.gbt [] rfl rfl rfl (by omega) (by simp (disch := omega) only [true_or, or_true, eq_self, Option.some.injEq, Prod.mk.injEq, zall_0, zall_1, zall_2, zob_iff, zar_iff, zis_iff, zkIs_some, zkHas_some, iI_vp, z01_I, z01_bz, zch_I, true_and, and_true, or_false, false_or, and_self, upI_same, upL_same, upI_ne, upL_ne, iI_ixN, zI_mk, zL_mk, zP_mk, zK_mk, zN_mk, zwI_up, zwL_up, zg_some, Nat.reduceMod, Nat.reduceDiv, zcn_I, iI_add, iI_sub, iI_mul, iI_neg, iI_lt, iI_le, iI_eq, iI_lt0, iI_le0, iI_gt0, iI_ge0, iI_eq0, k0, p1, k1] <;> omega) (by simp (disch := omega) only [eq_self, not_true_eq_false, not_false_eq_true, upI_same, upL_same, upI_ne, upL_ne, iI_ixN, zI_mk, zL_mk, zP_mk, zK_mk, zN_mk, zwI_up, zwL_up, zg_some, Nat.reduceMod, Nat.reduceDiv, zcn_I, iI_add, iI_sub, iI_mul, iI_neg, iI_lt, iI_le, iI_eq, iI_lt0, iI_le0, iI_gt0, iI_ge0, iI_eq0, p1, w1] <;> omega) ?_
    exact zW.gr [] rfl rfl rfl (by omega) trivial trivial hQ
  | m + 1, k, hk, x, z, e1, e2 => by
    subst e1; subst e2; subst e0
    have hM := h.2.1
    have k0 : R.2.1 y = some (7, 0) := hM.1
    obtain ⟨h4, hz, w1, w2, w3, w4, w5⟩ := m_pz h hi
    have hn := hz.2.1
    have hst := hz.2.2.2.2.2.2.2.2
    have p1 : R.1 y 1 = some (y + 2) := (hM.2.1 1 (by decide)).1; have k1 : R.2.1 (y + 2) = some (20, 4) := (hM.2.1 1 (by decide)).2; have p5 : R.1 y 5 = some (y + 46) := (hM.2.1 5 (by decide)).1; have k5 : R.2.1 (y + 46) = some (25, 4) := (hM.2.1 5 (by decide)).2; have q5 : R.1 (y + 46) (i) = some (y + 47 + i) := (hM.2.2.2.2.1 (i) (by omega)).1.trans (congrArg some (by omega)); have j5 : R.2.1 (y + 47 + i) = some (20, 10) := (congrArg R.2.1 (by omega)).trans (hM.2.2.2.2.1 (i) (by omega)).2; have p11 : R.1 y 11 = some (y + 176) := (hM.2.1 11 (by decide)).1; have k11 : R.2.1 (y + 176) = some (20, 10) := (hM.2.1 11 (by decide)).2
    have v5 := w5 k (by omega)
    have v6 := hb k (by omega)
    have hsk := hst.1 k (by omega)
    have hfk := hf k (by omega)
    have NX : ∀ (x : Int32) (e : Nat), x = iI (e : Int) → ct (fun q => !(f q == pzS (tPz T i) q)) (k + 1) = ct (fun q => !(f q == pzS (tPz T i) q)) k + e → zW 172 d 0 0 158 [some (zr (some y)), some (zi (iI (i : Int))), some (zi c), some (zi t), some (zi (iI (ct (fun q => !(f q == pzS (tPz T i) q)) k : Int))), some (zi (iI (k : Int)))] [zi x, zi (iI (ct (fun q => !(f q == pzS (tPz T i) q)) k : Int))] (I, L, R) Q := fun x e ex hx => by
      subst ex
      refine zW.go [121] rfl (by omega) trivial ?_
      exact mDiff_lp hd h hi hf hb rfl hQ m (k + 1) (by omega) _ _ (by rw [iI_add, hx]; rfl) (by rw [zcn_I, iI_add]; rfl)
    refine zW.gbf [] rfl rfl rfl (by omega) (by simp (disch := omega) only [true_or, or_true, eq_self, Option.some.injEq, Prod.mk.injEq, zall_0, zall_1, zall_2, zob_iff, zar_iff, zis_iff, zkIs_some, zkHas_some, iI_vp, z01_I, z01_bz, zch_I, true_and, and_true, or_false, false_or, and_self, upI_same, upL_same, upI_ne, upL_ne, iI_ixN, zI_mk, zL_mk, zP_mk, zK_mk, zN_mk, zwI_up, zwL_up, zg_some, Nat.reduceMod, Nat.reduceDiv, zcn_I, iI_add, iI_sub, iI_mul, iI_neg, iI_lt, iI_le, iI_eq, iI_lt0, iI_le0, iI_gt0, iI_ge0, iI_eq0, k0, p1, k1] <;> omega) (by simp (disch := omega) only [eq_self, not_true_eq_false, not_false_eq_true, upI_same, upL_same, upI_ne, upL_ne, iI_ixN, zI_mk, zL_mk, zP_mk, zK_mk, zN_mk, zwI_up, zwL_up, zg_some, Nat.reduceMod, Nat.reduceDiv, zcn_I, iI_add, iI_sub, iI_mul, iI_neg, iI_lt, iI_le, iI_eq, iI_lt0, iI_le0, iI_gt0, iI_ge0, iI_eq0, p1, w1] <;> omega) ?_
    refine zW.gb [] rfl rfl rfl (by omega) (by simp (disch := omega) only [true_or, or_true, eq_self, Option.some.injEq, Prod.mk.injEq, zall_0, zall_1, zall_2, zob_iff, zar_iff, zis_iff, zkIs_some, zkHas_some, iI_vp, z01_I, z01_bz, zch_I, true_and, and_true, or_false, false_or, and_self, upI_same, upL_same, upI_ne, upL_ne, iI_ixN, zI_mk, zL_mk, zP_mk, zK_mk, zN_mk, zwI_up, zwL_up, zg_some, Nat.reduceMod, Nat.reduceDiv, zcn_I, iI_add, iI_sub, iI_mul, iI_neg, iI_lt, iI_le, iI_eq, iI_lt0, iI_le0, iI_gt0, iI_ge0, iI_eq0, k0, p5, k5, q5, j5, p11, k11] <;> omega) (fun h' => ?_) (fun h' => ?_)
    · simp (disch := omega) only [zcn_I, iI_add, iI_sub, iI_mul, iI_neg, iI_lt, iI_le, iI_eq, iI_lt0, iI_le0, iI_gt0, iI_ge0, iI_eq0, upI_same, upL_same, upI_ne, upL_ne, iI_ixN, zI_mk, zL_mk, zP_mk, zK_mk, zN_mk, zwI_up, zwL_up, zg_some, Nat.reduceMod, Nat.reduceDiv, p5, q5, p11, v5, v6] at h'
      refine zW.go [158] rfl (by omega) trivial (NX _ 1 (zcn_I _) ?_)
      exact congrArg (fun b : Bool => ct (fun q => !(f q == pzS (tPz T i) q)) k + (if b then 1 else 0)) (show (!(f k == pzS (tPz T i) k)) = true by simp; omega)
    · simp (disch := omega) only [zcn_I, iI_add, iI_sub, iI_mul, iI_neg, iI_lt, iI_le, iI_eq, iI_lt0, iI_le0, iI_gt0, iI_ge0, iI_eq0, upI_same, upL_same, upI_ne, upL_ne, iI_ixN, zI_mk, zL_mk, zP_mk, zK_mk, zN_mk, zwI_up, zwL_up, zg_some, Nat.reduceMod, Nat.reduceDiv, p5, q5, p11, v5, v6] at h'
      refine zW.go [158] rfl (by omega) trivial (NX _ 0 (zcn_I _) ?_)
      exact congrArg (fun b : Bool => ct (fun q => !(f q == pzS (tPz T i) q)) k + (if b then 1 else 0)) (show (!(f k == pzS (tPz T i) k)) = false by simp; omega)
theorem itf_pmn {n : Nat} {f st : Nat → Nat} (hs : pm n st) (hf : pm n f) (k : Nat) : pm n (fun p => st (itf f k p)) := pm_comp hs (itf_pm hf k)
theorem mTurn_lp {i j a : Nat} {u t : Int} {v5 : Option zV} (hd : 3 ≤ d) (hi : i < tPn T) (ha : a < 2 * pzR (tPz T i)) (h1 : -20 ≤ t) (h2 : t ≤ 20) (hu : u = 65 + (j : Int)) (hj : j < 4) (ea : a = 2 * j + if t < 0 then 1 else 0) {I0 : Nat → Nat → Int32}
    (hQ : ∀ I' x, mf y (tSetP T i (pzSt (tPz T i) (fun p => pzS (tPz T i) (itf (pzT (tPz T i) a) t.natAbs p)))) (I', L, R) → mfo y I0 L I' L → I' y 41 = iI 0 → (∀ p, p < 10 → I' (y + 176) p = iI (pzS (tPz T i) p : Int)) → zW 172 d 0 0 115 [some (zr (some y)), some (zi (iI (i : Int))), some (zi (iI u)), some (zi (iI t)), some (zi x), v5] [] (I', L, R) Q) :
    ∀ m k, k + m = t.natAbs → ∀ (I1 : Nat → Nat → Int32) (x : Int32), mf y (tSetP T i (pzSt (tPz T i) (fun p => pzS (tPz T i) (itf (pzT (tPz T i) a) k p)))) (I1, L, R) → mfo y I0 L I1 L → I1 y 41 = iI 0 → (∀ p, p < 10 → I1 (y + 176) p = iI (pzS (tPz T i) p : Int)) → x = iI (k : Int) → zW 172 d 0 0 79 [some (zr (some y)), some (zi (iI (i : Int))), some (zi (iI u)), some (zi (iI t)), some (zi x), v5] [] (I1, L, R) Q
  | 0, k, hk, I1, x, f1, f2, f3, f4, e => by
    subst e
    obtain rfl : k = t.natAbs := by omega
    refine zW.gbt [] rfl rfl rfl (by omega) trivial ?_ (hQ I1 _ f1 f2 f3 f4)
    rw [abs_I h1 h2]
    exact (iI_le (by omega) (by omega) (by omega) (by omega)).mpr (Int.le_refl _)
  | m + 1, k, hk, I1, x, f1, f2, f3, f4, e => by
    subst e
    have k0 : R.2.1 y = some (7, 0) := f1.2.1.1
    refine zW.gbf [] rfl rfl rfl (by omega) trivial ?_ ?_
    · rw [abs_I h1 h2, iI_le (by omega) (by omega) (by omega) (by omega)]
      omega
    have NX : ∀ q : Int32, q = iI ((if t < 0 then 1 else 0 : Nat) : Int) → zW 172 d 0 0 105 [some (zr (some y)), some (zi (iI (i : Int))), some (zi (iI u)), some (zi (iI t)), some (zi (iI (k : Int))), v5] [zi q, zi (zcn 2 * (iI u - zcn 65)), zi (iI (i : Int)), zr (some y)] (I1, L, R) Q := fun q eq => by
      subst eq
      have e2 : zcn 2 * (iI u - zcn 65) + iI ((if t < 0 then 1 else 0 : Nat) : Int) = iI (a : Int) := by
        rw [zcn_I, zcn_I, iI_sub, iI_mul, iI_add, ea]
        exact iI_cg (by omega)
      refine zW.gz [] rfl rfl rfl (by omega) trivial ⟨_, rfl, k0⟩ rfl rfl (by decide +kernel) (by decide +kernel) ?_
      rw [e2]
      have hT2 : tPz (tSetP T i (pzSt (tPz T i) (fun p => pzS (tPz T i) (itf (pzT (tPz T i) a) k p)))) i = pzSt (tPz T i) (fun p => pzS (tPz T i) (itf (pzT (tPz T i) a) k p)) := tPz_s
      refine turned_ok (by omega) f1 hi (by rw [hT2]; exact ha) rfl rfl (fun I2 g1 g2 g3 g4 => ?_)
      rw [tSetP_2, hT2] at g1
      refine zW.go [79] rfl (by omega) trivial ?_
      refine mTurn_lp hd hi ha h1 h2 hu hj ea hQ m (k + 1) (by omega) _ _ g1 (mfo_tr f2 g2) (by rw [g3]; exact f3) (fun p hp => ?_) (by rw [zcn_I, iI_add]; rfl)
      have h4 : i < 4 := (m_pz f1 hi).1
      rw [g4 _ (by omega) (by omega)]
      exact f4 p hp
    refine zW.gb [] rfl rfl rfl (by omega) trivial (fun h' => ?_) (fun h' => ?_)
    · simp (disch := omega) only [zcn_I, iI_add, iI_sub, iI_mul, iI_neg, iI_lt, iI_le, iI_eq, iI_lt0, iI_le0, iI_gt0, iI_ge0, iI_eq0] at h'
      exact zW.go [105] rfl (by omega) trivial (NX _ (by rw [if_neg (by omega), zcn_I]; rfl))
    · simp (disch := omega) only [zcn_I, iI_add, iI_sub, iI_mul, iI_neg, iI_lt, iI_le, iI_eq, iI_lt0, iI_le0, iI_gt0, iI_ge0, iI_eq0] at h'
      exact zW.go [105] rfl (by omega) trivial (NX _ (by rw [if_pos (by omega), zcn_I]; rfl))
theorem mTurn_ok {p u t : Int} {a b c : Int32} (hd : 6 ≤ d) (h : mf y T (I, L, R)) (e1 : a = iI p) (e2 : b = iI u) (e3 : c = iI t) (h1 : i32 p) (h2 : 0 ≤ u) (h2' : u < 65536) (h3 : i32 t) (hQ : mP y (I, L, R) (oTurn T p u t) eI Q) : zS 172 d [zr (some y), zi a, zi b, zi c] (I, L, R) Q := by
  subst e1; subst e2; subst e3
  have hM := h.2.1
  have k0 : R.2.1 y = some (7, 0) := hM.1
  refine zW.gz [] rfl rfl rfl (by omega) trivial ⟨_, rfl, k0⟩ rfl rfl (by decide +kernel) (by decide +kernel) ?_
  refine noPz_ok (by omega) h rfl h1 (fun q hq => ?_)
  refine zW.gz [] rfl rfl rfl (by omega) trivial ⟨_, rfl, k0⟩ rfl rfl (by decide +kernel) (by decide +kernel) ?_
  refine mThr_ok (k := 1) (by omega) k0 hq (zcn_I _) (fun hb => ?_) (fun hg => ?_)
  · refine zW.gbt [] rfl rfl rfl (by omega) trivial (by simp (disch := omega) only [eq_self, not_true_eq_false, not_false_eq_true, upI_same, upL_same, upI_ne, upL_ne, iI_ixN, zI_mk, zL_mk, zP_mk, zK_mk, zN_mk, zwI_up, zwL_up, zg_some, Nat.reduceMod, Nat.reduceDiv, zcn_I, iI_add, iI_sub, iI_mul, iI_neg, iI_lt, iI_le, iI_eq, iI_lt0, iI_le0, iI_gt0, iI_ge0, iI_eq0] <;> omega) ?_
    refine zW.gr [] rfl rfl rfl (by omega) trivial trivial ?_; rw [zcn_I]
    refine mP_t hQ (c := 0) (v := 0) ?_ (mf_scr h th_scr) (mgr_o (scr_o th_scr)) (upI_same _ _ _ _) 0
    exact onP_no hb
  · obtain ⟨i, rfl, hi, e⟩ := onP_yes (f := fun i => if ¬ (0 ≤ u - 65 ∧ u - 65 < pzR (tPz T i)) ∨ ¬ (-20 ≤ t ∧ t ≤ 20) then (2, 0, T) else (0, (ct (fun q => !(pzS (tPz T i) q == turnT (tPz T i) (u - 65).toNat t q)) 10 : Nat), tSetP T i (pzSt (tPz T i) (turnT (tPz T i) (u - 65).toNat t)))) hg
    rw [show oTurn T (i : Int) u t = _ from e] at hQ
    clear e
    obtain ⟨h4, hz, w1, w2, w3, w4, w5⟩ := m_pz h hi
    have hn := hz.2.1
    have hr4 := hz.2.2.1
    have hst := hz.2.2.2.2.2.2.2.2
    refine zW.gbf [] rfl rfl rfl (by omega) trivial (by simp (disch := omega) only [eq_self, not_true_eq_false, not_false_eq_true, upI_same, upL_same, upI_ne, upL_ne, iI_ixN, zI_mk, zL_mk, zP_mk, zK_mk, zN_mk, zwI_up, zwL_up, zg_some, Nat.reduceMod, Nat.reduceDiv, zcn_I, iI_add, iI_sub, iI_mul, iI_neg, iI_lt, iI_le, iI_eq, iI_lt0, iI_le0, iI_gt0, iI_ge0, iI_eq0] <;> omega) ?_
    have G : ∀ q, tru (¬ (0 ≤ u - 65 ∧ u - 65 < pzR (tPz T i)) ∨ ¬ (-20 ≤ t ∧ t ≤ 20)) q → zW 172 d 0 0 50 [some (zr (some y)), some (zi (iI (i : Int))), some (zi (iI u)), some (zi (iI t)), none, none] [zi q, zr (some y)] (upI I y 41 (iI 0), L, R) Q := fun q hq => by
      refine zW.gz [] rfl rfl rfl (by omega) trivial ⟨_, rfl, k0⟩ rfl rfl (by decide +kernel) (by decide +kernel) ?_
      refine mThr_ok (k := 2) (by omega) k0 hq (zcn_I _) (fun hb => ?_) (fun hg => ?_)
      · refine zW.gbf [] rfl rfl rfl (by omega) trivial (by simp (disch := omega) only [eq_self, not_true_eq_false, not_false_eq_true, upI_same, upL_same, upI_ne, upL_ne, iI_ixN, zI_mk, zL_mk, zP_mk, zK_mk, zN_mk, zwI_up, zwL_up, zg_some, Nat.reduceMod, Nat.reduceDiv, zcn_I, iI_add, iI_sub, iI_mul, iI_neg, iI_lt, iI_le, iI_eq, iI_lt0, iI_le0, iI_gt0, iI_ge0, iI_eq0] <;> omega) ?_
        refine zW.gr [] rfl rfl rfl (by omega) trivial trivial ?_; rw [zcn_I]
        exact mP_t hQ (c := 1) (v := 0) (if_pos hb) (mf_scr h th2_scr) (mgr_o (scr_o th2_scr)) (upI_same _ _ _ _) 0
      · refine zW.gbt [] rfl rfl rfl (by omega) trivial (by simp (disch := omega) only [eq_self, not_true_eq_false, not_false_eq_true, upI_same, upL_same, upI_ne, upL_ne, iI_ixN, zI_mk, zL_mk, zP_mk, zK_mk, zN_mk, zwI_up, zwL_up, zg_some, Nat.reduceMod, Nat.reduceDiv, zcn_I, iI_add, iI_sub, iI_mul, iI_neg, iI_lt, iI_le, iI_eq, iI_lt0, iI_le0, iI_gt0, iI_ge0, iI_eq0] <;> omega) ?_
        rw [if_neg hg] at hQ
        have hu : 0 ≤ u - 65 ∧ u - 65 < pzR (tPz T i) := Classical.byContradiction fun c => hg (Or.inl c)
        have ht : -20 ≤ t ∧ t ≤ 20 := Classical.byContradiction fun c => hg (Or.inr c)
        obtain ⟨j, hj⟩ : ∃ k : Nat, u - 65 = k := ⟨(u - 65).toNat, by omega⟩
        rw [hj, show ((j : Int)).toNat = j from rfl] at hQ
        have hjr : j < pzR (tPz T i) := by omega
        have hm2 : mf y T (upI (upI I y 41 (iI 0)) y 41 (iI 0), L, R) := mf_scr h th2_scr
        have p5 : R.1 y 5 = some (y + 46) := (hM.2.1 5 (by decide)).1; have k5 : R.2.1 (y + 46) = some (25, 4) := (hM.2.1 5 (by decide)).2; have q5 : R.1 (y + 46) (i) = some (y + 47 + i) := (hM.2.2.2.2.1 (i) (by omega)).1.trans (congrArg some (by omega)); have j5 : R.2.1 (y + 47 + i) = some (20, 10) := (congrArg R.2.1 (by omega)).trans (hM.2.2.2.2.1 (i) (by omega)).2; have p11 : R.1 y 11 = some (y + 176) := (hM.2.1 11 (by decide)).1; have k11 : R.2.1 (y + 176) = some (20, 10) := (hM.2.1 11 (by decide)).2
        have l1 : zlenOf (upI (upI I y 41 (iI 0)) y 41 (iI 0), L, R) (some (y + 47 + i)) = 10 := zlenOf_some j5
        have l2 : zlenOf (upI (upI I y 41 (iI 0)) y 41 (iI 0), L, R) (some (y + 176)) = 10 := zlenOf_some k11
        have c10 : (zcn 10).toNatClampNeg = 10 := by decide +kernel
        have c10' : (iI 10).toNatClampNeg = 10 := by decide +kernel
        refine zW.go [79] rfl (by omega) ?_ ?_
        · simp (disch := omega) only [true_or, or_true, eq_self, Option.some.injEq, Prod.mk.injEq, zall_0, zall_1, zall_2, zob_iff, zar_iff, zis_iff, zkIs_some, zkHas_some, iI_vp, z01_I, z01_bz, zch_I, true_and, and_true, or_false, false_or, and_self, upI_same, upL_same, upI_ne, upL_ne, iI_ixN, zI_mk, zL_mk, zP_mk, zK_mk, zN_mk, zwI_up, zwL_up, zg_some, Nat.reduceMod, Nat.reduceDiv, zcn_I, iI_add, iI_sub, iI_mul, iI_neg, iI_lt, iI_le, iI_eq, iI_lt0, iI_le0, iI_gt0, iI_ge0, iI_eq0, k0, p5, k5, q5, j5, p11, k11, l1, l2, zkHas_some, Int.toNat_natCast, iI_ixN, c0i, c0n, c10, c10']
          omega
        simp (disch := omega) only [upI_same, upL_same, upI_ne, upL_ne, iI_ixN, zI_mk, zL_mk, zP_mk, zK_mk, zN_mk, zwI_up, zwL_up, zg_some, Nat.reduceMod, Nat.reduceDiv, zcopy_up, p5, q5, p11, c0n, c10]
        have sc3 : scr y I L (cpI (upI (upI I y 41 (iI 0)) y 41 (iI 0)) (y + 47 + i) 0 (y + 176) 0 10) L := scr_tr th2_scr ⟨fun r q => cpI_row (fun e => q (by rw [e]; unfold scA; omega)), fun k _ _ _ => by rw [cpI_row (by omega)], fun _ _ => rfl⟩
        have hTid : tSetP T i (pzSt (tPz T i) (fun p => pzS (tPz T i) (itf (pzT (tPz T i) (2 * j + if t < 0 then 1 else 0)) 0 p))) = T := tSetP_id
        have ha : 2 * j + (if t < 0 then 1 else 0) < 2 * pzR (tPz T i) := by
          split <;> omega
        refine mTurn_lp (j := j) (a := 2 * j + if t < 0 then 1 else 0) (I0 := I) (by omega) hi ha ht.1 ht.2 (by omega) (by omega) rfl (fun I' x g1 g2 g3 g4 => ?_) t.natAbs 0 (by omega) _ _ (by rw [hTid]; exact mf_scr h sc3) (scr_o sc3) ?_ (fun p hp => ?_) (zcn_I _)
        · refine zW.go [121] rfl (by omega) trivial ?_
          have hT2 : tPz (tSetP T i (pzSt (tPz T i) (fun p => pzS (tPz T i) (itf (pzT (tPz T i) (2 * j + if t < 0 then 1 else 0)) t.natAbs p)))) i = pzSt (tPz T i) (fun p => pzS (tPz T i) (itf (pzT (tPz T i) (2 * j + if t < 0 then 1 else 0)) t.natAbs p)) := tPz_s
          refine mDiff_lp (f := pzS (tPz T i)) (by omega) g1 hi (fun p hp => (pm_up hst hn).1 p hp) g4 rfl ?_ _ 0 (Nat.zero_add _) _ _ (zcn_I _) (zcn_I _)
          rw [hT2]
          have hpa : pm (pzN (tPz T i)) (pzT (tPz T i) (2 * j + if t < 0 then 1 else 0)) := hz.2.2.2.1 _ ha
          have hpt : pm (pzN (tPz T i)) (turnT (tPz T i) j t) := itf_pmn hst hpa t.natAbs
          have e : ct (fun q => !(pzS (tPz T i) q == turnT (tPz T i) j t q)) (pzN (tPz T i)) = ct (fun q => !(pzS (tPz T i) q == turnT (tPz T i) j t q)) 10 := by
            have := ct_more (b := fun q => !(pzS (tPz T i) q == turnT (tPz T i) j t q)) (n := pzN (tPz T i)) (m := 10 - pzN (tPz T i)) (fun k q1 q2 => by rw [hpt.2.2 k q1, hst.2.2 k q1]; simp)
            rw [show pzN (tPz T i) + (10 - pzN (tPz T i)) = 10 by omega] at this
            exact this.symm
          have e' : (ct (fun q => !(pzS (tPz T i) q == pzS (pzSt (tPz T i) (fun p => pzS (tPz T i) (itf (pzT (tPz T i) (2 * j + if t < 0 then 1 else 0)) t.natAbs p))) q)) (pzN (pzSt (tPz T i) (fun p => pzS (tPz T i) (itf (pzT (tPz T i) (2 * j + if t < 0 then 1 else 0)) t.natAbs p))))) = ct (fun q => !(pzS (tPz T i) q == turnT (tPz T i) j t q)) 10 := e
          rw [e']
          exact mP_0 hQ rfl g1 (mgr_o g2) g3
        · rw [cpI_row (by omega)]
          exact upI_same _ _ _ _
        · rw [cpI_in (by omega), upI_row (by omega), upI_row (by omega)]
          exact w5 p hp
    have p2 : R.1 y 2 = some (y + 3) := (hM.2.1 2 (by decide)).1; have k2 : R.2.1 (y + 3) = some (20, 4) := (hM.2.1 2 (by decide)).2
    refine zW.gz [] rfl rfl rfl (by omega) (by simp (disch := omega) only [true_or, or_true, eq_self, Option.some.injEq, Prod.mk.injEq, zall_0, zall_1, zall_2, zob_iff, zar_iff, zis_iff, zkIs_some, zkHas_some, iI_vp, z01_I, z01_bz, zch_I, true_and, and_true, or_false, false_or, and_self, upI_same, upL_same, upI_ne, upL_ne, iI_ixN, zI_mk, zL_mk, zP_mk, zK_mk, zN_mk, zwI_up, zwL_up, zg_some, Nat.reduceMod, Nat.reduceDiv, zcn_I, iI_add, iI_sub, iI_mul, iI_neg, iI_lt, iI_le, iI_eq, iI_lt0, iI_le0, iI_gt0, iI_ge0, iI_eq0, k0, p2, k2] <;> omega) trivial rfl rfl (by decide +kernel) (by decide +kernel) ?_
    simp (disch := omega) only [upI_same, upL_same, upI_ne, upL_ne, iI_ixN, zI_mk, zL_mk, zP_mk, zK_mk, zN_mk, zwI_up, zwL_up, zg_some, Nat.reduceMod, Nat.reduceDiv, zcn_I, iI_add, iI_sub, iI_mul, iI_neg, iI_lt, iI_le, iI_eq, iI_lt0, iI_le0, iI_gt0, iI_ge0, iI_eq0, p2, w2, iI_sub, iI_add, zcn_I]
    refine mIn_ok (lo := 65) (hi := 65 + (pzR (tPz T i) : Int) - 1) (by omega) rfl rfl rfl ⟨by omega, by omega⟩ ⟨by omega, by omega⟩ ⟨by omega, by omega⟩ (fun q hq => ?_)
    rcases hq with ⟨g2, rfl⟩ | ⟨g2, rfl⟩
    · refine zW.gbf [] rfl rfl rfl (by omega) trivial (by simp (disch := omega) only [eq_self, not_true_eq_false, not_false_eq_true, upI_same, upL_same, upI_ne, upL_ne, iI_ixN, zI_mk, zL_mk, zP_mk, zK_mk, zN_mk, zwI_up, zwL_up, zg_some, Nat.reduceMod, Nat.reduceDiv, zcn_I, iI_add, iI_sub, iI_mul, iI_neg, iI_lt, iI_le, iI_eq, iI_lt0, iI_le0, iI_gt0, iI_ge0, iI_eq0] <;> omega) ?_
      refine zW.gz [] rfl rfl rfl (by omega) trivial trivial rfl rfl (by decide +kernel) (by decide +kernel) ?_
      refine mIn_ok (lo := -20) (hi := 20) (by omega) rfl (zcn_I _) (zcn_I _) h3 ⟨by omega, by omega⟩ ⟨by omega, by omega⟩ (fun q hq => ?_)
      rcases hq with ⟨g3, rfl⟩ | ⟨g3, rfl⟩
      · refine zW.gbt [] rfl rfl rfl (by omega) trivial (by simp (disch := omega) only [eq_self, not_true_eq_false, not_false_eq_true, upI_same, upL_same, upI_ne, upL_ne, iI_ixN, zI_mk, zL_mk, zP_mk, zK_mk, zN_mk, zwI_up, zwL_up, zg_some, Nat.reduceMod, Nat.reduceDiv, zcn_I, iI_add, iI_sub, iI_mul, iI_neg, iI_lt, iI_le, iI_eq, iI_lt0, iI_le0, iI_gt0, iI_ge0, iI_eq0] <;> omega) ?_
        exact zW.go [50] rfl (by omega) trivial (G _ (tru_f (fun c => c.elim (fun c => c (by omega)) (fun c => c g3))))
      · refine zW.gbf [] rfl rfl rfl (by omega) trivial (by simp (disch := omega) only [eq_self, not_true_eq_false, not_false_eq_true, upI_same, upL_same, upI_ne, upL_ne, iI_ixN, zI_mk, zL_mk, zP_mk, zK_mk, zN_mk, zwI_up, zwL_up, zg_some, Nat.reduceMod, Nat.reduceDiv, zcn_I, iI_add, iI_sub, iI_mul, iI_neg, iI_lt, iI_le, iI_eq, iI_lt0, iI_le0, iI_gt0, iI_ge0, iI_eq0] <;> omega) ?_
        exact zW.go [50] rfl (by omega) trivial (G _ (tru_t (Or.inr g3)))
    · refine zW.gbt [] rfl rfl rfl (by omega) trivial (by simp (disch := omega) only [eq_self, not_true_eq_false, not_false_eq_true, upI_same, upL_same, upI_ne, upL_ne, iI_ixN, zI_mk, zL_mk, zP_mk, zK_mk, zN_mk, zwI_up, zwL_up, zg_some, Nat.reduceMod, Nat.reduceDiv, zcn_I, iI_add, iI_sub, iI_mul, iI_neg, iI_lt, iI_le, iI_eq, iI_lt0, iI_le0, iI_gt0, iI_ge0, iI_eq0] <;> omega) ?_
      exact zW.go [50] rfl (by omega) trivial (G _ (tru_t (Or.inl (fun c => g2 (by omega)))))
end MTURN
