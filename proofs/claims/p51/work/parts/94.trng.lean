/-! The class adds rings. -/
section TRNG
variable {d x z : Nat} {pb rb : Nat → Nat} {T : tfT} {I : Nat → Nat → Int32} {L : Nat → Nat → Int64} {R : zRt} {Q : zO → zM → Prop}
/-- a ring's turn, from the places typed -/
def tyT (T : tfT) (s : Nat) : Nat → Nat := rgT (tTy T).length s (nth (tTy T))
noncomputable def pzRg (w : zPz) (f : Nat → Nat) : zPz := ((pzN w, pzR w + 1), tnS (pzR w) (pzT w) f, pzC w, fun p => p)
noncomputable def tRing (T : tfT) (i s : Nat) : tfT := (([], tPn T, fun k => if k = i then pzRg (tPz T i) (tyT T s) else tPz T k), T.2)
noncomputable def oRing (T : tfT) (p s : Int) : tRes := onP T p fun i => if dc (2 ≤ (tTy T).length ∧ (∀ k, k < (tTy T).length → nth (tTy T) k < pzN (tPz T i)) ∧ 1 ≤ s ∧ s ≤ (tTy T).length - 1) then (if ¬ pzR (tPz T i) < 4 then (3, 0, T) else (0, ((pzR (tPz T i) + 1 : Nat) : Int), tRing T i s.toNat)) else (2, 0, T)
theorem zmc_102 : zmc 102 = 17 ∧ zms 102 = 102 ∧ zmc 151 = 1 ∧ zms 151 = 6 ∧ zmc 147 = 2 ∧ zms 147 = 12 := by decide +kernel
theorem ring_lp {i : Nat} {p s : Int} (hd : 8 ≤ d) (hf : tf x z pb rb T (I, L, R)) (hi : i < tPn T) (bad : ¬ (∀ k, k < (tTy T).length → nth (tTy T) k < pzN (tPz T i)) → ∀ N, R.2.2 ≤ N → Q (.inr 0) (zgrow (I, L, R) N)) (good : (∀ k, k < (tTy T).length → nth (tTy T) k < pzN (tPz T i)) → ∀ v c e, c ≤ 10 → e ≤ 60 → zW 102 d c e 66 [some (zr (some x)), some (zi (iI p)), some (zi (iI s)), some (zr (some (pb i))), some (zi v)] [] (I, L, R) Q) :
    ∀ n k, k + n = (tTy T).length → (∀ m, m < k → nth (tTy T) m < pzN (tPz T i)) → ∀ (y : Int32) (c e : Nat), c = 2 + k → e = 12 + 6 * k → y = iI (k : Int) → zW 102 d c e 27 [some (zr (some x)), some (zi (iI p)), some (zi (iI s)), some (zr (some (pb i))), some (zi y)] [] (I, L, R) Q
  | 0, k, hk, hm, y, c, e, hc, he, e1 => by
    subst e1
    have k0 := tf_k0 hf
    obtain ⟨⟨a1, a2⟩, -⟩ := own_ok hf
    have h8 := hf.1.1.1
    exact zW.gbt [] rfl rfl rfl (by omega) (by simp (disch := omega) only [true_or, or_true, eq_self, Option.some.injEq, Prod.mk.injEq, zall_0, zall_1, zall_2, zob_iff, zar_iff, zis_iff, zkIs_some, zkHas_some, iI_vp, z01_I, z01_bz, zch_I, true_and, and_true, or_false, false_or, and_self, upI_same, upL_same, upI_ne, upL_ne, iI_ixN, zI_mk, zL_mk, zP_mk, zK_mk, zN_mk, zwI_up, zwL_up, zg_some, Nat.reduceMod, Nat.reduceDiv, zcn_I, iI_add, iI_sub, iI_mul, iI_neg, iI_lt, iI_le, iI_eq, iI_lt0, iI_le0, iI_gt0, iI_ge0, iI_eq0, k0] <;> omega) (by simp (disch := omega) only [eq_self, not_true_eq_false, not_false_eq_true, upI_same, upL_same, upI_ne, upL_ne, iI_ixN, zI_mk, zL_mk, zP_mk, zK_mk, zN_mk, zwI_up, zwL_up, zg_some, Nat.reduceMod, Nat.reduceDiv, zcn_I, iI_add, iI_sub, iI_mul, iI_neg, iI_lt, iI_le, iI_eq, iI_lt0, iI_le0, iI_gt0, iI_ge0, iI_eq0, a1] <;> omega) (good (fun m q => hm m (by omega)) _ _ _ (by omega) (by omega))
  | n + 1, k, hk, hm, y, c, e, hc, he, e1 => by
    subst e1
    have k0 := tf_k0 hf
    have p0 : R.1 x 0 = some (x + 1) := hf.2.1.1.2.1
    have kr : R.2.1 (x + 1) = some (20, 8) := hf.2.1.1.2.2.2.2.2.2.2.1
    obtain ⟨⟨a1, a2⟩, -⟩ := own_ok hf
    have h8 := hf.1.1.1
    have v1 := a2 k (by omega)
    have h10 := hf.1.1.2.1 k (by omega)
    obtain ⟨c1, c2, c3, c4, c5, c6, c7⟩ := ru_ok hf hi
    have hn := (tf_pz hf hi).2.1.2.1
    obtain ⟨m1, m2, m3, m4, m5, m6⟩ := zmc_102
    refine zW.gbf [] rfl rfl rfl (by omega) (by simp (disch := omega) only [true_or, or_true, eq_self, Option.some.injEq, Prod.mk.injEq, zall_0, zall_1, zall_2, zob_iff, zar_iff, zis_iff, zkIs_some, zkHas_some, iI_vp, z01_I, z01_bz, zch_I, true_and, and_true, or_false, false_or, and_self, upI_same, upL_same, upI_ne, upL_ne, iI_ixN, zI_mk, zL_mk, zP_mk, zK_mk, zN_mk, zwI_up, zwL_up, zg_some, Nat.reduceMod, Nat.reduceDiv, zcn_I, iI_add, iI_sub, iI_mul, iI_neg, iI_lt, iI_le, iI_eq, iI_lt0, iI_le0, iI_gt0, iI_ge0, iI_eq0, k0] <;> omega) (by simp (disch := omega) only [eq_self, not_true_eq_false, not_false_eq_true, upI_same, upL_same, upI_ne, upL_ne, iI_ixN, zI_mk, zL_mk, zP_mk, zK_mk, zN_mk, zwI_up, zwL_up, zg_some, Nat.reduceMod, Nat.reduceDiv, zcn_I, iI_add, iI_sub, iI_mul, iI_neg, iI_lt, iI_le, iI_eq, iI_lt0, iI_le0, iI_gt0, iI_ge0, iI_eq0, a1] <;> omega) ?_
    refine zW.gbf [] rfl rfl rfl (by omega) trivial (by simp (disch := omega) only [eq_self, not_true_eq_false, not_false_eq_true, upI_same, upL_same, upI_ne, upL_ne, iI_ixN, zI_mk, zL_mk, zP_mk, zK_mk, zN_mk, zwI_up, zwL_up, zg_some, Nat.reduceMod, Nat.reduceDiv, zcn_I, iI_add, iI_sub, iI_mul, iI_neg, iI_lt, iI_le, iI_eq, iI_lt0, iI_le0, iI_gt0, iI_ge0, iI_eq0] <;> omega) ?_
    refine zW.gc [] rfl rfl rfl (by omega) (by simp (disch := omega) only [true_or, or_true, eq_self, Option.some.injEq, Prod.mk.injEq, zall_0, zall_1, zall_2, zob_iff, zar_iff, zis_iff, zkIs_some, zkHas_some, iI_vp, z01_I, z01_bz, zch_I, true_and, and_true, or_false, false_or, and_self, upI_same, upL_same, upI_ne, upL_ne, iI_ixN, zI_mk, zL_mk, zP_mk, zK_mk, zN_mk, zwI_up, zwL_up, zg_some, Nat.reduceMod, Nat.reduceDiv, zcn_I, iI_add, iI_sub, iI_mul, iI_neg, iI_lt, iI_le, iI_eq, iI_lt0, iI_le0, iI_gt0, iI_ge0, iI_eq0, k0, p0, kr, c1] <;> omega) trivial (by omega) (by omega) ?_
    simp (disch := omega) only [upI_same, upL_same, upI_ne, upL_ne, iI_ixN, zI_mk, zL_mk, zP_mk, zK_mk, zN_mk, zwI_up, zwL_up, zg_some, Nat.reduceMod, Nat.reduceDiv, zcn_I, iI_add, iI_sub, iI_mul, iI_neg, iI_lt, iI_le, iI_eq, iI_lt0, iI_le0, iI_gt0, iI_ge0, iI_eq0, p0, v1, c4]
    refine chkN_ok (lo := 0) (hi := (pzN (tPz T i) : Int) - 1) (by omega) rfl rfl rfl ⟨by omega, by omega⟩ ⟨by omega, by omega⟩ ⟨by omega, by omega⟩ (fun hb N hN => ?_) (fun g3 g4 => ?_)
    · exact bad (fun q => hb (by have := q k (by omega); omega)) N hN
    refine zW.go [27] rfl (by omega) trivial ?_
    exact ring_lp hd hf hi bad good n (k + 1) (by omega) (fun m q => by
      by_cases e : m = k
      · subst e
        omega
      · exact hm m (by omega)) _ _ _ (by omega) (by omega) (by rw [zcn_I, iI_add]; rfl)
theorem tf_rng {i s : Nat} {I' : Nat → Nat → Int32} {L' : Nat → Nat → Int64} (hf : tf x z pb rb T (I, L, R)) (hi : i < tPn T) (f : zfr (pb i) I L I' L') (hz : zOK (pzN (tPz T i)) (pzR (tPz T i) + 1) (tnS (pzR (tPz T i)) (pzT (tPz T i)) (tyT T s)) (pzC (tPz T i)) (fun p => p)) (hR : zPR (pb i) I' L' (pzN (tPz T i)) (pzR (tPz T i) + 1) (tnS (pzR (tPz T i)) (pzT (tPz T i)) (tyT T s)) (pzC (tPz T i)) (fun p => p)) : tf x z pb rb (tRing T i s) (upI I' x 1 (iI 0), L', R) ∧ tfr x z (I, L, R) (upI I' x 1 (iI 0), L', R) := by
  obtain ⟨q1, q2⟩ := tf_setP (w := pzRg (tPz T i) (tyT T s)) hf hi f hz hR
  obtain ⟨⟨a1, a2⟩, ⟨b1, b2⟩, ⟨c1, c2⟩, g⟩ := own_ok q1
  have k1 := q1.1
  have hs := (wd_ok q1).2.2.2
  obtain ⟨u1, u2⟩ := tf_slf (I' := upI I' x 1 (iI 0)) (ty := []) (u := T.2.1) (dy := T.2.2.2.2) q1 (fun a q => upI_row (by omega)) ⟨⟨Nat.zero_le _, fun i hi => absurd hi (Nat.not_lt_zero _), fun i j _ hj => absurd hj (Nat.not_lt_zero _)⟩, k1.2⟩ ⟨upI_same _ _ _ _, fun i hi => absurd hi (Nat.not_lt_zero _)⟩ (by simp (disch := omega) only [upI_same, upL_same, upI_ne, upL_ne, iI_ixN, zI_mk, zL_mk, zP_mk, zK_mk, zN_mk, zwI_up, zwL_up, zg_some, Nat.reduceMod, Nat.reduceDiv, zcn_I, iI_add, iI_sub, iI_mul, iI_neg, iI_lt, iI_le, iI_eq, iI_lt0, iI_le0, iI_gt0, iI_ge0, iI_eq0]) ⟨hs.1, by simp (disch := omega) only [upI_same, upL_same, upI_ne, upL_ne, iI_ixN, zI_mk, zL_mk, zP_mk, zK_mk, zN_mk, zwI_up, zwL_up, zg_some, Nat.reduceMod, Nat.reduceDiv, zcn_I, iI_add, iI_sub, iI_mul, iI_neg, iI_lt, iI_le, iI_eq, iI_lt0, iI_le0, iI_gt0, iI_ge0, iI_eq0]; exact c1, fun i hi => by simp (disch := omega) only [upI_same, upL_same, upI_ne, upL_ne, iI_ixN, zI_mk, zL_mk, zP_mk, zK_mk, zN_mk, zwI_up, zwL_up, zg_some, Nat.reduceMod, Nat.reduceDiv, zcn_I, iI_add, iI_sub, iI_mul, iI_neg, iI_lt, iI_le, iI_eq, iI_lt0, iI_le0, iI_gt0, iI_ge0, iI_eq0]; exact c2 i hi, hs.2.2.2⟩ ⟨by simp (disch := omega) only [upI_same, upL_same, upI_ne, upL_ne, iI_ixN, zI_mk, zL_mk, zP_mk, zK_mk, zN_mk, zwI_up, zwL_up, zg_some, Nat.reduceMod, Nat.reduceDiv, zcn_I, iI_add, iI_sub, iI_mul, iI_neg, iI_lt, iI_le, iI_eq, iI_lt0, iI_le0, iI_gt0, iI_ge0, iI_eq0]; exact b1, fun i hi => by simp (disch := omega) only [upI_same, upL_same, upI_ne, upL_ne, iI_ixN, zI_mk, zL_mk, zP_mk, zK_mk, zN_mk, zwI_up, zwL_up, zg_some, Nat.reduceMod, Nat.reduceDiv, zcn_I, iI_add, iI_sub, iI_mul, iI_neg, iI_lt, iI_le, iI_eq, iI_lt0, iI_le0, iI_gt0, iI_ge0, iI_eq0]; exact b2 i hi⟩ (by simp (disch := omega) only [upI_same, upL_same, upI_ne, upL_ne, iI_ixN, zI_mk, zL_mk, zP_mk, zK_mk, zN_mk, zwI_up, zwL_up, zg_some, Nat.reduceMod, Nat.reduceDiv, zcn_I, iI_add, iI_sub, iI_mul, iI_neg, iI_lt, iI_le, iI_eq, iI_lt0, iI_le0, iI_gt0, iI_ge0, iI_eq0]) (by simp (disch := omega) only [upI_same, upL_same, upI_ne, upL_ne, iI_ixN, zI_mk, zL_mk, zP_mk, zK_mk, zN_mk, zwI_up, zwL_up, zg_some, Nat.reduceMod, Nat.reduceDiv, zcn_I, iI_add, iI_sub, iI_mul, iI_neg, iI_lt, iI_le, iI_eq, iI_lt0, iI_le0, iI_gt0, iI_ge0, iI_eq0]; exact g)
  exact ⟨u1, tfr_tr q2 u2⟩
theorem ring_ok {p s : Int} {a b : Int32} (hd : 10 ≤ d) (h : tfx x z T (I, L, R)) (e1 : a = iI p) (e2 : b = iI s) (h1 : i32 p) (h2 : i32 s) (hQ : tP x z (I, L, R) (oRing T p s) [3, 0, 2] eI Q) : zS 102 d [zr (some x), zi a, zi b] (I, L, R) Q := by
  subst e1; subst e2
  have hT := h
  obtain ⟨pb, rb, hf⟩ := h
  have k0 := tf_k0 hf
  obtain ⟨m1, m2, m3, m4, m5, m6⟩ := zmc_102
  refine zW.gc [] rfl rfl rfl (by omega) trivial ⟨_, rfl, k0⟩ (by decide +kernel) (by decide +kernel) ?_
  refine findP_ok (by omega) hf rfl h1 (fun hb N hN => ?_) (fun i hi hp => ?_)
  · exact tP_t hQ hT (if_pos hb) hN
  subst hi
  unfold oRing at hQ
  rw [onP_i hp] at hQ
  have p0 : R.1 x 0 = some (x + 1) := hf.2.1.1.2.1
  have kr : R.2.1 (x + 1) = some (20, 8) := hf.2.1.1.2.2.2.2.2.2.2.1
  obtain ⟨⟨a1, a2⟩, -⟩ := own_ok hf
  have h8 := hf.1.1.1
  obtain ⟨c1, c2, c3, c4, c5, c6, c7⟩ := ru_ok hf hp
  obtain ⟨hL, hz, hR⟩ := tf_pz hf hp
  have hn := hz.2.1
  have hr4 := hz.2.2.1
  refine zW.gb [] rfl rfl rfl (by omega) (by simp (disch := omega) only [true_or, or_true, eq_self, Option.some.injEq, Prod.mk.injEq, zall_0, zall_1, zall_2, zob_iff, zar_iff, zis_iff, zkIs_some, zkHas_some, iI_vp, z01_I, z01_bz, zch_I, true_and, and_true, or_false, false_or, and_self, upI_same, upL_same, upI_ne, upL_ne, iI_ixN, zI_mk, zL_mk, zP_mk, zK_mk, zN_mk, zwI_up, zwL_up, zg_some, Nat.reduceMod, Nat.reduceDiv, zcn_I, iI_add, iI_sub, iI_mul, iI_neg, iI_lt, iI_le, iI_eq, iI_lt0, iI_le0, iI_gt0, iI_ge0, iI_eq0, k0] <;> omega) (fun h' => ?_) (fun h' => ?_)
  · simp (disch := omega) only [zcn_I, iI_add, iI_sub, iI_mul, iI_neg, iI_lt, iI_le, iI_eq, iI_lt0, iI_le0, iI_gt0, iI_ge0, iI_eq0, upI_same, upL_same, upI_ne, upL_ne, iI_ixN, zI_mk, zL_mk, zP_mk, zK_mk, zN_mk, zwI_up, zwL_up, zg_some, Nat.reduceMod, Nat.reduceDiv, a1] at h'
    refine zW.go [27] rfl (by omega) trivial ?_
    refine ring_lp (by omega) hf hp (fun hb N hN => ?_) (fun hall v c e hc he => ?_) (tTy T).length 0 (by omega) (fun m q => absurd q (Nat.not_lt_zero m)) _ _ _ (by omega) (by omega) (zcn_I _)
    · exact tP_t hQ hT (if_neg (fun q => hb (dc_t.mp q).2.1)) hN
    refine zW.gc [] rfl rfl rfl (by omega) (by simp (disch := omega) only [true_or, or_true, eq_self, Option.some.injEq, Prod.mk.injEq, zall_0, zall_1, zall_2, zob_iff, zar_iff, zis_iff, zkIs_some, zkHas_some, iI_vp, z01_I, z01_bz, zch_I, true_and, and_true, or_false, false_or, and_self, upI_same, upL_same, upI_ne, upL_ne, iI_ixN, zI_mk, zL_mk, zP_mk, zK_mk, zN_mk, zwI_up, zwL_up, zg_some, Nat.reduceMod, Nat.reduceDiv, zcn_I, iI_add, iI_sub, iI_mul, iI_neg, iI_lt, iI_le, iI_eq, iI_lt0, iI_le0, iI_gt0, iI_ge0, iI_eq0, k0] <;> omega) trivial (by omega) (by omega) ?_
    simp (disch := omega) only [upI_same, upL_same, upI_ne, upL_ne, iI_ixN, zI_mk, zL_mk, zP_mk, zK_mk, zN_mk, zwI_up, zwL_up, zg_some, Nat.reduceMod, Nat.reduceDiv, zcn_I, iI_add, iI_sub, iI_mul, iI_neg, iI_lt, iI_le, iI_eq, iI_lt0, iI_le0, iI_gt0, iI_ge0, iI_eq0, a1]
    refine chkN_ok (lo := 1) (hi := ((tTy T).length : Int) - 1) (by omega) rfl rfl rfl h2 ⟨by omega, by omega⟩ ⟨by omega, by omega⟩ (fun hb N hN => ?_) (fun g3 g4 => ?_)
    · exact tP_t hQ hT (if_neg (fun q => hb ⟨(dc_t.mp q).2.2.1, (dc_t.mp q).2.2.2⟩)) hN
    rw [if_pos (dc_t.mpr ⟨by omega, hall, g3, g4⟩)] at hQ
    obtain ⟨s, rfl⟩ : ∃ k : Nat, s = k := ⟨s.toNat, by omega⟩
    rw [show ((s : Int)).toNat = s from rfl] at hQ
    refine zW.gb [] rfl rfl rfl (by omega) (by simp (disch := omega) only [true_or, or_true, eq_self, Option.some.injEq, Prod.mk.injEq, zall_0, zall_1, zall_2, zob_iff, zar_iff, zis_iff, zkIs_some, zkHas_some, iI_vp, z01_I, z01_bz, zch_I, true_and, and_true, or_false, false_or, and_self, upI_same, upL_same, upI_ne, upL_ne, iI_ixN, zI_mk, zL_mk, zP_mk, zK_mk, zN_mk, zwI_up, zwL_up, zg_some, Nat.reduceMod, Nat.reduceDiv, zcn_I, iI_add, iI_sub, iI_mul, iI_neg, iI_lt, iI_le, iI_eq, iI_lt0, iI_le0, iI_gt0, iI_ge0, iI_eq0, c1] <;> omega) (fun h3 => ?_) (fun h3 => ?_)
    · simp (disch := omega) only [zcn_I, iI_add, iI_sub, iI_mul, iI_neg, iI_lt, iI_le, iI_eq, iI_lt0, iI_le0, iI_gt0, iI_ge0, iI_eq0, upI_same, upL_same, upI_ne, upL_ne, iI_ixN, zI_mk, zL_mk, zP_mk, zK_mk, zN_mk, zwI_up, zwL_up, zg_some, Nat.reduceMod, Nat.reduceDiv, c5] at h3
      rw [if_neg (by omega)] at hQ
      have hta : ¬ (pb i ≤ x + 1 ∧ x + 1 < pb i + 24) := by
        have := (hf.2.2.1.2.2.1 i hp).1
        have := hf.2.2.1.1
        omega
      refine zW.gz [] rfl rfl rfl (by omega) (by simp (disch := omega) only [true_or, or_true, eq_self, Option.some.injEq, Prod.mk.injEq, zall_0, zall_1, zall_2, zob_iff, zar_iff, zis_iff, zkIs_some, zkHas_some, iI_vp, z01_I, z01_bz, zch_I, true_and, and_true, or_false, false_or, and_self, upI_same, upL_same, upI_ne, upL_ne, iI_ixN, zI_mk, zL_mk, zP_mk, zK_mk, zN_mk, zwI_up, zwL_up, zg_some, Nat.reduceMod, Nat.reduceDiv, zcn_I, iI_add, iI_sub, iI_mul, iI_neg, iI_lt, iI_le, iI_eq, iI_lt0, iI_le0, iI_gt0, iI_ge0, iI_eq0, k0] <;> omega) ⟨_, rfl, c1⟩ (by decide +kernel) (by decide +kernel) (by omega) (by omega) ?_
      simp (disch := omega) only [upI_same, upL_same, upI_ne, upL_ne, iI_ixN, zI_mk, zL_mk, zP_mk, zK_mk, zN_mk, zwI_up, zwL_up, zg_some, Nat.reduceMod, Nat.reduceDiv, zcn_I, iI_add, iI_sub, iI_mul, iI_neg, iI_lt, iI_le, iI_eq, iI_lt0, iI_le0, iI_gt0, iI_ge0, iI_eq0, p0, a1]
      refine addRing_ok (cnt := (tTy T).length) (step := s) (pl := nth (tTy T)) (by omega) hL hz hR (by omega) hta kr (fun k hk => a2 k hk) rfl rfl h8 (by omega) (by omega) (by omega) hall (fun u v hu hv e => ?_) (fun I' L' f hz' hR' => ?_)
      · rcases Nat.lt_trichotomy u v with q | q | q
        · exact absurd e (hf.1.1.2.2 u v q hv)
        · exact q
        · exact absurd e.symm (hf.1.1.2.2 v u q hu)
      obtain ⟨q1, q2⟩ := tf_rng (s := s) hf hp f hz' hR'
      have w4 : I' (pb i) 4 = iI ((pzR (tPz T i) + 1 : Nat) : Int) := hR'.2.1
      have hxp : pb i ≠ x := by
        have := (hf.2.2.1.2.2.1 i hp).1
        have := hf.2.2.1.1
        omega
      refine zW.gr [] rfl rfl rfl (by omega) (by simp (disch := omega) only [true_or, or_true, eq_self, Option.some.injEq, Prod.mk.injEq, zall_0, zall_1, zall_2, zob_iff, zar_iff, zis_iff, zkIs_some, zkHas_some, iI_vp, z01_I, z01_bz, zch_I, true_and, and_true, or_false, false_or, and_self, upI_same, upL_same, upI_ne, upL_ne, iI_ixN, zI_mk, zL_mk, zP_mk, zK_mk, zN_mk, zwI_up, zwL_up, zg_some, Nat.reduceMod, Nat.reduceDiv, zcn_I, iI_add, iI_sub, iI_mul, iI_neg, iI_lt, iI_le, iI_eq, iI_lt0, iI_le0, iI_gt0, iI_ge0, iI_eq0, k0, c1] <;> omega) trivial ?_
      simp (disch := omega) only [upI_same, upL_same, upI_ne, upL_ne, iI_ixN, zI_mk, zL_mk, zP_mk, zK_mk, zN_mk, zwI_up, zwL_up, zg_some, Nat.reduceMod, Nat.reduceDiv, zcn_I, w4]
      exact tP_0 hQ rfl ⟨_, _, q1⟩ q2
    · simp (disch := omega) only [zcn_I, iI_add, iI_sub, iI_mul, iI_neg, iI_lt, iI_le, iI_eq, iI_lt0, iI_le0, iI_gt0, iI_ge0, iI_eq0, upI_same, upL_same, upI_ne, upL_ne, iI_ixN, zI_mk, zL_mk, zP_mk, zK_mk, zN_mk, zwI_up, zwL_up, zg_some, Nat.reduceMod, Nat.reduceDiv, c5] at h3
      rw [if_pos (by omega)] at hQ
      refine zW.gt [] rfl rfl rfl (by decide +kernel) (by omega) trivial (by omega) (by omega) rfl (fun N hN => ?_)
      exact tP_t hQ hT rfl hN
  · simp (disch := omega) only [zcn_I, iI_add, iI_sub, iI_mul, iI_neg, iI_lt, iI_le, iI_eq, iI_lt0, iI_le0, iI_gt0, iI_ge0, iI_eq0, upI_same, upL_same, upI_ne, upL_ne, iI_ixN, zI_mk, zL_mk, zP_mk, zK_mk, zN_mk, zwI_up, zwL_up, zg_some, Nat.reduceMod, Nat.reduceDiv, a1] at h'
    refine zW.gt [] rfl rfl rfl (by decide +kernel) (by omega) trivial (by decide +kernel) (by decide +kernel) rfl (fun N hN => ?_)
    exact tP_t hQ hT (if_neg (fun q => by have := (dc_t.mp q).1; omega)) hN
end TRNG
