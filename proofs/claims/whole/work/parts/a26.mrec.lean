/-! The model's records. -/
def recP (T : tfT) (j c : Nat) (pp : Int) (k i : Nat) : Prop := mkRc (tRd T k) ∧ tRg T i = tRg T c ∧ figN (tRd T k) i pp ≠ 0 ∧ ((rDy (tRd T k) < rDy (tRd T j) ∧ figN (tRd T k) i pp ≤ figN (tRd T j) c pp) ∨ (rDy (tRd T k) = rDy (tRd T j) ∧ figN (tRd T k) i pp < figN (tRd T j) c pp))
theorem agst_iff {T : tfT} {j c k : Nat} {pp : Int} : agst T j c pp k ↔ ∃ i, i < tCn T ∧ recP T j c pp k i := by
  unfold agst recP btr barr
  constructor
  · rintro ⟨h1, h2, i, h3, h4, h5, h6⟩
    refine ⟨i, h3, h1, h4, h5, ?_⟩
    split at h6
    · exact Or.inl ⟨by omega, by omega⟩
    · exact Or.inr ⟨by omega, by omega⟩
  · rintro ⟨i, h3, h1, h4, h5, h6⟩
    refine ⟨h1, by omega, i, h3, h4, h5, ?_⟩
    split <;> omega
section MREC
variable {d y : Nat} {T : tfT} {I : Nat → Nat → Int32} {L : Nat → Nat → Int64} {R : zRt} {Q : zO → zM → Prop}
theorem mRec_in {j c k : Nat} {pp : Int} {B : Prop} {x4 : Int32} (hd : 3 ≤ d) (h : mf y T (I, L, R)) (hj : j < tRn T) (hc : c < tCn T) (hk : k < tRn T) (hpp : i32 pp)
    (next : ∀ (x6 x8 : Int32) (v9 v10 v11 : Option zV), tru (B ∧ ∀ m, m < tCn T → ¬ recP T j c pp k m) x6 → zW 245 d 0 0 275 [some (zr (some y)), some (zi (iI (j : Int))), some (zi (iI (c : Int))), some (zi (iI pp)), some (zi x4), some (zi (iI (figN (tRd T j) c pp : Int))), some (zi x6), some (zi (iI (k : Int))), some (zi x8), v9, v10, v11] [] (I, L, R) Q) :
    ∀ n i, i + n = tCn T → ∀ (x6 x8 : Int32) (v9 v10 v11 : Option zV), tru (B ∧ ∀ m, m < i → ¬ recP T j c pp k m) x6 → x8 = iI (i : Int) → zW 245 d 0 0 94 [some (zr (some y)), some (zi (iI (j : Int))), some (zi (iI (c : Int))), some (zi (iI pp)), some (zi x4), some (zi (iI (figN (tRd T j) c pp : Int))), some (zi x6), some (zi (iI (k : Int))), some (zi x8), v9, v10, v11] [] (I, L, R) Q
  | 0, i, hin, x6, x8, v9, v10, v11, e6, e8 => by
    subst e8
    have k0 : R.2.1 y = some (7, 0) := h.2.1.1
    obtain ⟨-, -, ⟨b1, b2⟩, -⟩ := m_own h
    have h12 := h.1.2.2.2.1.1
    obtain rfl : i = tCn T := by omega
    exact zW.gbt [] rfl rfl rfl (by omega) (by simp (disch := omega) only [true_or, or_true, eq_self, Option.some.injEq, Prod.mk.injEq, zall_0, zall_1, zall_2, zob_iff, zar_iff, zis_iff, zkIs_some, zkHas_some, iI_vp, z01_I, z01_bz, zch_I, true_and, and_true, or_false, false_or, and_self, upI_same, upL_same, upI_ne, upL_ne, iI_ixN, zI_mk, zL_mk, zP_mk, zK_mk, zN_mk, zwI_up, zwL_up, zg_some, Nat.reduceMod, Nat.reduceDiv, zcn_I, iI_add, iI_sub, iI_mul, iI_neg, iI_lt, iI_le, iI_eq, iI_lt0, iI_le0, iI_gt0, iI_ge0, iI_eq0, k0] <;> omega) (by simp (disch := omega) only [eq_self, not_true_eq_false, not_false_eq_true, upI_same, upL_same, upI_ne, upL_ne, iI_ixN, zI_mk, zL_mk, zP_mk, zK_mk, zN_mk, zwI_up, zwL_up, zg_some, Nat.reduceMod, Nat.reduceDiv, zcn_I, iI_add, iI_sub, iI_mul, iI_neg, iI_lt, iI_le, iI_eq, iI_lt0, iI_le0, iI_gt0, iI_ge0, iI_eq0, b1] <;> omega) (next _ _ _ _ _ e6)
  | n + 1, i, hin, x6, x8, v9, v10, v11, e6, e8 => by
    subst e8
    have hM := h.2.1
    have k0 : R.2.1 y = some (7, 0) := hM.1
    obtain ⟨-, -, ⟨b1, b2⟩, -⟩ := m_own h
    have h12 := h.1.2.2.2.1.1
    have h5 := h.1.2.2.2.1.2 i (by omega)
    have h5c := h.1.2.2.2.1.2 c (by omega)
    obtain ⟨j8, ho, hz, r1, r2, r3, r4, r5, r6, r7⟩ := m_rd h hj
    obtain ⟨k8, ho', hz', s1, s2, s3, s4, s5, s6, s7⟩ := m_rd h hk
    have hfm := fm_lt ho'
    have v1 := b2 i (by omega)
    have v2 := b2 c hc
    have o1 := ho.2.2.2.1
    have o2 := ho'.2.2.2.1
    have g1 := figN_le (pp := pp) ho (show c < 12 by omega)
    have g2 := figN_le (pp := pp) ho' (show i < 12 by omega)
    obtain ⟨hp1, hp2⟩ := hpp
    have p24 : R.1 y 24 = some (y + 1789) := (hM.2.1 24 (by decide)).1; have k24 : R.2.1 (y + 1789) = some (22, 8) := (hM.2.1 24 (by decide)).2; have p25 : R.1 y 25 = some (y + 1790) := (hM.2.1 25 (by decide)).1; have k25 : R.2.1 (y + 1790) = some (22, 8) := (hM.2.1 25 (by decide)).2; have p20 : R.1 y 20 = some (y + 1785) := (hM.2.1 20 (by decide)).1; have k20 : R.2.1 (y + 1785) = some (23, 8) := (hM.2.1 20 (by decide)).2; have p19 : R.1 y 19 = some (y + 1784) := (hM.2.1 19 (by decide)).1; have k19 : R.2.1 (y + 1784) = some (20, 12) := (hM.2.1 19 (by decide)).2; have p23 : R.1 y 23 = some (y + 1788) := (hM.2.1 23 (by decide)).1; have k23 : R.2.1 (y + 1788) = some (20, 8) := (hM.2.1 23 (by decide)).2
    have W : ∀ (q x9 x10 x11 : Int32), tru (¬ recP T j c pp k i) q → zW 245 d 0 0 266 [some (zr (some y)), some (zi (iI (j : Int))), some (zi (iI (c : Int))), some (zi (iI pp)), some (zi x4), some (zi (iI (figN (tRd T j) c pp : Int))), some (zi x6), some (zi (iI (k : Int))), some (zi (iI (i : Int))), some (zi x9), some (zi x10), some (zi x11)] [zi q, zi x6] (I, L, R) Q := fun q x9 x10 x11 hq => by
      refine zW.go [94] rfl (by omega) trivial ?_
      refine mRec_in hd h hj hc hk ⟨hp1, hp2⟩ next n (i + 1) (by omega) _ _ _ _ _ (tru_cg ?_ (tru_and e6 hq)) (by rw [zcn_I, iI_add]; rfl)
      exact ⟨fun ⟨⟨q1, q2⟩, q3⟩ => ⟨q1, all_s.mp ⟨q2, q3⟩⟩, fun ⟨q1, q2⟩ => ⟨⟨q1, (all_s.mpr q2).1⟩, (all_s.mpr q2).2⟩⟩
    refine zW.gbf [] rfl rfl rfl (by omega) (by simp (disch := omega) only [true_or, or_true, eq_self, Option.some.injEq, Prod.mk.injEq, zall_0, zall_1, zall_2, zob_iff, zar_iff, zis_iff, zkIs_some, zkHas_some, iI_vp, z01_I, z01_bz, zch_I, true_and, and_true, or_false, false_or, and_self, upI_same, upL_same, upI_ne, upL_ne, iI_ixN, zI_mk, zL_mk, zP_mk, zK_mk, zN_mk, zwI_up, zwL_up, zg_some, Nat.reduceMod, Nat.reduceDiv, zcn_I, iI_add, iI_sub, iI_mul, iI_neg, iI_lt, iI_le, iI_eq, iI_lt0, iI_le0, iI_gt0, iI_ge0, iI_eq0, k0] <;> omega) (by simp (disch := omega) only [eq_self, not_true_eq_false, not_false_eq_true, upI_same, upL_same, upI_ne, upL_ne, iI_ixN, zI_mk, zL_mk, zP_mk, zK_mk, zN_mk, zwI_up, zwL_up, zg_some, Nat.reduceMod, Nat.reduceDiv, zcn_I, iI_add, iI_sub, iI_mul, iI_neg, iI_lt, iI_le, iI_eq, iI_lt0, iI_le0, iI_gt0, iI_ge0, iI_eq0, b1] <;> omega) ?_
    -- the one is of a record's round and of the region
    have A : ∀ q, tru (mkRc (tRd T k) ∧ tRg T i = tRg T c) q → zW 245 d 0 0 156 [some (zr (some y)), some (zi (iI (j : Int))), some (zi (iI (c : Int))), some (zi (iI pp)), some (zi x4), some (zi (iI (figN (tRd T j) c pp : Int))), some (zi x6), some (zi (iI (k : Int))), some (zi (iI (i : Int))), v9, v10, v11] [zi q] (I, L, R) Q := fun q hq => by
      have V : ∀ q11, tru ((rDy (tRd T k) < rDy (tRd T j) ∧ figN (tRd T k) i pp ≤ figN (tRd T j) c pp) ∨ (rDy (tRd T k) = rDy (tRd T j) ∧ figN (tRd T k) i pp < figN (tRd T j) c pp)) q11 → zW 245 d 0 0 242 [some (zr (some y)), some (zi (iI (j : Int))), some (zi (iI (c : Int))), some (zi (iI pp)), some (zi x4), some (zi (iI (figN (tRd T j) c pp : Int))), some (zi x6), some (zi (iI (k : Int))), some (zi (iI (i : Int))), some (zi q), some (zi (iI (figN (tRd T k) i pp : Int))), v11] [zi q11] (I, L, R) Q := fun q11 h11 => by
        rcases hq with ⟨a1, rfl⟩ | ⟨a1, rfl⟩
        · refine zW.gbf [] rfl rfl rfl (by omega) trivial (by simp (disch := omega) only [eq_self, not_true_eq_false, not_false_eq_true, upI_same, upL_same, upI_ne, upL_ne, iI_ixN, zI_mk, zL_mk, zP_mk, zK_mk, zN_mk, zwI_up, zwL_up, zg_some, Nat.reduceMod, Nat.reduceDiv, zcn_I, iI_add, iI_sub, iI_mul, iI_neg, iI_lt, iI_le, iI_eq, iI_lt0, iI_le0, iI_gt0, iI_ge0, iI_eq0] <;> omega) ?_
          refine zW.gb [] rfl rfl rfl (by omega) trivial (fun h' => ?_) (fun h' => ?_) <;> simp (disch := omega) only [zcn_I, iI_add, iI_sub, iI_mul, iI_neg, iI_lt, iI_le, iI_eq, iI_lt0, iI_le0, iI_gt0, iI_ge0, iI_eq0] at h'
          · exact zW.go [266] rfl (by omega) trivial (W _ _ _ _ (tru_t (fun q => by have := q.2.2.1; omega)))
          · rcases h11 with ⟨a2, rfl⟩ | ⟨a2, rfl⟩
            · refine zW.gbt [] rfl rfl rfl (by omega) trivial (by simp (disch := omega) only [eq_self, not_true_eq_false, not_false_eq_true, upI_same, upL_same, upI_ne, upL_ne, iI_ixN, zI_mk, zL_mk, zP_mk, zK_mk, zN_mk, zwI_up, zwL_up, zg_some, Nat.reduceMod, Nat.reduceDiv, zcn_I, iI_add, iI_sub, iI_mul, iI_neg, iI_lt, iI_le, iI_eq, iI_lt0, iI_le0, iI_gt0, iI_ge0, iI_eq0] <;> omega) ?_
              exact zW.go [266] rfl (by omega) trivial (W _ _ _ _ (tru_f (fun q => q ⟨a1.1, a1.2, by omega, a2⟩)))
            · refine zW.gbf [] rfl rfl rfl (by omega) trivial (by simp (disch := omega) only [eq_self, not_true_eq_false, not_false_eq_true, upI_same, upL_same, upI_ne, upL_ne, iI_ixN, zI_mk, zL_mk, zP_mk, zK_mk, zN_mk, zwI_up, zwL_up, zg_some, Nat.reduceMod, Nat.reduceDiv, zcn_I, iI_add, iI_sub, iI_mul, iI_neg, iI_lt, iI_le, iI_eq, iI_lt0, iI_le0, iI_gt0, iI_ge0, iI_eq0] <;> omega) ?_
              exact zW.go [266] rfl (by omega) trivial (W _ _ _ _ (tru_t (fun q => a2 q.2.2.2)))
        · refine zW.gbt [] rfl rfl rfl (by omega) trivial (by simp (disch := omega) only [eq_self, not_true_eq_false, not_false_eq_true, upI_same, upL_same, upI_ne, upL_ne, iI_ixN, zI_mk, zL_mk, zP_mk, zK_mk, zN_mk, zwI_up, zwL_up, zg_some, Nat.reduceMod, Nat.reduceDiv, zcn_I, iI_add, iI_sub, iI_mul, iI_neg, iI_lt, iI_le, iI_eq, iI_lt0, iI_le0, iI_gt0, iI_ge0, iI_eq0] <;> omega) ?_
          exact zW.go [266] rfl (by omega) trivial (W _ _ _ _ (tru_t (fun q => a1 ⟨q.1, q.2.1⟩)))
      have U : zW 245 d 0 0 181 [some (zr (some y)), some (zi (iI (j : Int))), some (zi (iI (c : Int))), some (zi (iI pp)), some (zi x4), some (zi (iI (figN (tRd T j) c pp : Int))), some (zi x6), some (zi (iI (k : Int))), some (zi (iI (i : Int))), some (zi q), v10, v11] [zi (iI (figN (tRd T k) i pp : Int))] (I, L, R) Q := by
        refine zW.gb [] rfl rfl rfl (by omega) (by simp (disch := omega) only [true_or, or_true, eq_self, Option.some.injEq, Prod.mk.injEq, zall_0, zall_1, zall_2, zob_iff, zar_iff, zis_iff, zkIs_some, zkHas_some, iI_vp, z01_I, z01_bz, zch_I, true_and, and_true, or_false, false_or, and_self, upI_same, upL_same, upI_ne, upL_ne, iI_ixN, zI_mk, zL_mk, zP_mk, zK_mk, zN_mk, zwI_up, zwL_up, zg_some, Nat.reduceMod, Nat.reduceDiv, zcn_I, iI_add, iI_sub, iI_mul, iI_neg, iI_lt, iI_le, iI_eq, iI_lt0, iI_le0, iI_gt0, iI_ge0, iI_eq0, k0, p23, k23] <;> omega) (fun h' => ?_) (fun h' => ?_) <;> simp (disch := omega) only [zcn_I, iI_add, iI_sub, iI_mul, iI_neg, iI_lt, iI_le, iI_eq, iI_lt0, iI_le0, iI_gt0, iI_ge0, iI_eq0, upI_same, upL_same, upI_ne, upL_ne, iI_ixN, zI_mk, zL_mk, zP_mk, zK_mk, zN_mk, zwI_up, zwL_up, zg_some, Nat.reduceMod, Nat.reduceDiv, p23, r4, s4] at h'
        · refine zW.gb [] rfl rfl rfl (by omega) (by simp (disch := omega) only [true_or, or_true, eq_self, Option.some.injEq, Prod.mk.injEq, zall_0, zall_1, zall_2, zob_iff, zar_iff, zis_iff, zkIs_some, zkHas_some, iI_vp, z01_I, z01_bz, zch_I, true_and, and_true, or_false, false_or, and_self, upI_same, upL_same, upI_ne, upL_ne, iI_ixN, zI_mk, zL_mk, zP_mk, zK_mk, zN_mk, zwI_up, zwL_up, zg_some, Nat.reduceMod, Nat.reduceDiv, zcn_I, iI_add, iI_sub, iI_mul, iI_neg, iI_lt, iI_le, iI_eq, iI_lt0, iI_le0, iI_gt0, iI_ge0, iI_eq0, k0, p23, k23] <;> omega) (fun h2 => ?_) (fun h2 => ?_) <;> simp (disch := omega) only [zcn_I, iI_add, iI_sub, iI_mul, iI_neg, iI_lt, iI_le, iI_eq, iI_lt0, iI_le0, iI_gt0, iI_ge0, iI_eq0, upI_same, upL_same, upI_ne, upL_ne, iI_ixN, zI_mk, zL_mk, zP_mk, zK_mk, zN_mk, zwI_up, zwL_up, zg_some, Nat.reduceMod, Nat.reduceDiv, p23, r4, s4] at h2
          · exact zW.go [242] rfl (by omega) trivial (V _ (tru_f (by omega)))
          · refine zW.gb [] rfl rfl rfl (by omega) trivial (fun h3 => ?_) (fun h3 => ?_) <;> simp (disch := omega) only [zcn_I, iI_add, iI_sub, iI_mul, iI_neg, iI_lt, iI_le, iI_eq, iI_lt0, iI_le0, iI_gt0, iI_ge0, iI_eq0] at h3
            · exact zW.go [242] rfl (by omega) trivial (V _ (tru_f (by omega)))
            · exact zW.go [242] rfl (by omega) trivial (V _ (tru_t (by omega)))
        · refine zW.gb [] rfl rfl rfl (by omega) trivial (fun h3 => ?_) (fun h3 => ?_) <;> simp (disch := omega) only [zcn_I, iI_add, iI_sub, iI_mul, iI_neg, iI_lt, iI_le, iI_eq, iI_lt0, iI_le0, iI_gt0, iI_ge0, iI_eq0] at h3
          · exact zW.go [242] rfl (by omega) trivial (V _ (tru_f (by omega)))
          · exact zW.go [242] rfl (by omega) trivial (V _ (tru_t (by omega)))
      by_cases c0 : pp = 0
      · subst c0
        have ef : figN (tRd T k) i 0 = rBs (tRd T k) i := if_neg (fun n => n rfl)
        rw [ef] at U
        refine zW.gbt [] rfl rfl rfl (by omega) trivial (by simp (disch := omega) only [eq_self, not_true_eq_false, not_false_eq_true, upI_same, upL_same, upI_ne, upL_ne, iI_ixN, zI_mk, zL_mk, zP_mk, zK_mk, zN_mk, zwI_up, zwL_up, zg_some, Nat.reduceMod, Nat.reduceDiv, zcn_I, iI_add, iI_sub, iI_mul, iI_neg, iI_lt, iI_le, iI_eq, iI_lt0, iI_le0, iI_gt0, iI_ge0, iI_eq0] <;> omega) ?_
        refine zW.gz [] rfl rfl rfl (by omega) trivial ⟨_, rfl, k0⟩ rfl rfl (by decide +kernel) (by decide +kernel) ?_
        refine mBest_ok (by omega) h hk rfl rfl (by omega) ?_
        exact U
      · have ef : figN (tRd T k) i pp = rAv (tRd T k) i := if_pos c0
        rw [ef] at U
        refine zW.gbf [] rfl rfl rfl (by omega) trivial (by simp (disch := omega) only [eq_self, not_true_eq_false, not_false_eq_true, upI_same, upL_same, upI_ne, upL_ne, iI_ixN, zI_mk, zL_mk, zP_mk, zK_mk, zN_mk, zwI_up, zwL_up, zg_some, Nat.reduceMod, Nat.reduceDiv, zcn_I, iI_add, iI_sub, iI_mul, iI_neg, iI_lt, iI_le, iI_eq, iI_lt0, iI_le0, iI_gt0, iI_ge0, iI_eq0] <;> omega) ?_
        refine zW.gz [] rfl rfl rfl (by omega) trivial ⟨_, rfl, k0⟩ rfl rfl (by decide +kernel) (by decide +kernel) ?_
        refine mAvg_ok (by omega) h hk rfl rfl (by omega) ?_
        exact zW.go [181] rfl (by omega) trivial U
    have NO : ¬ (mkRc (tRd T k) ∧ tRg T i = tRg T c) → zW 245 d 0 0 155 [some (zr (some y)), some (zi (iI (j : Int))), some (zi (iI (c : Int))), some (zi (iI pp)), some (zi x4), some (zi (iI (figN (tRd T j) c pp : Int))), some (zi x6), some (zi (iI (k : Int))), some (zi (iI (i : Int))), v9, v10, v11] [] (I, L, R) Q := fun hn => zW.go [156] rfl (by omega) trivial (A _ (tru_f hn))
    cases hcl : rCl (tRd T k) with
    | false =>
      rw [hcl] at s5
      refine zW.gbt [] rfl rfl rfl (by omega) (by simp (disch := omega) only [true_or, or_true, eq_self, Option.some.injEq, Prod.mk.injEq, zall_0, zall_1, zall_2, zob_iff, zar_iff, zis_iff, zkIs_some, zkHas_some, iI_vp, z01_I, z01_bz, zch_I, true_and, and_true, or_false, false_or, and_self, upI_same, upL_same, upI_ne, upL_ne, iI_ixN, zI_mk, zL_mk, zP_mk, zK_mk, zN_mk, zwI_up, zwL_up, zg_some, Nat.reduceMod, Nat.reduceDiv, zcn_I, iI_add, iI_sub, iI_mul, iI_neg, iI_lt, iI_le, iI_eq, iI_lt0, iI_le0, iI_gt0, iI_ge0, iI_eq0, k0, p24, k24] <;> omega) (by simp (disch := omega) only [eq_self, not_true_eq_false, not_false_eq_true, upI_same, upL_same, upI_ne, upL_ne, iI_ixN, zI_mk, zL_mk, zP_mk, zK_mk, zN_mk, zwI_up, zwL_up, zg_some, Nat.reduceMod, Nat.reduceDiv, zcn_I, iI_add, iI_sub, iI_mul, iI_neg, iI_lt, iI_le, iI_eq, iI_lt0, iI_le0, iI_gt0, iI_ge0, iI_eq0, p24, s5, bz_f] <;> omega) ?_
      exact NO (fun q => by have := q.1.2.1; rw [hcl] at this; cases this)
    | true =>
      rw [hcl] at s5
      refine zW.gbf [] rfl rfl rfl (by omega) (by simp (disch := omega) only [true_or, or_true, eq_self, Option.some.injEq, Prod.mk.injEq, zall_0, zall_1, zall_2, zob_iff, zar_iff, zis_iff, zkIs_some, zkHas_some, iI_vp, z01_I, z01_bz, zch_I, true_and, and_true, or_false, false_or, and_self, upI_same, upL_same, upI_ne, upL_ne, iI_ixN, zI_mk, zL_mk, zP_mk, zK_mk, zN_mk, zwI_up, zwL_up, zg_some, Nat.reduceMod, Nat.reduceDiv, zcn_I, iI_add, iI_sub, iI_mul, iI_neg, iI_lt, iI_le, iI_eq, iI_lt0, iI_le0, iI_gt0, iI_ge0, iI_eq0, k0, p24, k24] <;> omega) (by simp (disch := omega) only [eq_self, not_true_eq_false, not_false_eq_true, upI_same, upL_same, upI_ne, upL_ne, iI_ixN, zI_mk, zL_mk, zP_mk, zK_mk, zN_mk, zwI_up, zwL_up, zg_some, Nat.reduceMod, Nat.reduceDiv, zcn_I, iI_add, iI_sub, iI_mul, iI_neg, iI_lt, iI_le, iI_eq, iI_lt0, iI_le0, iI_gt0, iI_ge0, iI_eq0, p24, s5, bz_t] <;> omega) ?_
      cases hud : rUd (tRd T k) with
      | true =>
        rw [hud] at s6
        refine zW.gbt [] rfl rfl rfl (by omega) (by simp (disch := omega) only [true_or, or_true, eq_self, Option.some.injEq, Prod.mk.injEq, zall_0, zall_1, zall_2, zob_iff, zar_iff, zis_iff, zkIs_some, zkHas_some, iI_vp, z01_I, z01_bz, zch_I, true_and, and_true, or_false, false_or, and_self, upI_same, upL_same, upI_ne, upL_ne, iI_ixN, zI_mk, zL_mk, zP_mk, zK_mk, zN_mk, zwI_up, zwL_up, zg_some, Nat.reduceMod, Nat.reduceDiv, zcn_I, iI_add, iI_sub, iI_mul, iI_neg, iI_lt, iI_le, iI_eq, iI_lt0, iI_le0, iI_gt0, iI_ge0, iI_eq0, k0, p25, k25] <;> omega) (by simp (disch := omega) only [eq_self, not_true_eq_false, not_false_eq_true, upI_same, upL_same, upI_ne, upL_ne, iI_ixN, zI_mk, zL_mk, zP_mk, zK_mk, zN_mk, zwI_up, zwL_up, zg_some, Nat.reduceMod, Nat.reduceDiv, zcn_I, iI_add, iI_sub, iI_mul, iI_neg, iI_lt, iI_le, iI_eq, iI_lt0, iI_le0, iI_gt0, iI_ge0, iI_eq0, p25, s6, bz_t] <;> omega) ?_
        exact NO (fun q => by have := q.1.2.2; rw [hud] at this; cases this)
      | false =>
        rw [hud] at s6
        refine zW.gbf [] rfl rfl rfl (by omega) (by simp (disch := omega) only [true_or, or_true, eq_self, Option.some.injEq, Prod.mk.injEq, zall_0, zall_1, zall_2, zob_iff, zar_iff, zis_iff, zkIs_some, zkHas_some, iI_vp, z01_I, z01_bz, zch_I, true_and, and_true, or_false, false_or, and_self, upI_same, upL_same, upI_ne, upL_ne, iI_ixN, zI_mk, zL_mk, zP_mk, zK_mk, zN_mk, zwI_up, zwL_up, zg_some, Nat.reduceMod, Nat.reduceDiv, zcn_I, iI_add, iI_sub, iI_mul, iI_neg, iI_lt, iI_le, iI_eq, iI_lt0, iI_le0, iI_gt0, iI_ge0, iI_eq0, k0, p25, k25] <;> omega) (by simp (disch := omega) only [eq_self, not_true_eq_false, not_false_eq_true, upI_same, upL_same, upI_ne, upL_ne, iI_ixN, zI_mk, zL_mk, zP_mk, zK_mk, zN_mk, zwI_up, zwL_up, zg_some, Nat.reduceMod, Nat.reduceDiv, zcn_I, iI_add, iI_sub, iI_mul, iI_neg, iI_lt, iI_le, iI_eq, iI_lt0, iI_le0, iI_gt0, iI_ge0, iI_eq0, p25, s6, bz_f] <;> omega) ?_
        refine zW.gb [] rfl rfl rfl (by omega) (by simp (disch := omega) only [true_or, or_true, eq_self, Option.some.injEq, Prod.mk.injEq, zall_0, zall_1, zall_2, zob_iff, zar_iff, zis_iff, zkIs_some, zkHas_some, iI_vp, z01_I, z01_bz, zch_I, true_and, and_true, or_false, false_or, and_self, upI_same, upL_same, upI_ne, upL_ne, iI_ixN, zI_mk, zL_mk, zP_mk, zK_mk, zN_mk, zwI_up, zwL_up, zg_some, Nat.reduceMod, Nat.reduceDiv, zcn_I, iI_add, iI_sub, iI_mul, iI_neg, iI_lt, iI_le, iI_eq, iI_lt0, iI_le0, iI_gt0, iI_ge0, iI_eq0, k0, p20, k20] <;> omega) (fun h' => ?_) (fun h' => ?_) <;> simp (disch := omega) only [zcn_I, iI_add, iI_sub, iI_mul, iI_neg, iI_lt, iI_le, iI_eq, iI_lt0, iI_le0, iI_gt0, iI_ge0, iI_eq0, upI_same, upL_same, upI_ne, upL_ne, iI_ixN, zI_mk, zL_mk, zP_mk, zK_mk, zN_mk, zwI_up, zwL_up, zg_some, Nat.reduceMod, Nat.reduceDiv, p20, s1] at h'
        · exact NO (fun q => by have := q.1.1; omega)
        · refine zW.gb [] rfl rfl rfl (by omega) (by simp (disch := omega) only [true_or, or_true, eq_self, Option.some.injEq, Prod.mk.injEq, zall_0, zall_1, zall_2, zob_iff, zar_iff, zis_iff, zkIs_some, zkHas_some, iI_vp, z01_I, z01_bz, zch_I, true_and, and_true, or_false, false_or, and_self, upI_same, upL_same, upI_ne, upL_ne, iI_ixN, zI_mk, zL_mk, zP_mk, zK_mk, zN_mk, zwI_up, zwL_up, zg_some, Nat.reduceMod, Nat.reduceDiv, zcn_I, iI_add, iI_sub, iI_mul, iI_neg, iI_lt, iI_le, iI_eq, iI_lt0, iI_le0, iI_gt0, iI_ge0, iI_eq0, k0, p19, k19] <;> omega) (fun h2 => ?_) (fun h2 => ?_) <;> simp (disch := omega) only [zcn_I, iI_add, iI_sub, iI_mul, iI_neg, iI_lt, iI_le, iI_eq, iI_lt0, iI_le0, iI_gt0, iI_ge0, iI_eq0, upI_same, upL_same, upI_ne, upL_ne, iI_ixN, zI_mk, zL_mk, zP_mk, zK_mk, zN_mk, zwI_up, zwL_up, zg_some, Nat.reduceMod, Nat.reduceDiv, p19, v1, v2] at h2
          · exact NO (fun q => by have := q.2; omega)
          · exact zW.go [156] rfl (by omega) trivial (A _ (tru_t ⟨⟨by omega, hcl, hud⟩, by omega⟩))
theorem mRec_lp {j c : Nat} {pp : Int} {x4 : Int32} (hd : 3 ≤ d) (h : mf y T (I, L, R)) (hj : j < tRn T) (hc : c < tCn T) (hpp : i32 pp) (hQ : ∀ q, tru (hRec T j c pp) q → Q (.inl (some (zi q))) (I, L, R)) :
    ∀ n k, k + n = tRn T → ∀ (x6 x7 : Int32) (v8 v9 v10 v11 : Option zV), tru ((mkRc (tRd T j) ∧ figN (tRd T j) c pp ≠ 0) ∧ ∀ m, m < k → ¬ agst T j c pp m) x6 → x7 = iI (k : Int) → zW 245 d 0 0 77 [some (zr (some y)), some (zi (iI (j : Int))), some (zi (iI (c : Int))), some (zi (iI pp)), some (zi x4), some (zi (iI (figN (tRd T j) c pp : Int))), some (zi x6), some (zi x7), v8, v9, v10, v11] [] (I, L, R) Q
  | 0, k, hk, x6, x7, v8, v9, v10, v11, e6, e7 => by
    subst e7
    have k0 : R.2.1 y = some (7, 0) := h.2.1.1
    obtain ⟨b1, b8, -⟩ := m_rds h
    obtain rfl : k = tRn T := by omega
    refine zW.gbt [] rfl rfl rfl (by omega) (by simp (disch := omega) only [true_or, or_true, eq_self, Option.some.injEq, Prod.mk.injEq, zall_0, zall_1, zall_2, zob_iff, zar_iff, zis_iff, zkIs_some, zkHas_some, iI_vp, z01_I, z01_bz, zch_I, true_and, and_true, or_false, false_or, and_self, upI_same, upL_same, upI_ne, upL_ne, iI_ixN, zI_mk, zL_mk, zP_mk, zK_mk, zN_mk, zwI_up, zwL_up, zg_some, Nat.reduceMod, Nat.reduceDiv, zcn_I, iI_add, iI_sub, iI_mul, iI_neg, iI_lt, iI_le, iI_eq, iI_lt0, iI_le0, iI_gt0, iI_ge0, iI_eq0, k0] <;> omega) (by simp (disch := omega) only [eq_self, not_true_eq_false, not_false_eq_true, upI_same, upL_same, upI_ne, upL_ne, iI_ixN, zI_mk, zL_mk, zP_mk, zK_mk, zN_mk, zwI_up, zwL_up, zg_some, Nat.reduceMod, Nat.reduceDiv, zcn_I, iI_add, iI_sub, iI_mul, iI_neg, iI_lt, iI_le, iI_eq, iI_lt0, iI_le0, iI_gt0, iI_ge0, iI_eq0, b1] <;> omega) ?_
    refine zW.gr [] rfl rfl rfl (by omega) trivial (tru_01 e6) ?_
    exact hQ _ (tru_cg ⟨fun q => ⟨q.1.1, q.1.2, q.2⟩, fun q => ⟨⟨q.1, q.2.1⟩, q.2.2⟩⟩ e6)
  | n + 1, k, hk, x6, x7, v8, v9, v10, v11, e6, e7 => by
    subst e7
    have k0 : R.2.1 y = some (7, 0) := h.2.1.1
    obtain ⟨b1, b8, -⟩ := m_rds h
    refine zW.gbf [] rfl rfl rfl (by omega) (by simp (disch := omega) only [true_or, or_true, eq_self, Option.some.injEq, Prod.mk.injEq, zall_0, zall_1, zall_2, zob_iff, zar_iff, zis_iff, zkIs_some, zkHas_some, iI_vp, z01_I, z01_bz, zch_I, true_and, and_true, or_false, false_or, and_self, upI_same, upL_same, upI_ne, upL_ne, iI_ixN, zI_mk, zL_mk, zP_mk, zK_mk, zN_mk, zwI_up, zwL_up, zg_some, Nat.reduceMod, Nat.reduceDiv, zcn_I, iI_add, iI_sub, iI_mul, iI_neg, iI_lt, iI_le, iI_eq, iI_lt0, iI_le0, iI_gt0, iI_ge0, iI_eq0, k0] <;> omega) (by simp (disch := omega) only [eq_self, not_true_eq_false, not_false_eq_true, upI_same, upL_same, upI_ne, upL_ne, iI_ixN, zI_mk, zL_mk, zP_mk, zK_mk, zN_mk, zwI_up, zwL_up, zg_some, Nat.reduceMod, Nat.reduceDiv, zcn_I, iI_add, iI_sub, iI_mul, iI_neg, iI_lt, iI_le, iI_eq, iI_lt0, iI_le0, iI_gt0, iI_ge0, iI_eq0, b1] <;> omega) ?_
    have e6' := e6
    rcases e6 with ⟨g, rfl⟩ | ⟨g, rfl⟩
    · refine zW.gbf [] rfl rfl rfl (by omega) trivial (by simp (disch := omega) only [eq_self, not_true_eq_false, not_false_eq_true, upI_same, upL_same, upI_ne, upL_ne, iI_ixN, zI_mk, zL_mk, zP_mk, zK_mk, zN_mk, zwI_up, zwL_up, zg_some, Nat.reduceMod, Nat.reduceDiv, zcn_I, iI_add, iI_sub, iI_mul, iI_neg, iI_lt, iI_le, iI_eq, iI_lt0, iI_le0, iI_gt0, iI_ge0, iI_eq0] <;> omega) ?_
      refine zW.go [94] rfl (by omega) trivial ?_
      refine mRec_in (B := (mkRc (tRd T j) ∧ figN (tRd T j) c pp ≠ 0) ∧ ∀ m, m < k → ¬ agst T j c pp m) hd h hj hc (by omega) hpp (fun y6 y8 w9 w10 w11 hy => ?_) (tCn T) 0 (by omega) _ _ _ _ _ (tru_cg ⟨fun q => ⟨q, all_0⟩, fun q => q.1⟩ e6') (zcn_I _)
      refine zW.go [77] rfl (by omega) trivial ?_
      refine mRec_lp hd h hj hc hpp hQ n (k + 1) (by omega) _ _ _ _ _ _ (tru_cg ?_ hy) (by rw [zcn_I, iI_add]; rfl)
      have ea : (∀ m, m < tCn T → ¬ recP T j c pp k m) ↔ ¬ agst T j c pp k := ⟨fun q u => by
        obtain ⟨i, u1, u2⟩ := agst_iff.mp u
        exact q i u1 u2, fun q m hm u => q (agst_iff.mpr ⟨m, hm, u⟩)⟩
      rw [ea]
      exact ⟨fun ⟨⟨q1, q2⟩, q3⟩ => ⟨q1, all_s.mp ⟨q2, q3⟩⟩, fun ⟨q1, q2⟩ => ⟨⟨q1, (all_s.mpr q2).1⟩, (all_s.mpr q2).2⟩⟩
    · refine zW.gbt [] rfl rfl rfl (by omega) trivial (by simp (disch := omega) only [eq_self, not_true_eq_false, not_false_eq_true, upI_same, upL_same, upI_ne, upL_ne, iI_ixN, zI_mk, zL_mk, zP_mk, zK_mk, zN_mk, zwI_up, zwL_up, zg_some, Nat.reduceMod, Nat.reduceDiv, zcn_I, iI_add, iI_sub, iI_mul, iI_neg, iI_lt, iI_le, iI_eq, iI_lt0, iI_le0, iI_gt0, iI_ge0, iI_eq0] <;> omega) ?_
      refine zW.gr [] rfl rfl rfl (by omega) trivial (tru_01 e6') ?_
      exact hQ _ (tru_0 (fun q => g ⟨⟨q.1, q.2.1⟩, fun m hm => q.2.2 m (by omega)⟩))
theorem mRecN_ok {j c : Nat} {pp : Int} {a b e : Int32} (hd : 3 ≤ d) (h : mf y T (I, L, R)) (hj : j < tRn T) (hc : c < tCn T) (e1 : a = iI (j : Int)) (e2 : b = iI (c : Int)) (e3 : e = iI pp) (hpp : i32 pp) (hQ : ∀ q, tru (hRec T j c pp) q → Q (.inl (some (zi q))) (I, L, R)) : zS 245 d [zr (some y), zi a, zi b, zi e] (I, L, R) Q := by
  subst e1; subst e2; subst e3
  have hM := h.2.1
  have k0 : R.2.1 y = some (7, 0) := hM.1
  have h12 := h.1.2.2.2.1.1
  obtain ⟨j8, ho, hz, r1, r2, r3, r4, r5, r6, r7⟩ := m_rd h hj
  have hfm := fm_lt ho
  have g1 := figN_le (pp := pp) ho (show c < 12 by omega)
  have hpp' := hpp
  obtain ⟨hp1, hp2⟩ := hpp'
  have p24 : R.1 y 24 = some (y + 1789) := (hM.2.1 24 (by decide)).1; have k24 : R.2.1 (y + 1789) = some (22, 8) := (hM.2.1 24 (by decide)).2; have p25 : R.1 y 25 = some (y + 1790) := (hM.2.1 25 (by decide)).1; have k25 : R.2.1 (y + 1790) = some (22, 8) := (hM.2.1 25 (by decide)).2; have p20 : R.1 y 20 = some (y + 1785) := (hM.2.1 20 (by decide)).1; have k20 : R.2.1 (y + 1785) = some (23, 8) := (hM.2.1 20 (by decide)).2
  have A : ∀ q, tru (mkRc (tRd T j)) q → zW 245 d 0 0 34 [some (zr (some y)), some (zi (iI (j : Int))), some (zi (iI (c : Int))), some (zi (iI pp)), none, none, none, none, none, none, none, none] [zi q] (I, L, R) Q := fun q hq => by
    have E : ∀ x, tru (mkRc (tRd T j) ∧ figN (tRd T j) c pp ≠ 0) x → zW 245 d 0 0 72 [some (zr (some y)), some (zi (iI (j : Int))), some (zi (iI (c : Int))), some (zi (iI pp)), some (zi q), some (zi (iI (figN (tRd T j) c pp : Int))), none, none, none, none, none, none] [zi x] (I, L, R) Q := fun x hx => by
      refine zW.go [77] rfl (by omega) trivial ?_
      exact mRec_lp hd h hj hc hpp hQ (tRn T) 0 (by omega) _ _ _ _ _ _ (tru_cg ⟨fun q => ⟨q, all_0⟩, fun q => q.1⟩ hx) (zcn_I _)
    have U : zW 245 d 0 0 55 [some (zr (some y)), some (zi (iI (j : Int))), some (zi (iI (c : Int))), some (zi (iI pp)), some (zi q), none, none, none, none, none, none, none] [zi (iI (figN (tRd T j) c pp : Int))] (I, L, R) Q := by
      rcases hq with ⟨g, rfl⟩ | ⟨g, rfl⟩
      · refine zW.gbf [] rfl rfl rfl (by omega) trivial (by simp (disch := omega) only [eq_self, not_true_eq_false, not_false_eq_true, upI_same, upL_same, upI_ne, upL_ne, iI_ixN, zI_mk, zL_mk, zP_mk, zK_mk, zN_mk, zwI_up, zwL_up, zg_some, Nat.reduceMod, Nat.reduceDiv, zcn_I, iI_add, iI_sub, iI_mul, iI_neg, iI_lt, iI_le, iI_eq, iI_lt0, iI_le0, iI_gt0, iI_ge0, iI_eq0] <;> omega) ?_
        refine zW.gb [] rfl rfl rfl (by omega) trivial (fun h' => ?_) (fun h' => ?_) <;> simp (disch := omega) only [zcn_I, iI_add, iI_sub, iI_mul, iI_neg, iI_lt, iI_le, iI_eq, iI_lt0, iI_le0, iI_gt0, iI_ge0, iI_eq0] at h'
        · exact zW.go [72] rfl (by omega) trivial (E _ (tru_f (fun q => by have := q.2; omega)))
        · exact zW.go [72] rfl (by omega) trivial (E _ (tru_t ⟨g, by omega⟩))
      · refine zW.gbt [] rfl rfl rfl (by omega) trivial (by simp (disch := omega) only [eq_self, not_true_eq_false, not_false_eq_true, upI_same, upL_same, upI_ne, upL_ne, iI_ixN, zI_mk, zL_mk, zP_mk, zK_mk, zN_mk, zwI_up, zwL_up, zg_some, Nat.reduceMod, Nat.reduceDiv, zcn_I, iI_add, iI_sub, iI_mul, iI_neg, iI_lt, iI_le, iI_eq, iI_lt0, iI_le0, iI_gt0, iI_ge0, iI_eq0] <;> omega) ?_
        exact zW.go [72] rfl (by omega) trivial (E _ (tru_f (fun q => g q.1)))
    by_cases c0 : pp = 0
    · subst c0
      have ef : figN (tRd T j) c 0 = rBs (tRd T j) c := if_neg (fun n => n rfl)
      rw [ef] at U
      refine zW.gbt [] rfl rfl rfl (by omega) trivial (by simp (disch := omega) only [eq_self, not_true_eq_false, not_false_eq_true, upI_same, upL_same, upI_ne, upL_ne, iI_ixN, zI_mk, zL_mk, zP_mk, zK_mk, zN_mk, zwI_up, zwL_up, zg_some, Nat.reduceMod, Nat.reduceDiv, zcn_I, iI_add, iI_sub, iI_mul, iI_neg, iI_lt, iI_le, iI_eq, iI_lt0, iI_le0, iI_gt0, iI_ge0, iI_eq0] <;> omega) ?_
      refine zW.gz [] rfl rfl rfl (by omega) trivial ⟨_, rfl, k0⟩ rfl rfl (by decide +kernel) (by decide +kernel) ?_
      refine mBest_ok (by omega) h hj rfl rfl (by omega) ?_
      exact U
    · have ef : figN (tRd T j) c pp = rAv (tRd T j) c := if_pos c0
      rw [ef] at U
      refine zW.gbf [] rfl rfl rfl (by omega) trivial (by simp (disch := omega) only [eq_self, not_true_eq_false, not_false_eq_true, upI_same, upL_same, upI_ne, upL_ne, iI_ixN, zI_mk, zL_mk, zP_mk, zK_mk, zN_mk, zwI_up, zwL_up, zg_some, Nat.reduceMod, Nat.reduceDiv, zcn_I, iI_add, iI_sub, iI_mul, iI_neg, iI_lt, iI_le, iI_eq, iI_lt0, iI_le0, iI_gt0, iI_ge0, iI_eq0] <;> omega) ?_
      refine zW.gz [] rfl rfl rfl (by omega) trivial ⟨_, rfl, k0⟩ rfl rfl (by decide +kernel) (by decide +kernel) ?_
      refine mAvg_ok (by omega) h hj rfl rfl (by omega) ?_
      exact zW.go [55] rfl (by omega) trivial U
  have NO : ¬ mkRc (tRd T j) → zW 245 d 0 0 33 [some (zr (some y)), some (zi (iI (j : Int))), some (zi (iI (c : Int))), some (zi (iI pp)), none, none, none, none, none, none, none, none] [] (I, L, R) Q := fun hn => zW.go [34] rfl (by omega) trivial (A _ (tru_f hn))
  cases hcl : rCl (tRd T j) with
  | false =>
    rw [hcl] at r5
    refine zW.gbt [] rfl rfl rfl (by omega) (by simp (disch := omega) only [true_or, or_true, eq_self, Option.some.injEq, Prod.mk.injEq, zall_0, zall_1, zall_2, zob_iff, zar_iff, zis_iff, zkIs_some, zkHas_some, iI_vp, z01_I, z01_bz, zch_I, true_and, and_true, or_false, false_or, and_self, upI_same, upL_same, upI_ne, upL_ne, iI_ixN, zI_mk, zL_mk, zP_mk, zK_mk, zN_mk, zwI_up, zwL_up, zg_some, Nat.reduceMod, Nat.reduceDiv, zcn_I, iI_add, iI_sub, iI_mul, iI_neg, iI_lt, iI_le, iI_eq, iI_lt0, iI_le0, iI_gt0, iI_ge0, iI_eq0, k0, p24, k24] <;> omega) (by simp (disch := omega) only [eq_self, not_true_eq_false, not_false_eq_true, upI_same, upL_same, upI_ne, upL_ne, iI_ixN, zI_mk, zL_mk, zP_mk, zK_mk, zN_mk, zwI_up, zwL_up, zg_some, Nat.reduceMod, Nat.reduceDiv, zcn_I, iI_add, iI_sub, iI_mul, iI_neg, iI_lt, iI_le, iI_eq, iI_lt0, iI_le0, iI_gt0, iI_ge0, iI_eq0, p24, r5, bz_f] <;> omega) ?_
    exact NO (fun q => by have := q.2.1; rw [hcl] at this; cases this)
  | true =>
    rw [hcl] at r5
    refine zW.gbf [] rfl rfl rfl (by omega) (by simp (disch := omega) only [true_or, or_true, eq_self, Option.some.injEq, Prod.mk.injEq, zall_0, zall_1, zall_2, zob_iff, zar_iff, zis_iff, zkIs_some, zkHas_some, iI_vp, z01_I, z01_bz, zch_I, true_and, and_true, or_false, false_or, and_self, upI_same, upL_same, upI_ne, upL_ne, iI_ixN, zI_mk, zL_mk, zP_mk, zK_mk, zN_mk, zwI_up, zwL_up, zg_some, Nat.reduceMod, Nat.reduceDiv, zcn_I, iI_add, iI_sub, iI_mul, iI_neg, iI_lt, iI_le, iI_eq, iI_lt0, iI_le0, iI_gt0, iI_ge0, iI_eq0, k0, p24, k24] <;> omega) (by simp (disch := omega) only [eq_self, not_true_eq_false, not_false_eq_true, upI_same, upL_same, upI_ne, upL_ne, iI_ixN, zI_mk, zL_mk, zP_mk, zK_mk, zN_mk, zwI_up, zwL_up, zg_some, Nat.reduceMod, Nat.reduceDiv, zcn_I, iI_add, iI_sub, iI_mul, iI_neg, iI_lt, iI_le, iI_eq, iI_lt0, iI_le0, iI_gt0, iI_ge0, iI_eq0, p24, r5, bz_t] <;> omega) ?_
    cases hud : rUd (tRd T j) with
    | true =>
      rw [hud] at r6
      refine zW.gbt [] rfl rfl rfl (by omega) (by simp (disch := omega) only [true_or, or_true, eq_self, Option.some.injEq, Prod.mk.injEq, zall_0, zall_1, zall_2, zob_iff, zar_iff, zis_iff, zkIs_some, zkHas_some, iI_vp, z01_I, z01_bz, zch_I, true_and, and_true, or_false, false_or, and_self, upI_same, upL_same, upI_ne, upL_ne, iI_ixN, zI_mk, zL_mk, zP_mk, zK_mk, zN_mk, zwI_up, zwL_up, zg_some, Nat.reduceMod, Nat.reduceDiv, zcn_I, iI_add, iI_sub, iI_mul, iI_neg, iI_lt, iI_le, iI_eq, iI_lt0, iI_le0, iI_gt0, iI_ge0, iI_eq0, k0, p25, k25] <;> omega) (by simp (disch := omega) only [eq_self, not_true_eq_false, not_false_eq_true, upI_same, upL_same, upI_ne, upL_ne, iI_ixN, zI_mk, zL_mk, zP_mk, zK_mk, zN_mk, zwI_up, zwL_up, zg_some, Nat.reduceMod, Nat.reduceDiv, zcn_I, iI_add, iI_sub, iI_mul, iI_neg, iI_lt, iI_le, iI_eq, iI_lt0, iI_le0, iI_gt0, iI_ge0, iI_eq0, p25, r6, bz_t] <;> omega) ?_
      exact NO (fun q => by have := q.2.2; rw [hud] at this; cases this)
    | false =>
      rw [hud] at r6
      refine zW.gbf [] rfl rfl rfl (by omega) (by simp (disch := omega) only [true_or, or_true, eq_self, Option.some.injEq, Prod.mk.injEq, zall_0, zall_1, zall_2, zob_iff, zar_iff, zis_iff, zkIs_some, zkHas_some, iI_vp, z01_I, z01_bz, zch_I, true_and, and_true, or_false, false_or, and_self, upI_same, upL_same, upI_ne, upL_ne, iI_ixN, zI_mk, zL_mk, zP_mk, zK_mk, zN_mk, zwI_up, zwL_up, zg_some, Nat.reduceMod, Nat.reduceDiv, zcn_I, iI_add, iI_sub, iI_mul, iI_neg, iI_lt, iI_le, iI_eq, iI_lt0, iI_le0, iI_gt0, iI_ge0, iI_eq0, k0, p25, k25] <;> omega) (by simp (disch := omega) only [eq_self, not_true_eq_false, not_false_eq_true, upI_same, upL_same, upI_ne, upL_ne, iI_ixN, zI_mk, zL_mk, zP_mk, zK_mk, zN_mk, zwI_up, zwL_up, zg_some, Nat.reduceMod, Nat.reduceDiv, zcn_I, iI_add, iI_sub, iI_mul, iI_neg, iI_lt, iI_le, iI_eq, iI_lt0, iI_le0, iI_gt0, iI_ge0, iI_eq0, p25, r6, bz_f] <;> omega) ?_
      refine zW.gb [] rfl rfl rfl (by omega) (by simp (disch := omega) only [true_or, or_true, eq_self, Option.some.injEq, Prod.mk.injEq, zall_0, zall_1, zall_2, zob_iff, zar_iff, zis_iff, zkIs_some, zkHas_some, iI_vp, z01_I, z01_bz, zch_I, true_and, and_true, or_false, false_or, and_self, upI_same, upL_same, upI_ne, upL_ne, iI_ixN, zI_mk, zL_mk, zP_mk, zK_mk, zN_mk, zwI_up, zwL_up, zg_some, Nat.reduceMod, Nat.reduceDiv, zcn_I, iI_add, iI_sub, iI_mul, iI_neg, iI_lt, iI_le, iI_eq, iI_lt0, iI_le0, iI_gt0, iI_ge0, iI_eq0, k0, p20, k20] <;> omega) (fun h' => ?_) (fun h' => ?_) <;> simp (disch := omega) only [zcn_I, iI_add, iI_sub, iI_mul, iI_neg, iI_lt, iI_le, iI_eq, iI_lt0, iI_le0, iI_gt0, iI_ge0, iI_eq0, upI_same, upL_same, upI_ne, upL_ne, iI_ixN, zI_mk, zL_mk, zP_mk, zK_mk, zN_mk, zwI_up, zwL_up, zg_some, Nat.reduceMod, Nat.reduceDiv, p20, r1] at h'
      · exact NO (fun q => by have := q.1; omega)
      · exact zW.go [34] rfl (by omega) trivial (A _ (tru_t ⟨by omega, hcl, hud⟩))
end MREC
