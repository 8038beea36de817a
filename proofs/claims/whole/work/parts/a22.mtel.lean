/-! The model's rounds: may one be made; one is made. -/
def blw (w : zRd) (c k : Nat) : Prop := ∃ i, i < k ∧ 0 < rRs w c i ∧ rRs w c i < rCu w
theorem blw_s {w : zRd} {c k : Nat} {p : Prop} (h : p ↔ (0 < rRs w c k ∧ rRs w c k < rCu w)) : (blw w c k ∨ p) ↔ blw w c (k + 1) := by
  constructor
  · rintro (⟨i, q1, q2⟩ | q)
    · exact ⟨i, by omega, q2⟩
    · exact ⟨k, by omega, h.mp q⟩
  · rintro ⟨i, q1, q2⟩
    by_cases e : i = k
    · subst e
      exact Or.inr (h.mpr q2)
    · exact Or.inl ⟨i, by omega, q2⟩
section MTEL
variable {d y : Nat} {T : tfT} {I : Nat → Nat → Int32} {L : Nat → Nat → Int64} {R : zRt} {Q : zO → zM → Prop}
theorem mBel_lp {j c m : Nat} (hd : 1 ≤ d) (h : mf y T (I, L, R)) (hj : j < tRn T) (hc : c < 12) (hm : m ≤ rMa (tRd T j) c) (hQ : ∀ q, tru (blw (tRd T j) c m) q → Q (.inl (some (zi q))) (I, L, R)) :
    ∀ n k, k + n = m → ∀ (x z : Int32) (v : Option zV), tru (blw (tRd T j) c k) x → z = iI (k : Int) → zW 227 d 0 0 6 [some (zr (some y)), some (zi (iI (j : Int))), some (zi (iI (c : Int))), some (zi (iI (m : Int))), some (zi x), some (zi z), v] [] (I, L, R) Q
  | 0, k, hk, x, z, v, e1, e2 => by
    subst e2
    obtain ⟨j8, ho, -, r1, r2, r3, r4, r5, r6, r7⟩ := m_rd h hj
    have hm5 := (ho.2.2.2.2 c hc).1
    have hx5 := mxA_le (rFm (tRd T j))
    obtain rfl : k = m := by omega
    refine zW.gbt [] rfl rfl rfl (by omega) trivial (by simp (disch := omega) only [eq_self, not_true_eq_false, not_false_eq_true, upI_same, upL_same, upI_ne, upL_ne, iI_ixN, zI_mk, zL_mk, zP_mk, zK_mk, zN_mk, zwI_up, zwL_up, zg_some, Nat.reduceMod, Nat.reduceDiv, zcn_I, iI_add, iI_sub, iI_mul, iI_neg, iI_lt, iI_le, iI_eq, iI_lt0, iI_le0, iI_gt0, iI_ge0, iI_eq0] <;> omega) ?_
    refine zW.gr [] rfl rfl rfl (by omega) trivial (tru_01 e1) ?_
    exact hQ _ e1
  | n + 1, k, hk, x, z, v, e1, e2 => by
    subst e2
    have hM := h.2.1
    have k0 : R.2.1 y = some (7, 0) := hM.1
    obtain ⟨j8, ho, -, r1, r2, r3, r4, r5, r6, r7⟩ := m_rd h hj
    have hm5 := (ho.2.2.2.2 c hc).1
    have hx5 := mxA_le (rFm (tRd T j))
    have vk := (r7 c hc).2.2.2.2.2 k (by omega)
    have lk := (ho.2.2.2.2 c hc).2.1 k (by omega)
    have lc := ho.2.2.1
    have p27 : R.1 y 27 = some (y + 1800) := (hM.2.1 27 (by decide)).1; have k27 : R.2.1 (y + 1800) = some (26, 8) := (hM.2.1 27 (by decide)).2; have q27 : R.1 (y + 1800) (j) = some (y + 1801 + 13 * j) := (hM.2.2.2.2.2.2.2.2.2.2.1 (j) (by omega)).1.trans (congrArg some (by omega)); have j27 : R.2.1 (y + 1801 + 13 * j) = some (25, 12) := (congrArg R.2.1 (by omega)).trans (hM.2.2.2.2.2.2.2.2.2.2.1 (j) (by omega)).2.1; have r27 : R.1 (y + 1801 + 13 * j) (c) = some (y + 1802 + 13 * j + c) := (congrFun (congrArg R.1 (show y + 1801 + 13 * j = y + 1800 + 1 + 13 * j by omega)) (c)).trans ((((hM.2.2.2.2.2.2.2.2.2.2.1 (j) (by omega)).2.2 (c) (by omega)).1).trans (congrArg some (by omega))); have s27 : R.2.1 (y + 1802 + 13 * j + c) = some (20, 5) := (congrArg R.2.1 (by omega)).trans ((hM.2.2.2.2.2.2.2.2.2.2.1 (j) (by omega)).2.2 (c) (by omega)).2; have p22 : R.1 y 22 = some (y + 1787) := (hM.2.1 22 (by decide)).1; have k22 : R.2.1 (y + 1787) = some (20, 8) := (hM.2.1 22 (by decide)).2
    have NX : ∀ (u : Int32) (w : Option zV), tru (0 < rRs (tRd T j) c k ∧ rRs (tRd T j) c k < rCu (tRd T j)) u → zW 227 d 0 0 48 [some (zr (some y)), some (zi (iI (j : Int))), some (zi (iI (c : Int))), some (zi (iI (m : Int))), some (zi x), some (zi (iI (k : Int))), w] [zi u, zi x] (I, L, R) Q := fun u w hu => by
      refine zW.go [6] rfl (by omega) trivial ?_
      exact mBel_lp hd h hj hc hm hQ n (k + 1) (by omega) _ _ _ (tru_cg (blw_s Iff.rfl) (tru_or e1 hu)) (by rw [zcn_I, iI_add]; rfl)
    refine zW.gbf [] rfl rfl rfl (by omega) trivial (by simp (disch := omega) only [eq_self, not_true_eq_false, not_false_eq_true, upI_same, upL_same, upI_ne, upL_ne, iI_ixN, zI_mk, zL_mk, zP_mk, zK_mk, zN_mk, zwI_up, zwL_up, zg_some, Nat.reduceMod, Nat.reduceDiv, zcn_I, iI_add, iI_sub, iI_mul, iI_neg, iI_lt, iI_le, iI_eq, iI_lt0, iI_le0, iI_gt0, iI_ge0, iI_eq0] <;> omega) ?_
    refine zW.gb [] rfl rfl rfl (by omega) (by simp (disch := omega) only [true_or, or_true, eq_self, Option.some.injEq, Prod.mk.injEq, zall_0, zall_1, zall_2, zob_iff, zar_iff, zis_iff, zkIs_some, zkHas_some, iI_vp, z01_I, z01_bz, zch_I, true_and, and_true, or_false, false_or, and_self, upI_same, upL_same, upI_ne, upL_ne, iI_ixN, zI_mk, zL_mk, zP_mk, zK_mk, zN_mk, zwI_up, zwL_up, zg_some, Nat.reduceMod, Nat.reduceDiv, zcn_I, iI_add, iI_sub, iI_mul, iI_neg, iI_lt, iI_le, iI_eq, iI_lt0, iI_le0, iI_gt0, iI_ge0, iI_eq0, k0, p27, k27, q27, j27, r27, s27] <;> omega) (fun h' => ?_) (fun h' => ?_) <;> simp (disch := omega) only [zcn_I, iI_add, iI_sub, iI_mul, iI_neg, iI_lt, iI_le, iI_eq, iI_lt0, iI_le0, iI_gt0, iI_ge0, iI_eq0, upI_same, upL_same, upI_ne, upL_ne, iI_ixN, zI_mk, zL_mk, zP_mk, zK_mk, zN_mk, zwI_up, zwL_up, zg_some, Nat.reduceMod, Nat.reduceDiv, p27, q27, r27, vk] at h'
    · exact zW.go [48] rfl (by omega) trivial (NX _ _ (tru_f (by omega)))
    · refine zW.gb [] rfl rfl rfl (by omega) (by simp (disch := omega) only [true_or, or_true, eq_self, Option.some.injEq, Prod.mk.injEq, zall_0, zall_1, zall_2, zob_iff, zar_iff, zis_iff, zkIs_some, zkHas_some, iI_vp, z01_I, z01_bz, zch_I, true_and, and_true, or_false, false_or, and_self, upI_same, upL_same, upI_ne, upL_ne, iI_ixN, zI_mk, zL_mk, zP_mk, zK_mk, zN_mk, zwI_up, zwL_up, zg_some, Nat.reduceMod, Nat.reduceDiv, zcn_I, iI_add, iI_sub, iI_mul, iI_neg, iI_lt, iI_le, iI_eq, iI_lt0, iI_le0, iI_gt0, iI_ge0, iI_eq0, k0, p22, k22] <;> omega) (fun h2 => ?_) (fun h2 => ?_) <;> simp (disch := omega) only [zcn_I, iI_add, iI_sub, iI_mul, iI_neg, iI_lt, iI_le, iI_eq, iI_lt0, iI_le0, iI_gt0, iI_ge0, iI_eq0, upI_same, upL_same, upI_ne, upL_ne, iI_ixN, zI_mk, zL_mk, zP_mk, zK_mk, zN_mk, zwI_up, zwL_up, zg_some, Nat.reduceMod, Nat.reduceDiv, p27, q27, r27, vk, p22, r3] at h2
      · exact zW.go [48] rfl (by omega) trivial (NX _ _ (tru_f (by omega)))
      · exact zW.go [48] rfl (by omega) trivial (NX _ _ (tru_t (by omega)))
theorem mBel_ok {j c m : Nat} {a b e : Int32} (hd : 1 ≤ d) (h : mf y T (I, L, R)) (hj : j < tRn T) (hc : c < 12) (e1 : a = iI (j : Int)) (e2 : b = iI (c : Int)) (e3 : e = iI (m : Int)) (hm : m ≤ rMa (tRd T j) c) (hQ : ∀ q, tru (blw (tRd T j) c m) q → Q (.inl (some (zi q))) (I, L, R)) : zS 227 d [zr (some y), zi a, zi b, zi e] (I, L, R) Q := by
  subst e1; subst e2; subst e3
  refine zW.go [6] rfl (by omega) trivial ?_
  exact mBel_lp hd h hj hc hm hQ m 0 (by omega) _ _ _ (tru_f (fun ⟨i, q, _⟩ => absurd q (Nat.not_lt_zero i))) (zcn_I _)
theorem mMay_ok {j c : Nat} {a b : Int32} (hd : 2 ≤ d) (h : mf y T (I, L, R)) (hj : j < tRn T) (hc : c < 12) (e1 : a = iI (j : Int)) (e2 : b = iI (c : Int)) (hQ : ∀ q, tru (opn (tRd T j) c) q → Q (.inl (some (zi q))) (I, L, R)) : zS 228 d [zr (some y), zi a, zi b] (I, L, R) Q := by
  subst e1; subst e2
  have hM := h.2.1
  have k0 : R.2.1 y = some (7, 0) := hM.1
  obtain ⟨j8, ho, -, r1, r2, r3, r4, r5, r6, r7⟩ := m_rd h hj
  have hfm := fm_lt ho
  have fms := ho.1
  have ma := (r7 c hc).1
  have hm5 := (ho.2.2.2.2 c hc).1
  have hx5 := mxA_le (rFm (tRd T j))
  have lc := ho.2.2.1
  have x1 : rFm (tRd T j) = 53 → mxA (rFm (tRd T j)) = 5 := fun e => if_pos e
  have x2 : rFm (tRd T j) = 109 → mxA (rFm (tRd T j)) = 1 := fun e => (if_neg (by omega)).trans (if_pos e)
  have x3 : rFm (tRd T j) ≠ 53 → rFm (tRd T j) ≠ 109 → mxA (rFm (tRd T j)) = 3 := fun e e' => (if_neg e).trans (if_neg e')
  have x4 : rFm (tRd T j) = 53 → cutN (rFm (tRd T j)) = 2 := fun e => if_pos e
  have x5 : rFm (tRd T j) ≠ 53 → cutN (rFm (tRd T j)) = 1 := fun e => if_neg e
  have p20 : R.1 y 20 = some (y + 1785) := (hM.2.1 20 (by decide)).1; have k20 : R.2.1 (y + 1785) = some (23, 8) := (hM.2.1 20 (by decide)).2; have p26 : R.1 y 26 = some (y + 1791) := (hM.2.1 26 (by decide)).1; have k26 : R.2.1 (y + 1791) = some (25, 8) := (hM.2.1 26 (by decide)).2; have q26 : R.1 (y + 1791) (j) = some (y + 1792 + j) := (hM.2.2.2.2.2.2.2.2.2.1 (j) (by omega)).1.trans (congrArg some (by omega)); have j26 : R.2.1 (y + 1792 + j) = some (20, 12) := (congrArg R.2.1 (by omega)).trans (hM.2.2.2.2.2.2.2.2.2.1 (j) (by omega)).2; have p22 : R.1 y 22 = some (y + 1787) := (hM.2.1 22 (by decide)).1; have k22 : R.2.1 (y + 1787) = some (20, 8) := (hM.2.1 22 (by decide)).2; have p24 : R.1 y 24 = some (y + 1789) := (hM.2.1 24 (by decide)).1; have k24 : R.2.1 (y + 1789) = some (22, 8) := (hM.2.1 24 (by decide)).2
  -- closed, or all made, or cut
  have Z : ∀ (q : Int32) (l6 : Int32), tru (isCut (tRd T j) c) q → zW 228 d 0 0 103 [some (zr (some y)), some (zi (iI (j : Int))), some (zi (iI (c : Int))), some (zi (iI (rFm (tRd T j) : Int))), some (zi (iI (rMa (tRd T j) c : Int))), some (zi (iI (mxA (rFm (tRd T j)) : Int))), some (zi l6), none] [zi q] (I, L, R) Q := fun q l6 hq => by
    cases hcl : rCl (tRd T j) with
    | true =>
      rw [hcl] at r5
      refine zW.gbt [] rfl rfl rfl (by omega) (by simp (disch := omega) only [true_or, or_true, eq_self, Option.some.injEq, Prod.mk.injEq, zall_0, zall_1, zall_2, zob_iff, zar_iff, zis_iff, zkIs_some, zkHas_some, iI_vp, z01_I, z01_bz, zch_I, true_and, and_true, or_false, false_or, and_self, upI_same, upL_same, upI_ne, upL_ne, iI_ixN, zI_mk, zL_mk, zP_mk, zK_mk, zN_mk, zwI_up, zwL_up, zg_some, Nat.reduceMod, Nat.reduceDiv, zcn_I, iI_add, iI_sub, iI_mul, iI_neg, iI_lt, iI_le, iI_eq, iI_lt0, iI_le0, iI_gt0, iI_ge0, iI_eq0, k0, p24, k24] <;> omega) (by simp (disch := omega) only [eq_self, not_true_eq_false, not_false_eq_true, upI_same, upL_same, upI_ne, upL_ne, iI_ixN, zI_mk, zL_mk, zP_mk, zK_mk, zN_mk, zwI_up, zwL_up, zg_some, Nat.reduceMod, Nat.reduceDiv, zcn_I, iI_add, iI_sub, iI_mul, iI_neg, iI_lt, iI_le, iI_eq, iI_lt0, iI_le0, iI_gt0, iI_ge0, iI_eq0, p24, r5, bz_t] <;> omega) ?_
      refine zW.go [131] rfl (by omega) trivial ?_
      refine zW.gr [] rfl rfl rfl (by omega) trivial z01c0 ?_
      exact hQ _ (tru_f (fun n => by have := n.1; rw [hcl] at this; cases this))
    | false =>
      rw [hcl] at r5
      refine zW.gbf [] rfl rfl rfl (by omega) (by simp (disch := omega) only [true_or, or_true, eq_self, Option.some.injEq, Prod.mk.injEq, zall_0, zall_1, zall_2, zob_iff, zar_iff, zis_iff, zkIs_some, zkHas_some, iI_vp, z01_I, z01_bz, zch_I, true_and, and_true, or_false, false_or, and_self, upI_same, upL_same, upI_ne, upL_ne, iI_ixN, zI_mk, zL_mk, zP_mk, zK_mk, zN_mk, zwI_up, zwL_up, zg_some, Nat.reduceMod, Nat.reduceDiv, zcn_I, iI_add, iI_sub, iI_mul, iI_neg, iI_lt, iI_le, iI_eq, iI_lt0, iI_le0, iI_gt0, iI_ge0, iI_eq0, k0, p24, k24] <;> omega) (by simp (disch := omega) only [eq_self, not_true_eq_false, not_false_eq_true, upI_same, upL_same, upI_ne, upL_ne, iI_ixN, zI_mk, zL_mk, zP_mk, zK_mk, zN_mk, zwI_up, zwL_up, zg_some, Nat.reduceMod, Nat.reduceDiv, zcn_I, iI_add, iI_sub, iI_mul, iI_neg, iI_lt, iI_le, iI_eq, iI_lt0, iI_le0, iI_gt0, iI_ge0, iI_eq0, p24, r5, bz_f] <;> omega) ?_
      refine zW.gb [] rfl rfl rfl (by omega) trivial (fun h' => ?_) (fun h' => ?_) <;> simp (disch := omega) only [zcn_I, iI_add, iI_sub, iI_mul, iI_neg, iI_lt, iI_le, iI_eq, iI_lt0, iI_le0, iI_gt0, iI_ge0, iI_eq0] at h'
      · refine zW.go [131] rfl (by omega) trivial ?_
        refine zW.gr [] rfl rfl rfl (by omega) trivial z01c0 ?_
        exact hQ _ (tru_f (fun n => by have := n.2.1; omega))
      · rcases hq with ⟨g, rfl⟩ | ⟨g, rfl⟩
        · refine zW.gbt [] rfl rfl rfl (by omega) trivial (by simp (disch := omega) only [eq_self, not_true_eq_false, not_false_eq_true, upI_same, upL_same, upI_ne, upL_ne, iI_ixN, zI_mk, zL_mk, zP_mk, zK_mk, zN_mk, zwI_up, zwL_up, zg_some, Nat.reduceMod, Nat.reduceDiv, zcn_I, iI_add, iI_sub, iI_mul, iI_neg, iI_lt, iI_le, iI_eq, iI_lt0, iI_le0, iI_gt0, iI_ge0, iI_eq0] <;> omega) ?_
          refine zW.go [131] rfl (by omega) trivial ?_
          refine zW.gr [] rfl rfl rfl (by omega) trivial z01c0 ?_
          exact hQ _ (tru_f (fun n => n.2.2 g))
        · refine zW.gbf [] rfl rfl rfl (by omega) trivial (by simp (disch := omega) only [eq_self, not_true_eq_false, not_false_eq_true, upI_same, upL_same, upI_ne, upL_ne, iI_ixN, zI_mk, zL_mk, zP_mk, zK_mk, zN_mk, zwI_up, zwL_up, zg_some, Nat.reduceMod, Nat.reduceDiv, zcn_I, iI_add, iI_sub, iI_mul, iI_neg, iI_lt, iI_le, iI_eq, iI_lt0, iI_le0, iI_gt0, iI_ge0, iI_eq0] <;> omega) ?_
          refine zW.go [131] rfl (by omega) trivial ?_
          refine zW.gr [] rfl rfl rfl (by omega) trivial z01c1 ?_
          exact hQ _ (tru_t ⟨hcl, by omega, g⟩)
  have Y : ∀ u : Nat, (avF (rFm (tRd T j)) → u = cutN (rFm (tRd T j)) ∧ u < mxA (rFm (tRd T j))) → (¬ avF (rFm (tRd T j)) → u = mxA (rFm (tRd T j))) → zW 228 d 0 0 62 [some (zr (some y)), some (zi (iI (j : Int))), some (zi (iI (c : Int))), some (zi (iI (rFm (tRd T j) : Int))), some (zi (iI (rMa (tRd T j) c : Int))), some (zi (iI (mxA (rFm (tRd T j)) : Int))), none, none] [zi (iI (u : Int))] (I, L, R) Q := fun u hu1 hu2 => by
    have hu5 : u ≤ 5 := by
      by_cases q : avF (rFm (tRd T j))
      · have := hu1 q
        omega
      · have := hu2 q
        omega
    have NO : ¬ isCut (tRd T j) c → zW 228 d 0 0 102 [some (zr (some y)), some (zi (iI (j : Int))), some (zi (iI (c : Int))), some (zi (iI (rFm (tRd T j) : Int))), some (zi (iI (rMa (tRd T j) c : Int))), some (zi (iI (mxA (rFm (tRd T j)) : Int))), some (zi (iI (u : Int))), none] [] (I, L, R) Q := fun hn => by
      exact zW.go [103] rfl (by omega) trivial (Z _ _ (tru_f hn))
    refine zW.gb [] rfl rfl rfl (by omega) (by simp (disch := omega) only [true_or, or_true, eq_self, Option.some.injEq, Prod.mk.injEq, zall_0, zall_1, zall_2, zob_iff, zar_iff, zis_iff, zkIs_some, zkHas_some, iI_vp, z01_I, z01_bz, zch_I, true_and, and_true, or_false, false_or, and_self, upI_same, upL_same, upI_ne, upL_ne, iI_ixN, zI_mk, zL_mk, zP_mk, zK_mk, zN_mk, zwI_up, zwL_up, zg_some, Nat.reduceMod, Nat.reduceDiv, zcn_I, iI_add, iI_sub, iI_mul, iI_neg, iI_lt, iI_le, iI_eq, iI_lt0, iI_le0, iI_gt0, iI_ge0, iI_eq0, k0, p22, k22] <;> omega) (fun h' => ?_) (fun h' => ?_) <;> simp (disch := omega) only [zcn_I, iI_add, iI_sub, iI_mul, iI_neg, iI_lt, iI_le, iI_eq, iI_lt0, iI_le0, iI_gt0, iI_ge0, iI_eq0, upI_same, upL_same, upI_ne, upL_ne, iI_ixN, zI_mk, zL_mk, zP_mk, zK_mk, zN_mk, zwI_up, zwL_up, zg_some, Nat.reduceMod, Nat.reduceDiv, p22, r3] at h'
    · exact NO (fun q => by have := q.2.1; omega)
    · refine zW.gb [] rfl rfl rfl (by omega) trivial (fun h2 => ?_) (fun h2 => ?_) <;> simp (disch := omega) only [zcn_I, iI_add, iI_sub, iI_mul, iI_neg, iI_lt, iI_le, iI_eq, iI_lt0, iI_le0, iI_gt0, iI_ge0, iI_eq0] at h2
      · exact NO (fun q => by have := hu1 q.1; omega)
      · have av : avF (rFm (tRd T j)) := Classical.byContradiction fun n => by have := hu2 n; omega
        obtain ⟨uu, u6⟩ := hu1 av
        refine zW.gb [] rfl rfl rfl (by omega) trivial (fun h3 => ?_) (fun h3 => ?_) <;> simp (disch := omega) only [zcn_I, iI_add, iI_sub, iI_mul, iI_neg, iI_lt, iI_le, iI_eq, iI_lt0, iI_le0, iI_gt0, iI_ge0, iI_eq0] at h3
        · exact NO (fun q => by have := q.2.2.1; omega)
        · refine zW.gz [] rfl rfl rfl (by omega) trivial ⟨_, rfl, k0⟩ rfl rfl (by decide +kernel) (by decide +kernel) ?_
          refine mBel_ok (by omega) h hj hc rfl rfl rfl (by omega) (fun q hq => ?_)
          rcases hq with ⟨g, rfl⟩ | ⟨g, rfl⟩
          · refine zW.gbt [] rfl rfl rfl (by omega) trivial (by simp (disch := omega) only [eq_self, not_true_eq_false, not_false_eq_true, upI_same, upL_same, upI_ne, upL_ne, iI_ixN, zI_mk, zL_mk, zP_mk, zK_mk, zN_mk, zwI_up, zwL_up, zg_some, Nat.reduceMod, Nat.reduceDiv, zcn_I, iI_add, iI_sub, iI_mul, iI_neg, iI_lt, iI_le, iI_eq, iI_lt0, iI_le0, iI_gt0, iI_ge0, iI_eq0] <;> omega) ?_
            refine NO (fun q => ?_)
            obtain ⟨i, g1, g2⟩ := g
            exact q.2.2.2 i (by omega) g2
          · refine zW.gbf [] rfl rfl rfl (by omega) trivial (by simp (disch := omega) only [eq_self, not_true_eq_false, not_false_eq_true, upI_same, upL_same, upI_ne, upL_ne, iI_ixN, zI_mk, zL_mk, zP_mk, zK_mk, zN_mk, zwI_up, zwL_up, zg_some, Nat.reduceMod, Nat.reduceDiv, zcn_I, iI_add, iI_sub, iI_mul, iI_neg, iI_lt, iI_le, iI_eq, iI_lt0, iI_le0, iI_gt0, iI_ge0, iI_eq0] <;> omega) ?_
            refine zW.go [103] rfl (by omega) trivial (Z _ _ (tru_t ⟨av, by omega, by omega, fun i hi q => g ⟨i, by omega, q⟩⟩))
  have X : zW 228 d 0 0 38 [some (zr (some y)), some (zi (iI (j : Int))), some (zi (iI (c : Int))), some (zi (iI (rFm (tRd T j) : Int))), some (zi (iI (rMa (tRd T j) c : Int))), none, none, none] [zi (iI (mxA (rFm (tRd T j)) : Int))] (I, L, R) Q := by
    refine zW.gb [] rfl rfl rfl (by omega) trivial (fun h' => ?_) (fun h' => ?_) <;> simp (disch := omega) only [zcn_I, iI_add, iI_sub, iI_mul, iI_neg, iI_lt, iI_le, iI_eq, iI_lt0, iI_le0, iI_gt0, iI_ge0, iI_eq0] at h'
    · refine zW.gb [] rfl rfl rfl (by omega) trivial (fun h2 => ?_) (fun h2 => ?_) <;> simp (disch := omega) only [zcn_I, iI_add, iI_sub, iI_mul, iI_neg, iI_lt, iI_le, iI_eq, iI_lt0, iI_le0, iI_gt0, iI_ge0, iI_eq0] at h2
      · exact zW.go [62] rfl (by omega) trivial (Y _ (fun q => by unfold avF at q; omega) (fun _ => rfl))
      · refine zW.go [62] rfl (by omega) trivial ?_
        rw [zcn_I]
        exact Y 1 (fun q => by have := x5 (by omega); have := x3 (by omega) (by omega); omega) (fun q => absurd (by unfold avF; omega) q)
    · refine zW.go [62] rfl (by omega) trivial ?_
      rw [zcn_I]
      exact Y 2 (fun q => by have := x4 (by omega); have := x1 (by omega); omega) (fun q => absurd (by unfold avF; omega) q)
  refine zW.gb [] rfl rfl rfl (by omega) (by simp (disch := omega) only [true_or, or_true, eq_self, Option.some.injEq, Prod.mk.injEq, zall_0, zall_1, zall_2, zob_iff, zar_iff, zis_iff, zkIs_some, zkHas_some, iI_vp, z01_I, z01_bz, zch_I, true_and, and_true, or_false, false_or, and_self, upI_same, upL_same, upI_ne, upL_ne, iI_ixN, zI_mk, zL_mk, zP_mk, zK_mk, zN_mk, zwI_up, zwL_up, zg_some, Nat.reduceMod, Nat.reduceDiv, zcn_I, iI_add, iI_sub, iI_mul, iI_neg, iI_lt, iI_le, iI_eq, iI_lt0, iI_le0, iI_gt0, iI_ge0, iI_eq0, k0, p20, k20, p26, k26, q26, j26] <;> omega) (fun h' => ?_) (fun h' => ?_) <;> simp (disch := omega) only [zcn_I, iI_add, iI_sub, iI_mul, iI_neg, iI_lt, iI_le, iI_eq, iI_lt0, iI_le0, iI_gt0, iI_ge0, iI_eq0, upI_same, upL_same, upI_ne, upL_ne, iI_ixN, zI_mk, zL_mk, zP_mk, zK_mk, zN_mk, zwI_up, zwL_up, zg_some, Nat.reduceMod, Nat.reduceDiv, p20, r1, p26, q26, ma] at h' ⊢
  · refine zW.gb [] rfl rfl rfl (by omega) trivial (fun h2 => ?_) (fun h2 => ?_) <;> simp (disch := omega) only [zcn_I, iI_add, iI_sub, iI_mul, iI_neg, iI_lt, iI_le, iI_eq, iI_lt0, iI_le0, iI_gt0, iI_ge0, iI_eq0] at h2
    · refine zW.go [38] rfl (by omega) trivial ?_
      rw [x3 (by omega) (by omega)] at X
      exact X
    · refine zW.go [38] rfl (by omega) trivial ?_
      rw [x2 (by omega)] at X
      exact X
  · refine zW.go [38] rfl (by omega) trivial ?_
    rw [x1 (by omega)] at X
    exact X
theorem makes_ok {j c m v : Nat} {a b e : Int32} (hd : 1 ≤ d) (hM : ML y R) (hj : j < 8) (hc : c < 12) (e1 : a = iI (j : Int)) (e2 : b = iI (c : Int)) (e3 : e = iI (v : Int)) (hv : I (y + 1792 + j) c = iI (m : Int)) (hm : m < 5) (hQ : Q (.inl none) (upI (upI I (y + 1802 + 13 * j + c) m (iI (v : Int))) (y + 1792 + j) c (iI ((m + 1 : Nat) : Int)), L, R)) : zS 229 d [zr (some y), zi a, zi b, zi e] (I, L, R) Q := by
  subst e1; subst e2; subst e3
  have k0 : R.2.1 y = some (7, 0) := hM.1
  have p26 : R.1 y 26 = some (y + 1791) := (hM.2.1 26 (by decide)).1; have k26 : R.2.1 (y + 1791) = some (25, 8) := (hM.2.1 26 (by decide)).2; have q26 : R.1 (y + 1791) (j) = some (y + 1792 + j) := (hM.2.2.2.2.2.2.2.2.2.1 (j) (by omega)).1.trans (congrArg some (by omega)); have j26 : R.2.1 (y + 1792 + j) = some (20, 12) := (congrArg R.2.1 (by omega)).trans (hM.2.2.2.2.2.2.2.2.2.1 (j) (by omega)).2; have p27 : R.1 y 27 = some (y + 1800) := (hM.2.1 27 (by decide)).1; have k27 : R.2.1 (y + 1800) = some (26, 8) := (hM.2.1 27 (by decide)).2; have q27 : R.1 (y + 1800) (j) = some (y + 1801 + 13 * j) := (hM.2.2.2.2.2.2.2.2.2.2.1 (j) (by omega)).1.trans (congrArg some (by omega)); have j27 : R.2.1 (y + 1801 + 13 * j) = some (25, 12) := (congrArg R.2.1 (by omega)).trans (hM.2.2.2.2.2.2.2.2.2.2.1 (j) (by omega)).2.1; have r27 : R.1 (y + 1801 + 13 * j) (c) = some (y + 1802 + 13 * j + c) := (congrFun (congrArg R.1 (show y + 1801 + 13 * j = y + 1800 + 1 + 13 * j by omega)) (c)).trans ((((hM.2.2.2.2.2.2.2.2.2.2.1 (j) (by omega)).2.2 (c) (by omega)).1).trans (congrArg some (by omega))); have s27 : R.2.1 (y + 1802 + 13 * j + c) = some (20, 5) := (congrArg R.2.1 (by omega)).trans ((hM.2.2.2.2.2.2.2.2.2.2.1 (j) (by omega)).2.2 (c) (by omega)).2
  refine zW.gr [] rfl rfl rfl (by omega) (by simp (disch := omega) only [true_or, or_true, eq_self, Option.some.injEq, Prod.mk.injEq, zall_0, zall_1, zall_2, zob_iff, zar_iff, zis_iff, zkIs_some, zkHas_some, iI_vp, z01_I, z01_bz, zch_I, true_and, and_true, or_false, false_or, and_self, upI_same, upL_same, upI_ne, upL_ne, iI_ixN, zI_mk, zL_mk, zP_mk, zK_mk, zN_mk, zwI_up, zwL_up, zg_some, Nat.reduceMod, Nat.reduceDiv, zcn_I, iI_add, iI_sub, iI_mul, iI_neg, iI_lt, iI_le, iI_eq, iI_lt0, iI_le0, iI_gt0, iI_ge0, iI_eq0, k0, p26, k26, q26, j26, p27, k27, q27, j27, r27, s27, hv] <;> omega) trivial ?_
  simp (disch := omega) only [upI_same, upL_same, upI_ne, upL_ne, iI_ixN, zI_mk, zL_mk, zP_mk, zK_mk, zN_mk, zwI_up, zwL_up, zg_some, Nat.reduceMod, Nat.reduceDiv, zcn_I, iI_add, iI_sub, iI_mul, iI_neg, iI_lt, iI_le, iI_eq, iI_lt0, iI_le0, iI_gt0, iI_ge0, iI_eq0, p26, q26, p27, q27, r27, hv]
  exact hQ
end MTEL
