/-! The class's records. -/
section TREC
variable {d x z : Nat} {pb rb : Nat → Nat} {T : tfT} {I : Nat → Nat → Int32} {L : Nat → Nat → Int64} {R : zRt} {Q : zO → zM → Prop}
def figN (w : zRd) (c : Nat) (pp : Int) : Nat := if pp ≠ 0 then rAv w c else rBs w c
theorem fig_eq {w : zRd} {c : Nat} {pp : Int} (h : rFm w ≠ 109) : (if pp ≠ 0 then aI1 (rAv w c) else bI1 (rFm w) (rBs w c)) = aI1 (figN w c pp) := by
  unfold figN
  rw [bI_o h]
  split <;> rfl
theorem figN_le {w : zRd} (hk : rOK w) {c : Nat} {pp : Int} (hc : c < 12) : figN w c pp ≤ 100666 := by
  unfold figN
  split
  · exact rAv_le hk hc
  · have := rBs_le hk hc
    omega
theorem aI1_c (a : Nat) : ∃ g : Int, aI1 a = g ∧ ((a = 0 ∧ g = -1) ∨ (a ≠ 0 ∧ g = a)) := by
  unfold aI1
  split
  · exact ⟨_, rfl, Or.inl ⟨by assumption, rfl⟩⟩
  · exact ⟨_, rfl, Or.inr ⟨by assumption, rfl⟩⟩
def mkRc (w : zRd) : Prop := rFm w = 53 ∧ rCl w = true ∧ rUd w = false
/-- one of a region has a figure so good -/
def btr (T : tfT) (w : zRd) (reg : Nat) (pp br : Int) (i : Nat) : Prop := tRg T i = reg ∧ figN w i pp ≠ 0 ∧ (figN w i pp : Int) ≤ br
theorem hasUp_lp {j reg : Nat} {pp br : Int} (hd : 5 ≤ d) (hf : tf x z pb rb T (I, L, R)) (hj : j < tRn T) (h53 : rFm (tRd T j) = 53) (hpp : i32 pp) (hreg : reg ≤ 5) (hbr : i32 br) (t : (∃ i, i < tCn T ∧ btr T (tRd T j) reg pp br i) → Q (.inl (some (zi (iI 1)))) (I, L, R)) (f : ¬ (∃ i, i < tCn T ∧ btr T (tRd T j) reg pp br i) → Q (.inl (some (zi (iI 0)))) (I, L, R)) :
    ∀ n i, i + n = tCn T → (∀ m, m < i → ¬ btr T (tRd T j) reg pp br m) → ∀ (y : Int32) (v : Option zV), y = iI (i : Int) → zW 158 d 0 0 3 [some (zr (some x)), some (zr (some (rb j))), some (zi (iI (reg : Int))), some (zi (iI pp)), some (zi (iI br)), some (zi y), v] [] (I, L, R) Q
  | 0, i, hin, hm, y, v, e => by
    subst e
    have k0 := tf_k0 hf
    obtain ⟨-, ⟨b1, b2⟩, -⟩ := own_ok hf
    have h12 := hf.1.2.2.2.1.1
    refine zW.gbt [] rfl rfl rfl (by omega) (by simp (disch := omega) only [true_or, or_true, eq_self, Option.some.injEq, Prod.mk.injEq, zall_0, zall_1, zall_2, zob_iff, zar_iff, zis_iff, zkIs_some, zkHas_some, iI_vp, z01_I, z01_bz, zch_I, true_and, and_true, or_false, false_or, and_self, upI_same, upL_same, upI_ne, upL_ne, iI_ixN, zI_mk, zL_mk, zP_mk, zK_mk, zN_mk, zwI_up, zwL_up, zg_some, Nat.reduceMod, Nat.reduceDiv, zcn_I, iI_add, iI_sub, iI_mul, iI_neg, iI_lt, iI_le, iI_eq, iI_lt0, iI_le0, iI_gt0, iI_ge0, iI_eq0, k0] <;> omega) (by simp (disch := omega) only [eq_self, not_true_eq_false, not_false_eq_true, upI_same, upL_same, upI_ne, upL_ne, iI_ixN, zI_mk, zL_mk, zP_mk, zK_mk, zN_mk, zwI_up, zwL_up, zg_some, Nat.reduceMod, Nat.reduceDiv, zcn_I, iI_add, iI_sub, iI_mul, iI_neg, iI_lt, iI_le, iI_eq, iI_lt0, iI_le0, iI_gt0, iI_ge0, iI_eq0, b1] <;> omega) ?_
    refine zW.gr [] rfl rfl rfl (by omega) trivial z01c0 ?_
    rw [zcn_I]
    exact f (fun ⟨m, q1, q2⟩ => hm m (by omega) q2)
  | n + 1, i, hin, hm, y, v, e => by
    subst e
    have k0 := tf_k0 hf
    obtain ⟨-, ⟨b1, b2⟩, -⟩ := own_ok hf
    have h12 := hf.1.2.2.2.1.1
    have h5 := hf.1.2.2.2.1.2 i (by omega)
    have p6 : R.1 x 6 = some (x + 15) := hf.2.1.1.2.2.2.2.2.1
    have k15 : R.2.1 (x + 15) = some (20, 12) := hf.2.1.1.2.2.2.2.2.2.2.2.2.2.2.1
    obtain ⟨hL, hk, hz, hR⟩ := tf_rd hf hj
    have b0 := hL.1
    have v1 := b2 i (by omega)
    have hfg := figN_le (pp := pp) hk (show i < 12 by omega)
    obtain ⟨hp1, hp2⟩ := hpp
    obtain ⟨hr1, hr2⟩ := hbr
    have NX : ¬ btr T (tRd T j) reg pp br i → ∀ w, zW 158 d 0 0 53 [some (zr (some x)), some (zr (some (rb j))), some (zi (iI (reg : Int))), some (zi (iI pp)), some (zi (iI br)), some (zi (iI (i : Int))), w] [] (I, L, R) Q := fun hn w => by
      refine zW.go [3] rfl (by omega) trivial ?_
      exact hasUp_lp hd hf hj h53 ⟨hp1, hp2⟩ hreg ⟨hr1, hr2⟩ t f n (i + 1) (by omega) (fun m q => by
        by_cases e : m = i
        · rw [e]
          exact hn
        · exact hm m (by omega)) _ _ (by rw [zcn_I, iI_add]; rfl)
    refine zW.gbf [] rfl rfl rfl (by omega) (by simp (disch := omega) only [true_or, or_true, eq_self, Option.some.injEq, Prod.mk.injEq, zall_0, zall_1, zall_2, zob_iff, zar_iff, zis_iff, zkIs_some, zkHas_some, iI_vp, z01_I, z01_bz, zch_I, true_and, and_true, or_false, false_or, and_self, upI_same, upL_same, upI_ne, upL_ne, iI_ixN, zI_mk, zL_mk, zP_mk, zK_mk, zN_mk, zwI_up, zwL_up, zg_some, Nat.reduceMod, Nat.reduceDiv, zcn_I, iI_add, iI_sub, iI_mul, iI_neg, iI_lt, iI_le, iI_eq, iI_lt0, iI_le0, iI_gt0, iI_ge0, iI_eq0, k0] <;> omega) (by simp (disch := omega) only [eq_self, not_true_eq_false, not_false_eq_true, upI_same, upL_same, upI_ne, upL_ne, iI_ixN, zI_mk, zL_mk, zP_mk, zK_mk, zN_mk, zwI_up, zwL_up, zg_some, Nat.reduceMod, Nat.reduceDiv, zcn_I, iI_add, iI_sub, iI_mul, iI_neg, iI_lt, iI_le, iI_eq, iI_lt0, iI_le0, iI_gt0, iI_ge0, iI_eq0, b1] <;> omega) ?_
    refine zW.gbf [] rfl rfl rfl (by omega) trivial (by simp (disch := omega) only [eq_self, not_true_eq_false, not_false_eq_true, upI_same, upL_same, upI_ne, upL_ne, iI_ixN, zI_mk, zL_mk, zP_mk, zK_mk, zN_mk, zwI_up, zwL_up, zg_some, Nat.reduceMod, Nat.reduceDiv, zcn_I, iI_add, iI_sub, iI_mul, iI_neg, iI_lt, iI_le, iI_eq, iI_lt0, iI_le0, iI_gt0, iI_ge0, iI_eq0] <;> omega) ?_
    refine zW.gz [] rfl rfl rfl (by omega) trivial ⟨_, rfl, b0⟩ rfl rfl (by decide +kernel) (by decide +kernel) ?_
    refine figure_ok (by omega) hL hk hR rfl rfl hp1 hp2 (by omega) ?_
    rw [fig_eq (by omega)]
    obtain ⟨g, hg, gc⟩ := aI1_c (figN (tRd T j) i pp)
    rw [hg]
    refine zW.gb [] rfl rfl rfl (by omega) (by simp (disch := omega) only [true_or, or_true, eq_self, Option.some.injEq, Prod.mk.injEq, zall_0, zall_1, zall_2, zob_iff, zar_iff, zis_iff, zkIs_some, zkHas_some, iI_vp, z01_I, z01_bz, zch_I, true_and, and_true, or_false, false_or, and_self, upI_same, upL_same, upI_ne, upL_ne, iI_ixN, zI_mk, zL_mk, zP_mk, zK_mk, zN_mk, zwI_up, zwL_up, zg_some, Nat.reduceMod, Nat.reduceDiv, zcn_I, iI_add, iI_sub, iI_mul, iI_neg, iI_lt, iI_le, iI_eq, iI_lt0, iI_le0, iI_gt0, iI_ge0, iI_eq0, k0, p6, k15] <;> omega) (fun h' => ?_) (fun h' => ?_)
    · simp (disch := omega) only [zcn_I, iI_add, iI_sub, iI_mul, iI_neg, iI_lt, iI_le, iI_eq, iI_lt0, iI_le0, iI_gt0, iI_ge0, iI_eq0, upI_same, upL_same, upI_ne, upL_ne, iI_ixN, zI_mk, zL_mk, zP_mk, zK_mk, zN_mk, zwI_up, zwL_up, zg_some, Nat.reduceMod, Nat.reduceDiv, p6, v1] at h'
      exact NX (fun q => by have := q.1; omega) _
    · simp (disch := omega) only [zcn_I, iI_add, iI_sub, iI_mul, iI_neg, iI_lt, iI_le, iI_eq, iI_lt0, iI_le0, iI_gt0, iI_ge0, iI_eq0, upI_same, upL_same, upI_ne, upL_ne, iI_ixN, zI_mk, zL_mk, zP_mk, zK_mk, zN_mk, zwI_up, zwL_up, zg_some, Nat.reduceMod, Nat.reduceDiv, p6, v1] at h'
      refine zW.gb [] rfl rfl rfl (by omega) trivial (fun h2 => ?_) (fun h2 => ?_)
      · simp (disch := omega) only [zcn_I, iI_add, iI_sub, iI_mul, iI_neg, iI_lt, iI_le, iI_eq, iI_lt0, iI_le0, iI_gt0, iI_ge0, iI_eq0, upI_same, upL_same, upI_ne, upL_ne, iI_ixN, zI_mk, zL_mk, zP_mk, zK_mk, zN_mk, zwI_up, zwL_up, zg_some, Nat.reduceMod, Nat.reduceDiv] at h2
        exact NX (fun q => by have := q.2.1; omega) _
      · simp (disch := omega) only [zcn_I, iI_add, iI_sub, iI_mul, iI_neg, iI_lt, iI_le, iI_eq, iI_lt0, iI_le0, iI_gt0, iI_ge0, iI_eq0, upI_same, upL_same, upI_ne, upL_ne, iI_ixN, zI_mk, zL_mk, zP_mk, zK_mk, zN_mk, zwI_up, zwL_up, zg_some, Nat.reduceMod, Nat.reduceDiv] at h2
        refine zW.gb [] rfl rfl rfl (by omega) trivial (fun h3 => ?_) (fun h3 => ?_)
        · simp (disch := omega) only [zcn_I, iI_add, iI_sub, iI_mul, iI_neg, iI_lt, iI_le, iI_eq, iI_lt0, iI_le0, iI_gt0, iI_ge0, iI_eq0, upI_same, upL_same, upI_ne, upL_ne, iI_ixN, zI_mk, zL_mk, zP_mk, zK_mk, zN_mk, zwI_up, zwL_up, zg_some, Nat.reduceMod, Nat.reduceDiv] at h3
          exact NX (fun q => by have := q.2.2; omega) _
        · simp (disch := omega) only [zcn_I, iI_add, iI_sub, iI_mul, iI_neg, iI_lt, iI_le, iI_eq, iI_lt0, iI_le0, iI_gt0, iI_ge0, iI_eq0, upI_same, upL_same, upI_ne, upL_ne, iI_ixN, zI_mk, zL_mk, zP_mk, zK_mk, zN_mk, zwI_up, zwL_up, zg_some, Nat.reduceMod, Nat.reduceDiv] at h3
          refine zW.gr [] rfl rfl rfl (by omega) trivial z01c1 ?_
          rw [zcn_I]
          exact t ⟨i, by omega, by omega, by omega, by omega⟩
def barr (w v : zRd) (c : Nat) (pp : Int) : Int := if rDy v < rDy w then (figN w c pp : Int) else (figN w c pp : Int) - 1
/-- a round stands against a record -/
def agst (T : tfT) (j c : Nat) (pp : Int) (k : Nat) : Prop := mkRc (tRd T k) ∧ rDy (tRd T k) ≤ rDy (tRd T j) ∧ ∃ i, i < tCn T ∧ btr T (tRd T k) (tRg T c) pp (barr (tRd T j) (tRd T k) c pp) i
def hRec (T : tfT) (j c : Nat) (pp : Int) : Prop := mkRc (tRd T j) ∧ figN (tRd T j) c pp ≠ 0 ∧ ∀ k, k < tRn T → ¬ agst T j c pp k
theorem holds_lp {j c : Nat} {pp : Int} (hd : 6 ≤ d) (hf : tf x z pb rb T (I, L, R)) (hj : j < tRn T) (hc : c < tCn T) (hpp : i32 pp) (h1 : mkRc (tRd T j)) (h2 : figN (tRd T j) c pp ≠ 0) (t : hRec T j c pp → Q (.inl (some (zi (iI 1)))) (I, L, R)) (f : ¬ hRec T j c pp → Q (.inl (some (zi (iI 0)))) (I, L, R)) :
    ∀ n k, k + n = tRn T → (∀ m, m < k → ¬ agst T j c pp m) → ∀ (y : Int32) (v w : Option zV), y = iI (k : Int) → zW 157 d 0 0 35 [some (zr (some x)), some (zr (some (rb j))), some (zi (iI (c : Int))), some (zi (iI pp)), some (zi (iI (figN (tRd T j) c pp : Int))), some (zi y), v, w] [] (I, L, R) Q
  | 0, k, hin, hm, y, v, w, e => by
    subst e
    have k0 := tf_k0 hf
    have r9 : I x 9 = iI (tRn T : Int) := hf.2.2.2.2.2.2.2.1.1
    have h8 := hf.1.2.2.2.2.1.1
    refine zW.gbt [] rfl rfl rfl (by omega) (by simp (disch := omega) only [true_or, or_true, eq_self, Option.some.injEq, Prod.mk.injEq, zall_0, zall_1, zall_2, zob_iff, zar_iff, zis_iff, zkIs_some, zkHas_some, iI_vp, z01_I, z01_bz, zch_I, true_and, and_true, or_false, false_or, and_self, upI_same, upL_same, upI_ne, upL_ne, iI_ixN, zI_mk, zL_mk, zP_mk, zK_mk, zN_mk, zwI_up, zwL_up, zg_some, Nat.reduceMod, Nat.reduceDiv, zcn_I, iI_add, iI_sub, iI_mul, iI_neg, iI_lt, iI_le, iI_eq, iI_lt0, iI_le0, iI_gt0, iI_ge0, iI_eq0, k0] <;> omega) (by simp (disch := omega) only [eq_self, not_true_eq_false, not_false_eq_true, upI_same, upL_same, upI_ne, upL_ne, iI_ixN, zI_mk, zL_mk, zP_mk, zK_mk, zN_mk, zwI_up, zwL_up, zg_some, Nat.reduceMod, Nat.reduceDiv, zcn_I, iI_add, iI_sub, iI_mul, iI_neg, iI_lt, iI_le, iI_eq, iI_lt0, iI_le0, iI_gt0, iI_ge0, iI_eq0, r9] <;> omega) ?_
    refine zW.gr [] rfl rfl rfl (by omega) trivial z01c1 ?_
    rw [zcn_I]
    exact t ⟨h1, h2, fun m q => hm m (by omega)⟩
  | n + 1, k, hin, hm, y, v, w, e => by
    subst e
    have k0 := tf_k0 hf
    have h12 := hf.1.2.2.2.1.1
    have h5 := hf.1.2.2.2.1.2 c (by omega)
    have p6 : R.1 x 6 = some (x + 15) := hf.2.1.1.2.2.2.2.2.1
    have k15 : R.2.1 (x + 15) = some (20, 12) := hf.2.1.1.2.2.2.2.2.2.2.2.2.2.2.1
    have p8 : R.1 x 8 = some (x + 16) := hf.2.1.1.2.2.2.2.2.2.1
    have k16 : R.2.1 (x + 16) = some (28, 8) := hf.2.1.1.2.2.2.2.2.2.2.2.2.2.2.2
    have r9 : I x 9 = iI (tRn T : Int) := hf.2.2.2.2.2.2.2.1.1
    have h8 := hf.1.2.2.2.2.1.1
    obtain ⟨-, ⟨b1, b2⟩, -⟩ := own_ok hf
    have v1 := b2 c hc
    obtain ⟨hL, hk, hz, hR⟩ := tf_rd hf hj
    obtain ⟨hL', hk', hz', hR'⟩ := tf_rd hf (show k < tRn T by omega)
    have b0 := hL.1
    have b0' := hL'.1
    have q : R.1 (x + 16) k = some (rb k) := (hf.2.1.2.2 k (by omega)).1
    have d1 := hR.2.2.2.2.2.1
    have d2 := hR'.2.2.2.2.2.1
    have o1 := hk.2.2.2.1
    have o2 := hk'.2.2.2.1
    have hfg := figN_le (pp := pp) hk (show c < 12 by omega)
    have NX : ¬ agst T j c pp k → ∀ v w, zW 157 d 0 0 128 [some (zr (some x)), some (zr (some (rb j))), some (zi (iI (c : Int))), some (zi (iI pp)), some (zi (iI (figN (tRd T j) c pp : Int))), some (zi (iI (k : Int))), v, w] [] (I, L, R) Q := fun hn v w => by
      refine zW.go [35] rfl (by omega) trivial ?_
      exact holds_lp hd hf hj hc hpp h1 h2 t f n (k + 1) (by omega) (fun m q => by
        by_cases e : m = k
        · rw [e]
          exact hn
        · exact hm m (by omega)) _ _ _ (by rw [zcn_I, iI_add]; rfl)
    refine zW.gbf [] rfl rfl rfl (by omega) (by simp (disch := omega) only [true_or, or_true, eq_self, Option.some.injEq, Prod.mk.injEq, zall_0, zall_1, zall_2, zob_iff, zar_iff, zis_iff, zkIs_some, zkHas_some, iI_vp, z01_I, z01_bz, zch_I, true_and, and_true, or_false, false_or, and_self, upI_same, upL_same, upI_ne, upL_ne, iI_ixN, zI_mk, zL_mk, zP_mk, zK_mk, zN_mk, zwI_up, zwL_up, zg_some, Nat.reduceMod, Nat.reduceDiv, zcn_I, iI_add, iI_sub, iI_mul, iI_neg, iI_lt, iI_le, iI_eq, iI_lt0, iI_le0, iI_gt0, iI_ge0, iI_eq0, k0] <;> omega) (by simp (disch := omega) only [eq_self, not_true_eq_false, not_false_eq_true, upI_same, upL_same, upI_ne, upL_ne, iI_ixN, zI_mk, zL_mk, zP_mk, zK_mk, zN_mk, zwI_up, zwL_up, zg_some, Nat.reduceMod, Nat.reduceDiv, zcn_I, iI_add, iI_sub, iI_mul, iI_neg, iI_lt, iI_le, iI_eq, iI_lt0, iI_le0, iI_gt0, iI_ge0, iI_eq0, r9] <;> omega) ?_
    refine zW.gbf [] rfl rfl rfl (by omega) trivial (by simp (disch := omega) only [eq_self, not_true_eq_false, not_false_eq_true, upI_same, upL_same, upI_ne, upL_ne, iI_ixN, zI_mk, zL_mk, zP_mk, zK_mk, zN_mk, zwI_up, zwL_up, zg_some, Nat.reduceMod, Nat.reduceDiv, zcn_I, iI_add, iI_sub, iI_mul, iI_neg, iI_lt, iI_le, iI_eq, iI_lt0, iI_le0, iI_gt0, iI_ge0, iI_eq0] <;> omega) ?_
    refine zW.gbf [] rfl rfl rfl (by omega) (by simp (disch := omega) only [true_or, or_true, eq_self, Option.some.injEq, Prod.mk.injEq, zall_0, zall_1, zall_2, zob_iff, zar_iff, zis_iff, zkIs_some, zkHas_some, iI_vp, z01_I, z01_bz, zch_I, true_and, and_true, or_false, false_or, and_self, upI_same, upL_same, upI_ne, upL_ne, iI_ixN, zI_mk, zL_mk, zP_mk, zK_mk, zN_mk, zwI_up, zwL_up, zg_some, Nat.reduceMod, Nat.reduceDiv, zcn_I, iI_add, iI_sub, iI_mul, iI_neg, iI_lt, iI_le, iI_eq, iI_lt0, iI_le0, iI_gt0, iI_ge0, iI_eq0, k0, p8, k16, q] <;> omega) ?_ ?_
    · simp (disch := omega) [upI_same, upL_same, upI_ne, upL_ne, iI_ixN, zI_mk, zL_mk, zP_mk, zK_mk, zN_mk, zwI_up, zwL_up, zg_some, Nat.reduceMod, Nat.reduceDiv, p8, q]
    simp (disch := omega) only [upI_same, upL_same, upI_ne, upL_ne, iI_ixN, zI_mk, zL_mk, zP_mk, zK_mk, zN_mk, zwI_up, zwL_up, zg_some, Nat.reduceMod, Nat.reduceDiv, zcn_I, iI_add, iI_sub, iI_mul, iI_neg, iI_lt, iI_le, iI_eq, iI_lt0, iI_le0, iI_gt0, iI_ge0, iI_eq0, p8, q]
    refine zW.gz [] rfl rfl rfl (by omega) trivial ⟨_, rfl, b0'⟩ rfl rfl (by decide +kernel) (by decide +kernel) ?_
    refine makesRec_ok (by omega) hL' hk' hR' (fun g1 => ?_) (fun g1 => ?_)
    · refine zW.gbf [] rfl rfl rfl (by omega) trivial (by simp (disch := omega) only [eq_self, not_true_eq_false, not_false_eq_true, upI_same, upL_same, upI_ne, upL_ne, iI_ixN, zI_mk, zL_mk, zP_mk, zK_mk, zN_mk, zwI_up, zwL_up, zg_some, Nat.reduceMod, Nat.reduceDiv, zcn_I, iI_add, iI_sub, iI_mul, iI_neg, iI_lt, iI_le, iI_eq, iI_lt0, iI_le0, iI_gt0, iI_ge0, iI_eq0] <;> omega) ?_
      refine zW.gb [] rfl rfl rfl (by omega) (by simp (disch := omega) only [true_or, or_true, eq_self, Option.some.injEq, Prod.mk.injEq, zall_0, zall_1, zall_2, zob_iff, zar_iff, zis_iff, zkIs_some, zkHas_some, iI_vp, z01_I, z01_bz, zch_I, true_and, and_true, or_false, false_or, and_self, upI_same, upL_same, upI_ne, upL_ne, iI_ixN, zI_mk, zL_mk, zP_mk, zK_mk, zN_mk, zwI_up, zwL_up, zg_some, Nat.reduceMod, Nat.reduceDiv, zcn_I, iI_add, iI_sub, iI_mul, iI_neg, iI_lt, iI_le, iI_eq, iI_lt0, iI_le0, iI_gt0, iI_ge0, iI_eq0, b0, b0'] <;> omega) (fun h' => ?_) (fun h' => ?_)
      · simp (disch := omega) only [zcn_I, iI_add, iI_sub, iI_mul, iI_neg, iI_lt, iI_le, iI_eq, iI_lt0, iI_le0, iI_gt0, iI_ge0, iI_eq0, upI_same, upL_same, upI_ne, upL_ne, iI_ixN, zI_mk, zL_mk, zP_mk, zK_mk, zN_mk, zwI_up, zwL_up, zg_some, Nat.reduceMod, Nat.reduceDiv, d1, d2] at h'
        exact NX (fun q => by have := q.2.1; omega) _ _
      · simp (disch := omega) only [zcn_I, iI_add, iI_sub, iI_mul, iI_neg, iI_lt, iI_le, iI_eq, iI_lt0, iI_le0, iI_gt0, iI_ge0, iI_eq0, upI_same, upL_same, upI_ne, upL_ne, iI_ixN, zI_mk, zL_mk, zP_mk, zK_mk, zN_mk, zwI_up, zwL_up, zg_some, Nat.reduceMod, Nat.reduceDiv, d1, d2] at h'
        have F : ∀ y : Int32, y = iI (barr (tRd T j) (tRd T k) c pp) → zW 157 d 0 0 106 [some (zr (some x)), some (zr (some (rb j))), some (zi (iI (c : Int))), some (zi (iI pp)), some (zi (iI (figN (tRd T j) c pp : Int))), some (zi (iI (k : Int))), some (zr (some (rb k))), w] [zi y] (I, L, R) Q := fun y ey => by
          subst ey
          have hb32 : i32 (barr (tRd T j) (tRd T k) c pp) := by
            unfold barr
            split
            · exact ⟨by omega, by omega⟩
            · exact ⟨by omega, by omega⟩
          refine zW.gz [] rfl rfl rfl (by omega) (by simp (disch := omega) only [true_or, or_true, eq_self, Option.some.injEq, Prod.mk.injEq, zall_0, zall_1, zall_2, zob_iff, zar_iff, zis_iff, zkIs_some, zkHas_some, iI_vp, z01_I, z01_bz, zch_I, true_and, and_true, or_false, false_or, and_self, upI_same, upL_same, upI_ne, upL_ne, iI_ixN, zI_mk, zL_mk, zP_mk, zK_mk, zN_mk, zwI_up, zwL_up, zg_some, Nat.reduceMod, Nat.reduceDiv, zcn_I, iI_add, iI_sub, iI_mul, iI_neg, iI_lt, iI_le, iI_eq, iI_lt0, iI_le0, iI_gt0, iI_ge0, iI_eq0, k0, p6, k15] <;> omega) ⟨_, rfl, k0⟩ rfl rfl (by decide +kernel) (by decide +kernel) ?_
          simp (disch := omega) only [upI_same, upL_same, upI_ne, upL_ne, iI_ixN, zI_mk, zL_mk, zP_mk, zK_mk, zN_mk, zwI_up, zwL_up, zg_some, Nat.reduceMod, Nat.reduceDiv, zcn_I, iI_add, iI_sub, iI_mul, iI_neg, iI_lt, iI_le, iI_eq, iI_lt0, iI_le0, iI_gt0, iI_ge0, iI_eq0, p6, v1]
          refine zS.of (zW.go [3] rfl (by omega) trivial ?_)
          refine hasUp_lp (by omega) hf (show k < tRn T by omega) g1.1 hpp h5 hb32 (fun g2 => ?_) (fun g2 => ?_) (tCn T) 0 (by omega) (fun m q => absurd q (Nat.not_lt_zero _)) _ _ (zcn_I _)
          · refine zW.gbf [] rfl rfl rfl (by omega) trivial (by simp (disch := omega) only [eq_self, not_true_eq_false, not_false_eq_true, upI_same, upL_same, upI_ne, upL_ne, iI_ixN, zI_mk, zL_mk, zP_mk, zK_mk, zN_mk, zwI_up, zwL_up, zg_some, Nat.reduceMod, Nat.reduceDiv, zcn_I, iI_add, iI_sub, iI_mul, iI_neg, iI_lt, iI_le, iI_eq, iI_lt0, iI_le0, iI_gt0, iI_ge0, iI_eq0] <;> omega) ?_
            refine zW.gr [] rfl rfl rfl (by omega) trivial z01c0 ?_
            rw [zcn_I]
            exact f (fun q => q.2.2 k (by omega) ⟨g1, by omega, g2⟩)
          · refine zW.gbt [] rfl rfl rfl (by omega) trivial (by simp (disch := omega) only [eq_self, not_true_eq_false, not_false_eq_true, upI_same, upL_same, upI_ne, upL_ne, iI_ixN, zI_mk, zL_mk, zP_mk, zK_mk, zN_mk, zwI_up, zwL_up, zg_some, Nat.reduceMod, Nat.reduceDiv, zcn_I, iI_add, iI_sub, iI_mul, iI_neg, iI_lt, iI_le, iI_eq, iI_lt0, iI_le0, iI_gt0, iI_ge0, iI_eq0] <;> omega) ?_
            exact NX (fun q => g2 q.2.2) _ _
        refine zW.gb [] rfl rfl rfl (by omega) (by simp (disch := omega) only [true_or, or_true, eq_self, Option.some.injEq, Prod.mk.injEq, zall_0, zall_1, zall_2, zob_iff, zar_iff, zis_iff, zkIs_some, zkHas_some, iI_vp, z01_I, z01_bz, zch_I, true_and, and_true, or_false, false_or, and_self, upI_same, upL_same, upI_ne, upL_ne, iI_ixN, zI_mk, zL_mk, zP_mk, zK_mk, zN_mk, zwI_up, zwL_up, zg_some, Nat.reduceMod, Nat.reduceDiv, zcn_I, iI_add, iI_sub, iI_mul, iI_neg, iI_lt, iI_le, iI_eq, iI_lt0, iI_le0, iI_gt0, iI_ge0, iI_eq0, b0, b0'] <;> omega) (fun h3 => ?_) (fun h3 => ?_)
        · simp (disch := omega) only [zcn_I, iI_add, iI_sub, iI_mul, iI_neg, iI_lt, iI_le, iI_eq, iI_lt0, iI_le0, iI_gt0, iI_ge0, iI_eq0, upI_same, upL_same, upI_ne, upL_ne, iI_ixN, zI_mk, zL_mk, zP_mk, zK_mk, zN_mk, zwI_up, zwL_up, zg_some, Nat.reduceMod, Nat.reduceDiv, d1, d2] at h3
          refine zW.go [106] rfl (by omega) trivial ?_
          refine F _ ?_
          unfold barr
          rw [if_neg (by omega), zcn_I, iI_sub]
        · simp (disch := omega) only [zcn_I, iI_add, iI_sub, iI_mul, iI_neg, iI_lt, iI_le, iI_eq, iI_lt0, iI_le0, iI_gt0, iI_ge0, iI_eq0, upI_same, upL_same, upI_ne, upL_ne, iI_ixN, zI_mk, zL_mk, zP_mk, zK_mk, zN_mk, zwI_up, zwL_up, zg_some, Nat.reduceMod, Nat.reduceDiv, d1, d2] at h3
          refine zW.go [106] rfl (by omega) trivial ?_
          refine F _ ?_
          unfold barr
          rw [if_pos (by omega)]
    · refine zW.gbt [] rfl rfl rfl (by omega) trivial (by simp (disch := omega) only [eq_self, not_true_eq_false, not_false_eq_true, upI_same, upL_same, upI_ne, upL_ne, iI_ixN, zI_mk, zL_mk, zP_mk, zK_mk, zN_mk, zwI_up, zwL_up, zg_some, Nat.reduceMod, Nat.reduceDiv, zcn_I, iI_add, iI_sub, iI_mul, iI_neg, iI_lt, iI_le, iI_eq, iI_lt0, iI_le0, iI_gt0, iI_ge0, iI_eq0] <;> omega) ?_
      exact NX (fun q => g1 q.1) _ _
theorem holds_ok {j c : Nat} {pp : Int} {a b : Int32} (hd : 6 ≤ d) (hf : tf x z pb rb T (I, L, R)) (hj : j < tRn T) (hc : c < tCn T) (e1 : a = iI (c : Int)) (e2 : b = iI pp) (hpp : i32 pp) (t : hRec T j c pp → Q (.inl (some (zi (iI 1)))) (I, L, R)) (f : ¬ hRec T j c pp → Q (.inl (some (zi (iI 0)))) (I, L, R)) : zS 157 d [zr (some x), zr (some (rb j)), zi a, zi b] (I, L, R) Q := by
  subst e1; subst e2
  have h12 := hf.1.2.2.2.1.1
  obtain ⟨hL, hk, hz, hR⟩ := tf_rd hf hj
  have b0 := hL.1
  have hfg := figN_le (pp := pp) hk (show c < 12 by omega)
  refine zW.gz [] rfl rfl rfl (by omega) trivial ⟨_, rfl, b0⟩ rfl rfl (by decide +kernel) (by decide +kernel) ?_
  refine makesRec_ok (by omega) hL hk hR (fun g1 => ?_) (fun g1 => ?_)
  · refine zW.gbf [] rfl rfl rfl (by omega) trivial (by simp (disch := omega) only [eq_self, not_true_eq_false, not_false_eq_true, upI_same, upL_same, upI_ne, upL_ne, iI_ixN, zI_mk, zL_mk, zP_mk, zK_mk, zN_mk, zwI_up, zwL_up, zg_some, Nat.reduceMod, Nat.reduceDiv, zcn_I, iI_add, iI_sub, iI_mul, iI_neg, iI_lt, iI_le, iI_eq, iI_lt0, iI_le0, iI_gt0, iI_ge0, iI_eq0] <;> omega) ?_
    refine zW.gz [] rfl rfl rfl (by omega) trivial ⟨_, rfl, b0⟩ rfl rfl (by decide +kernel) (by decide +kernel) ?_
    refine figure_ok (by omega) hL hk hR rfl rfl hpp.1 hpp.2 (by omega) ?_
    rw [fig_eq (by omega)]
    obtain ⟨g, hg, gc⟩ := aI1_c (figN (tRd T j) c pp)
    rw [hg]
    refine zW.gb [] rfl rfl rfl (by omega) trivial (fun h' => ?_) (fun h' => ?_)
    · simp (disch := omega) only [zcn_I, iI_add, iI_sub, iI_mul, iI_neg, iI_lt, iI_le, iI_eq, iI_lt0, iI_le0, iI_gt0, iI_ge0, iI_eq0, upI_same, upL_same, upI_ne, upL_ne, iI_ixN, zI_mk, zL_mk, zP_mk, zK_mk, zN_mk, zwI_up, zwL_up, zg_some, Nat.reduceMod, Nat.reduceDiv] at h'
      refine zW.gr [] rfl rfl rfl (by omega) trivial z01c0 ?_
      rw [zcn_I]
      exact f (fun q => by have := q.2.1; omega)
    · simp (disch := omega) only [zcn_I, iI_add, iI_sub, iI_mul, iI_neg, iI_lt, iI_le, iI_eq, iI_lt0, iI_le0, iI_gt0, iI_ge0, iI_eq0, upI_same, upL_same, upI_ne, upL_ne, iI_ixN, zI_mk, zL_mk, zP_mk, zK_mk, zN_mk, zwI_up, zwL_up, zg_some, Nat.reduceMod, Nat.reduceDiv] at h'
      refine zW.gbt [] rfl rfl rfl (by omega) trivial (by simp (disch := omega) only [eq_self, not_true_eq_false, not_false_eq_true, upI_same, upL_same, upI_ne, upL_ne, iI_ixN, zI_mk, zL_mk, zP_mk, zK_mk, zN_mk, zwI_up, zwL_up, zg_some, Nat.reduceMod, Nat.reduceDiv, zcn_I, iI_add, iI_sub, iI_mul, iI_neg, iI_lt, iI_le, iI_eq, iI_lt0, iI_le0, iI_gt0, iI_ge0, iI_eq0] <;> omega) ?_
      obtain rfl : g = (figN (tRd T j) c pp : Int) := by omega
      refine zW.go [35] rfl (by omega) trivial ?_
      exact holds_lp hd hf hj hc hpp g1 (by omega) t f (tRn T) 0 (by omega) (fun m q => absurd q (Nat.not_lt_zero _)) _ _ _ (zcn_I _)
  · refine zW.gbt [] rfl rfl rfl (by omega) trivial (by simp (disch := omega) only [eq_self, not_true_eq_false, not_false_eq_true, upI_same, upL_same, upI_ne, upL_ne, iI_ixN, zI_mk, zL_mk, zP_mk, zK_mk, zN_mk, zwI_up, zwL_up, zg_some, Nat.reduceMod, Nat.reduceDiv, zcn_I, iI_add, iI_sub, iI_mul, iI_neg, iI_lt, iI_le, iI_eq, iI_lt0, iI_le0, iI_gt0, iI_ge0, iI_eq0] <;> omega) ?_
    refine zW.gbt [] rfl rfl rfl (by omega) trivial (by simp (disch := omega) only [eq_self, not_true_eq_false, not_false_eq_true, upI_same, upL_same, upI_ne, upL_ne, iI_ixN, zI_mk, zL_mk, zP_mk, zK_mk, zN_mk, zwI_up, zwL_up, zg_some, Nat.reduceMod, Nat.reduceDiv, zcn_I, iI_add, iI_sub, iI_mul, iI_neg, iI_lt, iI_le, iI_eq, iI_lt0, iI_le0, iI_gt0, iI_ge0, iI_eq0] <;> omega) ?_
    refine zW.gr [] rfl rfl rfl (by omega) trivial z01c0 ?_
    rw [zcn_I]
    exact f (fun q => g1 q.1)
end TREC
