/-! The model reads words, one within another. -/
/-- a word read from i on -/
def WHs (y : Nat) (L : Nat → Nat → Int64) (R : zRt) (sg : List Nat) (f : Nat) : Prop := ∀ (d i : Nat) (w : wSt) (I : Nat → Nat → Int32) (Q : zO → zM → Prop), 2 * f + 8 ≤ d → sg.length - i ≤ f → rdR y I sg i → spR y I w.1 → wOK w → w.2.1.length ≤ i → fInv sg i w.2.2.2.1 w.2.2.2.2 →
  (∀ j w' I', pfr y I I' → rdR y I' sg j → spR y I' w'.1 → i ≤ j → wOK w' → w'.2.1 = w.2.1 → (j = sg.length ∨ wstop (nth sg j)) → mkN (sg.drop i) w = mkN (sg.drop j) w' → Q (.inl (some (zi (iI 1)))) (I', L, R)) →
  (wF sg i w → ∀ I', pfr y I I' → Q (.inl (some (zi (iI 0)))) (I', L, R)) → zS 214 d [zr (some y)] (I, L, R) Q
def PHs (y : Nat) (L : Nat → Nat → Int64) (R : zRt) (sg : List Nat) (f : Nat) : Prop := ∀ (d i : Nat) (w : wSt) (I : Nat → Nat → Int32) (Q : zO → zM → Prop), 2 * f + 7 ≤ d → sg.length - i ≤ f → i < sg.length → ¬ wstop (nth sg i) → rdR y I sg i → spR y I w.1 → wOK w → w.2.1.length ≤ i → fInv sg i w.2.2.2.1 w.2.2.2.2 →
  (∀ j w' I', pfr y I I' → rdR y I' sg j → spR y I' w'.1 → i < j → wOK w' → w'.2.1 = w.2.1 → fInv sg j w'.2.2.2.1 w'.2.2.2.2 → mkN (sg.drop i) w = mkN (sg.drop j) w' → Q (.inl (some (zi (iI 1)))) (I', L, R)) →
  (wF sg i w → ∀ I', pfr y I I' → Q (.inl (some (zi (iI 0)))) (I', L, R)) → zS 215 d [zr (some y)] (I, L, R) Q
section MWORD2
variable {y : Nat} {L : Nat → Nat → Int64} {R : zRt} {sg : List Nat}
theorem WH_lp (hM : ML y R) {f : Nat} (hP : PHs y L R sg f) : ∀ g, g ≤ f → ∀ (d i : Nat) (w : wSt) (I : Nat → Nat → Int32) (b : Int32) (Q : zO → zM → Prop), 2 * f + 8 ≤ d → sg.length - i ≤ g → rdR y I sg i → spR y I w.1 → wOK w → w.2.1.length ≤ i → fInv sg i w.2.2.2.1 w.2.2.2.2 → b = iI 1 →
    (∀ j w' I', pfr y I I' → rdR y I' sg j → spR y I' w'.1 → i ≤ j → wOK w' → w'.2.1 = w.2.1 → (j = sg.length ∨ wstop (nth sg j)) → mkN (sg.drop i) w = mkN (sg.drop j) w' → Q (.inl (some (zi (iI 1)))) (I', L, R)) →
    (wF sg i w → ∀ I', pfr y I I' → Q (.inl (some (zi (iI 0)))) (I', L, R)) → zW 214 d 0 0 2 [some (zr (some y)), some (zi b)] [] (I, L, R) Q := by
  intro g
  induction g with
  | zero =>
    intro hg d i w I b Q hd hi hr hs hw hk hf eb h1 h0
    subst eb
    have k0 : R.2.1 y = some (7, 0) := hM.1
    obtain ⟨q1, q2, q3, q4, q5, q6⟩ := hr
    refine zW.gbf [] rfl rfl rfl (by omega) trivial (by simp (disch := omega) only [eq_self, not_true_eq_false, not_false_eq_true, upI_same, upL_same, upI_ne, upL_ne, iI_ixN, zI_mk, zL_mk, zP_mk, zK_mk, zN_mk, zwI_up, zwL_up, zg_some, Nat.reduceMod, Nat.reduceDiv, zcn_I, iI_add, iI_sub, iI_mul, iI_neg, iI_lt, iI_le, iI_eq, iI_lt0, iI_le0, iI_gt0, iI_ge0, iI_eq0] <;> omega) ?_
    refine zW.gbt [] rfl rfl rfl (by omega) (by simp (disch := omega) only [true_or, or_true, eq_self, Option.some.injEq, Prod.mk.injEq, zall_0, zall_1, zall_2, zob_iff, zar_iff, zis_iff, zkIs_some, zkHas_some, iI_vp, z01_I, z01_bz, zch_I, true_and, and_true, or_false, false_or, and_self, upI_same, upL_same, upI_ne, upL_ne, iI_ixN, zI_mk, zL_mk, zP_mk, zK_mk, zN_mk, zwI_up, zwL_up, zg_some, Nat.reduceMod, Nat.reduceDiv, zcn_I, iI_add, iI_sub, iI_mul, iI_neg, iI_lt, iI_le, iI_eq, iI_lt0, iI_le0, iI_gt0, iI_ge0, iI_eq0, k0] <;> omega) (by simp (disch := omega) only [eq_self, not_true_eq_false, not_false_eq_true, upI_same, upL_same, upI_ne, upL_ne, iI_ixN, zI_mk, zL_mk, zP_mk, zK_mk, zN_mk, zwI_up, zwL_up, zg_some, Nat.reduceMod, Nat.reduceDiv, zcn_I, iI_add, iI_sub, iI_mul, iI_neg, iI_lt, iI_le, iI_eq, iI_lt0, iI_le0, iI_gt0, iI_ge0, iI_eq0, q1, q5] <;> omega) ?_
    exact zW.gr [] rfl rfl rfl (by omega) trivial z01_1 (h1 i w I (pfr_rf _ _) ⟨q1, q2, q3, q4, q5, q6⟩ hs (Nat.le_refl _) hw rfl (Or.inl (by omega)) rfl)
  | succ g ih =>
    intro hg d i w I b Q hd hi hr hs hw hk hf eb h1 h0
    subst eb
    have k0 : R.2.1 y = some (7, 0) := hM.1
    have hr' := hr
    obtain ⟨q1, q2, q3, q4, q5, q6⟩ := hr'
    have p17 : R.1 y 17 = some (y + 1782) := (hM.2.1 17 (by decide)).1; have k17 : R.2.1 (y + 1782) = some (23, 30) := (hM.2.1 17 (by decide)).2
    refine zW.gbf [] rfl rfl rfl (by omega) trivial (by simp (disch := omega) only [eq_self, not_true_eq_false, not_false_eq_true, upI_same, upL_same, upI_ne, upL_ne, iI_ixN, zI_mk, zL_mk, zP_mk, zK_mk, zN_mk, zwI_up, zwL_up, zg_some, Nat.reduceMod, Nat.reduceDiv, zcn_I, iI_add, iI_sub, iI_mul, iI_neg, iI_lt, iI_le, iI_eq, iI_lt0, iI_le0, iI_gt0, iI_ge0, iI_eq0] <;> omega) ?_
    refine zW.gb [] rfl rfl rfl (by omega) (by simp (disch := omega) only [true_or, or_true, eq_self, Option.some.injEq, Prod.mk.injEq, zall_0, zall_1, zall_2, zob_iff, zar_iff, zis_iff, zkIs_some, zkHas_some, iI_vp, z01_I, z01_bz, zch_I, true_and, and_true, or_false, false_or, and_self, upI_same, upL_same, upI_ne, upL_ne, iI_ixN, zI_mk, zL_mk, zP_mk, zK_mk, zN_mk, zwI_up, zwL_up, zg_some, Nat.reduceMod, Nat.reduceDiv, zcn_I, iI_add, iI_sub, iI_mul, iI_neg, iI_lt, iI_le, iI_eq, iI_lt0, iI_le0, iI_gt0, iI_ge0, iI_eq0, k0] <;> omega) (fun h => ?_) (fun h => ?_)
    · simp (disch := omega) only [zcn_I, iI_add, iI_sub, iI_mul, iI_neg, iI_lt, iI_le, iI_eq, iI_lt0, iI_le0, iI_gt0, iI_ge0, iI_eq0, upI_same, upL_same, upI_ne, upL_ne, iI_ixN, zI_mk, zL_mk, zP_mk, zK_mk, zN_mk, zwI_up, zwL_up, zg_some, Nat.reduceMod, Nat.reduceDiv, q1, q5] at h
      exact zW.gr [] rfl rfl rfl (by omega) trivial z01_1 (h1 i w I (pfr_rf _ _) hr hs (Nat.le_refl _) hw rfl (Or.inl (by omega)) rfl)
    simp (disch := omega) only [zcn_I, iI_add, iI_sub, iI_mul, iI_neg, iI_lt, iI_le, iI_eq, iI_lt0, iI_le0, iI_gt0, iI_ge0, iI_eq0, upI_same, upL_same, upI_ne, upL_ne, iI_ixN, zI_mk, zL_mk, zP_mk, zK_mk, zN_mk, zwI_up, zwL_up, zg_some, Nat.reduceMod, Nat.reduceDiv, q1, q5] at h
    have hil : i < sg.length := by omega
    have v := q2 i hil
    have v65 := q4 _ (nth_mem (l := sg) (i := i) hil)
    refine zW.gb [] rfl rfl rfl (by omega) ?_ (fun h2 => ?_) (fun h2 => ?_)
    · simp (disch := omega) only [true_or, or_true, eq_self, Option.some.injEq, Prod.mk.injEq, zall_0, zall_1, zall_2, zob_iff, zar_iff, zis_iff, zkIs_some, zkHas_some, iI_vp, z01_I, z01_bz, zch_I, true_and, and_true, or_false, false_or, and_self, upI_same, upL_same, upI_ne, upL_ne, iI_ixN, zI_mk, zL_mk, zP_mk, zK_mk, zN_mk, zwI_up, zwL_up, zg_some, Nat.reduceMod, Nat.reduceDiv, zcn_I, iI_add, iI_sub, iI_mul, iI_neg, iI_lt, iI_le, iI_eq, iI_lt0, iI_le0, iI_gt0, iI_ge0, iI_eq0, k0, p17, k17, q5]
      omega
    · simp (disch := omega) only [zcn_I, iI_add, iI_sub, iI_mul, iI_neg, iI_lt, iI_le, iI_eq, iI_lt0, iI_le0, iI_gt0, iI_ge0, iI_eq0, upI_same, upL_same, upI_ne, upL_ne, iI_ixN, zI_mk, zL_mk, zP_mk, zK_mk, zN_mk, zwI_up, zwL_up, zg_some, Nat.reduceMod, Nat.reduceDiv, p17, q5, v] at h2
      exact zW.gr [] rfl rfl rfl (by omega) trivial z01_1 (h1 i w I (pfr_rf _ _) hr hs (Nat.le_refl _) hw rfl (Or.inr (Or.inl (by omega))) rfl)
    simp (disch := omega) only [zcn_I, iI_add, iI_sub, iI_mul, iI_neg, iI_lt, iI_le, iI_eq, iI_lt0, iI_le0, iI_gt0, iI_ge0, iI_eq0, upI_same, upL_same, upI_ne, upL_ne, iI_ixN, zI_mk, zL_mk, zP_mk, zK_mk, zN_mk, zwI_up, zwL_up, zg_some, Nat.reduceMod, Nat.reduceDiv, p17, q5, v] at h2
    refine zW.gb [] rfl rfl rfl (by omega) ?_ (fun h3 => ?_) (fun h3 => ?_)
    · simp (disch := omega) only [true_or, or_true, eq_self, Option.some.injEq, Prod.mk.injEq, zall_0, zall_1, zall_2, zob_iff, zar_iff, zis_iff, zkIs_some, zkHas_some, iI_vp, z01_I, z01_bz, zch_I, true_and, and_true, or_false, false_or, and_self, upI_same, upL_same, upI_ne, upL_ne, iI_ixN, zI_mk, zL_mk, zP_mk, zK_mk, zN_mk, zwI_up, zwL_up, zg_some, Nat.reduceMod, Nat.reduceDiv, zcn_I, iI_add, iI_sub, iI_mul, iI_neg, iI_lt, iI_le, iI_eq, iI_lt0, iI_le0, iI_gt0, iI_ge0, iI_eq0, k0, p17, k17, q5]
      omega
    · simp (disch := omega) only [zcn_I, iI_add, iI_sub, iI_mul, iI_neg, iI_lt, iI_le, iI_eq, iI_lt0, iI_le0, iI_gt0, iI_ge0, iI_eq0, upI_same, upL_same, upI_ne, upL_ne, iI_ixN, zI_mk, zL_mk, zP_mk, zK_mk, zN_mk, zwI_up, zwL_up, zg_some, Nat.reduceMod, Nat.reduceDiv, p17, q5, v] at h3
      exact zW.gr [] rfl rfl rfl (by omega) trivial z01_1 (h1 i w I (pfr_rf _ _) hr hs (Nat.le_refl _) hw rfl (Or.inr (Or.inr (Or.inl (by omega)))) rfl)
    simp (disch := omega) only [zcn_I, iI_add, iI_sub, iI_mul, iI_neg, iI_lt, iI_le, iI_eq, iI_lt0, iI_le0, iI_gt0, iI_ge0, iI_eq0, upI_same, upL_same, upI_ne, upL_ne, iI_ixN, zI_mk, zL_mk, zP_mk, zK_mk, zN_mk, zwI_up, zwL_up, zg_some, Nat.reduceMod, Nat.reduceDiv, p17, q5, v] at h3
    refine zW.gb [] rfl rfl rfl (by omega) ?_ (fun h4 => ?_) (fun h4 => ?_)
    · simp (disch := omega) only [true_or, or_true, eq_self, Option.some.injEq, Prod.mk.injEq, zall_0, zall_1, zall_2, zob_iff, zar_iff, zis_iff, zkIs_some, zkHas_some, iI_vp, z01_I, z01_bz, zch_I, true_and, and_true, or_false, false_or, and_self, upI_same, upL_same, upI_ne, upL_ne, iI_ixN, zI_mk, zL_mk, zP_mk, zK_mk, zN_mk, zwI_up, zwL_up, zg_some, Nat.reduceMod, Nat.reduceDiv, zcn_I, iI_add, iI_sub, iI_mul, iI_neg, iI_lt, iI_le, iI_eq, iI_lt0, iI_le0, iI_gt0, iI_ge0, iI_eq0, k0, p17, k17, q5]
      omega
    · simp (disch := omega) only [zcn_I, iI_add, iI_sub, iI_mul, iI_neg, iI_lt, iI_le, iI_eq, iI_lt0, iI_le0, iI_gt0, iI_ge0, iI_eq0, upI_same, upL_same, upI_ne, upL_ne, iI_ixN, zI_mk, zL_mk, zP_mk, zK_mk, zN_mk, zwI_up, zwL_up, zg_some, Nat.reduceMod, Nat.reduceDiv, p17, q5, v] at h4
      exact zW.gr [] rfl rfl rfl (by omega) trivial z01_1 (h1 i w I (pfr_rf _ _) hr hs (Nat.le_refl _) hw rfl (Or.inr (Or.inr (Or.inr (by omega)))) rfl)
    simp (disch := omega) only [zcn_I, iI_add, iI_sub, iI_mul, iI_neg, iI_lt, iI_le, iI_eq, iI_lt0, iI_le0, iI_gt0, iI_ge0, iI_eq0, upI_same, upL_same, upI_ne, upL_ne, iI_ixN, zI_mk, zL_mk, zP_mk, zK_mk, zN_mk, zwI_up, zwL_up, zg_some, Nat.reduceMod, Nat.reduceDiv, p17, q5, v] at h4
    refine zW.gz [] rfl rfl rfl (by omega) trivial ⟨_, rfl, k0⟩ rfl rfl (by decide +kernel) (by decide +kernel) ?_
    refine hP (d - 1) i w I _ (by omega) (by omega) hil (fun q => by unfold wstop at q; omega) hr hs hw hk hf (fun j w' I' f1 r1 s1 hj hw' hk' hf' e => ?_) (fun hF I' f1 => ?_)
    · refine zW.go [2] rfl (by omega) trivial ?_
      refine ih (by omega) d j w' I' _ Q hd (by omega) r1 s1 hw' (by rw [hk']; omega) hf' rfl (fun j2 w2 I2 f2 r2 s2 hj2 hw2 hk2 hst e2 => ?_) (fun hF I2 f2 => ?_)
      · exact h1 j2 w2 I2 (pfr_tr f1 f2) r2 s2 (by omega) hw2 (hk2.trans hk') hst (e.trans e2)
      · exact h0 (wF_of e hF) I2 (pfr_tr f1 f2)
    · refine zW.go [2] rfl (by omega) trivial ?_
      refine zW.gbt [] rfl rfl rfl (by omega) trivial (by simp (disch := omega) only [eq_self, not_true_eq_false, not_false_eq_true, upI_same, upL_same, upI_ne, upL_ne, iI_ixN, zI_mk, zL_mk, zP_mk, zK_mk, zN_mk, zwI_up, zwL_up, zg_some, Nat.reduceMod, Nat.reduceDiv, zcn_I, iI_add, iI_sub, iI_mul, iI_neg, iI_lt, iI_le, iI_eq, iI_lt0, iI_le0, iI_gt0, iI_ge0, iI_eq0] <;> omega) ?_
      exact zW.gr [] rfl rfl rfl (by omega) trivial z01_0 (h0 hF I' f1)
theorem WH_of (hM : ML y R) {f : Nat} (hP : PHs y L R sg f) : WHs y L R sg f := by
  intro d i w I Q hd hi hr hs hw hk hf h1 h0
  refine zW.go [2] rfl (by omega) trivial ?_
  exact WH_lp hM hP f (Nat.le_refl _) d i w I _ Q hd hi hr hs hw hk hf (zcn_I _) h1 h0
theorem stop_60 {w : wSt} {j : Nat} {s m : Nat} {k : List (Nat × Nat × Nat)} (hk : w.2.1 = (60, s, m) :: k) (hst : j = sg.length ∨ wstop (nth sg j)) (hj : j ≤ sg.length) (hn : ¬ (j < sg.length ∧ nth sg j = 62)) : wF sg j w := by
  obtain ⟨l, k', p, cr, cb⟩ := w
  have hk : k' = (60, s, m) :: k := hk
  subst hk
  rcases hst with h | h
  · rw [h]
    exact wF_end (fun q => by cases q)
  · by_cases c : j = sg.length
    · rw [c]
      exact wF_end (fun q => by cases q)
    · refine wF_1 (by omega) ?_
      rcases h with h | h | h
      · exact absurd ⟨by omega, h⟩ hn
      · rw [h, mk_bar]
        rfl
      · rw [h, mk_sq]
        rfl
theorem stop_91 {w : wSt} {j : Nat} {s m : Nat} {k : List (Nat × Nat × Nat)} (hk : w.2.1 = (91, s, m) :: k) (hst : j = sg.length ∨ wstop (nth sg j)) (hj : j ≤ sg.length) (hn : ¬ (j < sg.length ∧ nth sg j = 124)) : wF sg j w := by
  obtain ⟨l, k', p, cr, cb⟩ := w
  have hk : k' = (91, s, m) :: k := hk
  subst hk
  rcases hst with h | h
  · rw [h]
    exact wF_end (fun q => by cases q)
  · by_cases c : j = sg.length
    · rw [c]
      exact wF_end (fun q => by cases q)
    · refine wF_1 (by omega) ?_
      rcases h with h | h | h
      · rw [h, mk_gt]
        rfl
      · exact absurd ⟨by omega, h⟩ hn
      · rw [h, mk_sq]
        rfl
theorem stop_124 {w : wSt} {j : Nat} {s m : Nat} {k : List (Nat × Nat × Nat)} (hk : w.2.1 = (124, s, m) :: k) (hst : j = sg.length ∨ wstop (nth sg j)) (hj : j ≤ sg.length) (hn : ¬ (j < sg.length ∧ nth sg j = 93)) : wF sg j w := by
  obtain ⟨l, k', p, cr, cb⟩ := w
  have hk : k' = (124, s, m) :: k := hk
  subst hk
  rcases hst with h | h
  · rw [h]
    exact wF_end (fun q => by cases q)
  · by_cases c : j = sg.length
    · rw [c]
      exact wF_end (fun q => by cases q)
    · refine wF_1 (by omega) ?_
      rcases h with h | h | h
      · rw [h, mk_gt]
        rfl
      · rw [h, mk_bar]
        rfl
      · exact absurd ⟨by omega, h⟩ hn
theorem fail141 {d : Nat} {I : Nat → Nat → Int32} {a b v3 : Int32} {v4 : Int32} {v5 v6 v7 : Option zV} {Q : zO → zM → Prop} (hd : 1 ≤ d) (hM : ML y R) (hQ : Q (.inl (some (zi (iI 0)))) (I, L, R)) : zW 215 d 0 0 141 [some (zr (some y)), some (zi a), some (zi b), some (zi v3), some (zi v4), v5, v6, v7] [zi (iI 0)] (I, L, R) Q := by
  have k0 : R.2.1 y = some (7, 0) := hM.1
  refine zW.gbt [] rfl rfl rfl (by omega) (by simp (disch := omega) only [true_or, or_true, eq_self, Option.some.injEq, Prod.mk.injEq, zall_0, zall_1, zall_2, zob_iff, zar_iff, zis_iff, zkIs_some, zkHas_some, iI_vp, z01_I, z01_bz, zch_I, true_and, and_true, or_false, false_or, and_self, upI_same, upL_same, upI_ne, upL_ne, iI_ixN, zI_mk, zL_mk, zP_mk, zK_mk, zN_mk, zwI_up, zwL_up, zg_some, Nat.reduceMod, Nat.reduceDiv, zcn_I, iI_add, iI_sub, iI_mul, iI_neg, iI_lt, iI_le, iI_eq, iI_lt0, iI_le0, iI_gt0, iI_ge0, iI_eq0, k0] <;> omega) (by simp (disch := omega) only [eq_self, not_true_eq_false, not_false_eq_true, upI_same, upL_same, upI_ne, upL_ne, iI_ixN, zI_mk, zL_mk, zP_mk, zK_mk, zN_mk, zwI_up, zwL_up, zg_some, Nat.reduceMod, Nat.reduceDiv, zcn_I, iI_add, iI_sub, iI_mul, iI_neg, iI_lt, iI_le, iI_eq, iI_lt0, iI_le0, iI_gt0, iI_ge0, iI_eq0] <;> omega) ?_
  refine zW.go [179] rfl (by omega) trivial ?_
  rw [zcn_I]
  exact partB0 hd hM hQ
theorem fail109 {d : Nat} {I : Nat → Nat → Int32} {a b v3 : Int32} {v4 v5 v6 v7 : Option zV} {Q : zO → zM → Prop} (hd : 1 ≤ d) (hM : ML y R) (hQ : Q (.inl (some (zi (iI 0)))) (I, L, R)) : zW 215 d 0 0 109 [some (zr (some y)), some (zi a), some (zi b), some (zi v3), v4, v5, v6, v7] [zi (iI 0)] (I, L, R) Q := by
  have k0 : R.2.1 y = some (7, 0) := hM.1
  refine zW.gbt [] rfl rfl rfl (by omega) (by simp (disch := omega) only [true_or, or_true, eq_self, Option.some.injEq, Prod.mk.injEq, zall_0, zall_1, zall_2, zob_iff, zar_iff, zis_iff, zkIs_some, zkHas_some, iI_vp, z01_I, z01_bz, zch_I, true_and, and_true, or_false, false_or, and_self, upI_same, upL_same, upI_ne, upL_ne, iI_ixN, zI_mk, zL_mk, zP_mk, zK_mk, zN_mk, zwI_up, zwL_up, zg_some, Nat.reduceMod, Nat.reduceDiv, zcn_I, iI_add, iI_sub, iI_mul, iI_neg, iI_lt, iI_le, iI_eq, iI_lt0, iI_le0, iI_gt0, iI_ge0, iI_eq0, k0] <;> omega) (by simp (disch := omega) only [eq_self, not_true_eq_false, not_false_eq_true, upI_same, upL_same, upI_ne, upL_ne, iI_ixN, zI_mk, zL_mk, zP_mk, zK_mk, zN_mk, zwI_up, zwL_up, zg_some, Nat.reduceMod, Nat.reduceDiv, zcn_I, iI_add, iI_sub, iI_mul, iI_neg, iI_lt, iI_le, iI_eq, iI_lt0, iI_le0, iI_gt0, iI_ge0, iI_eq0] <;> omega) ?_
  refine zW.go [141] rfl (by omega) trivial ?_
  rw [zcn_I]
  exact fail141 hd hM hQ
theorem PH_of (hM : ML y R) {f : Nat} (hW : WHs y L R sg f) : PHs y L R sg (f + 1) := by
  intro d i w I Q hd hi hil hns hr hs hw hk hf h1 h0
  obtain ⟨l, k, p, cr, cb⟩ := w
  have k0 : R.2.1 y = some (7, 0) := hM.1
  have hr' := hr
  obtain ⟨q1, q2, q3, q4, q5, q6⟩ := hr'
  have hl120 : l.length ≤ 120 := hw.1
  have hl8 : ∀ t, t ∈ l → t < 8 := hw.2.1
  have hs37 : I y 37 = iI (l.length : Int) := hs.1
  have v := q2 i hil
  have v65 := q4 _ (nth_mem (l := sg) (i := i) hil)
  have hk30 : k.length < 30 := by have : k.length ≤ i := hk; omega
  have hkk : k.length ≤ i := hk
  have p17 : R.1 y 17 = some (y + 1782) := (hM.2.1 17 (by decide)).1; have k17 : R.2.1 (y + 1782) = some (23, 30) := (hM.2.1 17 (by decide)).2
  have fI : pfr y I (upI I y 36 (iI ((i + 1 : Nat) : Int))) := pfr_u
  have rI : rdR y (upI I y 36 (iI ((i + 1 : Nat) : Int))) sg (i + 1) := rdR_fr hr fI (upI_same _ _ _ _) (by omega)
  have sI : spR y (upI I y 36 (iI ((i + 1 : Nat) : Int))) l := ⟨by rw [upI_ne (by omega)]; exact hs.1, by rw [upI_row (by omega)]; exact hs.2⟩
  -- the end of a part, with what stands behind it
  have EB : ∀ (j : Nat) (l1 : List Nat) (I1 : Nat → Nat → Int32) (v4 v5 v6 v7 : Option zV), pfr y I I1 → rdR y I1 sg j → spR y I1 l1 → i < j → wOK (l1, k, l.length, true, true) → mkN (sg.drop i) (l, k, p, cr, cb) = mkN (sg.drop j) (l1, k, l.length, true, true) → zW 215 d 0 0 179 [some (zr (some y)), some (zi (iI (l.length : Int))), some (zi (iI (nth sg i : Int))), some (zi (iI 1)), v4, v5, v6, v7] [] (I1, L, R) Q := fun j l1 I1 v4 v5 v6 v7 f1 r1 s1 hj hw1 e => by
    refine partB (by omega) hM r1 s1 hw1 (fun j' l' cr cb I' f2 r2 s2 hj' hw' hf' e2 => ?_) (fun hF I' f2 => ?_)
    · exact h1 j' (l', k, l.length, cr, cb) I' (pfr_tr f1 f2) r2 s2 (by omega) hw' rfl hf' (e.trans e2)
    · exact h0 (wF_of e hF) I' (pfr_tr f1 f2)
  refine zW.gz [] rfl rfl rfl (by omega) ?_ trivial rfl rfl (by decide +kernel) (by decide +kernel) ?_
  · simp (disch := omega) only [true_or, or_true, eq_self, Option.some.injEq, Prod.mk.injEq, zall_0, zall_1, zall_2, zob_iff, zar_iff, zis_iff, zkIs_some, zkHas_some, iI_vp, z01_I, z01_bz, zch_I, true_and, and_true, or_false, false_or, and_self, upI_same, upL_same, upI_ne, upL_ne, iI_ixN, zI_mk, zL_mk, zP_mk, zK_mk, zN_mk, zwI_up, zwL_up, zg_some, Nat.reduceMod, Nat.reduceDiv, zcn_I, iI_add, iI_sub, iI_mul, iI_neg, iI_lt, iI_le, iI_eq, iI_lt0, iI_le0, iI_gt0, iI_ge0, iI_eq0, k0, p17, k17, q5]
    omega
  simp (disch := omega) only [upI_same, upL_same, upI_ne, upL_ne, iI_ixN, zI_mk, zL_mk, zP_mk, zK_mk, zN_mk, zwI_up, zwL_up, zg_some, Nat.reduceMod, Nat.reduceDiv, p17, q5, v, hs37, zcn_I, iI_add]
  rw [show (i : Int) + 1 = ((i + 1 : Nat) : Int) by omega]
  refine isRg_ok (v := (nth sg i : Int)) (by omega) rfl (by omega) (by omega) (fun q hq => ?_)
  rcases hq with ⟨g, rfl⟩ | ⟨g, rfl⟩
  · -- a letter
    have hc : 65 ≤ nth sg i ∧ nth sg i ≤ 68 := by omega
    have ml := mk_let hc (l, k, p, cr, cb)
    refine zW.gbf [] rfl rfl rfl (by omega) trivial (by simp (disch := omega) only [eq_self, not_true_eq_false, not_false_eq_true, upI_same, upL_same, upI_ne, upL_ne, iI_ixN, zI_mk, zL_mk, zP_mk, zK_mk, zN_mk, zwI_up, zwL_up, zg_some, Nat.reduceMod, Nat.reduceDiv, zcn_I, iI_add, iI_sub, iI_mul, iI_neg, iI_lt, iI_le, iI_eq, iI_lt0, iI_le0, iI_gt0, iI_ge0, iI_eq0] <;> omega) ?_
    refine zW.gz [] rfl rfl rfl (by omega) trivial ⟨_, rfl, k0⟩ rfl rfl (by decide +kernel) (by decide +kernel) ?_
    refine spells_ok (t := 2 * (nth sg i - 65)) (by omega) hM ?_ sI hl120 (fun hl I2 f2 s2 => ?_) (fun hl => ?_)
    · rw [zcn_I, zcn_I, iI_sub, iI_mul]
      exact iI_cg (by omega)
    · have e : mk1 (nth sg i) (l, k, p, cr, cb) = some (l ++ [2 * (nth sg i - 65)], k, l.length, true, true) := by
        rw [ml]
        show (spA l [2 * (nth sg i - 65)]).map _ = _
        rw [spA_of (show l.length + 1 ≤ 120 by omega)]
        rfl
      refine zW.gbf [] rfl rfl rfl (by omega) trivial (by simp (disch := omega) only [eq_self, not_true_eq_false, not_false_eq_true, upI_same, upL_same, upI_ne, upL_ne, iI_ixN, zI_mk, zL_mk, zP_mk, zK_mk, zN_mk, zwI_up, zwL_up, zg_some, Nat.reduceMod, Nat.reduceDiv, zcn_I, iI_add, iI_sub, iI_mul, iI_neg, iI_lt, iI_le, iI_eq, iI_lt0, iI_le0, iI_gt0, iI_ge0, iI_eq0] <;> omega) ?_
      refine zW.gbt [] rfl rfl rfl (by omega) trivial (by simp (disch := omega) only [eq_self, not_true_eq_false, not_false_eq_true, upI_same, upL_same, upI_ne, upL_ne, iI_ixN, zI_mk, zL_mk, zP_mk, zK_mk, zN_mk, zwI_up, zwL_up, zg_some, Nat.reduceMod, Nat.reduceDiv, zcn_I, iI_add, iI_sub, iI_mul, iI_neg, iI_lt, iI_le, iI_eq, iI_lt0, iI_le0, iI_gt0, iI_ge0, iI_eq0] <;> omega) ?_
      refine zW.gbt [] rfl rfl rfl (by omega) trivial (by simp (disch := omega) only [eq_self, not_true_eq_false, not_false_eq_true, upI_same, upL_same, upI_ne, upL_ne, iI_ixN, zI_mk, zL_mk, zP_mk, zK_mk, zN_mk, zwI_up, zwL_up, zg_some, Nat.reduceMod, Nat.reduceDiv, zcn_I, iI_add, iI_sub, iI_mul, iI_neg, iI_lt, iI_le, iI_eq, iI_lt0, iI_le0, iI_gt0, iI_ge0, iI_eq0] <;> omega) ?_
      rw [zcn_I]
      exact EB (i + 1) _ I2 _ _ _ _ (pfr_tr fI (tfrm_p f2)) (rdR_t rI f2) s2 (by omega) (mk1_ok hw e) (mkN_1 hil e)
    · have e : mk1 (nth sg i) (l, k, p, cr, cb) = none := by
        rw [ml]
        show (spA l [2 * (nth sg i - 65)]).map _ = _
        rw [spA_no (show 120 < l.length + 1 by omega)]
        rfl
      refine zW.gbt [] rfl rfl rfl (by omega) trivial (by simp (disch := omega) only [eq_self, not_true_eq_false, not_false_eq_true, upI_same, upL_same, upI_ne, upL_ne, iI_ixN, zI_mk, zL_mk, zP_mk, zK_mk, zN_mk, zwI_up, zwL_up, zg_some, Nat.reduceMod, Nat.reduceDiv, zcn_I, iI_add, iI_sub, iI_mul, iI_neg, iI_lt, iI_le, iI_eq, iI_lt0, iI_le0, iI_gt0, iI_ge0, iI_eq0] <;> omega) ?_
      refine zW.gbt [] rfl rfl rfl (by omega) trivial (by simp (disch := omega) only [eq_self, not_true_eq_false, not_false_eq_true, upI_same, upL_same, upI_ne, upL_ne, iI_ixN, zI_mk, zL_mk, zP_mk, zK_mk, zN_mk, zwI_up, zwL_up, zg_some, Nat.reduceMod, Nat.reduceDiv, zcn_I, iI_add, iI_sub, iI_mul, iI_neg, iI_lt, iI_le, iI_eq, iI_lt0, iI_le0, iI_gt0, iI_ge0, iI_eq0] <;> omega) ?_
      refine zW.gbt [] rfl rfl rfl (by omega) trivial (by simp (disch := omega) only [eq_self, not_true_eq_false, not_false_eq_true, upI_same, upL_same, upI_ne, upL_ne, iI_ixN, zI_mk, zL_mk, zP_mk, zK_mk, zN_mk, zwI_up, zwL_up, zg_some, Nat.reduceMod, Nat.reduceDiv, zcn_I, iI_add, iI_sub, iI_mul, iI_neg, iI_lt, iI_le, iI_eq, iI_lt0, iI_le0, iI_gt0, iI_ge0, iI_eq0] <;> omega) ?_
      rw [zcn_I]
      exact partB0 (by omega) hM (h0 (wF_1 hil e) _ fI)
  · have hc : ¬ (65 ≤ nth sg i ∧ nth sg i ≤ 68) := by omega
    refine zW.gbt [] rfl rfl rfl (by omega) trivial (by simp (disch := omega) only [eq_self, not_true_eq_false, not_false_eq_true, upI_same, upL_same, upI_ne, upL_ne, iI_ixN, zI_mk, zL_mk, zP_mk, zK_mk, zN_mk, zwI_up, zwL_up, zg_some, Nat.reduceMod, Nat.reduceDiv, zcn_I, iI_add, iI_sub, iI_mul, iI_neg, iI_lt, iI_le, iI_eq, iI_lt0, iI_le0, iI_gt0, iI_ge0, iI_eq0] <;> omega) ?_
    by_cases c60 : nth sg i = 60
    · -- a group
      have e := mk_open (c := nth sg i) (Or.inl c60) (l, k, p, cr, cb) hk30
      have e : mk1 (nth sg i) (l, k, p, cr, cb) = some (l, (nth sg i, l.length, 0) :: k, p, false, false) := e
      have hw1 := mk1_ok hw e
      refine zW.gbf [] rfl rfl rfl (by omega) trivial (by simp (disch := omega) only [eq_self, not_true_eq_false, not_false_eq_true, upI_same, upL_same, upI_ne, upL_ne, iI_ixN, zI_mk, zL_mk, zP_mk, zK_mk, zN_mk, zwI_up, zwL_up, zg_some, Nat.reduceMod, Nat.reduceDiv, zcn_I, iI_add, iI_sub, iI_mul, iI_neg, iI_lt, iI_le, iI_eq, iI_lt0, iI_le0, iI_gt0, iI_ge0, iI_eq0] <;> omega) ?_
      refine zW.gz [] rfl rfl rfl (by omega) trivial ⟨_, rfl, k0⟩ rfl rfl (by decide +kernel) (by decide +kernel) ?_
      refine hW (d - 1) (i + 1) (l, (nth sg i, l.length, 0) :: k, p, false, false) _ _ (by omega) (by omega) rI sI hw1 (by show k.length + 1 ≤ i + 1; omega) (fInv_ff _ _) (fun j w' I' f1 r1 s1 hj hw' hk' hst e2 => ?_) (fun hF I' f1 => ?_)
      · have hk' : w'.2.1 = (60, l.length, 0) :: k := by rw [← c60]; exact hk'
        refine zW.gbf [] rfl rfl rfl (by omega) trivial (by simp (disch := omega) only [eq_self, not_true_eq_false, not_false_eq_true, upI_same, upL_same, upI_ne, upL_ne, iI_ixN, zI_mk, zL_mk, zP_mk, zK_mk, zN_mk, zwI_up, zwL_up, zg_some, Nat.reduceMod, Nat.reduceDiv, zcn_I, iI_add, iI_sub, iI_mul, iI_neg, iI_lt, iI_le, iI_eq, iI_lt0, iI_le0, iI_gt0, iI_ge0, iI_eq0] <;> omega) ?_
        refine zW.gz [] rfl rfl rfl (by omega) trivial ⟨_, rfl, k0⟩ rfl rfl (by decide +kernel) (by decide +kernel) ?_
        refine takes_ok (c := 62) (by omega) hM (zcn_I _) (by decide) r1 (fun g1 g2 => ?_) (fun g1 => ?_)
        · refine zW.gbf [] rfl rfl rfl (by omega) trivial (by simp (disch := omega) only [eq_self, not_true_eq_false, not_false_eq_true, upI_same, upL_same, upI_ne, upL_ne, iI_ixN, zI_mk, zL_mk, zP_mk, zK_mk, zN_mk, zwI_up, zwL_up, zg_some, Nat.reduceMod, Nat.reduceDiv, zcn_I, iI_add, iI_sub, iI_mul, iI_neg, iI_lt, iI_le, iI_eq, iI_lt0, iI_le0, iI_gt0, iI_ge0, iI_eq0] <;> omega) ?_
          refine zW.go [179] rfl (by omega) trivial ?_
          obtain ⟨l', kk, p', cr', cb'⟩ := w'
          have hkk : kk = (60, l.length, 0) :: k := hk'
          subst hkk
          have e3 : mk1 (nth sg j) (l', (60, l.length, 0) :: k, p', cr', cb') = some (l', k, l.length, true, true) := by
            rw [g2, mk_gt]
            rfl
          rw [zcn_I]
          exact EB (j + 1) l' _ _ _ _ _ (pfr_tr (pfr_tr fI f1) pfr_u) (rdR_fr r1 pfr_u (upI_same _ _ _ _) (by omega)) ⟨by rw [upI_ne (by omega)]; exact s1.1, by rw [upI_row (by omega)]; exact s1.2⟩ (by omega) (mk1_ok hw' e3) ((mkN_1 hil e).trans (e2.trans (mkN_1 g1 e3)))
        · refine zW.gbt [] rfl rfl rfl (by omega) trivial (by simp (disch := omega) only [eq_self, not_true_eq_false, not_false_eq_true, upI_same, upL_same, upI_ne, upL_ne, iI_ixN, zI_mk, zL_mk, zP_mk, zK_mk, zN_mk, zwI_up, zwL_up, zg_some, Nat.reduceMod, Nat.reduceDiv, zcn_I, iI_add, iI_sub, iI_mul, iI_neg, iI_lt, iI_le, iI_eq, iI_lt0, iI_le0, iI_gt0, iI_ge0, iI_eq0] <;> omega) ?_
          refine zW.go [179] rfl (by omega) trivial ?_
          rw [zcn_I]
          exact partB0 (by omega) hM (h0 (wF_of ((mkN_1 hil e).trans e2) (stop_60 hk' hst r1.2.2.2.2.2 g1)) _ (pfr_tr (pfr_tr fI f1) pfr_u))
      · refine zW.gbt [] rfl rfl rfl (by omega) trivial (by simp (disch := omega) only [eq_self, not_true_eq_false, not_false_eq_true, upI_same, upL_same, upI_ne, upL_ne, iI_ixN, zI_mk, zL_mk, zP_mk, zK_mk, zN_mk, zwI_up, zwL_up, zg_some, Nat.reduceMod, Nat.reduceDiv, zcn_I, iI_add, iI_sub, iI_mul, iI_neg, iI_lt, iI_le, iI_eq, iI_lt0, iI_le0, iI_gt0, iI_ge0, iI_eq0] <;> omega) ?_
        refine zW.go [179] rfl (by omega) trivial ?_
        rw [zcn_I]
        exact partB0 (by omega) hM (h0 (wF_of (mkN_1 hil e) hF) _ (pfr_tr fI f1))
    · refine zW.gbt [] rfl rfl rfl (by omega) trivial (by simp (disch := omega) only [eq_self, not_true_eq_false, not_false_eq_true, upI_same, upL_same, upI_ne, upL_ne, iI_ixN, zI_mk, zL_mk, zP_mk, zK_mk, zN_mk, zwI_up, zwL_up, zg_some, Nat.reduceMod, Nat.reduceDiv, zcn_I, iI_add, iI_sub, iI_mul, iI_neg, iI_lt, iI_le, iI_eq, iI_lt0, iI_le0, iI_gt0, iI_ge0, iI_eq0] <;> omega) ?_
      by_cases c91 : nth sg i = 91
      · -- a commutator
        have e := mk_open (c := nth sg i) (Or.inr c91) (l, k, p, cr, cb) hk30
        have e : mk1 (nth sg i) (l, k, p, cr, cb) = some (l, (nth sg i, l.length, 0) :: k, p, false, false) := e
        have hw1 := mk1_ok hw e
        refine zW.gbf [] rfl rfl rfl (by omega) trivial (by simp (disch := omega) only [eq_self, not_true_eq_false, not_false_eq_true, upI_same, upL_same, upI_ne, upL_ne, iI_ixN, zI_mk, zL_mk, zP_mk, zK_mk, zN_mk, zwI_up, zwL_up, zg_some, Nat.reduceMod, Nat.reduceDiv, zcn_I, iI_add, iI_sub, iI_mul, iI_neg, iI_lt, iI_le, iI_eq, iI_lt0, iI_le0, iI_gt0, iI_ge0, iI_eq0] <;> omega) ?_
        refine zW.gz [] rfl rfl rfl (by omega) trivial ⟨_, rfl, k0⟩ rfl rfl (by decide +kernel) (by decide +kernel) ?_
        refine hW (d - 1) (i + 1) (l, (nth sg i, l.length, 0) :: k, p, false, false) _ _ (by omega) (by omega) rI sI hw1 (by show k.length + 1 ≤ i + 1; omega) (fInv_ff _ _) (fun j w' I' f1 r1 s1 hj hw' hk' hst e2 => ?_) (fun hF I' f1 => ?_)
        · have hk' : w'.2.1 = (91, l.length, 0) :: k := by rw [← c91]; exact hk'
          refine zW.gbf [] rfl rfl rfl (by omega) trivial (by simp (disch := omega) only [eq_self, not_true_eq_false, not_false_eq_true, upI_same, upL_same, upI_ne, upL_ne, iI_ixN, zI_mk, zL_mk, zP_mk, zK_mk, zN_mk, zwI_up, zwL_up, zg_some, Nat.reduceMod, Nat.reduceDiv, zcn_I, iI_add, iI_sub, iI_mul, iI_neg, iI_lt, iI_le, iI_eq, iI_lt0, iI_le0, iI_gt0, iI_ge0, iI_eq0] <;> omega) ?_
          refine zW.gz [] rfl rfl rfl (by omega) trivial ⟨_, rfl, k0⟩ rfl rfl (by decide +kernel) (by decide +kernel) ?_
          refine takes_ok (c := 124) (by omega) hM (zcn_I _) (by decide) r1 (fun g1 g2 => ?_) (fun g1 => ?_)
          · refine zW.gbf [] rfl rfl rfl (by omega) trivial (by simp (disch := omega) only [eq_self, not_true_eq_false, not_false_eq_true, upI_same, upL_same, upI_ne, upL_ne, iI_ixN, zI_mk, zL_mk, zP_mk, zK_mk, zN_mk, zwI_up, zwL_up, zg_some, Nat.reduceMod, Nat.reduceDiv, zcn_I, iI_add, iI_sub, iI_mul, iI_neg, iI_lt, iI_le, iI_eq, iI_lt0, iI_le0, iI_gt0, iI_ge0, iI_eq0] <;> omega) ?_
            obtain ⟨l', kk, p', cr', cb'⟩ := w'
            have hkk' : kk = (91, l.length, 0) :: k := hk'
            subst hkk'
            have s1' : spR y I' l' := s1
            have e3 : mk1 (nth sg j) (l', (91, l.length, 0) :: k, p', cr', cb') = some (l', (124, l.length, l'.length) :: k, p', false, false) := by
              rw [g2, mk_bar]
              rfl
            have hw3 := mk1_ok hw' e3
            have s3 : spR y (upI I' y 36 (iI ((j + 1 : Nat) : Int))) l' := ⟨by rw [upI_ne (by omega)]; exact s1.1, by rw [upI_row (by omega)]; exact s1.2⟩
            have r3 : rdR y (upI I' y 36 (iI ((j + 1 : Nat) : Int))) sg (j + 1) := rdR_fr r1 pfr_u (upI_same _ _ _ _) (by omega)
            have v37 : (upI I' y 36 (iI ((j + 1 : Nat) : Int))) y 37 = iI (l'.length : Int) := s3.1
            refine zW.gbf [] rfl rfl rfl (by omega) (by simp (disch := omega) only [true_or, or_true, eq_self, Option.some.injEq, Prod.mk.injEq, zall_0, zall_1, zall_2, zob_iff, zar_iff, zis_iff, zkIs_some, zkHas_some, iI_vp, z01_I, z01_bz, zch_I, true_and, and_true, or_false, false_or, and_self, upI_same, upL_same, upI_ne, upL_ne, iI_ixN, zI_mk, zL_mk, zP_mk, zK_mk, zN_mk, zwI_up, zwL_up, zg_some, Nat.reduceMod, Nat.reduceDiv, zcn_I, iI_add, iI_sub, iI_mul, iI_neg, iI_lt, iI_le, iI_eq, iI_lt0, iI_le0, iI_gt0, iI_ge0, iI_eq0, k0] <;> omega) (by simp (disch := omega) only [eq_self, not_true_eq_false, not_false_eq_true, upI_same, upL_same, upI_ne, upL_ne, iI_ixN, zI_mk, zL_mk, zP_mk, zK_mk, zN_mk, zwI_up, zwL_up, zg_some, Nat.reduceMod, Nat.reduceDiv, zcn_I, iI_add, iI_sub, iI_mul, iI_neg, iI_lt, iI_le, iI_eq, iI_lt0, iI_le0, iI_gt0, iI_ge0, iI_eq0] <;> omega) ?_
            simp (disch := omega) only [upI_same, upL_same, upI_ne, upL_ne, iI_ixN, zI_mk, zL_mk, zP_mk, zK_mk, zN_mk, zwI_up, zwL_up, zg_some, Nat.reduceMod, Nat.reduceDiv, zcn_I, iI_add, iI_sub, iI_mul, iI_neg, iI_lt, iI_le, iI_eq, iI_lt0, iI_le0, iI_gt0, iI_ge0, iI_eq0, s1'.1]
            refine zW.gz [] rfl rfl rfl (by omega) trivial ⟨_, rfl, k0⟩ rfl rfl (by decide +kernel) (by decide +kernel) ?_
            refine hW (d - 1) (j + 1) (l', (124, l.length, l'.length) :: k, p', false, false) _ _ (by omega) (by omega) r3 s3 hw3 (by show k.length + 1 ≤ j + 1; omega) (fInv_ff _ _) (fun j2 w2 I2 f2 r2 s2 hj2 hw2 hk2 hst2 e4 => ?_) (fun hF I2 f2 => ?_)
            · refine zW.gbf [] rfl rfl rfl (by omega) trivial (by simp (disch := omega) only [eq_self, not_true_eq_false, not_false_eq_true, upI_same, upL_same, upI_ne, upL_ne, iI_ixN, zI_mk, zL_mk, zP_mk, zK_mk, zN_mk, zwI_up, zwL_up, zg_some, Nat.reduceMod, Nat.reduceDiv, zcn_I, iI_add, iI_sub, iI_mul, iI_neg, iI_lt, iI_le, iI_eq, iI_lt0, iI_le0, iI_gt0, iI_ge0, iI_eq0] <;> omega) ?_
              refine zW.gz [] rfl rfl rfl (by omega) trivial ⟨_, rfl, k0⟩ rfl rfl (by decide +kernel) (by decide +kernel) ?_
              refine takes_ok (c := 93) (by omega) hM (zcn_I _) (by decide) r2 (fun g3 g4 => ?_) (fun g3 => ?_)
              · refine zW.gbf [] rfl rfl rfl (by omega) trivial (by simp (disch := omega) only [eq_self, not_true_eq_false, not_false_eq_true, upI_same, upL_same, upI_ne, upL_ne, iI_ixN, zI_mk, zL_mk, zP_mk, zK_mk, zN_mk, zwI_up, zwL_up, zg_some, Nat.reduceMod, Nat.reduceDiv, zcn_I, iI_add, iI_sub, iI_mul, iI_neg, iI_lt, iI_le, iI_eq, iI_lt0, iI_le0, iI_gt0, iI_ge0, iI_eq0] <;> omega) ?_
                obtain ⟨l2, k2, p2, cr2, cb2⟩ := w2
                have hkk2 : k2 = (124, l.length, l'.length) :: k := hk2
                subst hkk2
                have s2' : spR y I2 l2 := s2
                have hl2 : l2.length ≤ 120 := hw2.1
                have hl28 : ∀ t, t ∈ l2 → t < 8 := hw2.2.1
                obtain ⟨b1, b2, -⟩ : skOK l2.length ((124, l.length, l'.length) :: k) := hw2.2.2.1
                obtain ⟨b3, b4⟩ := b2 rfl
                have r5 : rdR y (upI I2 y 36 (iI ((j2 + 1 : Nat) : Int))) sg (j2 + 1) := rdR_fr r2 pfr_u (upI_same _ _ _ _) (by omega)
                have s5 : spR y (upI I2 y 36 (iI ((j2 + 1 : Nat) : Int))) l2 := ⟨by rw [upI_ne (by omega)]; exact s2.1, by rw [upI_row (by omega)]; exact s2.2⟩
                have f5 : pfr y I (upI I2 y 36 (iI ((j2 + 1 : Nat) : Int))) := pfr_tr (pfr_tr (pfr_tr (pfr_tr fI f1) pfr_u) f2) pfr_u
                have eAll := (mkN_1 hil e).trans (e2.trans ((mkN_1 g1 e3).trans e4))
                refine zW.gbf [] rfl rfl rfl (by omega) (by simp (disch := omega) only [true_or, or_true, eq_self, Option.some.injEq, Prod.mk.injEq, zall_0, zall_1, zall_2, zob_iff, zar_iff, zis_iff, zkIs_some, zkHas_some, iI_vp, z01_I, z01_bz, zch_I, true_and, and_true, or_false, false_or, and_self, upI_same, upL_same, upI_ne, upL_ne, iI_ixN, zI_mk, zL_mk, zP_mk, zK_mk, zN_mk, zwI_up, zwL_up, zg_some, Nat.reduceMod, Nat.reduceDiv, zcn_I, iI_add, iI_sub, iI_mul, iI_neg, iI_lt, iI_le, iI_eq, iI_lt0, iI_le0, iI_gt0, iI_ge0, iI_eq0, k0] <;> omega) (by simp (disch := omega) only [eq_self, not_true_eq_false, not_false_eq_true, upI_same, upL_same, upI_ne, upL_ne, iI_ixN, zI_mk, zL_mk, zP_mk, zK_mk, zN_mk, zwI_up, zwL_up, zg_some, Nat.reduceMod, Nat.reduceDiv, zcn_I, iI_add, iI_sub, iI_mul, iI_neg, iI_lt, iI_le, iI_eq, iI_lt0, iI_le0, iI_gt0, iI_ge0, iI_eq0] <;> omega) ?_
                simp (disch := omega) only [upI_same, upL_same, upI_ne, upL_ne, iI_ixN, zI_mk, zL_mk, zP_mk, zK_mk, zN_mk, zwI_up, zwL_up, zg_some, Nat.reduceMod, Nat.reduceDiv, zcn_I, iI_add, iI_sub, iI_mul, iI_neg, iI_lt, iI_le, iI_eq, iI_lt0, iI_le0, iI_gt0, iI_ge0, iI_eq0, s2'.1]
                refine zW.gz [] rfl rfl rfl (by omega) trivial ⟨_, rfl, k0⟩ rfl rfl (by decide +kernel) (by decide +kernel) ?_
                refine spBack_ok (f := l.length) (t := l'.length) (by omega) hM rfl rfl hl28 b3 b4 hl2 s5 (fun l3 hl3 I3 f6 s6 => ?_) (fun hl3 I3 f6 => ?_)
                · refine zW.gbf [] rfl rfl rfl (by omega) trivial (by simp (disch := omega) only [eq_self, not_true_eq_false, not_false_eq_true, upI_same, upL_same, upI_ne, upL_ne, iI_ixN, zI_mk, zL_mk, zP_mk, zK_mk, zN_mk, zwI_up, zwL_up, zg_some, Nat.reduceMod, Nat.reduceDiv, zcn_I, iI_add, iI_sub, iI_mul, iI_neg, iI_lt, iI_le, iI_eq, iI_lt0, iI_le0, iI_gt0, iI_ge0, iI_eq0] <;> omega) ?_
                  obtain ⟨n1, n2, n3⟩ := spA_ok hl3 hl28 (fun t ht => bk_mem hl28 ht)
                  refine zW.gz [] rfl rfl rfl (by omega) trivial ⟨_, rfl, k0⟩ rfl rfl (by decide +kernel) (by decide +kernel) ?_
                  refine spBack_ok (f := l'.length) (t := l2.length) (by omega) hM rfl rfl n2 (by omega) (by omega) n1 s6 (fun l4 hl4 I4 f7 s7 => ?_) (fun hl4 I4 f7 => ?_)
                  · refine zW.gbf [] rfl rfl rfl (by omega) trivial (by simp (disch := omega) only [eq_self, not_true_eq_false, not_false_eq_true, upI_same, upL_same, upI_ne, upL_ne, iI_ixN, zI_mk, zL_mk, zP_mk, zK_mk, zN_mk, zwI_up, zwL_up, zg_some, Nat.reduceMod, Nat.reduceDiv, zcn_I, iI_add, iI_sub, iI_mul, iI_neg, iI_lt, iI_le, iI_eq, iI_lt0, iI_le0, iI_gt0, iI_ge0, iI_eq0] <;> omega) ?_
                    refine zW.go [179] rfl (by omega) trivial ?_
                    have e5 : mk1 (nth sg j2) (l2, (124, l.length, l'.length) :: k, p2, cr2, cb2) = some (l4, k, l.length, true, true) := by
                      rw [g4, mk_sq]
                      show ((spA l2 (bk l2 l.length l'.length)).bind fun l1 => spA l1 (bk l1 l'.length l2.length)).map _ = _
                      rw [hl3]
                      show (spA l3 (bk l3 l'.length l2.length)).map _ = _
                      rw [hl4]
                      rfl
                    rw [zcn_I]
                    exact EB (j2 + 1) l4 I4 _ _ _ _ (pfr_tr f5 (tfrm_p (tfrm_tr f6 f7))) (rdR_t r5 (tfrm_tr f6 f7)) s7 (by omega) (mk1_ok hw2 e5) (eAll.trans (mkN_1 g3 e5))
                  · refine zW.gbt [] rfl rfl rfl (by omega) trivial (by simp (disch := omega) only [eq_self, not_true_eq_false, not_false_eq_true, upI_same, upL_same, upI_ne, upL_ne, iI_ixN, zI_mk, zL_mk, zP_mk, zK_mk, zN_mk, zwI_up, zwL_up, zg_some, Nat.reduceMod, Nat.reduceDiv, zcn_I, iI_add, iI_sub, iI_mul, iI_neg, iI_lt, iI_le, iI_eq, iI_lt0, iI_le0, iI_gt0, iI_ge0, iI_eq0] <;> omega) ?_
                    refine zW.go [179] rfl (by omega) trivial ?_
                    rw [zcn_I]
                    refine partB0 (by omega) hM (h0 (wF_of eAll (wF_1 g3 ?_)) _ (pfr_tr f5 (tfrm_p (tfrm_tr f6 f7))))
                    rw [g4, mk_sq]
                    show ((spA l2 (bk l2 l.length l'.length)).bind fun l1 => spA l1 (bk l1 l'.length l2.length)).map _ = _
                    rw [hl3]
                    show (spA l3 (bk l3 l'.length l2.length)).map _ = _
                    rw [hl4]
                    rfl
                · refine zW.gbt [] rfl rfl rfl (by omega) trivial (by simp (disch := omega) only [eq_self, not_true_eq_false, not_false_eq_true, upI_same, upL_same, upI_ne, upL_ne, iI_ixN, zI_mk, zL_mk, zP_mk, zK_mk, zN_mk, zwI_up, zwL_up, zg_some, Nat.reduceMod, Nat.reduceDiv, zcn_I, iI_add, iI_sub, iI_mul, iI_neg, iI_lt, iI_le, iI_eq, iI_lt0, iI_le0, iI_gt0, iI_ge0, iI_eq0] <;> omega) ?_
                  refine zW.go [179] rfl (by omega) trivial ?_
                  rw [zcn_I]
                  refine partB0 (by omega) hM (h0 (wF_of eAll (wF_1 g3 ?_)) _ (pfr_tr f5 (tfrm_p f6)))
                  rw [g4, mk_sq]
                  show ((spA l2 (bk l2 l.length l'.length)).bind fun l1 => spA l1 (bk l1 l'.length l2.length)).map _ = _
                  rw [hl3]
                  rfl
              · refine zW.gbt [] rfl rfl rfl (by omega) trivial (by simp (disch := omega) only [eq_self, not_true_eq_false, not_false_eq_true, upI_same, upL_same, upI_ne, upL_ne, iI_ixN, zI_mk, zL_mk, zP_mk, zK_mk, zN_mk, zwI_up, zwL_up, zg_some, Nat.reduceMod, Nat.reduceDiv, zcn_I, iI_add, iI_sub, iI_mul, iI_neg, iI_lt, iI_le, iI_eq, iI_lt0, iI_le0, iI_gt0, iI_ge0, iI_eq0] <;> omega) ?_
                refine zW.go [141] rfl (by omega) trivial ?_
                rw [zcn_I]
                exact fail141 (by omega) hM (h0 (wF_of ((mkN_1 hil e).trans (e2.trans ((mkN_1 g1 e3).trans e4))) (stop_124 hk2 hst2 r2.2.2.2.2.2 g3)) _ (pfr_tr (pfr_tr (pfr_tr (pfr_tr fI f1) pfr_u) f2) pfr_u))
            · refine zW.gbt [] rfl rfl rfl (by omega) trivial (by simp (disch := omega) only [eq_self, not_true_eq_false, not_false_eq_true, upI_same, upL_same, upI_ne, upL_ne, iI_ixN, zI_mk, zL_mk, zP_mk, zK_mk, zN_mk, zwI_up, zwL_up, zg_some, Nat.reduceMod, Nat.reduceDiv, zcn_I, iI_add, iI_sub, iI_mul, iI_neg, iI_lt, iI_le, iI_eq, iI_lt0, iI_le0, iI_gt0, iI_ge0, iI_eq0] <;> omega) ?_
              refine zW.go [141] rfl (by omega) trivial ?_
              rw [zcn_I]
              exact fail141 (by omega) hM (h0 (wF_of ((mkN_1 hil e).trans (e2.trans (mkN_1 g1 e3))) hF) _ (pfr_tr (pfr_tr (pfr_tr fI f1) pfr_u) f2))
          · refine zW.gbt [] rfl rfl rfl (by omega) trivial (by simp (disch := omega) only [eq_self, not_true_eq_false, not_false_eq_true, upI_same, upL_same, upI_ne, upL_ne, iI_ixN, zI_mk, zL_mk, zP_mk, zK_mk, zN_mk, zwI_up, zwL_up, zg_some, Nat.reduceMod, Nat.reduceDiv, zcn_I, iI_add, iI_sub, iI_mul, iI_neg, iI_lt, iI_le, iI_eq, iI_lt0, iI_le0, iI_gt0, iI_ge0, iI_eq0] <;> omega) ?_
            refine zW.go [109] rfl (by omega) trivial ?_
            rw [zcn_I]
            exact fail109 (by omega) hM (h0 (wF_of ((mkN_1 hil e).trans e2) (stop_91 hk' hst r1.2.2.2.2.2 g1)) _ (pfr_tr (pfr_tr fI f1) pfr_u))
        · refine zW.gbt [] rfl rfl rfl (by omega) trivial (by simp (disch := omega) only [eq_self, not_true_eq_false, not_false_eq_true, upI_same, upL_same, upI_ne, upL_ne, iI_ixN, zI_mk, zL_mk, zP_mk, zK_mk, zN_mk, zwI_up, zwL_up, zg_some, Nat.reduceMod, Nat.reduceDiv, zcn_I, iI_add, iI_sub, iI_mul, iI_neg, iI_lt, iI_le, iI_eq, iI_lt0, iI_le0, iI_gt0, iI_ge0, iI_eq0] <;> omega) ?_
          refine zW.go [109] rfl (by omega) trivial ?_
          rw [zcn_I]
          exact fail109 (by omega) hM (h0 (wF_of (mkN_1 hil e) hF) _ (pfr_tr fI f1))
      · refine zW.gbt [] rfl rfl rfl (by omega) trivial (by simp (disch := omega) only [eq_self, not_true_eq_false, not_false_eq_true, upI_same, upL_same, upI_ne, upL_ne, iI_ixN, zI_mk, zL_mk, zP_mk, zK_mk, zN_mk, zwI_up, zwL_up, zg_some, Nat.reduceMod, Nat.reduceDiv, zcn_I, iI_add, iI_sub, iI_mul, iI_neg, iI_lt, iI_le, iI_eq, iI_lt0, iI_le0, iI_gt0, iI_ge0, iI_eq0] <;> omega) ?_
        rw [zcn_I]
        refine partB0 (by omega) hM (h0 (wF_1 hil ?_) _ fI)
        obtain ⟨i1, i2⟩ := hf hil
        have i1 : 50 ≤ nth sg i ∧ nth sg i ≤ 57 → cr = false := i1
        have i2 : nth sg i = 45 → cb = false := i2
        by_cases cd : 50 ≤ nth sg i ∧ nth sg i ≤ 57
        · rw [mk_dig cd]
          exact if_neg (by show ¬ cr = true; rw [i1 cd]; decide)
        · by_cases cm : nth sg i = 45
          · rw [cm, mk_minus]
            exact if_neg (by show ¬ cb = true; rw [i2 cm]; decide)
          · exact mk_no _ hc cd c60 c91 (fun q => hns (Or.inr (Or.inl q))) (fun q => hns (Or.inl q)) (fun q => hns (Or.inr (Or.inr q))) cm
theorem PH_0 : PHs y L R sg 0 := by
  intro d i w I Q hd hi hil
  omega
theorem WH_all (hM : ML y R) : ∀ f, WHs y L R sg f
  | 0 => WH_of hM PH_0
  | f + 1 => WH_of hM (PH_of hM (WH_all hM f))
end MWORD2
