/-! The model reads words. -/
/-- no way to an end with all closed -/
def wF (sg : List Nat) (i : Nat) (w : wSt) : Prop := ∀ w', mkN (sg.drop i) w = some w' → w'.2.1 ≠ []
def fInv (sg : List Nat) (j : Nat) (cr cb : Bool) : Prop := j < sg.length → (50 ≤ nth sg j ∧ nth sg j ≤ 57 → cr = false) ∧ (nth sg j = 45 → cb = false)
theorem fInv_ff (sg : List Nat) (j : Nat) : fInv sg j false false := fun _ => ⟨fun _ => rfl, fun _ => rfl⟩
theorem drop_sN {sg : List Nat} {i : Nat} (h : i < sg.length) : sg.drop i = nth sg i :: sg.drop (i + 1) := by
  have := take_at h
  have e : sg.drop i = (sg.take i ++ (nth sg i :: sg.drop (i + 1))).drop i := congrArg (List.drop i) this
  rw [e, List.drop_append_of_le_length (by rw [List.length_take]; omega), List.drop_of_length_le (by rw [List.length_take]; omega), List.nil_append]
theorem mkN_d {sg : List Nat} {i : Nat} (h : i < sg.length) (w : wSt) : mkN (sg.drop i) w = (mk1 (nth sg i) w).bind (mkN (sg.drop (i + 1))) := by
  rw [drop_sN h]
  rfl
theorem mkN_1 {sg : List Nat} {i : Nat} {w w' : wSt} (h : i < sg.length) (e : mk1 (nth sg i) w = some w') : mkN (sg.drop i) w = mkN (sg.drop (i + 1)) w' := by
  rw [mkN_d h, e]
  rfl
theorem wF_1 {sg : List Nat} {i : Nat} {w : wSt} (h : i < sg.length) (e : mk1 (nth sg i) w = none) : wF sg i w := fun w' q => by
  rw [mkN_d h, e] at q
  cases q
theorem wF_of {sg : List Nat} {i j : Nat} {w w' : wSt} (e : mkN (sg.drop i) w = mkN (sg.drop j) w') (h : wF sg j w') : wF sg i w := fun v q => h v (e ▸ q)
theorem wF_end {sg : List Nat} {w : wSt} (h : w.2.1 ≠ []) : wF sg sg.length w := fun v q => by
  rw [List.drop_length] at q
  cases q
  exact h
def wstop (c : Nat) : Prop := c = 62 ∨ c = 124 ∨ c = 93
theorem mk_minus (w : wSt) : mk1 45 w = if w.2.2.2.2 then some (w.1.take w.2.2.1 ++ bk w.1 w.2.2.1 w.1.length, w.2.1, w.2.2.1, false, false) else none := by simp [mk1]
theorem mk_dig {c : Nat} (h : 50 ≤ c ∧ c ≤ 57) (w : wSt) : mk1 c w = if w.2.2.2.1 then (spA w.1 (rp (c - 49) (w.1.drop w.2.2.1))).map fun l' => (l', w.2.1, w.2.2.1, false, w.2.2.2.2) else none := by
  unfold mk1
  rw [if_neg (by omega), if_pos h]
theorem mk_let {c : Nat} (h : 65 ≤ c ∧ c ≤ 68) (w : wSt) : mk1 c w = (spA w.1 [2 * (c - 65)]).map fun l' => (l', w.2.1, w.1.length, true, true) := by
  unfold mk1
  rw [if_pos h]
theorem mk_open {c : Nat} (h : c = 60 ∨ c = 91) (w : wSt) (hk : w.2.1.length < 30) : mk1 c w = some (w.1, (c, w.1.length, 0) :: w.2.1, w.2.2.1, false, false) := by
  unfold mk1
  rw [if_neg (by omega), if_neg (by omega), if_pos h, if_pos hk]
theorem mk_bar (w : wSt) : mk1 124 w = wBar w := by simp [mk1]
theorem mk_gt (w : wSt) : mk1 62 w = wShA w := by simp [mk1]
theorem mk_sq (w : wSt) : mk1 93 w = wShB w := by simp [mk1]
theorem mk_no {c : Nat} (w : wSt) (h1 : ¬ (65 ≤ c ∧ c ≤ 68)) (h2 : ¬ (50 ≤ c ∧ c ≤ 57)) (h3 : c ≠ 60) (h4 : c ≠ 91) (h5 : c ≠ 124) (h6 : c ≠ 62) (h7 : c ≠ 93) (h8 : c ≠ 45) : mk1 c w = none := by
  unfold mk1
  rw [if_neg h1, if_neg h2, if_neg (by omega), if_neg h5, if_neg h6, if_neg h7, if_neg h8]
section MWORD
variable {d y : Nat} {L : Nat → Nat → Int64} {R : zRt} {Q : zO → zM → Prop}
theorem partB0 {I : Nat → Nat → Int32} {a b : Int32} {v4 v5 v6 v7 : Option zV} (hd : 1 ≤ d) (hM : ML y R) (hQ : Q (.inl (some (zi (iI 0)))) (I, L, R)) : zW 215 d 0 0 179 [some (zr (some y)), some (zi a), some (zi b), some (zi (iI 0)), v4, v5, v6, v7] [] (I, L, R) Q := by
  have k0 : R.2.1 y = some (7, 0) := hM.1
  refine zW.gbt [] rfl rfl rfl (by omega) (by simp (disch := omega) only [true_or, or_true, eq_self, Option.some.injEq, Prod.mk.injEq, zall_0, zall_1, zall_2, zob_iff, zar_iff, zis_iff, zkIs_some, zkHas_some, iI_vp, z01_I, z01_bz, zch_I, true_and, and_true, or_false, false_or, and_self, upI_same, upL_same, upI_ne, upL_ne, iI_ixN, zI_mk, zL_mk, zP_mk, zK_mk, zN_mk, zwI_up, zwL_up, zg_some, Nat.reduceMod, Nat.reduceDiv, zcn_I, iI_add, iI_sub, iI_mul, iI_neg, iI_lt, iI_le, iI_eq, iI_lt0, iI_le0, iI_gt0, iI_ge0, iI_eq0, k0] <;> omega) (by simp (disch := omega) only [eq_self, not_true_eq_false, not_false_eq_true, upI_same, upL_same, upI_ne, upL_ne, iI_ixN, zI_mk, zL_mk, zP_mk, zK_mk, zN_mk, zwI_up, zwL_up, zg_some, Nat.reduceMod, Nat.reduceDiv, zcn_I, iI_add, iI_sub, iI_mul, iI_neg, iI_lt, iI_le, iI_eq, iI_lt0, iI_le0, iI_gt0, iI_ge0, iI_eq0] <;> omega) ?_
  exact partC0 hd hQ
theorem partB {I : Nat → Nat → Int32} {sg l : List Nat} {k : List (Nat × Nat × Nat)} {p j : Nat} {s : Int32} {v4 v5 v6 v7 : Option zV} (hd : 3 ≤ d) (hM : ML y R) (hr : rdR y I sg j) (hs : spR y I l) (hw : wOK (l, k, p, true, true))
    (h1 : ∀ j' l' cr cb I', pfr y I I' → rdR y I' sg j' → spR y I' l' → j ≤ j' → wOK (l', k, p, cr, cb) → fInv sg j' cr cb → mkN (sg.drop j) (l, k, p, true, true) = mkN (sg.drop j') (l', k, p, cr, cb) → Q (.inl (some (zi (iI 1)))) (I', L, R))
    (h0 : wF sg j (l, k, p, true, true) → ∀ I', pfr y I I' → Q (.inl (some (zi (iI 0)))) (I', L, R)) :
    zW 215 d 0 0 179 [some (zr (some y)), some (zi (iI (p : Int))), some (zi s), some (zi (iI 1)), v4, v5, v6, v7] [] (I, L, R) Q := by
  have k0 : R.2.1 y = some (7, 0) := hM.1
  obtain ⟨w1, w2, w3, w4⟩ := hw
  have hw : wOK (l, k, p, true, true) := ⟨w1, w2, w3, w4⟩
  have w1 : l.length ≤ 120 := w1
  have w2 : ∀ t, t ∈ l → t < 8 := w2
  have hp : p ≤ l.length := w4 (Or.inl rfl)
  have hr' := hr
  obtain ⟨q1, q2, q3, q4, q5, q6⟩ := hr'
  have p17 : R.1 y 17 = some (y + 1782) := (hM.2.1 17 (by decide)).1; have k17 : R.2.1 (y + 1782) = some (23, 30) := (hM.2.1 17 (by decide)).2
  have ND : ¬ (j < sg.length ∧ 50 ≤ nth sg j ∧ nth sg j ≤ 57) → ∀ u5 u6 u7, zW 215 d 0 0 300 [some (zr (some y)), some (zi (iI (p : Int))), some (zi s), some (zi (iI 1)), some (zi (iI (l.length : Int))), u5, u6, u7] [] (I, L, R) Q := fun hn u5 u6 u7 => by
    refine partC hd hM hr hs hp w1 w2 (fun g I' f r' s' => ?_) (fun g1 g2 I' f r' s' => ?_)
    · exact h1 j l true true I' f r' s' (Nat.le_refl _) hw (fun hj => ⟨fun q => absurd ⟨hj, q⟩ hn, fun q => absurd ⟨hj, q⟩ g⟩) rfl
    · have e : mk1 (nth sg j) (l, k, p, true, true) = some (l.take p ++ bk l p l.length, k, p, false, false) := by
        rw [g2, mk_minus]
        rfl
      exact h1 (j + 1) _ false false I' f r' s' (by omega) (mk1_ok hw e) (fInv_ff _ _) (mkN_1 g1 e)
  refine zW.gbf [] rfl rfl rfl (by omega) (by simp (disch := omega) only [true_or, or_true, eq_self, Option.some.injEq, Prod.mk.injEq, zall_0, zall_1, zall_2, zob_iff, zar_iff, zis_iff, zkIs_some, zkHas_some, iI_vp, z01_I, z01_bz, zch_I, true_and, and_true, or_false, false_or, and_self, upI_same, upL_same, upI_ne, upL_ne, iI_ixN, zI_mk, zL_mk, zP_mk, zK_mk, zN_mk, zwI_up, zwL_up, zg_some, Nat.reduceMod, Nat.reduceDiv, zcn_I, iI_add, iI_sub, iI_mul, iI_neg, iI_lt, iI_le, iI_eq, iI_lt0, iI_le0, iI_gt0, iI_ge0, iI_eq0, k0] <;> omega) (by simp (disch := omega) only [eq_self, not_true_eq_false, not_false_eq_true, upI_same, upL_same, upI_ne, upL_ne, iI_ixN, zI_mk, zL_mk, zP_mk, zK_mk, zN_mk, zwI_up, zwL_up, zg_some, Nat.reduceMod, Nat.reduceDiv, zcn_I, iI_add, iI_sub, iI_mul, iI_neg, iI_lt, iI_le, iI_eq, iI_lt0, iI_le0, iI_gt0, iI_ge0, iI_eq0] <;> omega) ?_
  refine zW.gb [] rfl rfl rfl (by omega) (by simp (disch := omega) only [true_or, or_true, eq_self, Option.some.injEq, Prod.mk.injEq, zall_0, zall_1, zall_2, zob_iff, zar_iff, zis_iff, zkIs_some, zkHas_some, iI_vp, z01_I, z01_bz, zch_I, true_and, and_true, or_false, false_or, and_self, upI_same, upL_same, upI_ne, upL_ne, iI_ixN, zI_mk, zL_mk, zP_mk, zK_mk, zN_mk, zwI_up, zwL_up, zg_some, Nat.reduceMod, Nat.reduceDiv, zcn_I, iI_add, iI_sub, iI_mul, iI_neg, iI_lt, iI_le, iI_eq, iI_lt0, iI_le0, iI_gt0, iI_ge0, iI_eq0, k0] <;> omega) (fun h => ?_) (fun h => ?_)
  · simp (disch := omega) only [zcn_I, iI_add, iI_sub, iI_mul, iI_neg, iI_lt, iI_le, iI_eq, iI_lt0, iI_le0, iI_gt0, iI_ge0, iI_eq0, upI_same, upL_same, upI_ne, upL_ne, iI_ixN, zI_mk, zL_mk, zP_mk, zK_mk, zN_mk, zwI_up, zwL_up, zg_some, Nat.reduceMod, Nat.reduceDiv, q1, q5] at h
    simp (disch := omega) only [upI_same, upL_same, upI_ne, upL_ne, iI_ixN, zI_mk, zL_mk, zP_mk, zK_mk, zN_mk, zwI_up, zwL_up, zg_some, Nat.reduceMod, Nat.reduceDiv, hs.1]
    exact ND (by omega) _ _ _
  simp (disch := omega) only [zcn_I, iI_add, iI_sub, iI_mul, iI_neg, iI_lt, iI_le, iI_eq, iI_lt0, iI_le0, iI_gt0, iI_ge0, iI_eq0, upI_same, upL_same, upI_ne, upL_ne, iI_ixN, zI_mk, zL_mk, zP_mk, zK_mk, zN_mk, zwI_up, zwL_up, zg_some, Nat.reduceMod, Nat.reduceDiv, q1, q5] at h
  have hj : j < sg.length := by omega
  have v := q2 j hj
  have v65 := q4 _ (nth_mem (l := sg) (i := j) hj)
  refine zW.gb [] rfl rfl rfl (by omega) ?_ (fun h2 => ?_) (fun h2 => ?_)
  · simp (disch := omega) only [true_or, or_true, eq_self, Option.some.injEq, Prod.mk.injEq, zall_0, zall_1, zall_2, zob_iff, zar_iff, zis_iff, zkIs_some, zkHas_some, iI_vp, z01_I, z01_bz, zch_I, true_and, and_true, or_false, false_or, and_self, upI_same, upL_same, upI_ne, upL_ne, iI_ixN, zI_mk, zL_mk, zP_mk, zK_mk, zN_mk, zwI_up, zwL_up, zg_some, Nat.reduceMod, Nat.reduceDiv, zcn_I, iI_add, iI_sub, iI_mul, iI_neg, iI_lt, iI_le, iI_eq, iI_lt0, iI_le0, iI_gt0, iI_ge0, iI_eq0, k0, p17, k17, q5]
    omega
  · simp (disch := omega) only [zcn_I, iI_add, iI_sub, iI_mul, iI_neg, iI_lt, iI_le, iI_eq, iI_lt0, iI_le0, iI_gt0, iI_ge0, iI_eq0, upI_same, upL_same, upI_ne, upL_ne, iI_ixN, zI_mk, zL_mk, zP_mk, zK_mk, zN_mk, zwI_up, zwL_up, zg_some, Nat.reduceMod, Nat.reduceDiv, p17, q5, v] at h2
    simp (disch := omega) only [upI_same, upL_same, upI_ne, upL_ne, iI_ixN, zI_mk, zL_mk, zP_mk, zK_mk, zN_mk, zwI_up, zwL_up, zg_some, Nat.reduceMod, Nat.reduceDiv, hs.1]
    exact ND (by omega) _ _ _
  simp (disch := omega) only [zcn_I, iI_add, iI_sub, iI_mul, iI_neg, iI_lt, iI_le, iI_eq, iI_lt0, iI_le0, iI_gt0, iI_ge0, iI_eq0, upI_same, upL_same, upI_ne, upL_ne, iI_ixN, zI_mk, zL_mk, zP_mk, zK_mk, zN_mk, zwI_up, zwL_up, zg_some, Nat.reduceMod, Nat.reduceDiv, p17, q5, v] at h2
  refine zW.gb [] rfl rfl rfl (by omega) ?_ (fun h3 => ?_) (fun h3 => ?_)
  · simp (disch := omega) only [true_or, or_true, eq_self, Option.some.injEq, Prod.mk.injEq, zall_0, zall_1, zall_2, zob_iff, zar_iff, zis_iff, zkIs_some, zkHas_some, iI_vp, z01_I, z01_bz, zch_I, true_and, and_true, or_false, false_or, and_self, upI_same, upL_same, upI_ne, upL_ne, iI_ixN, zI_mk, zL_mk, zP_mk, zK_mk, zN_mk, zwI_up, zwL_up, zg_some, Nat.reduceMod, Nat.reduceDiv, zcn_I, iI_add, iI_sub, iI_mul, iI_neg, iI_lt, iI_le, iI_eq, iI_lt0, iI_le0, iI_gt0, iI_ge0, iI_eq0, k0, p17, k17, q5]
    omega
  · simp (disch := omega) only [zcn_I, iI_add, iI_sub, iI_mul, iI_neg, iI_lt, iI_le, iI_eq, iI_lt0, iI_le0, iI_gt0, iI_ge0, iI_eq0, upI_same, upL_same, upI_ne, upL_ne, iI_ixN, zI_mk, zL_mk, zP_mk, zK_mk, zN_mk, zwI_up, zwL_up, zg_some, Nat.reduceMod, Nat.reduceDiv, p17, q5, v] at h3
    simp (disch := omega) only [upI_same, upL_same, upI_ne, upL_ne, iI_ixN, zI_mk, zL_mk, zP_mk, zK_mk, zN_mk, zwI_up, zwL_up, zg_some, Nat.reduceMod, Nat.reduceDiv, hs.1]
    exact ND (by omega) _ _ _
  simp (disch := omega) only [zcn_I, iI_add, iI_sub, iI_mul, iI_neg, iI_lt, iI_le, iI_eq, iI_lt0, iI_le0, iI_gt0, iI_ge0, iI_eq0, upI_same, upL_same, upI_ne, upL_ne, iI_ixN, zI_mk, zL_mk, zP_mk, zK_mk, zN_mk, zwI_up, zwL_up, zg_some, Nat.reduceMod, Nat.reduceDiv, p17, q5, v] at h3
  obtain ⟨c, hc⟩ : ∃ c, nth sg j = c + 48 := ⟨nth sg j - 48, by omega⟩
  refine zW.go [255] rfl (by omega) ?_ ?_
  · simp (disch := omega) only [true_or, or_true, eq_self, Option.some.injEq, Prod.mk.injEq, zall_0, zall_1, zall_2, zob_iff, zar_iff, zis_iff, zkIs_some, zkHas_some, iI_vp, z01_I, z01_bz, zch_I, true_and, and_true, or_false, false_or, and_self, upI_same, upL_same, upI_ne, upL_ne, iI_ixN, zI_mk, zL_mk, zP_mk, zK_mk, zN_mk, zwI_up, zwL_up, zg_some, Nat.reduceMod, Nat.reduceDiv, zcn_I, iI_add, iI_sub, iI_mul, iI_neg, iI_lt, iI_le, iI_eq, iI_lt0, iI_le0, iI_gt0, iI_ge0, iI_eq0, k0, p17, k17, q5]
    omega
  simp (disch := omega) only [upI_same, upL_same, upI_ne, upL_ne, iI_ixN, zI_mk, zL_mk, zP_mk, zK_mk, zN_mk, zwI_up, zwL_up, zg_some, Nat.reduceMod, Nat.reduceDiv, p17, q5, v, hs.1, zcn_I, iI_add, iI_sub]
  rw [show ((nth sg j : Nat) : Int) - 48 = (c : Int) by omega, show (j : Int) + 1 = ((j + 1 : Nat) : Int) by omega]
  have md := mk_dig (c := nth sg j) (by omega) (l, k, p, true, true)
  rw [show nth sg j - 49 = c - 1 by omega] at md
  have fI : pfr y I (upI I y 36 (iI ((j + 1 : Nat) : Int))) := pfr_u
  refine dig_out (I0 := upI I y 36 (iI ((j + 1 : Nat) : Int))) (by omega) hM hp w1 w2 (by omega) (by omega) (fun l' hl' I' f s' u v => ?_) (fun hl' I' f => ?_) (c - 1) 0 (by omega) _ _ _ ?_ (tfrm_rf _ _) ?_ rfl
  · have e : mk1 (nth sg j) (l, k, p, true, true) = some (l', k, p, false, true) := by
      rw [md]
      show (spA l (rp (c - 1) (l.drop p))).map _ = _
      rw [hl']
      rfl
    have hw' := mk1_ok hw e
    have f2 := pfr_tr fI (tfrm_p f)
    have r2 : rdR y I' sg (j + 1) := rdR_fr hr f2 ((f.2 36 (by omega)).trans (upI_same _ _ _ _)) (by omega)
    have hll : l.length ≤ l'.length := by
      have := (spA_some hl').1
      rw [this, List.length_append]
      omega
    refine partC hd hM r2 s' (by omega) hw'.1 hw'.2.1 (fun g I2 f3 r3 s3 => ?_) (fun g1 g2 I2 f3 r3 s3 => ?_)
    · exact h1 (j + 1) l' false true I2 (pfr_tr f2 f3) r3 s3 (by omega) hw' (fun hj => ⟨fun _ => rfl, fun q => absurd ⟨hj, q⟩ g⟩) (mkN_1 hj e)
    · have e2 : mk1 (nth sg (j + 1)) (l', k, p, false, true) = some (l'.take p ++ bk l' p l'.length, k, p, false, false) := by
        rw [g2, mk_minus]
        rfl
      exact h1 (j + 2) _ false false I2 (pfr_tr f2 f3) r3 s3 (by omega) (mk1_ok hw' e2) (fInv_ff _ _) ((mkN_1 hj e).trans (mkN_1 g1 e2))
  · refine h0 (wF_1 hj ?_) I' (pfr_tr fI (tfrm_p f))
    rw [md]
    show (spA l (rp (c - 1) (l.drop p))).map _ = _
    rw [hl']
    rfl
  · show (l ++ []).length ≤ 120
    rw [List.append_nil]
    exact w1
  · show spR y _ (l ++ [])
    rw [List.append_nil]
    exact ⟨by rw [upI_ne (by omega)]; exact hs.1, by rw [upI_row (by omega)]; exact hs.2⟩
end MWORD
