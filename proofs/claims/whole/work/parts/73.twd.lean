/-! The class's words. -/
section TWD
variable {d x z : Nat} {pb rb : Nat → Nat} {T : tfT} {I : Nat → Nat → Int32} {L : Nat → Nat → Int64} {R : zRt} {Q : zO → zM → Prop}
theorem wd_ok (h : tf x z pb rb T (I, L, R)) : R.2.1 x = some (6, 0) ∧ R.1 x 4 = some (x + 3) ∧ WL (x + 3) R ∧ sgR (x + 3) I (tSg T) := ⟨h.2.1.1.1, h.2.1.1.2.2.2.1, h.2.1.1.2.2.2.2.2.2.2.2.2.1, h.2.2.2.2.2.1⟩
theorem spT_ok (hd : 8 ≤ d) (h : tf x z pb rb T (I, L, R)) (bad : spell (tSg T) = none → ∀ I' N, wfr (x + 3) I I' → R.2.2 ≤ N → Q (.inr 1) (zgrow (I', L, R) N)) (good : ∀ l, spell (tSg T) = some l → ∀ I', wfr (x + 3) I I' → lR (x + 3) I' l → Q (.inl (some (zi (iI (l.length : Int))))) (I', L, R)) : zS 155 d [zr (some x)] (I, L, R) Q := by
  obtain ⟨k0, p4, hW, hs⟩ := wd_ok h
  refine zW.gz [] rfl rfl rfl (by omega) (by simp (disch := omega) only [true_or, or_true, eq_self, Option.some.injEq, Prod.mk.injEq, zall_0, zall_1, zall_2, zob_iff, zar_iff, zis_iff, zkIs_some, zkHas_some, iI_vp, z01_I, z01_bz, zch_I, true_and, and_true, or_false, false_or, and_self, upI_same, upL_same, upI_ne, upL_ne, iI_ixN, zI_mk, zL_mk, zP_mk, zK_mk, zN_mk, zwI_up, zwL_up, zg_some, Nat.reduceMod, Nat.reduceDiv, zcn_I, iI_add, iI_sub, iI_mul, iI_neg, iI_lt, iI_le, iI_eq, iI_lt0, iI_le0, iI_gt0, iI_ge0, iI_eq0, k0] <;> omega) ?_ rfl rfl (Nat.zero_le _) (Nat.zero_le _) ?_
  · simp (disch := omega) only [upI_same, upL_same, upI_ne, upL_ne, iI_ixN, zI_mk, zL_mk, zP_mk, zK_mk, zN_mk, zwI_up, zwL_up, zg_some, Nat.reduceMod, Nat.reduceDiv, zcn_I, iI_add, iI_sub, iI_mul, iI_neg, iI_lt, iI_le, iI_eq, iI_lt0, iI_le0, iI_gt0, iI_ge0, iI_eq0, p4]
    exact ⟨_, rfl, hW.1⟩
  simp (disch := omega) only [upI_same, upL_same, upI_ne, upL_ne, iI_ixN, zI_mk, zL_mk, zP_mk, zK_mk, zN_mk, zwI_up, zwL_up, zg_some, Nat.reduceMod, Nat.reduceDiv, zcn_I, iI_add, iI_sub, iI_mul, iI_neg, iI_lt, iI_le, iI_eq, iI_lt0, iI_le0, iI_gt0, iI_ge0, iI_eq0, p4]
  refine spell_oks (by omega) hW hs (fun l hl I' f hR => ?_) (fun hl I' f => ?_)
  · have hn := (spell_ok hl).1
    refine zW.gbt [] rfl rfl rfl (by omega) trivial (by simp (disch := omega) only [eq_self, not_true_eq_false, not_false_eq_true, upI_same, upL_same, upI_ne, upL_ne, iI_ixN, zI_mk, zL_mk, zP_mk, zK_mk, zN_mk, zwI_up, zwL_up, zg_some, Nat.reduceMod, Nat.reduceDiv, zcn_I, iI_add, iI_sub, iI_mul, iI_neg, iI_lt, iI_le, iI_eq, iI_lt0, iI_le0, iI_gt0, iI_ge0, iI_eq0] <;> omega) ?_
    refine zW.gr [] rfl rfl rfl (by omega) trivial trivial ?_
    exact good l hl I' f hR
  · refine zW.gbf [] rfl rfl rfl (by omega) trivial (by simp (disch := omega) only [eq_self, not_true_eq_false, not_false_eq_true, upI_same, upL_same, upI_ne, upL_ne, iI_ixN, zI_mk, zL_mk, zP_mk, zK_mk, zN_mk, zwI_up, zwL_up, zg_some, Nat.reduceMod, Nat.reduceDiv, zcn_I, iI_add, iI_sub, iI_mul, iI_neg, iI_lt, iI_le, iI_eq, iI_lt0, iI_le0, iI_gt0, iI_ge0, iI_eq0] <;> omega) ?_
    refine zW.gt [] rfl rfl rfl (by decide +kernel) (by omega) trivial (by decide +kernel) (by decide +kernel) rfl (fun N hN => ?_)
    exact bad hl I' N f hN
noncomputable def oIsWord (T : tfT) : tRes := (0, b01 ((spell (tSg T)).isSome = true), T)
theorem isWordT_ok (hd : 8 ≤ d) (h : tfx x z T (I, L, R)) (hQ : tP x z (I, L, R) (oIsWord T) [] eI Q) : zS 126 d [zr (some x)] (I, L, R) Q := by
  obtain ⟨pb, rb, hf⟩ := h
  obtain ⟨k0, p4, hW, hs⟩ := wd_ok hf
  refine zW.gz [] rfl rfl rfl (by omega) (by simp (disch := omega) only [true_or, or_true, eq_self, Option.some.injEq, Prod.mk.injEq, zall_0, zall_1, zall_2, zob_iff, zar_iff, zis_iff, zkIs_some, zkHas_some, iI_vp, z01_I, z01_bz, zch_I, true_and, and_true, or_false, false_or, and_self, upI_same, upL_same, upI_ne, upL_ne, iI_ixN, zI_mk, zL_mk, zP_mk, zK_mk, zN_mk, zwI_up, zwL_up, zg_some, Nat.reduceMod, Nat.reduceDiv, zcn_I, iI_add, iI_sub, iI_mul, iI_neg, iI_lt, iI_le, iI_eq, iI_lt0, iI_le0, iI_gt0, iI_ge0, iI_eq0, k0] <;> omega) ?_ rfl rfl (Nat.le_refl _) (Nat.le_refl _) ?_
  · simp (disch := omega) only [upI_same, upL_same, upI_ne, upL_ne, iI_ixN, zI_mk, zL_mk, zP_mk, zK_mk, zN_mk, zwI_up, zwL_up, zg_some, Nat.reduceMod, Nat.reduceDiv, zcn_I, iI_add, iI_sub, iI_mul, iI_neg, iI_lt, iI_le, iI_eq, iI_lt0, iI_le0, iI_gt0, iI_ge0, iI_eq0, p4]
    exact ⟨_, rfl, hW.1⟩
  simp (disch := omega) only [upI_same, upL_same, upI_ne, upL_ne, iI_ixN, zI_mk, zL_mk, zP_mk, zK_mk, zN_mk, zwI_up, zwL_up, zg_some, Nat.reduceMod, Nat.reduceDiv, zcn_I, iI_add, iI_sub, iI_mul, iI_neg, iI_lt, iI_le, iI_eq, iI_lt0, iI_le0, iI_gt0, iI_ge0, iI_eq0, p4]
  refine spell_oks (by omega) hW hs (fun l hl I' f hR => ?_) (fun hl I' f => ?_)
  · have hn := (spell_ok hl).1
    obtain ⟨q1, q2⟩ := tf_wd hf f
    refine zW.gbf [] rfl rfl rfl (by omega) trivial (by simp (disch := omega) only [eq_self, not_true_eq_false, not_false_eq_true, upI_same, upL_same, upI_ne, upL_ne, iI_ixN, zI_mk, zL_mk, zP_mk, zK_mk, zN_mk, zwI_up, zwL_up, zg_some, Nat.reduceMod, Nat.reduceDiv, zcn_I, iI_add, iI_sub, iI_mul, iI_neg, iI_lt, iI_le, iI_eq, iI_lt0, iI_le0, iI_gt0, iI_ge0, iI_eq0] <;> omega) ?_
    refine zW.gr [] rfl rfl rfl (by omega) trivial z01c1 ?_
    rw [zcn_I]
    exact tP_0 hQ (congrArg (fun v => ((0 : Nat), v, T)) (b01_t (by rw [hl]; rfl))) ⟨_, _, q1⟩ q2
  · obtain ⟨q1, q2⟩ := tf_wd hf f
    refine zW.gbt [] rfl rfl rfl (by omega) trivial (by simp (disch := omega) only [eq_self, not_true_eq_false, not_false_eq_true, upI_same, upL_same, upI_ne, upL_ne, iI_ixN, zI_mk, zL_mk, zP_mk, zK_mk, zN_mk, zwI_up, zwL_up, zg_some, Nat.reduceMod, Nat.reduceDiv, zcn_I, iI_add, iI_sub, iI_mul, iI_neg, iI_lt, iI_le, iI_eq, iI_lt0, iI_le0, iI_gt0, iI_ge0, iI_eq0] <;> omega) ?_
    refine zW.gr [] rfl rfl rfl (by omega) trivial z01c0 ?_
    rw [zcn_I]
    exact tP_0 hQ (congrArg (fun v => ((0 : Nat), v, T)) (b01_f (by rw [hl]; decide))) ⟨_, _, q1⟩ q2
def oLength (T : tfT) (c : Int) : tRes := if ¬ (c = 113 ∨ c = 116) then (1, 0, T) else match spell (tSg T) with
  | some l => (0, ((if c = 113 then l.length else ct (rn l) l.length : Nat) : Int), T)
  | none => (2, 0, T)
theorem length_ok {c : Int} {a : Int32} (hd : 9 ≤ d) (h : tfx x z T (I, L, R)) (e1 : a = iI c) (h1 : i32 c) (hQ : tP x z (I, L, R) (oLength T c) [0, 1] eI Q) : zS 127 d [zr (some x), zi a] (I, L, R) Q := by
  subst e1
  have hT := h
  obtain ⟨pb, rb, hf⟩ := h
  obtain ⟨k0, p4, hW, hs⟩ := wd_ok hf
  unfold oLength at hQ
  refine zW.gc [] rfl rfl rfl (by omega) trivial trivial (by decide +kernel) (by decide +kernel) ?_
  refine kind_ok (by omega) rfl h1 (fun hb N hN => ?_) (fun g => ?_) (fun g => ?_)
  · exact tP_t hQ hT (if_pos hb) hN
  · subst g
    rw [if_neg (fun n => n (Or.inl rfl))] at hQ
    refine zW.gc [] rfl rfl rfl (by omega) trivial ⟨_, rfl, k0⟩ (by decide +kernel) (by decide +kernel) ?_
    refine spT_ok (by omega) hf (fun hl I' N f hN => ?_) (fun l hl I' f hR => ?_)
    · rw [hl] at hQ
      obtain ⟨q1, q2⟩ := tf_wd hf f
      exact tP_e hQ rfl ⟨_, _, tf_sm q1 (tsm_gr hN)⟩ (tfr_tr q2 (tfr_gr hN))
    · rw [hl] at hQ
      obtain ⟨q1, q2⟩ := tf_wd hf f
      refine zW.gbf [] rfl rfl rfl (by omega) trivial (by simp (disch := omega) only [eq_self, not_true_eq_false, not_false_eq_true, upI_same, upL_same, upI_ne, upL_ne, iI_ixN, zI_mk, zL_mk, zP_mk, zK_mk, zN_mk, zwI_up, zwL_up, zg_some, Nat.reduceMod, Nat.reduceDiv, zcn_I, iI_add, iI_sub, iI_mul, iI_neg, iI_lt, iI_le, iI_eq, iI_lt0, iI_le0, iI_gt0, iI_ge0, iI_eq0] <;> omega) ?_
      refine zW.gr [] rfl rfl rfl (by omega) trivial trivial ?_
      exact tP_0 hQ rfl ⟨_, _, q1⟩ q2
  · subst g
    rw [if_neg (fun n => n (Or.inr rfl))] at hQ
    refine zW.gc [] rfl rfl rfl (by omega) trivial ⟨_, rfl, k0⟩ (by decide +kernel) (by decide +kernel) ?_
    refine spT_ok (by omega) hf (fun hl I' N f hN => ?_) (fun l hl I' f hR => ?_)
    · rw [hl] at hQ
      obtain ⟨q1, q2⟩ := tf_wd hf f
      exact tP_e hQ rfl ⟨_, _, tf_sm q1 (tsm_gr hN)⟩ (tfr_tr q2 (tfr_gr hN))
    · rw [hl] at hQ
      obtain ⟨q1, q2⟩ := tf_wd hf f
      refine zW.gbt [] rfl rfl rfl (by omega) trivial (by simp (disch := omega) only [eq_self, not_true_eq_false, not_false_eq_true, upI_same, upL_same, upI_ne, upL_ne, iI_ixN, zI_mk, zL_mk, zP_mk, zK_mk, zN_mk, zwI_up, zwL_up, zg_some, Nat.reduceMod, Nat.reduceDiv, zcn_I, iI_add, iI_sub, iI_mul, iI_neg, iI_lt, iI_le, iI_eq, iI_lt0, iI_le0, iI_gt0, iI_ge0, iI_eq0] <;> omega) ?_
      refine zW.gz [] rfl rfl rfl (by omega) (by simp (disch := omega) only [true_or, or_true, eq_self, Option.some.injEq, Prod.mk.injEq, zall_0, zall_1, zall_2, zob_iff, zar_iff, zis_iff, zkIs_some, zkHas_some, iI_vp, z01_I, z01_bz, zch_I, true_and, and_true, or_false, false_or, and_self, upI_same, upL_same, upI_ne, upL_ne, iI_ixN, zI_mk, zL_mk, zP_mk, zK_mk, zN_mk, zwI_up, zwL_up, zg_some, Nat.reduceMod, Nat.reduceDiv, zcn_I, iI_add, iI_sub, iI_mul, iI_neg, iI_lt, iI_le, iI_eq, iI_lt0, iI_le0, iI_gt0, iI_ge0, iI_eq0, k0] <;> omega) ?_ rfl rfl (by decide +kernel) (by decide +kernel) ?_
      · simp (disch := omega) only [upI_same, upL_same, upI_ne, upL_ne, iI_ixN, zI_mk, zL_mk, zP_mk, zK_mk, zN_mk, zwI_up, zwL_up, zg_some, Nat.reduceMod, Nat.reduceDiv, zcn_I, iI_add, iI_sub, iI_mul, iI_neg, iI_lt, iI_le, iI_eq, iI_lt0, iI_le0, iI_gt0, iI_ge0, iI_eq0, p4]
        exact ⟨_, rfl, hW.1⟩
      simp (disch := omega) only [upI_same, upL_same, upI_ne, upL_ne, iI_ixN, zI_mk, zL_mk, zP_mk, zK_mk, zN_mk, zwI_up, zwL_up, zg_some, Nat.reduceMod, Nat.reduceDiv, zcn_I, iI_add, iI_sub, iI_mul, iI_neg, iI_lt, iI_le, iI_eq, iI_lt0, iI_le0, iI_gt0, iI_ge0, iI_eq0, p4]
      refine runs_ok (by omega) hW hR (spell_ok hl).1 (spell_ok hl).2 ?_
      refine zW.gr [] rfl rfl rfl (by omega) trivial trivial ?_
      exact tP_0 hQ rfl ⟨_, _, q1⟩ q2
def oTurnAt (T : tfT) (v : Int) : tRes := match spell (tSg T) with
  | some l => if ¬ (0 ≤ v ∧ v < l.length) then (2, 0, T) else (0, (nth l v.toNat : Nat), T)
  | none => (1, 0, T)
theorem turnAt_ok {v : Int} {a : Int32} (hd : 9 ≤ d) (h : tfx x z T (I, L, R)) (e1 : a = iI v) (h1 : i32 v) (hQ : tP x z (I, L, R) (oTurnAt T v) [1, 4] eI Q) : zS 128 d [zr (some x), zi a] (I, L, R) Q := by
  subst e1
  have hT := h
  obtain ⟨pb, rb, hf⟩ := h
  obtain ⟨k0, p4, hW, hs⟩ := wd_ok hf
  unfold oTurnAt at hQ
  refine zW.gc [] rfl rfl rfl (by omega) trivial ⟨_, rfl, k0⟩ (by decide +kernel) (by decide +kernel) ?_
  refine spT_ok (by omega) hf (fun hl I' N f hN => ?_) (fun l hl I' f hR => ?_)
  · rw [hl] at hQ
    obtain ⟨q1, q2⟩ := tf_wd hf f
    exact tP_e hQ rfl ⟨_, _, tf_sm q1 (tsm_gr hN)⟩ (tfr_tr q2 (tfr_gr hN))
  · rw [hl] at hQ
    have hn := (spell_ok hl).1
    obtain ⟨q1, q2⟩ := tf_wd hf f
    obtain ⟨h11, h12⟩ := h1
    have B : ¬ (0 ≤ v ∧ v < l.length) → zW 128 d (0 + zmc 155) (0 + zms 155) 20 [some (zr (some x)), some (zi (iI v)), some (zi (iI (l.length : Int)))] [] (I', L, R) Q := fun hb => by
      refine zW.gt [] rfl rfl rfl (by decide +kernel) (by omega) trivial (by decide +kernel) (by decide +kernel) rfl (fun N hN => ?_)
      exact tP_e hQ (if_pos hb) ⟨_, _, tf_sm q1 (tsm_gr hN)⟩ (tfr_tr q2 (tfr_gr hN))
    refine zW.gb [] rfl rfl rfl (by omega) trivial (fun h => ?_) (fun h => ?_)
    · simp (disch := omega) only [zcn_I, iI_add, iI_sub, iI_mul, iI_neg, iI_lt, iI_le, iI_eq, iI_lt0, iI_le0, iI_gt0, iI_ge0, iI_eq0] at h
      exact B (by omega)
    · simp (disch := omega) only [zcn_I, iI_add, iI_sub, iI_mul, iI_neg, iI_lt, iI_le, iI_eq, iI_lt0, iI_le0, iI_gt0, iI_ge0, iI_eq0] at h
      refine zW.gb [] rfl rfl rfl (by omega) trivial (fun h' => ?_) (fun h' => ?_)
      · simp (disch := omega) only [zcn_I, iI_add, iI_sub, iI_mul, iI_neg, iI_lt, iI_le, iI_eq, iI_lt0, iI_le0, iI_gt0, iI_ge0, iI_eq0] at h'
        exact B (by omega)
      · simp (disch := omega) only [zcn_I, iI_add, iI_sub, iI_mul, iI_neg, iI_lt, iI_le, iI_eq, iI_lt0, iI_le0, iI_gt0, iI_ge0, iI_eq0] at h'
        obtain ⟨j, rfl⟩ : ∃ j : Nat, v = j := ⟨v.toNat, by omega⟩
        have w0 := hW.1
        have w1 := hW.2.2.1
        have w2 := hW.2.2.2.2.2.2.2.1
        have r1 := hR.2 j (by omega)
        refine zW.gbt [] rfl rfl rfl (by omega) trivial (by simp (disch := omega) only [eq_self, not_true_eq_false, not_false_eq_true, upI_same, upL_same, upI_ne, upL_ne, iI_ixN, zI_mk, zL_mk, zP_mk, zK_mk, zN_mk, zwI_up, zwL_up, zg_some, Nat.reduceMod, Nat.reduceDiv, zcn_I, iI_add, iI_sub, iI_mul, iI_neg, iI_lt, iI_le, iI_eq, iI_lt0, iI_le0, iI_gt0, iI_ge0, iI_eq0] <;> omega) ?_
        refine zW.gr [] rfl rfl rfl (by omega) (by simp (disch := omega) only [true_or, or_true, eq_self, Option.some.injEq, Prod.mk.injEq, zall_0, zall_1, zall_2, zob_iff, zar_iff, zis_iff, zkIs_some, zkHas_some, iI_vp, z01_I, z01_bz, zch_I, true_and, and_true, or_false, false_or, and_self, upI_same, upL_same, upI_ne, upL_ne, iI_ixN, zI_mk, zL_mk, zP_mk, zK_mk, zN_mk, zwI_up, zwL_up, zg_some, Nat.reduceMod, Nat.reduceDiv, zcn_I, iI_add, iI_sub, iI_mul, iI_neg, iI_lt, iI_le, iI_eq, iI_lt0, iI_le0, iI_gt0, iI_ge0, iI_eq0, k0, p4, w0, w1, w2] <;> omega) trivial ?_
        simp (disch := omega) only [upI_same, upL_same, upI_ne, upL_ne, iI_ixN, zI_mk, zL_mk, zP_mk, zK_mk, zN_mk, zwI_up, zwL_up, zg_some, Nat.reduceMod, Nat.reduceDiv, zcn_I, iI_add, iI_sub, iI_mul, iI_neg, iI_lt, iI_le, iI_eq, iI_lt0, iI_le0, iI_gt0, iI_ge0, iI_eq0, p4, w1, r1]
        exact tP_0 hQ (if_neg (fun n => n ⟨by omega, by omega⟩)) ⟨_, _, q1⟩ q2
abbrev solv (w : zPz) (st : Nat → Nat) : Prop := ∀ q, q < 10 → pzC w (st q) = pzC w q
noncomputable def oApply (T : tfT) (p : Int) : tRes := onP T p fun i => match spell (tSg T) with
  | some l => if dc (∀ t, t ∈ l → t / 2 < pzR (tPz T i)) then (0, b01 (solv (tPz T i) (saf (pzT (tPz T i)) (pzS (tPz T i)) l)), tSetP T i (pzSt (tPz T i) (saf (pzT (tPz T i)) (pzS (tPz T i)) l))) else (2, 0, T)
  | none => (2, 0, T)
theorem apply_ok {p : Int} {a : Int32} (hd : 9 ≤ d) (h : tfx x z T (I, L, R)) (e1 : a = iI p) (h1 : i32 p) (hQ : tP x z (I, L, R) (oApply T p) [3, 1] eI Q) : zS 129 d [zr (some x), zi a] (I, L, R) Q := by
  subst e1
  have hT := h
  obtain ⟨pb, rb, hf⟩ := h
  obtain ⟨k0, p4, hW, hs⟩ := wd_ok hf
  refine zW.gc [] rfl rfl rfl (by omega) trivial ⟨_, rfl, k0⟩ (by decide +kernel) (by decide +kernel) ?_
  refine findP_ok (by omega) hf rfl h1 (fun hb N hN => ?_) (fun i hi hp => ?_)
  · exact tP_t hQ hT (if_pos hb) hN
  · subst hi
    unfold oApply at hQ
    rw [onP_i hp] at hQ
    refine zW.gc [] rfl rfl rfl (by omega) trivial ⟨_, rfl, k0⟩ (by decide +kernel) (by decide +kernel) ?_
    refine spT_ok (by omega) hf (fun hl I' N f hN => ?_) (fun l hl I' f hR => ?_)
    · rw [hl] at hQ
      obtain ⟨q1, q2⟩ := tf_wd hf f
      exact tP_e hQ rfl ⟨_, _, tf_sm q1 (tsm_gr hN)⟩ (tfr_tr q2 (tfr_gr hN))
    · rw [hl] at hQ
      dsimp only at hQ
      obtain ⟨hn, h8⟩ := spell_ok hl
      obtain ⟨q1, q2⟩ := tf_wd hf f
      obtain ⟨hZ, hz, hP⟩ := tf_pz q1 hp
      have b0 := hZ.1
      have r4 := hP.2.1
      have hr := hz.2.2.1
      refine zW.gz [] rfl rfl rfl (by omega) (by simp (disch := omega) only [true_or, or_true, eq_self, Option.some.injEq, Prod.mk.injEq, zall_0, zall_1, zall_2, zob_iff, zar_iff, zis_iff, zkIs_some, zkHas_some, iI_vp, z01_I, z01_bz, zch_I, true_and, and_true, or_false, false_or, and_self, upI_same, upL_same, upI_ne, upL_ne, iI_ixN, zI_mk, zL_mk, zP_mk, zK_mk, zN_mk, zwI_up, zwL_up, zg_some, Nat.reduceMod, Nat.reduceDiv, zcn_I, iI_add, iI_sub, iI_mul, iI_neg, iI_lt, iI_le, iI_eq, iI_lt0, iI_le0, iI_gt0, iI_ge0, iI_eq0, k0] <;> omega) ?_ rfl rfl (by decide +kernel) (by decide +kernel) ?_
      · simp (disch := omega) only [upI_same, upL_same, upI_ne, upL_ne, iI_ixN, zI_mk, zL_mk, zP_mk, zK_mk, zN_mk, zwI_up, zwL_up, zg_some, Nat.reduceMod, Nat.reduceDiv, zcn_I, iI_add, iI_sub, iI_mul, iI_neg, iI_lt, iI_le, iI_eq, iI_lt0, iI_le0, iI_gt0, iI_ge0, iI_eq0, p4]
        exact ⟨_, rfl, hW.1⟩
      simp (disch := omega) only [upI_same, upL_same, upI_ne, upL_ne, iI_ixN, zI_mk, zL_mk, zP_mk, zK_mk, zN_mk, zwI_up, zwL_up, zg_some, Nat.reduceMod, Nat.reduceDiv, zcn_I, iI_add, iI_sub, iI_mul, iI_neg, iI_lt, iI_le, iI_eq, iI_lt0, iI_le0, iI_gt0, iI_ge0, iI_eq0, p4]
      refine rings_ok (by omega) hW hR hn h8 (fun r hr4 hrk => ?_)
      refine zW.gb [] rfl rfl rfl (by omega) (by simp (disch := omega) only [true_or, or_true, eq_self, Option.some.injEq, Prod.mk.injEq, zall_0, zall_1, zall_2, zob_iff, zar_iff, zis_iff, zkIs_some, zkHas_some, iI_vp, z01_I, z01_bz, zch_I, true_and, and_true, or_false, false_or, and_self, upI_same, upL_same, upI_ne, upL_ne, iI_ixN, zI_mk, zL_mk, zP_mk, zK_mk, zN_mk, zwI_up, zwL_up, zg_some, Nat.reduceMod, Nat.reduceDiv, zcn_I, iI_add, iI_sub, iI_mul, iI_neg, iI_lt, iI_le, iI_eq, iI_lt0, iI_le0, iI_gt0, iI_ge0, iI_eq0, b0] <;> omega) (fun h' => ?_) (fun h' => ?_)
      · simp (disch := omega) only [zcn_I, iI_add, iI_sub, iI_mul, iI_neg, iI_lt, iI_le, iI_eq, iI_lt0, iI_le0, iI_gt0, iI_ge0, iI_eq0, upI_same, upL_same, upI_ne, upL_ne, iI_ixN, zI_mk, zL_mk, zP_mk, zK_mk, zN_mk, zwI_up, zwL_up, zg_some, Nat.reduceMod, Nat.reduceDiv, r4] at h'
        have g : ∀ t, t ∈ l → t / 2 < pzR (tPz T i) := (hrk _).mp (by omega)
        rw [if_pos (dc_t.mpr g)] at hQ
        have ht : ∀ t, t ∈ l → t < 2 * pzR (tPz T i) := fun t q => by have := g t q; omega
        refine zW.gz [] rfl rfl rfl (by omega) (by simp (disch := omega) only [true_or, or_true, eq_self, Option.some.injEq, Prod.mk.injEq, zall_0, zall_1, zall_2, zob_iff, zar_iff, zis_iff, zkIs_some, zkHas_some, iI_vp, z01_I, z01_bz, zch_I, true_and, and_true, or_false, false_or, and_self, upI_same, upL_same, upI_ne, upL_ne, iI_ixN, zI_mk, zL_mk, zP_mk, zK_mk, zN_mk, zwI_up, zwL_up, zg_some, Nat.reduceMod, Nat.reduceDiv, zcn_I, iI_add, iI_sub, iI_mul, iI_neg, iI_lt, iI_le, iI_eq, iI_lt0, iI_le0, iI_gt0, iI_ge0, iI_eq0, k0] <;> omega) ⟨_, rfl, b0⟩ rfl rfl (by decide +kernel) (by decide +kernel) ?_
        simp (disch := omega) only [upI_same, upL_same, upI_ne, upL_ne, iI_ixN, zI_mk, zL_mk, zP_mk, zK_mk, zN_mk, zwI_up, zwL_up, zg_some, Nat.reduceMod, Nat.reduceDiv, zcn_I, iI_add, iI_sub, iI_mul, iI_neg, iI_lt, iI_le, iI_eq, iI_lt0, iI_le0, iI_gt0, iI_ge0, iI_eq0, p4]
        refine after_ok (by omega) hZ hz hP hW hR hn ht ?_
        have hst : pm (pzN (tPz T i)) (saf (pzT (tPz T i)) (pzS (tPz T i)) l) := saf_pm hz.2.2.2.2.2.2.2.2 (fun t q => hz.2.2.2.1 t (ht t q))
        obtain ⟨q3, q4⟩ := tf_st q1 hp hst
        refine zW.gz [] rfl rfl rfl (by omega) (by simp (disch := omega) only [true_or, or_true, eq_self, Option.some.injEq, Prod.mk.injEq, zall_0, zall_1, zall_2, zob_iff, zar_iff, zis_iff, zkIs_some, zkHas_some, iI_vp, z01_I, z01_bz, zch_I, true_and, and_true, or_false, false_or, and_self, upI_same, upL_same, upI_ne, upL_ne, iI_ixN, zI_mk, zL_mk, zP_mk, zK_mk, zN_mk, zwI_up, zwL_up, zg_some, Nat.reduceMod, Nat.reduceDiv, zcn_I, iI_add, iI_sub, iI_mul, iI_neg, iI_lt, iI_le, iI_eq, iI_lt0, iI_le0, iI_gt0, iI_ge0, iI_eq0, b0] <;> omega) ⟨_, rfl, b0⟩ rfl rfl (by decide +kernel) (by decide +kernel) ?_
        simp (disch := omega) only [upI_same, upL_same, upI_ne, upL_ne, iI_ixN, zI_mk, zL_mk, zP_mk, zK_mk, zN_mk, zwI_up, zwL_up, zg_some, Nat.reduceMod, Nat.reduceDiv, zcn_I, iI_add, iI_sub, iI_mul, iI_neg, iI_lt, iI_le, iI_eq, iI_lt0, iI_le0, iI_gt0, iI_ge0, iI_eq0]
        refine shows_ok (by omega) hZ (zOK_st hz hst) (zPR_st hP) (pm_up hst hz.2.1) rfl (fun g => ?_) (fun g => ?_)
        · refine zW.gr [] rfl rfl rfl (by omega) trivial z01_1 ?_
          exact tP_0 hQ (congrArg (fun v => ((0 : Nat), v, _)) (b01_t g)) ⟨_, _, q3⟩ (tfr_tr q2 q4)
        · refine zW.gr [] rfl rfl rfl (by omega) trivial z01_0 ?_
          exact tP_0 hQ (congrArg (fun v => ((0 : Nat), v, _)) (b01_f g)) ⟨_, _, q3⟩ (tfr_tr q2 q4)
      · simp (disch := omega) only [zcn_I, iI_add, iI_sub, iI_mul, iI_neg, iI_lt, iI_le, iI_eq, iI_lt0, iI_le0, iI_gt0, iI_ge0, iI_eq0, upI_same, upL_same, upI_ne, upL_ne, iI_ixN, zI_mk, zL_mk, zP_mk, zK_mk, zN_mk, zwI_up, zwL_up, zg_some, Nat.reduceMod, Nat.reduceDiv, r4] at h'
        have g : ¬ ∀ t, t ∈ l → t / 2 < pzR (tPz T i) := fun g => by have := (hrk _).mpr g; omega
        rw [if_neg (fun q => g (dc_t.mp q))] at hQ
        refine zW.gt [] rfl rfl rfl (by decide +kernel) (by omega) trivial (by decide +kernel) (by decide +kernel) rfl (fun N hN => ?_)
        exact tP_e hQ rfl ⟨_, _, tf_sm q1 (tsm_gr hN)⟩ (tfr_tr q2 (tfr_gr hN))
end TWD
