/-! A round of the class: a time is told; averages. -/
section ROUND4
variable {d b : Nat} {w : zRd} {I : Nat → Nat → Int32} {L : Nat → Nat → Int64} {R : zRt} {Q : zO → zM → Prop}
theorem tellT_ok {c time told : Nat} {x y z : Int32} (hd : 2 ≤ d) (hL : RLy b R) (hk : rOK w) (hR : rPR b I w) (h109 : rFm w ≠ 109) (e1 : x = iI (c : Int)) (e2 : y = iI (time : Int)) (e3 : z = iI (told : Int)) (hc : c < 12) (hm : rMa w c < mxA (rFm w)) (htm : time ≤ 59999) (htl : told ≤ 60399)
    (hQ : ∀ I', rfr b I I' → rOK (wTime w c time told).2 → rPR b I' (wTime w c time told).2 → Q (.inl (some (zi (iI ((wTime w c time told).1 : Int))))) (I', L, R)) : zS 52 d [zr (some b), zi x, zi y, zi z] (I, L, R) Q := by
  subst e1; subst e2; subst e3
  have hL' := hL
  obtain ⟨k0, p3, p4, p5, p6, p7, p8, k1, k14, k15, k16, k17, k18, krow⟩ := hL'
  have hR' := hR
  obtain ⟨h1, h2, h3, h4, h5, h6, h7⟩ := hR'
  obtain ⟨m1, m2, m3, m4, m5, m6⟩ := h7 c hc
  obtain ⟨o1, o2, o3, o4, o5⟩ := hk
  obtain ⟨b1, b2, b3, b4, b5, b6⟩ := o5 c hc
  have hm5 := mxA_le (rFm w)
  have hsp : rSp w c ≤ 4 * 60399 := Nat.le_trans b3 (Nat.mul_le_mul_right _ (by omega))
  have hsp2 : rSp w c ≤ 241596 := hsp
  unfold wTime at hQ
  -- from the sum of what was spent on
  have fin : ∀ (I1 : Nat → Nat → Int32) (ov : Nat → Bool) (v : Nat) (hv : v ≤ 60399), (∀ a, a ≠ b + 16 → I1 a = I a) → (∀ j, j < 12 → I1 (b + 16) j = bz (ov j)) → (∀ j, j < 12 → ov j = true → 0 < rLi w) →
      (∀ I', rfr b I I' → rOK (wTell (w.1, rMa w, rRs w, (fun j => if j = c then rSp w c + (if 0 < v then v else time) else rSp w j), ov, w.2.2.2.2.2) c v) → rPR b I' (wTell (w.1, rMa w, rRs w, (fun j => if j = c then rSp w c + (if 0 < v then v else time) else rSp w j), ov, w.2.2.2.2.2) c v) → Q (.inl (some (zi (iI (v : Int))))) (I', L, R)) →
      zW 52 d 0 0 48 [some (zr (some b)), some (zi (iI (c : Int))), some (zi (iI (time : Int))), some (zi (iI (told : Int))), some (zi (iI (v : Int)))] [] (I1, L, R) Q := by
    intro I1 ov v hv f1 f2 f3 hq
    have g15 : I1 (b + 15) c = iI (rSp w c : Int) := by rw [f1 _ (by omega)]; exact m2
    have last : ∀ (o : Int32), o = iI ((if 0 < v then v else time : Nat) : Int) → zW 52 d 0 0 66 [some (zr (some b)), some (zi (iI (c : Int))), some (zi (iI (time : Int))), some (zi (iI (told : Int))), some (zi (iI (v : Int)))] [zi o, zi (iI (rSp w c : Int)), zi (iI (c : Int)), zr (some (b + 15))] (I1, L, R) Q := by
      intro o eo
      subst eo
      refine zW.gz [] rfl rfl rfl (by omega) ?_ ⟨_, rfl, k0⟩ rfl rfl (Nat.le_refl _) (Nat.le_refl _) ?_
      · exact (by simp (disch := omega) only [true_or, or_true, eq_self, Option.some.injEq, Prod.mk.injEq, zall_0, zall_1, zall_2, zob_iff, zar_iff, zis_iff, zkIs_some, zkHas_some, iI_vp, z01_I, z01_bz, zch_I, true_and, and_true, or_false, false_or, and_self, upI_same, upL_same, upI_ne, upL_ne, iI_ixN, zI_mk, zL_mk, zP_mk, zK_mk, zN_mk, zwI_up, zwL_up, zg_some, Nat.reduceMod, Nat.reduceDiv, zcn_I, iI_add, iI_sub, iI_mul, iI_neg, iI_lt, iI_le, iI_eq, iI_lt0, iI_le0, iI_gt0, iI_ge0, iI_eq0, k15] <;> omega)
      · simp (disch := omega) only [upI_same, upL_same, upI_ne, upL_ne, iI_ixN, zI_mk, zL_mk, zP_mk, zK_mk, zN_mk, zwI_up, zwL_up, zg_some, Nat.reduceMod, Nat.reduceDiv, iI_add]
        refine tellR_ok (x := v) (w := (w.1, rMa w, rRs w, (fun j => if j = c then rSp w c + (if 0 < v then v else time) else rSp w j), ov, w.2.2.2.2.2)) (by omega) hL ⟨?_, ?_, ?_, ?_, ?_, ?_, fun j hj => ?_⟩ rfl ?_ hc hm (fun I' f' r' => ?_)
        · rw [upI_row (by omega), f1 _ (by omega)]
          exact h1
        · rw [upI_row (by omega), f1 _ (by omega)]
          exact h2
        · rw [upI_row (by omega), f1 _ (by omega)]
          exact h3
        · rw [upI_row (by omega), f1 _ (by omega)]
          exact h4
        · rw [upI_row (by omega), f1 _ (by omega)]
          exact h5
        · rw [upI_row (by omega), f1 _ (by omega)]
          exact h6
        · obtain ⟨a1, a2, a3, a4, a5, a6⟩ := h7 j hj
          refine ⟨?_, ?_, ?_, ?_, ?_, fun k hk2 => ?_⟩
          · rw [upI_row (by omega), f1 _ (by omega)]
            exact a1
          · show _ = iI ((if j = c then rSp w c + (if 0 < v then v else time) else rSp w j : Nat) : Int)
            by_cases cj : j = c
            · rw [cj, upI_same, if_pos rfl]
              exact iI_cg (by omega)
            · rw [upI_ne (by omega), f1 _ (by omega), if_neg cj]
              exact a2
          · rw [upI_row (by omega)]
            exact f2 j hj
          · rw [upI_row (by omega), f1 _ (by omega)]
            exact a4
          · rw [upI_row (by omega), f1 _ (by omega)]
            exact a5
          · rw [upI_row (by omega), f1 _ (by omega)]
            exact a6 k hk2
        · show iI (v : Int) = iI (cv (rFm w) v)
          unfold cv
          rw [if_neg h109]
        · refine zW.gr [] rfl rfl rfl (by omega) trivial trivial ?_
          refine hq I' (fun a q => ?_) ?_ r'
          · rw [f' a q, upI_row (by omega), f1 _ (by omega)]
          · refine rOK_tell o1 o2 o3 o4 hm hv fun j hj => ?_
            obtain ⟨a1, a2, a3, a4, a5, a6⟩ := o5 j hj
            refine ⟨a1, a2, ?_, a4, a5, f3 j hj⟩
            show (if j = c then rSp w c + (if 0 < v then v else time) else rSp w j) ≤ (if j = c then rMa w c + 1 else rMa w j) * 60399
            by_cases cj : j = c
            · rw [if_pos cj, if_pos cj, Nat.succ_mul]
              refine Nat.add_le_add b3 ?_
              split <;> omega
            · rw [if_neg cj, if_neg cj]
              exact a3
    by_cases hv0 : 0 < v
    · refine zW.gbf [] rfl rfl rfl (by omega) ?_ ?_ (zW.go [66] rfl (by omega) trivial ?_)
      · simp (disch := omega) only [upI_same, upL_same, upI_ne, upL_ne, iI_ixN, zI_mk, zL_mk, zP_mk, zK_mk, zN_mk, zwI_up, zwL_up, zg_some, Nat.reduceMod, Nat.reduceDiv, zcn_I, iI_add, iI_sub, iI_mul, iI_neg, iI_lt, iI_le, iI_eq, iI_lt0, iI_le0, iI_gt0, iI_ge0, iI_eq0, p5]
        exact (by simp (disch := omega) only [true_or, or_true, eq_self, Option.some.injEq, Prod.mk.injEq, zall_0, zall_1, zall_2, zob_iff, zar_iff, zis_iff, zkIs_some, zkHas_some, iI_vp, z01_I, z01_bz, zch_I, true_and, and_true, or_false, false_or, and_self, upI_same, upL_same, upI_ne, upL_ne, iI_ixN, zI_mk, zL_mk, zP_mk, zK_mk, zN_mk, zwI_up, zwL_up, zg_some, Nat.reduceMod, Nat.reduceDiv, zcn_I, iI_add, iI_sub, iI_mul, iI_neg, iI_lt, iI_le, iI_eq, iI_lt0, iI_le0, iI_gt0, iI_ge0, iI_eq0, k0, p5, k15] <;> omega)
      · exact (by simp (disch := omega) only [eq_self, not_true_eq_false, not_false_eq_true, upI_same, upL_same, upI_ne, upL_ne, iI_ixN, zI_mk, zL_mk, zP_mk, zK_mk, zN_mk, zwI_up, zwL_up, zg_some, Nat.reduceMod, Nat.reduceDiv, zcn_I, iI_add, iI_sub, iI_mul, iI_neg, iI_lt, iI_le, iI_eq, iI_lt0, iI_le0, iI_gt0, iI_ge0, iI_eq0] <;> omega)
      · simp (disch := omega) only [upI_same, upL_same, upI_ne, upL_ne, iI_ixN, zI_mk, zL_mk, zP_mk, zK_mk, zN_mk, zwI_up, zwL_up, zg_some, Nat.reduceMod, Nat.reduceDiv, zcn_I, iI_add, iI_sub, iI_mul, iI_neg, iI_lt, iI_le, iI_eq, iI_lt0, iI_le0, iI_gt0, iI_ge0, iI_eq0, p5, g15]
        exact last _ (by rw [if_pos hv0])
    · refine zW.gbt [] rfl rfl rfl (by omega) ?_ ?_ (zW.go [66] rfl (by omega) trivial ?_)
      · simp (disch := omega) only [upI_same, upL_same, upI_ne, upL_ne, iI_ixN, zI_mk, zL_mk, zP_mk, zK_mk, zN_mk, zwI_up, zwL_up, zg_some, Nat.reduceMod, Nat.reduceDiv, zcn_I, iI_add, iI_sub, iI_mul, iI_neg, iI_lt, iI_le, iI_eq, iI_lt0, iI_le0, iI_gt0, iI_ge0, iI_eq0, p5]
        exact (by simp (disch := omega) only [true_or, or_true, eq_self, Option.some.injEq, Prod.mk.injEq, zall_0, zall_1, zall_2, zob_iff, zar_iff, zis_iff, zkIs_some, zkHas_some, iI_vp, z01_I, z01_bz, zch_I, true_and, and_true, or_false, false_or, and_self, upI_same, upL_same, upI_ne, upL_ne, iI_ixN, zI_mk, zL_mk, zP_mk, zK_mk, zN_mk, zwI_up, zwL_up, zg_some, Nat.reduceMod, Nat.reduceDiv, zcn_I, iI_add, iI_sub, iI_mul, iI_neg, iI_lt, iI_le, iI_eq, iI_lt0, iI_le0, iI_gt0, iI_ge0, iI_eq0, k0, p5, k15] <;> omega)
      · exact (by simp (disch := omega) only [eq_self, not_true_eq_false, not_false_eq_true, upI_same, upL_same, upI_ne, upL_ne, iI_ixN, zI_mk, zL_mk, zP_mk, zK_mk, zN_mk, zwI_up, zwL_up, zg_some, Nat.reduceMod, Nat.reduceDiv, zcn_I, iI_add, iI_sub, iI_mul, iI_neg, iI_lt, iI_le, iI_eq, iI_lt0, iI_le0, iI_gt0, iI_ge0, iI_eq0] <;> omega)
      · simp (disch := omega) only [upI_same, upL_same, upI_ne, upL_ne, iI_ixN, zI_mk, zL_mk, zP_mk, zK_mk, zN_mk, zwI_up, zwL_up, zg_some, Nat.reduceMod, Nat.reduceDiv, zcn_I, iI_add, iI_sub, iI_mul, iI_neg, iI_lt, iI_le, iI_eq, iI_lt0, iI_le0, iI_gt0, iI_ge0, iI_eq0, p5, g15]
        exact last _ (by rw [if_neg hv0])
  -- nothing stands against it
  have good : ¬ (0 < rLi w ∧ 0 < told ∧ (rOv w c = true ∨ rLi w < rSp w c + told)) → zW 52 d 0 0 48 [some (zr (some b)), some (zi (iI (c : Int))), some (zi (iI (time : Int))), some (zi (iI (told : Int))), some (zi (iI (told : Int)))] [] (I, L, R) Q := by
    intro q
    rw [if_neg q] at hQ
    exact fin I (rOv w) told htl (fun _ _ => rfl) (fun j hj => (h7 j hj).2.2.1) (fun j hj => (o5 j hj).2.2.2.2.2) hQ
  -- .. or the limit does
  have bad : (0 < rLi w ∧ 0 < told ∧ (rOv w c = true ∨ rLi w < rSp w c + told)) → zW 52 d 0 0 38 [some (zr (some b)), some (zi (iI (c : Int))), some (zi (iI (time : Int))), some (zi (iI (told : Int))), some (zi (iI (told : Int)))] [] (I, L, R) Q := by
    intro q
    rw [if_pos q] at hQ
    refine zW.go [48] rfl (by omega) ?_ ?_
    · simp (disch := omega) only [upI_same, upL_same, upI_ne, upL_ne, iI_ixN, zI_mk, zL_mk, zP_mk, zK_mk, zN_mk, zwI_up, zwL_up, zg_some, Nat.reduceMod, Nat.reduceDiv, zcn_I, iI_add, iI_sub, iI_mul, iI_neg, iI_lt, iI_le, iI_eq, iI_lt0, iI_le0, iI_gt0, iI_ge0, iI_eq0, p6]
      exact (by simp (disch := omega) only [true_or, or_true, eq_self, Option.some.injEq, Prod.mk.injEq, zall_0, zall_1, zall_2, zob_iff, zar_iff, zis_iff, zkIs_some, zkHas_some, iI_vp, z01_I, z01_bz, zch_I, true_and, and_true, or_false, false_or, and_self, upI_same, upL_same, upI_ne, upL_ne, iI_ixN, zI_mk, zL_mk, zP_mk, zK_mk, zN_mk, zwI_up, zwL_up, zg_some, Nat.reduceMod, Nat.reduceDiv, zcn_I, iI_add, iI_sub, iI_mul, iI_neg, iI_lt, iI_le, iI_eq, iI_lt0, iI_le0, iI_gt0, iI_ge0, iI_eq0, k0, p6, k16] <;> omega)
    · simp (disch := omega) only [upI_same, upL_same, upI_ne, upL_ne, iI_ixN, zI_mk, zL_mk, zP_mk, zK_mk, zN_mk, zwI_up, zwL_up, zg_some, Nat.reduceMod, Nat.reduceDiv, zcn_I, iI_add, iI_sub, iI_mul, iI_neg, iI_lt, iI_le, iI_eq, iI_lt0, iI_le0, iI_gt0, iI_ge0, iI_eq0, p6, zcn_I]
      refine fin _ (fun j => if j = c then true else rOv w j) 0 (by decide) (fun a qa => upI_row qa) (fun j hj => ?_) (fun j hj _ => q.1) hQ
      by_cases cj : j = c
      · rw [cj, upI_same, if_pos rfl]
        rfl
      · rw [upI_ne (by omega), if_neg cj]
        exact (h7 j hj).2.2.1
  refine zW.gb [] rfl rfl rfl (by omega) ?_ (fun g => ?_) (fun g => ?_)
  · exact (by simp (disch := omega) only [true_or, or_true, eq_self, Option.some.injEq, Prod.mk.injEq, zall_0, zall_1, zall_2, zob_iff, zar_iff, zis_iff, zkIs_some, zkHas_some, iI_vp, z01_I, z01_bz, zch_I, true_and, and_true, or_false, false_or, and_self, upI_same, upL_same, upI_ne, upL_ne, iI_ixN, zI_mk, zL_mk, zP_mk, zK_mk, zN_mk, zwI_up, zwL_up, zg_some, Nat.reduceMod, Nat.reduceDiv, zcn_I, iI_add, iI_sub, iI_mul, iI_neg, iI_lt, iI_le, iI_eq, iI_lt0, iI_le0, iI_gt0, iI_ge0, iI_eq0, k0] <;> omega)
  · simp (disch := omega) only [upI_same, upL_same, upI_ne, upL_ne, iI_ixN, zI_mk, zL_mk, zP_mk, zK_mk, zN_mk, zwI_up, zwL_up, zg_some, Nat.reduceMod, Nat.reduceDiv, zcn_I, iI_add, iI_sub, iI_mul, iI_neg, iI_lt, iI_le, iI_eq, iI_lt0, iI_le0, iI_gt0, iI_ge0, iI_eq0, h2] at g
    exact good (by omega)
  · simp (disch := omega) only [upI_same, upL_same, upI_ne, upL_ne, iI_ixN, zI_mk, zL_mk, zP_mk, zK_mk, zN_mk, zwI_up, zwL_up, zg_some, Nat.reduceMod, Nat.reduceDiv, zcn_I, iI_add, iI_sub, iI_mul, iI_neg, iI_lt, iI_le, iI_eq, iI_lt0, iI_le0, iI_gt0, iI_ge0, iI_eq0, h2] at g
    refine zW.gb [] rfl rfl rfl (by omega) trivial (fun g2 => ?_) (fun g2 => ?_) <;> simp (disch := omega) only [zcn_I, iI_add, iI_sub, iI_mul, iI_neg, iI_lt, iI_le, iI_eq, iI_lt0, iI_le0, iI_gt0, iI_ge0, iI_eq0] at g2
    · exact good (by omega)
    · cases hov : rOv w c with
      | true =>
        rw [hov] at m3
        refine zW.gbt [] rfl rfl rfl (by omega) ?_ ?_ (bad ⟨by omega, by omega, Or.inl hov⟩)
        · simp (disch := omega) only [upI_same, upL_same, upI_ne, upL_ne, iI_ixN, zI_mk, zL_mk, zP_mk, zK_mk, zN_mk, zwI_up, zwL_up, zg_some, Nat.reduceMod, Nat.reduceDiv, zcn_I, iI_add, iI_sub, iI_mul, iI_neg, iI_lt, iI_le, iI_eq, iI_lt0, iI_le0, iI_gt0, iI_ge0, iI_eq0, p6]
          exact (by simp (disch := omega) only [true_or, or_true, eq_self, Option.some.injEq, Prod.mk.injEq, zall_0, zall_1, zall_2, zob_iff, zar_iff, zis_iff, zkIs_some, zkHas_some, iI_vp, z01_I, z01_bz, zch_I, true_and, and_true, or_false, false_or, and_self, upI_same, upL_same, upI_ne, upL_ne, iI_ixN, zI_mk, zL_mk, zP_mk, zK_mk, zN_mk, zwI_up, zwL_up, zg_some, Nat.reduceMod, Nat.reduceDiv, zcn_I, iI_add, iI_sub, iI_mul, iI_neg, iI_lt, iI_le, iI_eq, iI_lt0, iI_le0, iI_gt0, iI_ge0, iI_eq0, k0, p6, k16] <;> omega)
        · exact (by simp (disch := omega) only [eq_self, not_true_eq_false, not_false_eq_true, upI_same, upL_same, upI_ne, upL_ne, iI_ixN, zI_mk, zL_mk, zP_mk, zK_mk, zN_mk, zwI_up, zwL_up, zg_some, Nat.reduceMod, Nat.reduceDiv, zcn_I, iI_add, iI_sub, iI_mul, iI_neg, iI_lt, iI_le, iI_eq, iI_lt0, iI_le0, iI_gt0, iI_ge0, iI_eq0, p6, m3, bz_t] <;> omega)
      | false =>
        rw [hov] at m3
        refine zW.gbf [] rfl rfl rfl (by omega) ?_ ?_ (zW.gb [] rfl rfl rfl (by omega) ?_ (fun g3 => ?_) (fun g3 => ?_))
        · simp (disch := omega) only [upI_same, upL_same, upI_ne, upL_ne, iI_ixN, zI_mk, zL_mk, zP_mk, zK_mk, zN_mk, zwI_up, zwL_up, zg_some, Nat.reduceMod, Nat.reduceDiv, zcn_I, iI_add, iI_sub, iI_mul, iI_neg, iI_lt, iI_le, iI_eq, iI_lt0, iI_le0, iI_gt0, iI_ge0, iI_eq0, p6]
          exact (by simp (disch := omega) only [true_or, or_true, eq_self, Option.some.injEq, Prod.mk.injEq, zall_0, zall_1, zall_2, zob_iff, zar_iff, zis_iff, zkIs_some, zkHas_some, iI_vp, z01_I, z01_bz, zch_I, true_and, and_true, or_false, false_or, and_self, upI_same, upL_same, upI_ne, upL_ne, iI_ixN, zI_mk, zL_mk, zP_mk, zK_mk, zN_mk, zwI_up, zwL_up, zg_some, Nat.reduceMod, Nat.reduceDiv, zcn_I, iI_add, iI_sub, iI_mul, iI_neg, iI_lt, iI_le, iI_eq, iI_lt0, iI_le0, iI_gt0, iI_ge0, iI_eq0, k0, p6, k16] <;> omega)
        · exact (by simp (disch := omega) only [eq_self, not_true_eq_false, not_false_eq_true, upI_same, upL_same, upI_ne, upL_ne, iI_ixN, zI_mk, zL_mk, zP_mk, zK_mk, zN_mk, zwI_up, zwL_up, zg_some, Nat.reduceMod, Nat.reduceDiv, zcn_I, iI_add, iI_sub, iI_mul, iI_neg, iI_lt, iI_le, iI_eq, iI_lt0, iI_le0, iI_gt0, iI_ge0, iI_eq0, p6, m3, bz_f] <;> omega)
        · simp (disch := omega) only [upI_same, upL_same, upI_ne, upL_ne, iI_ixN, zI_mk, zL_mk, zP_mk, zK_mk, zN_mk, zwI_up, zwL_up, zg_some, Nat.reduceMod, Nat.reduceDiv, zcn_I, iI_add, iI_sub, iI_mul, iI_neg, iI_lt, iI_le, iI_eq, iI_lt0, iI_le0, iI_gt0, iI_ge0, iI_eq0, p5]
          exact (by simp (disch := omega) only [true_or, or_true, eq_self, Option.some.injEq, Prod.mk.injEq, zall_0, zall_1, zall_2, zob_iff, zar_iff, zis_iff, zkIs_some, zkHas_some, iI_vp, z01_I, z01_bz, zch_I, true_and, and_true, or_false, false_or, and_self, upI_same, upL_same, upI_ne, upL_ne, iI_ixN, zI_mk, zL_mk, zP_mk, zK_mk, zN_mk, zwI_up, zwL_up, zg_some, Nat.reduceMod, Nat.reduceDiv, zcn_I, iI_add, iI_sub, iI_mul, iI_neg, iI_lt, iI_le, iI_eq, iI_lt0, iI_le0, iI_gt0, iI_ge0, iI_eq0, k0, p5, k15] <;> omega)
        · simp (disch := omega) only [upI_same, upL_same, upI_ne, upL_ne, iI_ixN, zI_mk, zL_mk, zP_mk, zK_mk, zN_mk, zwI_up, zwL_up, zg_some, Nat.reduceMod, Nat.reduceDiv, zcn_I, iI_add, iI_sub, iI_mul, iI_neg, iI_lt, iI_le, iI_eq, iI_lt0, iI_le0, iI_gt0, iI_ge0, iI_eq0, p5, m2, h2] at g3
          refine good ?_
          rintro ⟨a1, a2, a3 | a3⟩
          · rw [hov] at a3
            cases a3
          · omega
        · simp (disch := omega) only [upI_same, upL_same, upI_ne, upL_ne, iI_ixN, zI_mk, zL_mk, zP_mk, zK_mk, zN_mk, zwI_up, zwL_up, zg_some, Nat.reduceMod, Nat.reduceDiv, zcn_I, iI_add, iI_sub, iI_mul, iI_neg, iI_lt, iI_le, iI_eq, iI_lt0, iI_le0, iI_gt0, iI_ge0, iI_eq0, p5, m2, h2] at g3
          exact bad ⟨by omega, by omega, Or.inr (by omega)⟩
end ROUND4
