/-! The model's check of graphs; its soundness. -/
section MNOG
variable {d y : Nat} {T : tfT} {I : Nat → Nat → Int32} {L : Nat → Nat → Int64} {R : zRt} {Q : zO → zM → Prop}
/-- what a check of a graph finds: the number thrown -/
theorem mNoG_ok {p c : Int} {a b : Int32} (hd : 7 ≤ d) (h : mf y T (I, L, R)) (e1 : a = iI p) (e2 : b = iI c) (h1 : i32 p) (h2 : 0 ≤ c) (h2' : c < 65536)
    (hb : noP T p → ∀ I' L', mf y T (I', L', R) → mfo y I L I' L' → I' y 41 = iI 1 → Q (.inl (some (zi (iI 1)))) (I', L', R))
    (hc : ∀ i : Nat, p = i → i < tPn T → ¬ (c = 113 ∨ c = 116) → ∀ I' L', mf y T (I', L', R) → mfo y I L I' L' → I' y 41 = iI 2 → Q (.inl (some (zi (iI 1)))) (I', L', R))
    (hs : ∀ i : Nat, p = i → i < tPn T → (c = 113 ∨ c = 116) → ¬ pzZ (tPz T i) ≤ 800 → ∀ I' L', mf y T (I', L', R) → mfo y I L I' L' → I' y 41 = iI 3 → Q (.inl (some (zi (iI 1)))) (I', L', R))
    (hg : ∀ i : Nat, p = i → i < tPn T → (c = 113 ∨ c = 116) → pzZ (tPz T i) ≤ 800 → ∀ I' L' tb, mf y T (I', L', R) → mfo y I L I' L' → I' y 41 = iI 0 → mGr y (pzN (tPz T i)) (zA (pzR (tPz T i)) (pzT (tPz T i))) I' L' tb → mLdi y I' (tPz T i) → Q (.inl (some (zi (iI 0)))) (I', L', R)) : zS 199 d [zr (some y), zi a, zi b] (I, L, R) Q := by
  subst e1; subst e2
  have hM := h.2.1
  have k0 : R.2.1 y = some (7, 0) := hM.1
  refine zW.gz [] rfl rfl rfl (by omega) trivial ⟨_, rfl, k0⟩ rfl rfl (by decide +kernel) (by decide +kernel) ?_
  refine noPz_ok (by omega) h rfl h1 (fun q hq => ?_)
  refine zW.gz [] rfl rfl rfl (by omega) trivial ⟨_, rfl, k0⟩ rfl rfl (by decide +kernel) (by decide +kernel) ?_
  refine mThr_ok (k := 1) (by omega) k0 hq (zcn_I _) (fun hb' => ?_) (fun hg' => ?_)
  · refine zW.gbt [] rfl rfl rfl (by omega) trivial (by simp (disch := omega) only [eq_self, not_true_eq_false, not_false_eq_true, upI_same, upL_same, upI_ne, upL_ne, iI_ixN, zI_mk, zL_mk, zP_mk, zK_mk, zN_mk, zwI_up, zwL_up, zg_some, Nat.reduceMod, Nat.reduceDiv, zcn_I, iI_add, iI_sub, iI_mul, iI_neg, iI_lt, iI_le, iI_eq, iI_lt0, iI_le0, iI_gt0, iI_ge0, iI_eq0] <;> omega) ?_
    refine zW.go [59] rfl (by omega) trivial ?_
    refine zW.gr [] rfl rfl rfl (by omega) trivial z01c1 ?_
    rw [zcn_I]
    exact hb hb' _ _ (mf_scr h th_scr) (scr_o th_scr) (upI_same _ _ _ _)
  · obtain ⟨i, rfl, hi, -⟩ := onP_yes (f := fun i => (0, 0, T)) hg'
    refine zW.gbf [] rfl rfl rfl (by omega) trivial (by simp (disch := omega) only [eq_self, not_true_eq_false, not_false_eq_true, upI_same, upL_same, upI_ne, upL_ne, iI_ixN, zI_mk, zL_mk, zP_mk, zK_mk, zN_mk, zwI_up, zwL_up, zg_some, Nat.reduceMod, Nat.reduceDiv, zcn_I, iI_add, iI_sub, iI_mul, iI_neg, iI_lt, iI_le, iI_eq, iI_lt0, iI_le0, iI_gt0, iI_ge0, iI_eq0] <;> omega) ?_
    refine zW.gz [] rfl rfl rfl (by omega) trivial trivial rfl rfl (by decide +kernel) (by decide +kernel) ?_
    refine isCnt_ok (by omega) rfl h2 h2' (fun q hq => ?_)
    have F : ∀ u, tru (¬ (c = 113 ∨ c = 116)) u → zW 199 d 0 0 26 [some (zr (some y)), some (zi (iI (i : Int))), some (zi (iI c))] [zi u, zr (some y)] (upI I y 41 (iI 0), L, R) Q := fun u hu => by
      refine zW.gz [] rfl rfl rfl (by omega) trivial ⟨_, rfl, k0⟩ rfl rfl (by decide +kernel) (by decide +kernel) ?_
      refine mThr_ok (k := 2) (by omega) k0 hu (zcn_I _) (fun hb2 => ?_) (fun hb2 => ?_)
      · refine zW.gbt [] rfl rfl rfl (by omega) trivial (by simp (disch := omega) only [eq_self, not_true_eq_false, not_false_eq_true, upI_same, upL_same, upI_ne, upL_ne, iI_ixN, zI_mk, zL_mk, zP_mk, zK_mk, zN_mk, zwI_up, zwL_up, zg_some, Nat.reduceMod, Nat.reduceDiv, zcn_I, iI_add, iI_sub, iI_mul, iI_neg, iI_lt, iI_le, iI_eq, iI_lt0, iI_le0, iI_gt0, iI_ge0, iI_eq0] <;> omega) ?_
        refine zW.go [59] rfl (by omega) trivial ?_
        refine zW.gr [] rfl rfl rfl (by omega) trivial z01c1 ?_
        rw [zcn_I]
        exact hc i rfl hi hb2 _ _ (mf_scr h th2_scr) (scr_o th2_scr) (upI_same _ _ _ _)
      · have hb2 := Classical.byContradiction hb2
        have hm2 : mf y T (upI (upI I y 41 (iI 0)) y 41 (iI 0), L, R) := mf_scr h th2_scr
        refine zW.gbf [] rfl rfl rfl (by omega) trivial (by simp (disch := omega) only [eq_self, not_true_eq_false, not_false_eq_true, upI_same, upL_same, upI_ne, upL_ne, iI_ixN, zI_mk, zL_mk, zP_mk, zK_mk, zN_mk, zwI_up, zwL_up, zg_some, Nat.reduceMod, Nat.reduceDiv, zcn_I, iI_add, iI_sub, iI_mul, iI_neg, iI_lt, iI_le, iI_eq, iI_lt0, iI_le0, iI_gt0, iI_ge0, iI_eq0] <;> omega) ?_
        refine zW.gz [] rfl rfl rfl (by omega) trivial ⟨_, rfl, k0⟩ rfl rfl (by decide +kernel) (by decide +kernel) ?_
        refine msmall_ok (by omega) hm2 hi rfl (fun I' L' tb q m1 f1 t1 hG hq hL => ?_)
        have G : ∀ u, tru (¬ pzZ (tPz T i) ≤ 800) u → zW 199 d 0 0 47 [some (zr (some y)), some (zi (iI (i : Int))), some (zi (iI c))] [zi u, zr (some y)] (I', L', R) Q := fun u hu => by
          refine zW.gz [] rfl rfl rfl (by omega) trivial ⟨_, rfl, k0⟩ rfl rfl (by decide +kernel) (by decide +kernel) ?_
          refine mThr_ok (k := 3) (by omega) k0 hu (zcn_I _) (fun hb3 => ?_) (fun hb3 => ?_)
          · refine zW.gbf [] rfl rfl rfl (by omega) trivial (by simp (disch := omega) only [eq_self, not_true_eq_false, not_false_eq_true, upI_same, upL_same, upI_ne, upL_ne, iI_ixN, zI_mk, zL_mk, zP_mk, zK_mk, zN_mk, zwI_up, zwL_up, zg_some, Nat.reduceMod, Nat.reduceDiv, zcn_I, iI_add, iI_sub, iI_mul, iI_neg, iI_lt, iI_le, iI_eq, iI_lt0, iI_le0, iI_gt0, iI_ge0, iI_eq0] <;> omega) ?_
            refine zW.go [59] rfl (by omega) trivial ?_
            refine zW.gr [] rfl rfl rfl (by omega) trivial z01c1 ?_
            rw [zcn_I]
            exact hs i rfl hi hb2 hb3 _ _ (mf_scr m1 th_scr) (mfo_tr (mfo_tr (scr_o th2_scr) f1) (scr_o th_scr)) (upI_same _ _ _ _)
          · have hb3 := Classical.byContradiction hb3
            refine zW.gbt [] rfl rfl rfl (by omega) trivial (by simp (disch := omega) only [eq_self, not_true_eq_false, not_false_eq_true, upI_same, upL_same, upI_ne, upL_ne, iI_ixN, zI_mk, zL_mk, zP_mk, zK_mk, zN_mk, zwI_up, zwL_up, zg_some, Nat.reduceMod, Nat.reduceDiv, zcn_I, iI_add, iI_sub, iI_mul, iI_neg, iI_lt, iI_le, iI_eq, iI_lt0, iI_le0, iI_gt0, iI_ge0, iI_eq0] <;> omega) ?_
            refine zW.go [59] rfl (by omega) trivial ?_
            refine zW.gr [] rfl rfl rfl (by omega) trivial z01c0 ?_; rw [zcn_I]
            refine hg i rfl hi hb2 hb3 _ _ tb (mf_scr m1 th_scr) (mfo_tr (mfo_tr (scr_o th2_scr) f1) (scr_o th_scr)) (upI_same _ _ _ _) (mGr_fr hG (fun a q1 q2 => upI_row (by omega)) rfl) (fun k hk => ?_)
            obtain ⟨q1, q2⟩ := hL hb3 k hk
            exact ⟨fun q hq => by rw [upI_row (by omega)]; exact q1 q hq, fun a ha => by rw [upI_row (by omega)]; exact q2 a ha⟩
        rcases hq with ⟨g, rfl⟩ | ⟨g, rfl⟩
        · refine zW.gbt [] rfl rfl rfl (by omega) trivial (by simp (disch := omega) only [eq_self, not_true_eq_false, not_false_eq_true, upI_same, upL_same, upI_ne, upL_ne, iI_ixN, zI_mk, zL_mk, zP_mk, zK_mk, zN_mk, zwI_up, zwL_up, zg_some, Nat.reduceMod, Nat.reduceDiv, zcn_I, iI_add, iI_sub, iI_mul, iI_neg, iI_lt, iI_le, iI_eq, iI_lt0, iI_le0, iI_gt0, iI_ge0, iI_eq0] <;> omega) ?_
          exact zW.go [47] rfl (by omega) trivial (G _ (tru_f (fun n => n g)))
        · refine zW.gbf [] rfl rfl rfl (by omega) trivial (by simp (disch := omega) only [eq_self, not_true_eq_false, not_false_eq_true, upI_same, upL_same, upI_ne, upL_ne, iI_ixN, zI_mk, zL_mk, zP_mk, zK_mk, zN_mk, zwI_up, zwL_up, zg_some, Nat.reduceMod, Nat.reduceDiv, zcn_I, iI_add, iI_sub, iI_mul, iI_neg, iI_lt, iI_le, iI_eq, iI_lt0, iI_le0, iI_gt0, iI_ge0, iI_eq0] <;> omega) ?_
          exact zW.go [47] rfl (by omega) trivial (G _ (tru_t g))
    rcases hq with ⟨g, rfl⟩ | ⟨g, rfl⟩
    · refine zW.gbt [] rfl rfl rfl (by omega) trivial (by simp (disch := omega) only [eq_self, not_true_eq_false, not_false_eq_true, upI_same, upL_same, upI_ne, upL_ne, iI_ixN, zI_mk, zL_mk, zP_mk, zK_mk, zN_mk, zwI_up, zwL_up, zg_some, Nat.reduceMod, Nat.reduceDiv, zcn_I, iI_add, iI_sub, iI_mul, iI_neg, iI_lt, iI_le, iI_eq, iI_lt0, iI_le0, iI_gt0, iI_ge0, iI_eq0] <;> omega) ?_
      exact zW.go [26] rfl (by omega) trivial (F _ (tru_f (fun n => n g)))
    · refine zW.gbf [] rfl rfl rfl (by omega) trivial (by simp (disch := omega) only [eq_self, not_true_eq_false, not_false_eq_true, upI_same, upL_same, upI_ne, upL_ne, iI_ixN, zI_mk, zL_mk, zP_mk, zK_mk, zN_mk, zwI_up, zwL_up, zg_some, Nat.reduceMod, Nat.reduceDiv, zcn_I, iI_add, iI_sub, iI_mul, iI_neg, iI_lt, iI_le, iI_eq, iI_lt0, iI_le0, iI_gt0, iI_ge0, iI_eq0] <;> omega) ?_
      exact zW.go [26] rfl (by omega) trivial (F _ (tru_t g))
end MNOG
