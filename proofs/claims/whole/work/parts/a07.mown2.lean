/-! The model types places and signs. -/
section MOWN2
variable {d y : Nat} {T : tfT} {I : Nat → Nat → Int32} {L : Nat → Nat → Int64} {R : zRt} {Q : zO → zM → Prop}
theorem ex_s {P : Nat → Prop} {k : Nat} : ((∃ q, q < k ∧ P q) ∨ P k) ↔ ∃ q, q < k + 1 ∧ P q := ⟨fun h => h.elim (fun ⟨q, q1, q2⟩ => ⟨q, by omega, q2⟩) (fun h => ⟨k, by omega, h⟩), fun ⟨q, q1, q2⟩ => by
  by_cases e : q = k
  · exact Or.inr (e ▸ q2)
  · exact Or.inl ⟨q, by omega, q2⟩⟩
theorem ex_0 {P : Nat → Prop} : ¬ ∃ q, q < 0 ∧ P q := fun ⟨q, q1, _⟩ => absurd q1 (Nat.not_lt_zero q)
theorem mTypeP_lp {v : Int} (hd : 3 ≤ d) (h : mf y T (I, L, R)) (h1 : i32 v)
    (hQ : ∀ x z, tru (∃ k, k < (tTy T).length ∧ (nth (tTy T) k : Int) = v) x → zW 164 d 0 0 36 [some (zr (some y)), some (zi (iI v)), some (zi x), some (zi z)] [] (I, L, R) Q) :
    ∀ m k, k + m = (tTy T).length → ∀ x z, tru (∃ j, j < k ∧ (nth (tTy T) j : Int) = v) x → z = iI (k : Int) → zW 164 d 0 0 4 [some (zr (some y)), some (zi (iI v)), some (zi x), some (zi z)] [] (I, L, R) Q
  | 0, k, hk, x, z, hx, e2 => by
    subst e2
    have k0 : R.2.1 y = some (7, 0) := h.2.1.1
    obtain ⟨⟨a1, a2⟩, -⟩ := m_own h
    have h8 := h.1.1.1
    obtain rfl : k = (tTy T).length := by omega
    exact zW.gbt [] rfl rfl rfl (by omega) (by simp (disch := omega) only [true_or, or_true, eq_self, Option.some.injEq, Prod.mk.injEq, zall_0, zall_1, zall_2, zob_iff, zar_iff, zis_iff, zkIs_some, zkHas_some, iI_vp, z01_I, z01_bz, zch_I, true_and, and_true, or_false, false_or, and_self, upI_same, upL_same, upI_ne, upL_ne, iI_ixN, zI_mk, zL_mk, zP_mk, zK_mk, zN_mk, zwI_up, zwL_up, zg_some, Nat.reduceMod, Nat.reduceDiv, zcn_I, iI_add, iI_sub, iI_mul, iI_neg, iI_lt, iI_le, iI_eq, iI_lt0, iI_le0, iI_gt0, iI_ge0, iI_eq0, k0] <;> omega) (by simp (disch := omega) only [eq_self, not_true_eq_false, not_false_eq_true, upI_same, upL_same, upI_ne, upL_ne, iI_ixN, zI_mk, zL_mk, zP_mk, zK_mk, zN_mk, zwI_up, zwL_up, zg_some, Nat.reduceMod, Nat.reduceDiv, zcn_I, iI_add, iI_sub, iI_mul, iI_neg, iI_lt, iI_le, iI_eq, iI_lt0, iI_le0, iI_gt0, iI_ge0, iI_eq0, a1] <;> omega) (hQ _ _ hx)
  | m + 1, k, hk, x, z, hx, e2 => by
    subst e2
    have hM := h.2.1
    have k0 : R.2.1 y = some (7, 0) := hM.1
    obtain ⟨⟨a1, a2⟩, -⟩ := m_own h
    have h8 := h.1.1.1
    have v1 := a2 k (by omega)
    have h10 := h.1.1.2.1 k (by omega)
    obtain ⟨b1, b2⟩ := h1
    have p0 : R.1 y 0 = some (y + 1) := (hM.2.1 0 (by decide)).1; have k_0 : R.2.1 (y + 1) = some (20, 8) := (hM.2.1 0 (by decide)).2
    have NX : ∀ u : Int32, tru ((nth (tTy T) k : Int) = v) u → zW 164 d 0 0 28 [some (zr (some y)), some (zi (iI v)), some (zi x), some (zi (iI (k : Int)))] [zi u, zi x] (I, L, R) Q := fun u hu => by
      refine zW.go [4] rfl (by omega) trivial ?_
      exact mTypeP_lp hd h ⟨b1, b2⟩ hQ m (k + 1) (by omega) _ _ (tru_cg ex_s (tru_or hx hu)) (by rw [zcn_I, iI_add]; rfl)
    refine zW.gbf [] rfl rfl rfl (by omega) (by simp (disch := omega) only [true_or, or_true, eq_self, Option.some.injEq, Prod.mk.injEq, zall_0, zall_1, zall_2, zob_iff, zar_iff, zis_iff, zkIs_some, zkHas_some, iI_vp, z01_I, z01_bz, zch_I, true_and, and_true, or_false, false_or, and_self, upI_same, upL_same, upI_ne, upL_ne, iI_ixN, zI_mk, zL_mk, zP_mk, zK_mk, zN_mk, zwI_up, zwL_up, zg_some, Nat.reduceMod, Nat.reduceDiv, zcn_I, iI_add, iI_sub, iI_mul, iI_neg, iI_lt, iI_le, iI_eq, iI_lt0, iI_le0, iI_gt0, iI_ge0, iI_eq0, k0] <;> omega) (by simp (disch := omega) only [eq_self, not_true_eq_false, not_false_eq_true, upI_same, upL_same, upI_ne, upL_ne, iI_ixN, zI_mk, zL_mk, zP_mk, zK_mk, zN_mk, zwI_up, zwL_up, zg_some, Nat.reduceMod, Nat.reduceDiv, zcn_I, iI_add, iI_sub, iI_mul, iI_neg, iI_lt, iI_le, iI_eq, iI_lt0, iI_le0, iI_gt0, iI_ge0, iI_eq0, a1] <;> omega) ?_
    refine zW.gb [] rfl rfl rfl (by omega) (by simp (disch := omega) only [true_or, or_true, eq_self, Option.some.injEq, Prod.mk.injEq, zall_0, zall_1, zall_2, zob_iff, zar_iff, zis_iff, zkIs_some, zkHas_some, iI_vp, z01_I, z01_bz, zch_I, true_and, and_true, or_false, false_or, and_self, upI_same, upL_same, upI_ne, upL_ne, iI_ixN, zI_mk, zL_mk, zP_mk, zK_mk, zN_mk, zwI_up, zwL_up, zg_some, Nat.reduceMod, Nat.reduceDiv, zcn_I, iI_add, iI_sub, iI_mul, iI_neg, iI_lt, iI_le, iI_eq, iI_lt0, iI_le0, iI_gt0, iI_ge0, iI_eq0, k0, p0, k_0] <;> omega) (fun h' => ?_) (fun h' => ?_)
    · simp (disch := omega) only [zcn_I, iI_add, iI_sub, iI_mul, iI_neg, iI_lt, iI_le, iI_eq, iI_lt0, iI_le0, iI_gt0, iI_ge0, iI_eq0, upI_same, upL_same, upI_ne, upL_ne, iI_ixN, zI_mk, zL_mk, zP_mk, zK_mk, zN_mk, zwI_up, zwL_up, zg_some, Nat.reduceMod, Nat.reduceDiv, p0, v1] at h'
      exact zW.go [28] rfl (by omega) trivial (NX _ (tru_f (by omega)))
    · simp (disch := omega) only [zcn_I, iI_add, iI_sub, iI_mul, iI_neg, iI_lt, iI_le, iI_eq, iI_lt0, iI_le0, iI_gt0, iI_ge0, iI_eq0, upI_same, upL_same, upI_ne, upL_ne, iI_ixN, zI_mk, zL_mk, zP_mk, zK_mk, zN_mk, zwI_up, zwL_up, zg_some, Nat.reduceMod, Nat.reduceDiv, p0, v1] at h'
      exact zW.go [28] rfl (by omega) trivial (NX _ (tru_t (by omega)))
theorem mTypeP_ok {v : Int} {a : Int32} (hd : 6 ≤ d) (h : mf y T (I, L, R)) (e1 : a = iI v) (h1 : i32 v) (hQ : mP y (I, L, R) (oTypeP T v) eI Q) : zS 164 d [zr (some y), zi a] (I, L, R) Q := by
  subst e1
  have hM := h.2.1
  have k0 : R.2.1 y = some (7, 0) := hM.1
  obtain ⟨⟨a1, a2⟩, ⟨c1, c2⟩, ⟨b1, b2⟩, g⟩ := m_own h
  have h8 := h.1.1.1
  refine zW.go [4] rfl (by omega) trivial ?_
  refine mTypeP_lp (by omega) h h1 (fun x z hx => ?_) (tTy T).length 0 (by omega) _ _ (tru_f ex_0) (zcn_I _)
  have F : ∀ q, tru (¬ (0 ≤ v ∧ v ≤ 9)) q → zW 164 d 0 0 52 [some (zr (some y)), some (zi (iI v)), some (zi x), some (zi z)] [zi q, zr (some y)] (I, L, R) Q := fun q hq => by
    refine zW.gz [] rfl rfl rfl (by omega) trivial ⟨_, rfl, k0⟩ rfl rfl (by decide +kernel) (by decide +kernel) ?_
    refine mThr_ok (k := 1) (by omega) k0 hq (zcn_I _) (fun hb => ?_) (fun hg => ?_)
    · refine zW.gbt [] rfl rfl rfl (by omega) trivial (by simp (disch := omega) only [eq_self, not_true_eq_false, not_false_eq_true, upI_same, upL_same, upI_ne, upL_ne, iI_ixN, zI_mk, zL_mk, zP_mk, zK_mk, zN_mk, zwI_up, zwL_up, zg_some, Nat.reduceMod, Nat.reduceDiv, zcn_I, iI_add, iI_sub, iI_mul, iI_neg, iI_lt, iI_le, iI_eq, iI_lt0, iI_le0, iI_gt0, iI_ge0, iI_eq0] <;> omega) ?_
      refine zW.gr [] rfl rfl rfl (by omega) trivial trivial ?_; rw [zcn_I]
      refine mP_t hQ (c := 0) (v := 0) ?_ (mf_scr h th_scr) (mgr_o (scr_o th_scr)) (upI_same _ _ _ _) 0
      exact if_pos hb
    · refine zW.gbf [] rfl rfl rfl (by omega) trivial (by simp (disch := omega) only [eq_self, not_true_eq_false, not_false_eq_true, upI_same, upL_same, upI_ne, upL_ne, iI_ixN, zI_mk, zL_mk, zP_mk, zK_mk, zN_mk, zwI_up, zwL_up, zg_some, Nat.reduceMod, Nat.reduceDiv, zcn_I, iI_add, iI_sub, iI_mul, iI_neg, iI_lt, iI_le, iI_eq, iI_lt0, iI_le0, iI_gt0, iI_ge0, iI_eq0] <;> omega) ?_
      unfold oTypeP at hQ
      rw [if_neg hg] at hQ
      obtain ⟨j, rfl⟩ : ∃ j : Nat, v = j := ⟨v.toNat, by omega⟩
      rw [show ((j : Int)).toNat = j from rfl] at hQ
      refine zW.gz [] rfl rfl rfl (by omega) trivial ⟨_, rfl, k0⟩ rfl rfl (by decide +kernel) (by decide +kernel) ?_
      refine mThr_ok (k := 2) (by omega) k0 hx (zcn_I _) (fun hb => ?_) (fun hg2 => ?_)
      · refine zW.gbt [] rfl rfl rfl (by omega) trivial (by simp (disch := omega) only [eq_self, not_true_eq_false, not_false_eq_true, upI_same, upL_same, upI_ne, upL_ne, iI_ixN, zI_mk, zL_mk, zP_mk, zK_mk, zN_mk, zwI_up, zwL_up, zg_some, Nat.reduceMod, Nat.reduceDiv, zcn_I, iI_add, iI_sub, iI_mul, iI_neg, iI_lt, iI_le, iI_eq, iI_lt0, iI_le0, iI_gt0, iI_ge0, iI_eq0] <;> omega) ?_
        refine zW.gr [] rfl rfl rfl (by omega) trivial trivial ?_; rw [zcn_I]
        obtain ⟨i, i1, i2⟩ := hb
        exact mP_t hQ (c := 1) (v := 0) (if_pos (dc_t.mpr ⟨i, i1, by omega⟩)) (mf_scr h th2_scr) (mgr_o (scr_o th2_scr)) (upI_same _ _ _ _) 0
      · refine zW.gbf [] rfl rfl rfl (by omega) trivial (by simp (disch := omega) only [eq_self, not_true_eq_false, not_false_eq_true, upI_same, upL_same, upI_ne, upL_ne, iI_ixN, zI_mk, zL_mk, zP_mk, zK_mk, zN_mk, zwI_up, zwL_up, zg_some, Nat.reduceMod, Nat.reduceDiv, zcn_I, iI_add, iI_sub, iI_mul, iI_neg, iI_lt, iI_le, iI_eq, iI_lt0, iI_le0, iI_gt0, iI_ge0, iI_eq0] <;> omega) ?_
        rw [if_neg (fun q => by obtain ⟨i, q1, q2⟩ := dc_t.mp q; exact hg2 ⟨i, q1, by omega⟩)] at hQ
        have th3 : ∀ w, scr y I L (upI (upI (upI I y 41 (iI 0)) y 41 (iI 0)) y 41 w) L := fun w => scr_tr th2_scr th_scr
        have G : ∀ q, tru (¬ (tTy T).length < 8) q → zW 164 d 0 0 83 [some (zr (some y)), some (zi (iI (j : Int))), some (zi x), some (zi z)] [zi q, zr (some y)] (upI (upI I y 41 (iI 0)) y 41 (iI 0), L, R) Q := fun q hq => by
          refine zW.gz [] rfl rfl rfl (by omega) trivial ⟨_, rfl, k0⟩ rfl rfl (by decide +kernel) (by decide +kernel) ?_
          refine mThr_ok (k := 3) (by omega) k0 hq (zcn_I _) (fun hb => ?_) (fun hg3 => ?_)
          · refine zW.gbf [] rfl rfl rfl (by omega) trivial (by simp (disch := omega) only [eq_self, not_true_eq_false, not_false_eq_true, upI_same, upL_same, upI_ne, upL_ne, iI_ixN, zI_mk, zL_mk, zP_mk, zK_mk, zN_mk, zwI_up, zwL_up, zg_some, Nat.reduceMod, Nat.reduceDiv, zcn_I, iI_add, iI_sub, iI_mul, iI_neg, iI_lt, iI_le, iI_eq, iI_lt0, iI_le0, iI_gt0, iI_ge0, iI_eq0] <;> omega) ?_
            refine zW.gr [] rfl rfl rfl (by omega) trivial trivial ?_; rw [zcn_I]
            exact mP_t hQ (c := 2) (v := 0) (if_pos hb) (mf_scr h (th3 _)) (mgr_o (scr_o (th3 _))) (upI_same _ _ _ _) 0
          · refine zW.gbt [] rfl rfl rfl (by omega) trivial (by simp (disch := omega) only [eq_self, not_true_eq_false, not_false_eq_true, upI_same, upL_same, upI_ne, upL_ne, iI_ixN, zI_mk, zL_mk, zP_mk, zK_mk, zN_mk, zwI_up, zwL_up, zg_some, Nat.reduceMod, Nat.reduceDiv, zcn_I, iI_add, iI_sub, iI_mul, iI_neg, iI_lt, iI_le, iI_eq, iI_lt0, iI_le0, iI_gt0, iI_ge0, iI_eq0] <;> omega) ?_
            rw [if_neg hg3] at hQ
            have hm3 : mf y T (upI (upI (upI I y 41 (iI 0)) y 41 (iI 0)) y 41 (iI 0), L, R) := mf_scr h (th3 _)
            have p0 : R.1 y 0 = some (y + 1) := (hM.2.1 0 (by decide)).1; have k_0 : R.2.1 (y + 1) = some (20, 8) := (hM.2.1 0 (by decide)).2
            refine zW.gr [] rfl rfl rfl (by omega) ?_ trivial ?_
            · simp (disch := omega) only [true_or, or_true, eq_self, Option.some.injEq, Prod.mk.injEq, zall_0, zall_1, zall_2, zob_iff, zar_iff, zis_iff, zkIs_some, zkHas_some, iI_vp, z01_I, z01_bz, zch_I, true_and, and_true, or_false, false_or, and_self, upI_same, upL_same, upI_ne, upL_ne, iI_ixN, zI_mk, zL_mk, zP_mk, zK_mk, zN_mk, zwI_up, zwL_up, zg_some, Nat.reduceMod, Nat.reduceDiv, zcn_I, iI_add, iI_sub, iI_mul, iI_neg, iI_lt, iI_le, iI_eq, iI_lt0, iI_le0, iI_gt0, iI_ge0, iI_eq0, k0, p0, k_0, a1]
              omega
            simp (disch := omega) only [upI_same, upL_same, upI_ne, upL_ne, iI_ixN, zI_mk, zL_mk, zP_mk, zK_mk, zN_mk, zwI_up, zwL_up, zg_some, Nat.reduceMod, Nat.reduceDiv, p0, a1, iI_add, zcn_I]
            have hln : (tTy T ++ [j]).length = (tTy T).length + 1 := by rw [List.length_append]; rfl
            have hln' : ((tTy T ++ [j]).length : Int) = ((tTy T).length : Int) + 1 := by rw [hln]; rfl
            have hne : ∀ i, i < (tTy T).length → nth (tTy T) i ≠ j := fun i q1 q2 => hg2 ⟨i, q1, by omega⟩
            have o2 : ∀ i, i < (tTy T ++ [j]).length → nth (tTy T ++ [j]) i < 10 := fun i hi => by
              by_cases e : i < (tTy T).length
              · rw [nth_sn e]
                exact h.1.1.2.1 i e
              · obtain rfl : i = (tTy T).length := by omega
                rw [nth_sn']
                omega
            have o3 : ∀ i m, i < m → m < (tTy T ++ [j]).length → nth (tTy T ++ [j]) i ≠ nth (tTy T ++ [j]) m := fun i m hi hm => by
              by_cases e : m < (tTy T).length
              · rw [nth_sn e, nth_sn (by omega)]
                exact h.1.1.2.2 i m hi e
              · obtain rfl : m = (tTy T).length := by omega
                rw [nth_sn', nth_sn hi]
                exact hne i hi
            refine mP_0 (v := (((tTy T).length + 1 : Nat) : Int)) hQ rfl (mf_own (ty := tTy T ++ [j]) (u := T.2.1) hm3 ⟨⟨by show (tTy T ++ [j]).length ≤ 8; rw [hln]; omega, o2, o3⟩, h.1.2⟩ (fun a q1 q2 q3 q4 => ?_) (fun k q => ?_) ⟨?_, ?_⟩ ⟨?_, ?_⟩ ⟨?_, fun c hc => ?_⟩) (mgr_o (mfo_of fun a q => ?_)) ?_
            · rw [upI_row (fun e => q1 (by rw [e]; exact Or.inl rfl)), upI_row q2]
            · simp (disch := omega) only [upI_same, upL_same, upI_ne, upL_ne, iI_ixN, zI_mk, zL_mk, zP_mk, zK_mk, zN_mk, zwI_up, zwL_up, zg_some, Nat.reduceMod, Nat.reduceDiv, zcn_I, iI_add, iI_sub, iI_mul, iI_neg, iI_lt, iI_le, iI_eq, iI_lt0, iI_le0, iI_gt0, iI_ge0, iI_eq0]
            · simp (disch := omega) only [upI_same, upL_same, upI_ne, upL_ne, iI_ixN, zI_mk, zL_mk, zP_mk, zK_mk, zN_mk, zwI_up, zwL_up, zg_some, Nat.reduceMod, Nat.reduceDiv, zcn_I, iI_add, iI_sub, iI_mul, iI_neg, iI_lt, iI_le, iI_eq, iI_lt0, iI_le0, iI_gt0, iI_ge0, iI_eq0]
              first | exact hln'.symm | exact iI_cg hln'.symm
            · have hq : hl (upI (upI (upI (upI I y 41 (iI 0)) y 41 (iI 0)) y 41 (iI 0)) (y + 1) (tTy T).length (iI (j : Int)) (y + 1)) (tTy T ++ [j]) := hl_snoc (fun i hi => by simp (disch := omega) only [upI_same, upL_same, upI_ne, upL_ne, iI_ixN, zI_mk, zL_mk, zP_mk, zK_mk, zN_mk, zwI_up, zwL_up, zg_some, Nat.reduceMod, Nat.reduceDiv, zcn_I, iI_add, iI_sub, iI_mul, iI_neg, iI_lt, iI_le, iI_eq, iI_lt0, iI_le0, iI_gt0, iI_ge0, iI_eq0]; exact a2 i hi)
              exact fun i hi => (congrFun (upI_row (by omega)) i).trans (hq i hi)
            · simp (disch := omega) only [upI_same, upL_same, upI_ne, upL_ne, iI_ixN, zI_mk, zL_mk, zP_mk, zK_mk, zN_mk, zwI_up, zwL_up, zg_some, Nat.reduceMod, Nat.reduceDiv, zcn_I, iI_add, iI_sub, iI_mul, iI_neg, iI_lt, iI_le, iI_eq, iI_lt0, iI_le0, iI_gt0, iI_ge0, iI_eq0]
              exact c1
            · intro i hi
              simp (disch := omega) only [upI_same, upL_same, upI_ne, upL_ne, iI_ixN, zI_mk, zL_mk, zP_mk, zK_mk, zN_mk, zwI_up, zwL_up, zg_some, Nat.reduceMod, Nat.reduceDiv, zcn_I, iI_add, iI_sub, iI_mul, iI_neg, iI_lt, iI_le, iI_eq, iI_lt0, iI_le0, iI_gt0, iI_ge0, iI_eq0]
              exact c2 i hi
            · simp (disch := omega) only [upI_same, upL_same, upI_ne, upL_ne, iI_ixN, zI_mk, zL_mk, zP_mk, zK_mk, zN_mk, zwI_up, zwL_up, zg_some, Nat.reduceMod, Nat.reduceDiv, zcn_I, iI_add, iI_sub, iI_mul, iI_neg, iI_lt, iI_le, iI_eq, iI_lt0, iI_le0, iI_gt0, iI_ge0, iI_eq0]
              exact b1
            · simp (disch := omega) only [upI_same, upL_same, upI_ne, upL_ne, iI_ixN, zI_mk, zL_mk, zP_mk, zK_mk, zN_mk, zwI_up, zwL_up, zg_some, Nat.reduceMod, Nat.reduceDiv, zcn_I, iI_add, iI_sub, iI_mul, iI_neg, iI_lt, iI_le, iI_eq, iI_lt0, iI_le0, iI_gt0, iI_ge0, iI_eq0]
              exact b2 c hc
            · rw [upI_row (by omega), upI_row (by omega), upI_row (by omega), upI_row (by omega), upI_row (by omega)]
            · simp (disch := omega) only [upI_same, upL_same, upI_ne, upL_ne, iI_ixN, zI_mk, zL_mk, zP_mk, zK_mk, zN_mk, zwI_up, zwL_up, zg_some, Nat.reduceMod, Nat.reduceDiv, zcn_I, iI_add, iI_sub, iI_mul, iI_neg, iI_lt, iI_le, iI_eq, iI_lt0, iI_le0, iI_gt0, iI_ge0, iI_eq0]
        refine zW.gb [] rfl rfl rfl (by omega) (by simp (disch := omega) only [true_or, or_true, eq_self, Option.some.injEq, Prod.mk.injEq, zall_0, zall_1, zall_2, zob_iff, zar_iff, zis_iff, zkIs_some, zkHas_some, iI_vp, z01_I, z01_bz, zch_I, true_and, and_true, or_false, false_or, and_self, upI_same, upL_same, upI_ne, upL_ne, iI_ixN, zI_mk, zL_mk, zP_mk, zK_mk, zN_mk, zwI_up, zwL_up, zg_some, Nat.reduceMod, Nat.reduceDiv, zcn_I, iI_add, iI_sub, iI_mul, iI_neg, iI_lt, iI_le, iI_eq, iI_lt0, iI_le0, iI_gt0, iI_ge0, iI_eq0, k0] <;> omega) (fun h' => ?_) (fun h' => ?_)
        · simp (disch := omega) only [zcn_I, iI_add, iI_sub, iI_mul, iI_neg, iI_lt, iI_le, iI_eq, iI_lt0, iI_le0, iI_gt0, iI_ge0, iI_eq0, upI_same, upL_same, upI_ne, upL_ne, iI_ixN, zI_mk, zL_mk, zP_mk, zK_mk, zN_mk, zwI_up, zwL_up, zg_some, Nat.reduceMod, Nat.reduceDiv, a1] at h'
          exact zW.go [83] rfl (by omega) trivial (G _ (tru_f (by omega)))
        · simp (disch := omega) only [zcn_I, iI_add, iI_sub, iI_mul, iI_neg, iI_lt, iI_le, iI_eq, iI_lt0, iI_le0, iI_gt0, iI_ge0, iI_eq0, upI_same, upL_same, upI_ne, upL_ne, iI_ixN, zI_mk, zL_mk, zP_mk, zK_mk, zN_mk, zwI_up, zwL_up, zg_some, Nat.reduceMod, Nat.reduceDiv, a1] at h'
          exact zW.go [83] rfl (by omega) trivial (G _ (tru_t (by omega)))
  refine zW.gz [] rfl rfl rfl (by omega) trivial trivial rfl rfl (by decide +kernel) (by decide +kernel) ?_
  refine mIn_ok (lo := 0) (hi := 9) (by omega) rfl (zcn_I _) (zcn_I _) h1 ⟨by omega, by omega⟩ ⟨by omega, by omega⟩ (fun q hq => ?_)
  rcases hq with ⟨g2, rfl⟩ | ⟨g2, rfl⟩
  · refine zW.gbt [] rfl rfl rfl (by omega) trivial (by simp (disch := omega) only [eq_self, not_true_eq_false, not_false_eq_true, upI_same, upL_same, upI_ne, upL_ne, iI_ixN, zI_mk, zL_mk, zP_mk, zK_mk, zN_mk, zwI_up, zwL_up, zg_some, Nat.reduceMod, Nat.reduceDiv, zcn_I, iI_add, iI_sub, iI_mul, iI_neg, iI_lt, iI_le, iI_eq, iI_lt0, iI_le0, iI_gt0, iI_ge0, iI_eq0] <;> omega) ?_
    exact zW.go [52] rfl (by omega) trivial (F _ (tru_f (fun c => c g2)))
  · refine zW.gbf [] rfl rfl rfl (by omega) trivial (by simp (disch := omega) only [eq_self, not_true_eq_false, not_false_eq_true, upI_same, upL_same, upI_ne, upL_ne, iI_ixN, zI_mk, zL_mk, zP_mk, zK_mk, zN_mk, zwI_up, zwL_up, zg_some, Nat.reduceMod, Nat.reduceDiv, zcn_I, iI_add, iI_sub, iI_mul, iI_neg, iI_lt, iI_le, iI_eq, iI_lt0, iI_le0, iI_gt0, iI_ge0, iI_eq0] <;> omega) ?_
    exact zW.go [52] rfl (by omega) trivial (F _ (tru_t g2))
theorem isRg_ok {v : Int} {a : Int32} {M : zM} (hd : 1 ≤ d) (e : a = iI v) (h1 : 0 ≤ v) (h2 : v < 65536) (hQ : ∀ q, tru (65 ≤ v ∧ v ≤ 68) q → Q (.inl (some (zi q))) M) : zS 207 d [zi a] M Q := by
  subst e
  refine zW.gb [] rfl rfl rfl (by omega) trivial (fun h => ?_) (fun h => ?_)
  · simp (disch := omega) only [zcn_I, iI_add, iI_sub, iI_mul, iI_neg, iI_lt, iI_le, iI_eq, iI_lt0, iI_le0, iI_gt0, iI_ge0, iI_eq0] at h
    exact zW.gr [] rfl rfl rfl (by omega) trivial z01c0 (hQ _ (tru_f (by omega)))
  · simp (disch := omega) only [zcn_I, iI_add, iI_sub, iI_mul, iI_neg, iI_lt, iI_le, iI_eq, iI_lt0, iI_le0, iI_gt0, iI_ge0, iI_eq0] at h
    refine zW.gb [] rfl rfl rfl (by omega) trivial (fun h' => ?_) (fun h' => ?_)
    · simp (disch := omega) only [zcn_I, iI_add, iI_sub, iI_mul, iI_neg, iI_lt, iI_le, iI_eq, iI_lt0, iI_le0, iI_gt0, iI_ge0, iI_eq0] at h'
      exact zW.gr [] rfl rfl rfl (by omega) trivial z01c0 (hQ _ (tru_f (by omega)))
    · simp (disch := omega) only [zcn_I, iI_add, iI_sub, iI_mul, iI_neg, iI_lt, iI_le, iI_eq, iI_lt0, iI_le0, iI_gt0, iI_ge0, iI_eq0] at h'
      exact zW.gr [] rfl rfl rfl (by omega) trivial z01c1 (hQ _ (tru_t (by omega)))
theorem mType_ok {v : Int} {a : Int32} (hd : 6 ≤ d) (h : mf y T (I, L, R)) (e1 : a = iI v) (h1 : 0 ≤ v) (h2 : v < 65536) (hQ : mP y (I, L, R) (oType T v) eI Q) : zS 208 d [zr (some y), zi a] (I, L, R) Q := by
  subst e1
  have hM := h.2.1
  have k0 : R.2.1 y = some (7, 0) := hM.1
  obtain ⟨⟨a1, a2⟩, ⟨c1, c2⟩, ⟨b1, b2⟩, g⟩ := m_own h
  have h30 := h.1.2.2.1.1
  have F : ∀ q w, tru (¬ isg v) q → zW 208 d 0 0 71 [some (zr (some y)), some (zi (iI v)), some (zi w)] [zi q, zr (some y)] (I, L, R) Q := fun q w hq => by
    refine zW.gz [] rfl rfl rfl (by omega) trivial ⟨_, rfl, k0⟩ rfl rfl (by decide +kernel) (by decide +kernel) ?_
    refine mThr_ok (k := 1) (by omega) k0 hq (zcn_I _) (fun hb => ?_) (fun hg => ?_)
    · refine zW.gbt [] rfl rfl rfl (by omega) trivial (by simp (disch := omega) only [eq_self, not_true_eq_false, not_false_eq_true, upI_same, upL_same, upI_ne, upL_ne, iI_ixN, zI_mk, zL_mk, zP_mk, zK_mk, zN_mk, zwI_up, zwL_up, zg_some, Nat.reduceMod, Nat.reduceDiv, zcn_I, iI_add, iI_sub, iI_mul, iI_neg, iI_lt, iI_le, iI_eq, iI_lt0, iI_le0, iI_gt0, iI_ge0, iI_eq0] <;> omega) ?_
      refine zW.gr [] rfl rfl rfl (by omega) trivial trivial ?_; rw [zcn_I]
      refine mP_t hQ (c := 0) (v := 0) ?_ (mf_scr h th_scr) (mgr_o (scr_o th_scr)) (upI_same _ _ _ _) 0
      exact if_neg (fun q => hb (dc_t.mp q))
    · refine zW.gbf [] rfl rfl rfl (by omega) trivial (by simp (disch := omega) only [eq_self, not_true_eq_false, not_false_eq_true, upI_same, upL_same, upI_ne, upL_ne, iI_ixN, zI_mk, zL_mk, zP_mk, zK_mk, zN_mk, zwI_up, zwL_up, zg_some, Nat.reduceMod, Nat.reduceDiv, zcn_I, iI_add, iI_sub, iI_mul, iI_neg, iI_lt, iI_le, iI_eq, iI_lt0, iI_le0, iI_gt0, iI_ge0, iI_eq0] <;> omega) ?_
      unfold oType at hQ
      rw [if_pos (dc_t.mpr (Classical.byContradiction hg))] at hQ
      obtain ⟨j, rfl⟩ : ∃ j : Nat, v = j := ⟨v.toNat, by omega⟩
      rw [show ((j : Int)).toNat = j from rfl] at hQ
      have G : ∀ q, tru (¬ (tSg T).length < 30) q → zW 208 d 0 0 93 [some (zr (some y)), some (zi (iI (j : Int))), some (zi w)] [zi q, zr (some y)] (upI I y 41 (iI 0), L, R) Q := fun q hq => by
        refine zW.gz [] rfl rfl rfl (by omega) trivial ⟨_, rfl, k0⟩ rfl rfl (by decide +kernel) (by decide +kernel) ?_
        refine mThr_ok (k := 2) (by omega) k0 hq (zcn_I _) (fun hb => ?_) (fun hg2 => ?_)
        · refine zW.gbf [] rfl rfl rfl (by omega) trivial (by simp (disch := omega) only [eq_self, not_true_eq_false, not_false_eq_true, upI_same, upL_same, upI_ne, upL_ne, iI_ixN, zI_mk, zL_mk, zP_mk, zK_mk, zN_mk, zwI_up, zwL_up, zg_some, Nat.reduceMod, Nat.reduceDiv, zcn_I, iI_add, iI_sub, iI_mul, iI_neg, iI_lt, iI_le, iI_eq, iI_lt0, iI_le0, iI_gt0, iI_ge0, iI_eq0] <;> omega) ?_
          refine zW.gr [] rfl rfl rfl (by omega) trivial trivial ?_; rw [zcn_I]
          exact mP_t hQ (c := 1) (v := 0) (if_pos hb) (mf_scr h th2_scr) (mgr_o (scr_o th2_scr)) (upI_same _ _ _ _) 0
        · refine zW.gbt [] rfl rfl rfl (by omega) trivial (by simp (disch := omega) only [eq_self, not_true_eq_false, not_false_eq_true, upI_same, upL_same, upI_ne, upL_ne, iI_ixN, zI_mk, zL_mk, zP_mk, zK_mk, zN_mk, zwI_up, zwL_up, zg_some, Nat.reduceMod, Nat.reduceDiv, zcn_I, iI_add, iI_sub, iI_mul, iI_neg, iI_lt, iI_le, iI_eq, iI_lt0, iI_le0, iI_gt0, iI_ge0, iI_eq0] <;> omega) ?_
          rw [if_neg hg2] at hQ
          have hm3 : mf y T (upI (upI I y 41 (iI 0)) y 41 (iI 0), L, R) := mf_scr h th2_scr
          have p17 : R.1 y 17 = some (y + 1782) := (hM.2.1 17 (by decide)).1; have k17 : R.2.1 (y + 1782) = some (23, 30) := (hM.2.1 17 (by decide)).2
          refine zW.gr [] rfl rfl rfl (by omega) ?_ trivial ?_
          · simp (disch := omega) only [true_or, or_true, eq_self, Option.some.injEq, Prod.mk.injEq, zall_0, zall_1, zall_2, zob_iff, zar_iff, zis_iff, zkIs_some, zkHas_some, iI_vp, z01_I, z01_bz, zch_I, true_and, and_true, or_false, false_or, and_self, upI_same, upL_same, upI_ne, upL_ne, iI_ixN, zI_mk, zL_mk, zP_mk, zK_mk, zN_mk, zwI_up, zwL_up, zg_some, Nat.reduceMod, Nat.reduceDiv, zcn_I, iI_add, iI_sub, iI_mul, iI_neg, iI_lt, iI_le, iI_eq, iI_lt0, iI_le0, iI_gt0, iI_ge0, iI_eq0, k0, p17, k17, c1]
            omega
          simp (disch := omega) only [upI_same, upL_same, upI_ne, upL_ne, iI_ixN, zI_mk, zL_mk, zP_mk, zK_mk, zN_mk, zwI_up, zwL_up, zg_some, Nat.reduceMod, Nat.reduceDiv, p17, c1, iI_add, zcn_I]
          have hln : (tSg T ++ [j]).length = (tSg T).length + 1 := by rw [List.length_append]; rfl
          have hln' : ((tSg T ++ [j]).length : Int) = ((tSg T).length : Int) + 1 := by rw [hln]; rfl
          refine mP_0 (v := (((tSg T).length + 1 : Nat) : Int)) hQ rfl (mf_own (ty := tTy T) (u := (tSg T ++ [j], T.2.1.2)) hm3 ⟨h.1.1, h.1.2.1, ⟨by show (tSg T ++ [j]).length ≤ 30; omega, fun c hc => ?_⟩, h.1.2.2.2⟩ (fun a q1 q2 q3 q4 => ?_) (fun k q => ?_) ⟨?_, ?_⟩ ⟨?_, ?_⟩ ⟨?_, fun c hc => ?_⟩) (mgr_o (mfo_of fun a q => ?_)) ?_
          · rcases List.mem_append.mp hc with q | q
            · exact h.1.2.2.1.2 c q
            · rw [List.mem_singleton.mp q]
              omega
          · rw [upI_row (fun e => q1 (by rw [e]; exact Or.inl rfl)), upI_row q3]
          · simp (disch := omega) only [upI_same, upL_same, upI_ne, upL_ne, iI_ixN, zI_mk, zL_mk, zP_mk, zK_mk, zN_mk, zwI_up, zwL_up, zg_some, Nat.reduceMod, Nat.reduceDiv, zcn_I, iI_add, iI_sub, iI_mul, iI_neg, iI_lt, iI_le, iI_eq, iI_lt0, iI_le0, iI_gt0, iI_ge0, iI_eq0]
          · simp (disch := omega) only [upI_same, upL_same, upI_ne, upL_ne, iI_ixN, zI_mk, zL_mk, zP_mk, zK_mk, zN_mk, zwI_up, zwL_up, zg_some, Nat.reduceMod, Nat.reduceDiv, zcn_I, iI_add, iI_sub, iI_mul, iI_neg, iI_lt, iI_le, iI_eq, iI_lt0, iI_le0, iI_gt0, iI_ge0, iI_eq0]
            exact a1
          · intro i hi
            simp (disch := omega) only [upI_same, upL_same, upI_ne, upL_ne, iI_ixN, zI_mk, zL_mk, zP_mk, zK_mk, zN_mk, zwI_up, zwL_up, zg_some, Nat.reduceMod, Nat.reduceDiv, zcn_I, iI_add, iI_sub, iI_mul, iI_neg, iI_lt, iI_le, iI_eq, iI_lt0, iI_le0, iI_gt0, iI_ge0, iI_eq0]
            exact a2 i hi
          · simp (disch := omega) only [upI_same, upL_same, upI_ne, upL_ne, iI_ixN, zI_mk, zL_mk, zP_mk, zK_mk, zN_mk, zwI_up, zwL_up, zg_some, Nat.reduceMod, Nat.reduceDiv, zcn_I, iI_add, iI_sub, iI_mul, iI_neg, iI_lt, iI_le, iI_eq, iI_lt0, iI_le0, iI_gt0, iI_ge0, iI_eq0]
            first | exact hln'.symm | exact iI_cg hln'.symm
          · have hq : hl (upI (upI (upI I y 41 (iI 0)) y 41 (iI 0)) (y + 1782) (tSg T).length (iI (j : Int)) (y + 1782)) (tSg T ++ [j]) := hl_snoc (fun i hi => by simp (disch := omega) only [upI_same, upL_same, upI_ne, upL_ne, iI_ixN, zI_mk, zL_mk, zP_mk, zK_mk, zN_mk, zwI_up, zwL_up, zg_some, Nat.reduceMod, Nat.reduceDiv, zcn_I, iI_add, iI_sub, iI_mul, iI_neg, iI_lt, iI_le, iI_eq, iI_lt0, iI_le0, iI_gt0, iI_ge0, iI_eq0]; exact c2 i hi)
            exact fun i hi => (congrFun (upI_row (by omega)) i).trans (hq i hi)
          · simp (disch := omega) only [upI_same, upL_same, upI_ne, upL_ne, iI_ixN, zI_mk, zL_mk, zP_mk, zK_mk, zN_mk, zwI_up, zwL_up, zg_some, Nat.reduceMod, Nat.reduceDiv, zcn_I, iI_add, iI_sub, iI_mul, iI_neg, iI_lt, iI_le, iI_eq, iI_lt0, iI_le0, iI_gt0, iI_ge0, iI_eq0]
            exact b1
          · simp (disch := omega) only [upI_same, upL_same, upI_ne, upL_ne, iI_ixN, zI_mk, zL_mk, zP_mk, zK_mk, zN_mk, zwI_up, zwL_up, zg_some, Nat.reduceMod, Nat.reduceDiv, zcn_I, iI_add, iI_sub, iI_mul, iI_neg, iI_lt, iI_le, iI_eq, iI_lt0, iI_le0, iI_gt0, iI_ge0, iI_eq0]
            exact b2 c hc
          · rw [upI_row (by omega), upI_row (by omega), upI_row (by omega), upI_row (by omega)]
          · simp (disch := omega) only [upI_same, upL_same, upI_ne, upL_ne, iI_ixN, zI_mk, zL_mk, zP_mk, zK_mk, zN_mk, zwI_up, zwL_up, zg_some, Nat.reduceMod, Nat.reduceDiv, zcn_I, iI_add, iI_sub, iI_mul, iI_neg, iI_lt, iI_le, iI_eq, iI_lt0, iI_le0, iI_gt0, iI_ge0, iI_eq0]
      refine zW.gb [] rfl rfl rfl (by omega) (by simp (disch := omega) only [true_or, or_true, eq_self, Option.some.injEq, Prod.mk.injEq, zall_0, zall_1, zall_2, zob_iff, zar_iff, zis_iff, zkIs_some, zkHas_some, iI_vp, z01_I, z01_bz, zch_I, true_and, and_true, or_false, false_or, and_self, upI_same, upL_same, upI_ne, upL_ne, iI_ixN, zI_mk, zL_mk, zP_mk, zK_mk, zN_mk, zwI_up, zwL_up, zg_some, Nat.reduceMod, Nat.reduceDiv, zcn_I, iI_add, iI_sub, iI_mul, iI_neg, iI_lt, iI_le, iI_eq, iI_lt0, iI_le0, iI_gt0, iI_ge0, iI_eq0, k0] <;> omega) (fun h' => ?_) (fun h' => ?_)
      · simp (disch := omega) only [zcn_I, iI_add, iI_sub, iI_mul, iI_neg, iI_lt, iI_le, iI_eq, iI_lt0, iI_le0, iI_gt0, iI_ge0, iI_eq0, upI_same, upL_same, upI_ne, upL_ne, iI_ixN, zI_mk, zL_mk, zP_mk, zK_mk, zN_mk, zwI_up, zwL_up, zg_some, Nat.reduceMod, Nat.reduceDiv, c1] at h'
        exact zW.go [93] rfl (by omega) trivial (G _ (tru_f (by omega)))
      · simp (disch := omega) only [zcn_I, iI_add, iI_sub, iI_mul, iI_neg, iI_lt, iI_le, iI_eq, iI_lt0, iI_le0, iI_gt0, iI_ge0, iI_eq0, upI_same, upL_same, upI_ne, upL_ne, iI_ixN, zI_mk, zL_mk, zP_mk, zK_mk, zN_mk, zwI_up, zwL_up, zg_some, Nat.reduceMod, Nat.reduceDiv, c1] at h'
        exact zW.go [93] rfl (by omega) trivial (G _ (tru_t (by omega)))
  have B : ∀ w, tru (v = 60 ∨ v = 62 ∨ v = 91 ∨ v = 124 ∨ v = 93) w → zW 208 d 0 0 35 [some (zr (some y)), some (zi (iI v)), none] [zi w] (I, L, R) Q := fun w hw => by
    refine zW.gz [] rfl rfl rfl (by omega) trivial trivial rfl rfl (by decide +kernel) (by decide +kernel) ?_
    refine isRg_ok (by omega) rfl h1 h2 (fun q hq => ?_)
    rcases hq with ⟨g1, rfl⟩ | ⟨g1, rfl⟩
    · refine zW.gbt [] rfl rfl rfl (by omega) trivial (by simp (disch := omega) only [eq_self, not_true_eq_false, not_false_eq_true, upI_same, upL_same, upI_ne, upL_ne, iI_ixN, zI_mk, zL_mk, zP_mk, zK_mk, zN_mk, zwI_up, zwL_up, zg_some, Nat.reduceMod, Nat.reduceDiv, zcn_I, iI_add, iI_sub, iI_mul, iI_neg, iI_lt, iI_le, iI_eq, iI_lt0, iI_le0, iI_gt0, iI_ge0, iI_eq0] <;> omega) ?_
      exact zW.go [71] rfl (by omega) trivial (F _ _ (tru_f (fun n => n (by unfold isg; omega))))
    · refine zW.gbf [] rfl rfl rfl (by omega) trivial (by simp (disch := omega) only [eq_self, not_true_eq_false, not_false_eq_true, upI_same, upL_same, upI_ne, upL_ne, iI_ixN, zI_mk, zL_mk, zP_mk, zK_mk, zN_mk, zwI_up, zwL_up, zg_some, Nat.reduceMod, Nat.reduceDiv, zcn_I, iI_add, iI_sub, iI_mul, iI_neg, iI_lt, iI_le, iI_eq, iI_lt0, iI_le0, iI_gt0, iI_ge0, iI_eq0] <;> omega) ?_
      have C : ¬ (50 ≤ v ∧ v ≤ 57) → zW 208 d 0 0 56 [some (zr (some y)), some (zi (iI v)), some (zi w)] [zr (some y)] (I, L, R) Q := fun hn => by
        refine zW.gb [] rfl rfl rfl (by omega) trivial (fun h' => ?_) (fun h' => ?_)
        · simp (disch := omega) only [zcn_I, iI_add, iI_sub, iI_mul, iI_neg, iI_lt, iI_le, iI_eq, iI_lt0, iI_le0, iI_gt0, iI_ge0, iI_eq0] at h'
          exact zW.go [71] rfl (by omega) trivial (F _ _ (tru_f (fun n => n (by unfold isg; omega))))
        · simp (disch := omega) only [zcn_I, iI_add, iI_sub, iI_mul, iI_neg, iI_lt, iI_le, iI_eq, iI_lt0, iI_le0, iI_gt0, iI_ge0, iI_eq0] at h'
          rcases hw with ⟨g2, rfl⟩ | ⟨g2, rfl⟩
          · refine zW.gbt [] rfl rfl rfl (by omega) trivial (by simp (disch := omega) only [eq_self, not_true_eq_false, not_false_eq_true, upI_same, upL_same, upI_ne, upL_ne, iI_ixN, zI_mk, zL_mk, zP_mk, zK_mk, zN_mk, zwI_up, zwL_up, zg_some, Nat.reduceMod, Nat.reduceDiv, zcn_I, iI_add, iI_sub, iI_mul, iI_neg, iI_lt, iI_le, iI_eq, iI_lt0, iI_le0, iI_gt0, iI_ge0, iI_eq0] <;> omega) ?_
            exact zW.go [71] rfl (by omega) trivial (F _ _ (tru_f (fun n => n (by unfold isg; omega))))
          · refine zW.gbf [] rfl rfl rfl (by omega) trivial (by simp (disch := omega) only [eq_self, not_true_eq_false, not_false_eq_true, upI_same, upL_same, upI_ne, upL_ne, iI_ixN, zI_mk, zL_mk, zP_mk, zK_mk, zN_mk, zwI_up, zwL_up, zg_some, Nat.reduceMod, Nat.reduceDiv, zcn_I, iI_add, iI_sub, iI_mul, iI_neg, iI_lt, iI_le, iI_eq, iI_lt0, iI_le0, iI_gt0, iI_ge0, iI_eq0] <;> omega) ?_
            exact zW.go [71] rfl (by omega) trivial (F _ _ (tru_t (fun n => by unfold isg at n; omega)))
      refine zW.gb [] rfl rfl rfl (by omega) trivial (fun h' => ?_) (fun h' => ?_)
      · simp (disch := omega) only [zcn_I, iI_add, iI_sub, iI_mul, iI_neg, iI_lt, iI_le, iI_eq, iI_lt0, iI_le0, iI_gt0, iI_ge0, iI_eq0] at h'
        exact C (by omega)
      · simp (disch := omega) only [zcn_I, iI_add, iI_sub, iI_mul, iI_neg, iI_lt, iI_le, iI_eq, iI_lt0, iI_le0, iI_gt0, iI_ge0, iI_eq0] at h'
        refine zW.gb [] rfl rfl rfl (by omega) trivial (fun h3 => ?_) (fun h3 => ?_)
        · simp (disch := omega) only [zcn_I, iI_add, iI_sub, iI_mul, iI_neg, iI_lt, iI_le, iI_eq, iI_lt0, iI_le0, iI_gt0, iI_ge0, iI_eq0] at h3
          exact zW.go [71] rfl (by omega) trivial (F _ _ (tru_f (fun n => n (by unfold isg; omega))))
        · simp (disch := omega) only [zcn_I, iI_add, iI_sub, iI_mul, iI_neg, iI_lt, iI_le, iI_eq, iI_lt0, iI_le0, iI_gt0, iI_ge0, iI_eq0] at h3
          exact C (by omega)
  refine zW.gb [] rfl rfl rfl (by omega) trivial (fun h' => ?_) (fun h' => ?_) <;> simp (disch := omega) only [zcn_I, iI_add, iI_sub, iI_mul, iI_neg, iI_lt, iI_le, iI_eq, iI_lt0, iI_le0, iI_gt0, iI_ge0, iI_eq0] at h'
  · exact zW.go [35] rfl (by omega) trivial (B _ (tru_t (by omega)))
  refine zW.gb [] rfl rfl rfl (by omega) trivial (fun h3 => ?_) (fun h3 => ?_) <;> simp (disch := omega) only [zcn_I, iI_add, iI_sub, iI_mul, iI_neg, iI_lt, iI_le, iI_eq, iI_lt0, iI_le0, iI_gt0, iI_ge0, iI_eq0] at h3
  · exact zW.go [35] rfl (by omega) trivial (B _ (tru_t (by omega)))
  refine zW.gb [] rfl rfl rfl (by omega) trivial (fun h4 => ?_) (fun h4 => ?_) <;> simp (disch := omega) only [zcn_I, iI_add, iI_sub, iI_mul, iI_neg, iI_lt, iI_le, iI_eq, iI_lt0, iI_le0, iI_gt0, iI_ge0, iI_eq0] at h4
  · exact zW.go [35] rfl (by omega) trivial (B _ (tru_t (by omega)))
  refine zW.gb [] rfl rfl rfl (by omega) trivial (fun h5 => ?_) (fun h5 => ?_) <;> simp (disch := omega) only [zcn_I, iI_add, iI_sub, iI_mul, iI_neg, iI_lt, iI_le, iI_eq, iI_lt0, iI_le0, iI_gt0, iI_ge0, iI_eq0] at h5
  · exact zW.go [35] rfl (by omega) trivial (B _ (tru_t (by omega)))
  refine zW.gb [] rfl rfl rfl (by omega) trivial (fun h6 => ?_) (fun h6 => ?_) <;> simp (disch := omega) only [zcn_I, iI_add, iI_sub, iI_mul, iI_neg, iI_lt, iI_le, iI_eq, iI_lt0, iI_le0, iI_gt0, iI_ge0, iI_eq0] at h6
  · exact zW.go [35] rfl (by omega) trivial (B _ (tru_f (by omega)))
  · exact zW.go [35] rfl (by omega) trivial (B _ (tru_t (by omega)))
end MOWN2
