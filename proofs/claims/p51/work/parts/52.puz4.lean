/-! A puzzle of the class: the centre, solved states. -/
def zCen (r : Nat) (tn : Nat → Nat → Nat) (f : Nat → Nat) : Prop := ∀ i, i < r → (fun p => f (tn (2 * i) p)) = fun p => tn (2 * i) (f p)
section PUZ4
variable {d b n r : Nat} {tn : Nat → Nat → Nat} {col st : Nat → Nat} {I : Nat → Nat → Int32} {L : Nat → Nat → Int64} {R : zRt} {Q : zO → zM → Prop}
theorem central_lp {f : Nat → Nat} (hd : 3 ≤ d) (hL : ZL b R) (hz : zOK n r tn col st) (hR : zPR b I L n r tn col st) (hf : pm 10 f)
    (h1 : zCen r tn f → Q (.inl (some (zi (iI 1)))) (I, L, R)) (h0 : ¬ zCen r tn f → Q (.inl (some (zi (iI 0)))) (I, L, R)) :
    ∀ m i, i + m = r → ∀ (x : Int32) (v : Option zV), (∀ j, j < i → (fun p => f (tn (2 * j) p)) = fun p => tn (2 * j) (f p)) → x = iI (i : Int) → zW 39 d 0 0 2 [some (zr (some b)), some (zl (Rw f)), none, some (zi x), v, none] [] (I, L, R) Q
  | 0, i, hi, x, v, hj, e => by
    subst e
    obtain rfl : i = r := by omega
    have k0 := hL.1
    have r2 := hR.2.1
    have hr4 := hz.2.2.1
    refine zW.gbt [] rfl rfl rfl (by omega) ?_ ?_ (zW.gr [] rfl rfl rfl (by omega) trivial z01c1 ?_)
    · exact (by simp (disch := omega) only [true_or, or_true, eq_self, Option.some.injEq, Prod.mk.injEq, zall_0, zall_1, zall_2, zob_iff, zar_iff, zis_iff, zkIs_some, zkHas_some, iI_vp, z01_I, z01_bz, zch_I, true_and, and_true, or_false, false_or, and_self, upI_same, upL_same, upI_ne, upL_ne, iI_ixN, zI_mk, zL_mk, zP_mk, zK_mk, zN_mk, zwI_up, zwL_up, zg_some, Nat.reduceMod, Nat.reduceDiv, zcn_I, iI_add, iI_sub, iI_mul, iI_neg, iI_lt, iI_le, iI_eq, iI_lt0, iI_le0, iI_gt0, iI_ge0, iI_eq0, k0] <;> omega)
    · exact (by simp (disch := omega) only [eq_self, not_true_eq_false, not_false_eq_true, upI_same, upL_same, upI_ne, upL_ne, iI_ixN, zI_mk, zL_mk, zP_mk, zK_mk, zN_mk, zwI_up, zwL_up, zg_some, Nat.reduceMod, Nat.reduceDiv, zcn_I, iI_add, iI_sub, iI_mul, iI_neg, iI_lt, iI_le, iI_eq, iI_lt0, iI_le0, iI_gt0, iI_ge0, iI_eq0, r2] <;> omega)
    · rw [zcn_I]
      exact h1 hj
  | m + 1, i, hi, x, v, hj, e => by
    subst e
    obtain ⟨k0, p1, p2, p3, k1, hC, hG⟩ := hL
    have r2 := hR.2.1
    have hr4 := hz.2.2.1
    have ha := hR.2.2.2.2.1 (2 * i) (by omega)
    have hp := ztn_pm hz (show 2 * i < 2 * r by omega)
    have e2 : 2 * (i : Int) = ((2 * i : Nat) : Int) := by omega
    refine zW.gbf [] rfl rfl rfl (by omega) ?_ ?_ (zW.gbf [] rfl rfl rfl (by omega) trivial ?_ (zW.gz [] rfl rfl rfl (by omega) ?_ trivial rfl rfl (Nat.le_refl _) (Nat.le_refl _) ?_))
    · exact (by simp (disch := omega) only [true_or, or_true, eq_self, Option.some.injEq, Prod.mk.injEq, zall_0, zall_1, zall_2, zob_iff, zar_iff, zis_iff, zkIs_some, zkHas_some, iI_vp, z01_I, z01_bz, zch_I, true_and, and_true, or_false, false_or, and_self, upI_same, upL_same, upI_ne, upL_ne, iI_ixN, zI_mk, zL_mk, zP_mk, zK_mk, zN_mk, zwI_up, zwL_up, zg_some, Nat.reduceMod, Nat.reduceDiv, zcn_I, iI_add, iI_sub, iI_mul, iI_neg, iI_lt, iI_le, iI_eq, iI_lt0, iI_le0, iI_gt0, iI_ge0, iI_eq0, k0] <;> omega)
    · exact (by simp (disch := omega) only [eq_self, not_true_eq_false, not_false_eq_true, upI_same, upL_same, upI_ne, upL_ne, iI_ixN, zI_mk, zL_mk, zP_mk, zK_mk, zN_mk, zwI_up, zwL_up, zg_some, Nat.reduceMod, Nat.reduceDiv, zcn_I, iI_add, iI_sub, iI_mul, iI_neg, iI_lt, iI_le, iI_eq, iI_lt0, iI_le0, iI_gt0, iI_ge0, iI_eq0, r2] <;> omega)
    · exact (by simp (disch := omega) only [eq_self, not_true_eq_false, not_false_eq_true, upI_same, upL_same, upI_ne, upL_ne, iI_ixN, zI_mk, zL_mk, zP_mk, zK_mk, zN_mk, zwI_up, zwL_up, zg_some, Nat.reduceMod, Nat.reduceDiv, zcn_I, iI_add, iI_sub, iI_mul, iI_neg, iI_lt, iI_le, iI_eq, iI_lt0, iI_le0, iI_gt0, iI_ge0, iI_eq0] <;> omega)
    · simp (disch := omega) only [upI_same, upL_same, upI_ne, upL_ne, iI_ixN, zI_mk, zL_mk, zP_mk, zK_mk, zN_mk, zwI_up, zwL_up, zg_some, Nat.reduceMod, Nat.reduceDiv, zcn_I, iI_add, iI_sub, iI_mul, iI_neg, iI_lt, iI_le, iI_eq, iI_lt0, iI_le0, iI_gt0, iI_ge0, iI_eq0, p1, e2]
      exact (by simp (disch := omega) only [true_or, or_true, eq_self, Option.some.injEq, Prod.mk.injEq, zall_0, zall_1, zall_2, zob_iff, zar_iff, zis_iff, zkIs_some, zkHas_some, iI_vp, z01_I, z01_bz, zch_I, true_and, and_true, or_false, false_or, and_self, upI_same, upL_same, upI_ne, upL_ne, iI_ixN, zI_mk, zL_mk, zP_mk, zK_mk, zN_mk, zwI_up, zwL_up, zg_some, Nat.reduceMod, Nat.reduceDiv, zcn_I, iI_add, iI_sub, iI_mul, iI_neg, iI_lt, iI_le, iI_eq, iI_lt0, iI_le0, iI_gt0, iI_ge0, iI_eq0, k0, p1, k1] <;> omega)
    · simp (disch := omega) only [upI_same, upL_same, upI_ne, upL_ne, iI_ixN, zI_mk, zL_mk, zP_mk, zK_mk, zN_mk, zwI_up, zwL_up, zg_some, Nat.reduceMod, Nat.reduceDiv, zcn_I, iI_add, iI_sub, iI_mul, iI_neg, iI_lt, iI_le, iI_eq, iI_lt0, iI_le0, iI_gt0, iI_ge0, iI_eq0, p1, e2, ha]
      refine through_ok (f := f) (g := tn (2 * i)) (by omega) (pm_nb hf) hp.1 rfl rfl ?_
      refine zW.gz [] rfl rfl rfl (by omega) trivial trivial rfl rfl (Nat.le_refl _) (Nat.le_refl _) ?_
      refine through_ok (f := tn (2 * i)) (g := f) (by omega) (pm_nb hp) hf.1 rfl rfl ?_
      refine zW.gb [] rfl rfl rfl (by omega) trivial (fun h => ?_) (fun h => ?_)
      · rw [lg_cmp_eq, Rw_pm (pm_comp hf hp) (pm_comp hp hf)] at h
        refine zW.go [2] rfl (by omega) trivial ?_
        refine central_lp hd ⟨k0, p1, p2, p3, k1, hC, hG⟩ hz hR hf h1 h0 m (i + 1) (by omega) _ _ (fun j hj2 => ?_) ?_
        · by_cases c : j = i
          · rw [c]
            exact h
          · exact hj j (by omega)
        · exact (by simp (disch := omega) only [eq_self, not_true_eq_false, not_false_eq_true, upI_same, upL_same, upI_ne, upL_ne, iI_ixN, zI_mk, zL_mk, zP_mk, zK_mk, zN_mk, zwI_up, zwL_up, zg_some, Nat.reduceMod, Nat.reduceDiv, zcn_I, iI_add, iI_sub, iI_mul, iI_neg, iI_lt, iI_le, iI_eq, iI_lt0, iI_le0, iI_gt0, iI_ge0, iI_eq0] <;> omega)
      · rw [lg_cmp_eq, Rw_pm (pm_comp hf hp) (pm_comp hp hf)] at h
        refine zW.gr [] rfl rfl rfl (by omega) trivial z01c0 ?_
        rw [zcn_I]
        exact h0 fun q => h (q i (by omega))
theorem central_ok {f : Nat → Nat} {o : Int64} (hd : 3 ≤ d) (hL : ZL b R) (hz : zOK n r tn col st) (hR : zPR b I L n r tn col st) (hf : pm 10 f) (e : o = Rw f)
    (h1 : zCen r tn f → Q (.inl (some (zi (iI 1)))) (I, L, R)) (h0 : ¬ zCen r tn f → Q (.inl (some (zi (iI 0)))) (I, L, R)) : zS 39 d [zr (some b), zl o] (I, L, R) Q := by
  subst e
  refine zW.go [2] rfl (by omega) trivial ?_
  exact central_lp hd hL hz hR hf h1 h0 r 0 (by omega) _ _ (fun j h => absurd h (Nat.not_lt_zero j)) rfl
theorem centre_lp (hd : 4 ≤ d) (hL : ZL b R) (hz : zOK n r tn col st) (hR : zPR b I L n r tn col st) (hD : zDr b I L r tn)
    (hQ : Q (.inl (some (zi (iI (ct (fun i => dc (zCen r tn (stG (zG r tn) i))) (szG (zG r tn) 10) : Nat))))) (I, L, R)) :
    ∀ m i, i + m = szG (zG r tn) 10 → ∀ (x y : Int32), x = iI (ct (fun i => dc (zCen r tn (stG (zG r tn) i))) i : Nat) → y = iI (i : Int) → zW 38 d 0 0 9 [some (zr (some b)), some (zi x), some (zi y)] [] (I, L, R) Q
  | 0, i, hi, x, y, e1, e2 => by
    subst e1; subst e2
    obtain rfl : i = szG (zG r tn) 10 := by omega
    obtain ⟨k0, p1, p2, p3, k1, hC, hG⟩ := hL
    have gk := hG.1
    have h6 := hD.2.1.2.2.1
    have h800 := hD.2.1.1
    refine zW.gbt [] rfl rfl rfl (by omega) ?_ ?_ (zW.gr [] rfl rfl rfl (by omega) trivial trivial hQ)
    · exact (by simp (disch := omega) only [true_or, or_true, eq_self, Option.some.injEq, Prod.mk.injEq, zall_0, zall_1, zall_2, zob_iff, zar_iff, zis_iff, zkIs_some, zkHas_some, iI_vp, z01_I, z01_bz, zch_I, true_and, and_true, or_false, false_or, and_self, upI_same, upL_same, upI_ne, upL_ne, iI_ixN, zI_mk, zL_mk, zP_mk, zK_mk, zN_mk, zwI_up, zwL_up, zg_some, Nat.reduceMod, Nat.reduceDiv, zcn_I, iI_add, iI_sub, iI_mul, iI_neg, iI_lt, iI_le, iI_eq, iI_lt0, iI_le0, iI_gt0, iI_ge0, iI_eq0, k0, p3, gk] <;> omega)
    · exact (by simp (disch := omega) only [eq_self, not_true_eq_false, not_false_eq_true, upI_same, upL_same, upI_ne, upL_ne, iI_ixN, zI_mk, zL_mk, zP_mk, zK_mk, zN_mk, zwI_up, zwL_up, zg_some, Nat.reduceMod, Nat.reduceDiv, zcn_I, iI_add, iI_sub, iI_mul, iI_neg, iI_lt, iI_le, iI_eq, iI_lt0, iI_le0, iI_gt0, iI_ge0, iI_eq0, p3, h6] <;> omega)
  | m + 1, i, hi, x, y, e1, e2 => by
    subst e1; subst e2
    obtain ⟨k0, p1, p2, p3, k1, hC, hG⟩ := hL
    have gk := hG.1
    have gp := hG.2.1
    have gk1 : R.2.1 (b + 8) = some (21, 800) := hG.2.2.2.2.2.2.1
    have gp : R.1 (b + 7) 0 = some (b + 8) := gp
    have h6 := hD.2.1.2.2.1
    have h800 := hD.2.1.1
    have hs := hD.2.2 i (by omega)
    have hsp := (zG_is hz).1 _ (stG_sp (zG_is hz) (show i < szG (zG r tn) 10 by omega)).1
    refine zW.gbf [] rfl rfl rfl (by omega) ?_ ?_ (zW.gbf [] rfl rfl rfl (by omega) trivial ?_ (zW.gz [] rfl rfl rfl (by omega) ?_ ?_ rfl rfl (Nat.le_refl _) (Nat.le_refl _) ?_))
    · exact (by simp (disch := omega) only [true_or, or_true, eq_self, Option.some.injEq, Prod.mk.injEq, zall_0, zall_1, zall_2, zob_iff, zar_iff, zis_iff, zkIs_some, zkHas_some, iI_vp, z01_I, z01_bz, zch_I, true_and, and_true, or_false, false_or, and_self, upI_same, upL_same, upI_ne, upL_ne, iI_ixN, zI_mk, zL_mk, zP_mk, zK_mk, zN_mk, zwI_up, zwL_up, zg_some, Nat.reduceMod, Nat.reduceDiv, zcn_I, iI_add, iI_sub, iI_mul, iI_neg, iI_lt, iI_le, iI_eq, iI_lt0, iI_le0, iI_gt0, iI_ge0, iI_eq0, k0, p3, gk] <;> omega)
    · exact (by simp (disch := omega) only [eq_self, not_true_eq_false, not_false_eq_true, upI_same, upL_same, upI_ne, upL_ne, iI_ixN, zI_mk, zL_mk, zP_mk, zK_mk, zN_mk, zwI_up, zwL_up, zg_some, Nat.reduceMod, Nat.reduceDiv, zcn_I, iI_add, iI_sub, iI_mul, iI_neg, iI_lt, iI_le, iI_eq, iI_lt0, iI_le0, iI_gt0, iI_ge0, iI_eq0, p3, h6] <;> omega)
    · exact (by simp (disch := omega) only [eq_self, not_true_eq_false, not_false_eq_true, upI_same, upL_same, upI_ne, upL_ne, iI_ixN, zI_mk, zL_mk, zP_mk, zK_mk, zN_mk, zwI_up, zwL_up, zg_some, Nat.reduceMod, Nat.reduceDiv, zcn_I, iI_add, iI_sub, iI_mul, iI_neg, iI_lt, iI_le, iI_eq, iI_lt0, iI_le0, iI_gt0, iI_ge0, iI_eq0] <;> omega)
    · simp (disch := omega) only [upI_same, upL_same, upI_ne, upL_ne, iI_ixN, zI_mk, zL_mk, zP_mk, zK_mk, zN_mk, zwI_up, zwL_up, zg_some, Nat.reduceMod, Nat.reduceDiv, zcn_I, iI_add, iI_sub, iI_mul, iI_neg, iI_lt, iI_le, iI_eq, iI_lt0, iI_le0, iI_gt0, iI_ge0, iI_eq0, p3, gp]
      exact (by simp (disch := omega) only [true_or, or_true, eq_self, Option.some.injEq, Prod.mk.injEq, zall_0, zall_1, zall_2, zob_iff, zar_iff, zis_iff, zkIs_some, zkHas_some, iI_vp, z01_I, z01_bz, zch_I, true_and, and_true, or_false, false_or, and_self, upI_same, upL_same, upI_ne, upL_ne, iI_ixN, zI_mk, zL_mk, zP_mk, zK_mk, zN_mk, zwI_up, zwL_up, zg_some, Nat.reduceMod, Nat.reduceDiv, zcn_I, iI_add, iI_sub, iI_mul, iI_neg, iI_lt, iI_le, iI_eq, iI_lt0, iI_le0, iI_gt0, iI_ge0, iI_eq0, k0, p3, gk, gp, gk1] <;> omega)
    · exact ⟨_, rfl, k0⟩
    · simp (disch := omega) only [upI_same, upL_same, upI_ne, upL_ne, iI_ixN, zI_mk, zL_mk, zP_mk, zK_mk, zN_mk, zwI_up, zwL_up, zg_some, Nat.reduceMod, Nat.reduceDiv, zcn_I, iI_add, iI_sub, iI_mul, iI_neg, iI_lt, iI_le, iI_eq, iI_lt0, iI_le0, iI_gt0, iI_ge0, iI_eq0, p3, gp, hs]
      refine central_ok (by omega) ⟨k0, p1, p2, p3, k1, hC, hG⟩ hz hR hsp rfl (fun h => ?_) (fun h => ?_)
      · refine zW.gbf [] rfl rfl rfl (by omega) trivial ?_ (zW.go [9] rfl (by omega) trivial ?_)
        · exact (by simp (disch := omega) only [eq_self, not_true_eq_false, not_false_eq_true, upI_same, upL_same, upI_ne, upL_ne, iI_ixN, zI_mk, zL_mk, zP_mk, zK_mk, zN_mk, zwI_up, zwL_up, zg_some, Nat.reduceMod, Nat.reduceDiv, zcn_I, iI_add, iI_sub, iI_mul, iI_neg, iI_lt, iI_le, iI_eq, iI_lt0, iI_le0, iI_gt0, iI_ge0, iI_eq0] <;> omega)
        · refine centre_lp hd ⟨k0, p1, p2, p3, k1, hC, hG⟩ hz hR hD hQ m (i + 1) (by omega) _ _ ?_ ?_
          · rw [zcn_I, iI_add, ct, dc_t.mpr h]
            rfl
          · exact (by simp (disch := omega) only [eq_self, not_true_eq_false, not_false_eq_true, upI_same, upL_same, upI_ne, upL_ne, iI_ixN, zI_mk, zL_mk, zP_mk, zK_mk, zN_mk, zwI_up, zwL_up, zg_some, Nat.reduceMod, Nat.reduceDiv, zcn_I, iI_add, iI_sub, iI_mul, iI_neg, iI_lt, iI_le, iI_eq, iI_lt0, iI_le0, iI_gt0, iI_ge0, iI_eq0] <;> omega)
      · refine zW.gbt [] rfl rfl rfl (by omega) trivial ?_ (zW.go [9] rfl (by omega) trivial ?_)
        · exact (by simp (disch := omega) only [eq_self, not_true_eq_false, not_false_eq_true, upI_same, upL_same, upI_ne, upL_ne, iI_ixN, zI_mk, zL_mk, zP_mk, zK_mk, zN_mk, zwI_up, zwL_up, zg_some, Nat.reduceMod, Nat.reduceDiv, zcn_I, iI_add, iI_sub, iI_mul, iI_neg, iI_lt, iI_le, iI_eq, iI_lt0, iI_le0, iI_gt0, iI_ge0, iI_eq0] <;> omega)
        · refine centre_lp hd ⟨k0, p1, p2, p3, k1, hC, hG⟩ hz hR hD hQ m (i + 1) (by omega) _ _ ?_ ?_
          · rw [zcn_I, iI_add, ct, dc_f.mpr h]
            rfl
          · exact (by simp (disch := omega) only [eq_self, not_true_eq_false, not_false_eq_true, upI_same, upL_same, upI_ne, upL_ne, iI_ixN, zI_mk, zL_mk, zP_mk, zK_mk, zN_mk, zwI_up, zwL_up, zg_some, Nat.reduceMod, Nat.reduceDiv, zcn_I, iI_add, iI_sub, iI_mul, iI_neg, iI_lt, iI_le, iI_eq, iI_lt0, iI_le0, iI_gt0, iI_ge0, iI_eq0] <;> omega)
theorem centre_ok (hd : 7 ≤ d) (hL : ZL b R) (hz : zOK n r tn col st) (hR : zPR b I L n r tn col st) (h800 : szG (zG r tn) 10 ≤ 800)
    (hQ : ∀ I' L', zfr b I L I' L' → zPR b I' L' n r tn col st → Q (.inl (some (zi (iI (ct (fun i => dc (zCen r tn (stG (zG r tn) i))) (szG (zG r tn) 10) : Nat))))) (I', L', R)) : zS 38 d [zr (some b)] (I, L, R) Q := by
  have k0 := hL.1
  refine zW.gz [] rfl rfl rfl (by omega) trivial ?_ rfl rfl (Nat.le_refl _) (Nat.le_refl _) ?_
  · exact ⟨_, rfl, k0⟩
  · refine drawn_ok (by omega) hL hz hR h800 (fun I1 L1 f1 R1 D1 => ?_)
    refine zW.go [9] rfl (by omega) trivial ?_
    exact centre_lp (by omega) hL hz R1 D1 (hQ I1 L1 f1 R1) (szG (zG r tn) 10) 0 (by omega) _ _ rfl rfl
theorem kinds_lp (hd : 4 ≤ d) (hL : ZL b R) (hz : zOK n r tn col st) (hR : zPR b I L n r tn col st) (hD : zDr b I L r tn) (hpos : 1 ≤ ct (zSv r tn col) (szG (zG r tn) 10))
    (hQ : Q (.inl (some (zi (iI ((szG (zG r tn) 10 / ct (zSv r tn col) (szG (zG r tn) 10) : Nat) : Int))))) (I, L, R)) :
    ∀ m i, i + m = szG (zG r tn) 10 → ∀ (x y : Int32), x = iI (ct (zSv r tn col) i : Nat) → y = iI (i : Int) → zW 40 d 0 0 9 [some (zr (some b)), some (zi x), some (zi y)] [] (I, L, R) Q
  | 0, i, hi, x, y, e1, e2 => by
    subst e1; subst e2
    obtain ⟨k0, p1, p2, p3, k1, hC, hG⟩ := hL
    have gk := hG.1
    have h6 := hD.2.1.2.2.1
    have h800 := hD.2.1.1
    have hie : i = szG (zG r tn) 10 := by omega
    subst hie
    have hle : ct (zSv r tn col) (szG (zG r tn) 10) ≤ szG (zG r tn) 10 := ct_le _ _
    generalize hgen : ct (zSv r tn col) (szG (zG r tn) 10) = cc at hpos hQ hle ⊢
    refine zW.gbt [] rfl rfl rfl (by omega) ?_ ?_ (zW.gbf [] rfl rfl rfl (by omega) trivial ?_ (zW.gr [] rfl rfl rfl (by omega) ?_ trivial ?_))
    · exact (by simp (disch := omega) only [true_or, or_true, eq_self, Option.some.injEq, Prod.mk.injEq, zall_0, zall_1, zall_2, zob_iff, zar_iff, zis_iff, zkIs_some, zkHas_some, iI_vp, z01_I, z01_bz, zch_I, true_and, and_true, or_false, false_or, and_self, upI_same, upL_same, upI_ne, upL_ne, iI_ixN, zI_mk, zL_mk, zP_mk, zK_mk, zN_mk, zwI_up, zwL_up, zg_some, Nat.reduceMod, Nat.reduceDiv, zcn_I, iI_add, iI_sub, iI_mul, iI_neg, iI_lt, iI_le, iI_eq, iI_lt0, iI_le0, iI_gt0, iI_ge0, iI_eq0, k0, p3, gk] <;> omega)
    · exact (by simp (disch := omega) only [eq_self, not_true_eq_false, not_false_eq_true, upI_same, upL_same, upI_ne, upL_ne, iI_ixN, zI_mk, zL_mk, zP_mk, zK_mk, zN_mk, zwI_up, zwL_up, zg_some, Nat.reduceMod, Nat.reduceDiv, zcn_I, iI_add, iI_sub, iI_mul, iI_neg, iI_lt, iI_le, iI_eq, iI_lt0, iI_le0, iI_gt0, iI_ge0, iI_eq0, p3, h6] <;> omega)
    · exact (by simp (disch := omega) only [eq_self, not_true_eq_false, not_false_eq_true, upI_same, upL_same, upI_ne, upL_ne, iI_ixN, zI_mk, zL_mk, zP_mk, zK_mk, zN_mk, zwI_up, zwL_up, zg_some, Nat.reduceMod, Nat.reduceDiv, zcn_I, iI_add, iI_sub, iI_mul, iI_neg, iI_lt, iI_le, iI_eq, iI_lt0, iI_le0, iI_gt0, iI_ge0, iI_eq0] <;> omega)
    · refine ⟨?_, ?_, ?_⟩
      · rw [iI_eq0 (by omega) (by omega)]
        omega
      · exact (by simp (disch := omega) only [true_or, or_true, eq_self, Option.some.injEq, Prod.mk.injEq, zall_0, zall_1, zall_2, zob_iff, zar_iff, zis_iff, zkIs_some, zkHas_some, iI_vp, z01_I, z01_bz, zch_I, true_and, and_true, or_false, false_or, and_self, upI_same, upL_same, upI_ne, upL_ne, iI_ixN, zI_mk, zL_mk, zP_mk, zK_mk, zN_mk, zwI_up, zwL_up, zg_some, Nat.reduceMod, Nat.reduceDiv, zcn_I, iI_add, iI_sub, iI_mul, iI_neg, iI_lt, iI_le, iI_eq, iI_lt0, iI_le0, iI_gt0, iI_ge0, iI_eq0, k0, p3, gk] <;> omega)
      · exact (by simp (disch := omega) only [true_or, or_true, eq_self, Option.some.injEq, Prod.mk.injEq, zall_0, zall_1, zall_2, zob_iff, zar_iff, zis_iff, zkIs_some, zkHas_some, iI_vp, z01_I, z01_bz, zch_I, true_and, and_true, or_false, false_or, and_self, upI_same, upL_same, upI_ne, upL_ne, iI_ixN, zI_mk, zL_mk, zP_mk, zK_mk, zN_mk, zwI_up, zwL_up, zg_some, Nat.reduceMod, Nat.reduceDiv, zcn_I, iI_add, iI_sub, iI_mul, iI_neg, iI_lt, iI_le, iI_eq, iI_lt0, iI_le0, iI_gt0, iI_ge0, iI_eq0, k0, p3, gk] <;> omega)
    · simp (disch := omega) only [upI_same, upL_same, upI_ne, upL_ne, iI_ixN, zI_mk, zL_mk, zP_mk, zK_mk, zN_mk, zwI_up, zwL_up, zg_some, Nat.reduceMod, Nat.reduceDiv, p3, h6, iI_div]
      rw [← Int.natCast_ediv]
      exact hQ
  | m + 1, i, hi, x, y, e1, e2 => by
    subst e1; subst e2
    obtain ⟨k0, p1, p2, p3, k1, hC, hG⟩ := hL
    have gk := hG.1
    have gp := hG.2.1
    have gk1 : R.2.1 (b + 8) = some (21, 800) := hG.2.2.2.2.2.2.1
    have gp : R.1 (b + 7) 0 = some (b + 8) := gp
    have h6 := hD.2.1.2.2.1
    have h800 := hD.2.1.1
    have hs := hD.2.2 i (by omega)
    have hsp := (zG_is hz).1 _ (stG_sp (zG_is hz) (show i < szG (zG r tn) 10 by omega)).1
    refine zW.gbf [] rfl rfl rfl (by omega) ?_ ?_ (zW.gbf [] rfl rfl rfl (by omega) trivial ?_ (zW.gz [] rfl rfl rfl (by omega) ?_ ?_ rfl rfl (Nat.le_refl _) (Nat.le_refl _) ?_))
    · exact (by simp (disch := omega) only [true_or, or_true, eq_self, Option.some.injEq, Prod.mk.injEq, zall_0, zall_1, zall_2, zob_iff, zar_iff, zis_iff, zkIs_some, zkHas_some, iI_vp, z01_I, z01_bz, zch_I, true_and, and_true, or_false, false_or, and_self, upI_same, upL_same, upI_ne, upL_ne, iI_ixN, zI_mk, zL_mk, zP_mk, zK_mk, zN_mk, zwI_up, zwL_up, zg_some, Nat.reduceMod, Nat.reduceDiv, zcn_I, iI_add, iI_sub, iI_mul, iI_neg, iI_lt, iI_le, iI_eq, iI_lt0, iI_le0, iI_gt0, iI_ge0, iI_eq0, k0, p3, gk] <;> omega)
    · exact (by simp (disch := omega) only [eq_self, not_true_eq_false, not_false_eq_true, upI_same, upL_same, upI_ne, upL_ne, iI_ixN, zI_mk, zL_mk, zP_mk, zK_mk, zN_mk, zwI_up, zwL_up, zg_some, Nat.reduceMod, Nat.reduceDiv, zcn_I, iI_add, iI_sub, iI_mul, iI_neg, iI_lt, iI_le, iI_eq, iI_lt0, iI_le0, iI_gt0, iI_ge0, iI_eq0, p3, h6] <;> omega)
    · exact (by simp (disch := omega) only [eq_self, not_true_eq_false, not_false_eq_true, upI_same, upL_same, upI_ne, upL_ne, iI_ixN, zI_mk, zL_mk, zP_mk, zK_mk, zN_mk, zwI_up, zwL_up, zg_some, Nat.reduceMod, Nat.reduceDiv, zcn_I, iI_add, iI_sub, iI_mul, iI_neg, iI_lt, iI_le, iI_eq, iI_lt0, iI_le0, iI_gt0, iI_ge0, iI_eq0] <;> omega)
    · simp (disch := omega) only [upI_same, upL_same, upI_ne, upL_ne, iI_ixN, zI_mk, zL_mk, zP_mk, zK_mk, zN_mk, zwI_up, zwL_up, zg_some, Nat.reduceMod, Nat.reduceDiv, zcn_I, iI_add, iI_sub, iI_mul, iI_neg, iI_lt, iI_le, iI_eq, iI_lt0, iI_le0, iI_gt0, iI_ge0, iI_eq0, p3, gp]
      exact (by simp (disch := omega) only [true_or, or_true, eq_self, Option.some.injEq, Prod.mk.injEq, zall_0, zall_1, zall_2, zob_iff, zar_iff, zis_iff, zkIs_some, zkHas_some, iI_vp, z01_I, z01_bz, zch_I, true_and, and_true, or_false, false_or, and_self, upI_same, upL_same, upI_ne, upL_ne, iI_ixN, zI_mk, zL_mk, zP_mk, zK_mk, zN_mk, zwI_up, zwL_up, zg_some, Nat.reduceMod, Nat.reduceDiv, zcn_I, iI_add, iI_sub, iI_mul, iI_neg, iI_lt, iI_le, iI_eq, iI_lt0, iI_le0, iI_gt0, iI_ge0, iI_eq0, k0, p3, gk, gp, gk1] <;> omega)
    · exact ⟨_, rfl, k0⟩
    · simp (disch := omega) only [upI_same, upL_same, upI_ne, upL_ne, iI_ixN, zI_mk, zL_mk, zP_mk, zK_mk, zN_mk, zwI_up, zwL_up, zg_some, Nat.reduceMod, Nat.reduceDiv, zcn_I, iI_add, iI_sub, iI_mul, iI_neg, iI_lt, iI_le, iI_eq, iI_lt0, iI_le0, iI_gt0, iI_ge0, iI_eq0, p3, gp, hs]
      refine shows_ok (by omega) ⟨k0, p1, p2, p3, k1, hC, hG⟩ hz hR hsp rfl (fun h => ?_) (fun h => ?_)
      · refine zW.gbf [] rfl rfl rfl (by omega) trivial ?_ (zW.go [9] rfl (by omega) trivial ?_)
        · exact (by simp (disch := omega) only [eq_self, not_true_eq_false, not_false_eq_true, upI_same, upL_same, upI_ne, upL_ne, iI_ixN, zI_mk, zL_mk, zP_mk, zK_mk, zN_mk, zwI_up, zwL_up, zg_some, Nat.reduceMod, Nat.reduceDiv, zcn_I, iI_add, iI_sub, iI_mul, iI_neg, iI_lt, iI_le, iI_eq, iI_lt0, iI_le0, iI_gt0, iI_ge0, iI_eq0] <;> omega)
        · refine kinds_lp hd ⟨k0, p1, p2, p3, k1, hC, hG⟩ hz hR hD hpos hQ m (i + 1) (by omega) _ _ ?_ ?_
          · rw [zcn_I, iI_add, ct, show zSv r tn col i = true from dc_t.mpr h]
            rfl
          · exact (by simp (disch := omega) only [eq_self, not_true_eq_false, not_false_eq_true, upI_same, upL_same, upI_ne, upL_ne, iI_ixN, zI_mk, zL_mk, zP_mk, zK_mk, zN_mk, zwI_up, zwL_up, zg_some, Nat.reduceMod, Nat.reduceDiv, zcn_I, iI_add, iI_sub, iI_mul, iI_neg, iI_lt, iI_le, iI_eq, iI_lt0, iI_le0, iI_gt0, iI_ge0, iI_eq0] <;> omega)
      · refine zW.gbt [] rfl rfl rfl (by omega) trivial ?_ (zW.go [9] rfl (by omega) trivial ?_)
        · exact (by simp (disch := omega) only [eq_self, not_true_eq_false, not_false_eq_true, upI_same, upL_same, upI_ne, upL_ne, iI_ixN, zI_mk, zL_mk, zP_mk, zK_mk, zN_mk, zwI_up, zwL_up, zg_some, Nat.reduceMod, Nat.reduceDiv, zcn_I, iI_add, iI_sub, iI_mul, iI_neg, iI_lt, iI_le, iI_eq, iI_lt0, iI_le0, iI_gt0, iI_ge0, iI_eq0] <;> omega)
        · refine kinds_lp hd ⟨k0, p1, p2, p3, k1, hC, hG⟩ hz hR hD hpos hQ m (i + 1) (by omega) _ _ ?_ ?_
          · rw [zcn_I, iI_add, ct, show zSv r tn col i = false from dc_f.mpr h]
            rfl
          · exact (by simp (disch := omega) only [eq_self, not_true_eq_false, not_false_eq_true, upI_same, upL_same, upI_ne, upL_ne, iI_ixN, zI_mk, zL_mk, zP_mk, zK_mk, zN_mk, zwI_up, zwL_up, zg_some, Nat.reduceMod, Nat.reduceDiv, zcn_I, iI_add, iI_sub, iI_mul, iI_neg, iI_lt, iI_le, iI_eq, iI_lt0, iI_le0, iI_gt0, iI_ge0, iI_eq0] <;> omega)
theorem sv_pos (hz : zOK n r tn col st) : 1 ≤ ct (zSv r tn col) (szG (zG r tn) 10) := by
  have hG := zG_is hz
  refine ct_pos (i := numG (zG r tn) (fun p => p) 10) (numG_lt hG hG.2.1 10 (Nat.le_refl _)) (dc_t.mpr fun p _ => ?_)
  rw [stG_num hG hG.2.1]
theorem kinds_ok (hd : 7 ≤ d) (hL : ZL b R) (hz : zOK n r tn col st) (hR : zPR b I L n r tn col st) (h800 : szG (zG r tn) 10 ≤ 800)
    (hQ : ∀ I' L', zfr b I L I' L' → zPR b I' L' n r tn col st → Q (.inl (some (zi (iI ((szG (zG r tn) 10 / ct (zSv r tn col) (szG (zG r tn) 10) : Nat) : Int))))) (I', L', R)) : zS 40 d [zr (some b)] (I, L, R) Q := by
  have k0 := hL.1
  refine zW.gz [] rfl rfl rfl (by omega) trivial ?_ rfl rfl (Nat.le_refl _) (Nat.le_refl _) ?_
  · exact ⟨_, rfl, k0⟩
  · refine drawn_ok (by omega) hL hz hR h800 (fun I1 L1 f1 R1 D1 => ?_)
    refine zW.go [9] rfl (by omega) trivial ?_
    exact kinds_lp (by omega) hL hz R1 D1 (sv_pos hz) (hQ I1 L1 f1 R1) (szG (zG r tn) 10) 0 (by omega) _ _ rfl rfl
end PUZ4
