/-! A round of the class: counting, its making. -/
section ROUND7
variable {d b : Nat} {w : zRd} {I : Nat → Nat → Int32} {L : Nat → Nat → Int64} {R : zRt} {Q : zO → zM → Prop}
theorem better_lp {c : Nat} (hd : 5 ≤ d) (hL : RLy b R) (hk : rOK w) (hR : rPR b I w) (hc : c < 12) (hQ : Q (.inl (some (zi (iI (nBet w c : Int))))) (I, L, R)) :
    ∀ n k, k + n = 12 → ∀ (x y : Int32), x = iI (ct (fun i => decide (0 < rMa w i ∧ rkey w i < rkey w c)) k : Nat) → y = iI (k : Int) → zW 61 d 0 0 4 [some (zr (some b)), some (zi (iI (c : Int))), some (zi x), some (zi y)] [] (I, L, R) Q
  | 0, k, hkn, x, y, e1, e2 => by
    subst e1; subst e2
    obtain rfl : k = 12 := by omega
    refine zW.gbt [] rfl rfl rfl (by omega) trivial ?_ (zW.gr [] rfl rfl rfl (by omega) trivial trivial hQ)
    exact (by simp (disch := omega) only [eq_self, not_true_eq_false, not_false_eq_true, upI_same, upL_same, upI_ne, upL_ne, iI_ixN, zI_mk, zL_mk, zP_mk, zK_mk, zN_mk, zwI_up, zwL_up, zg_some, Nat.reduceMod, Nat.reduceDiv, zcn_I, iI_add, iI_sub, iI_mul, iI_neg, iI_lt, iI_le, iI_eq, iI_lt0, iI_le0, iI_gt0, iI_ge0, iI_eq0] <;> omega)
  | n + 1, k, hkn, x, y, e1, e2 => by
    subst e1; subst e2
    have hL' := hL
    obtain ⟨k0, p3, p4, p5, p6, p7, p8, k1, k14, k15, k16, k17, k18, krow⟩ := hL'
    obtain ⟨m1, -⟩ := hR.2.2.2.2.2.2 k (by omega)
    have hm := (hk.2.2.2.2 k (by omega)).1
    have hm5 := mxA_le (rFm w)
    have nx : ∀ (o : Int32), o = iI (ct (fun i => decide (0 < rMa w i ∧ rkey w i < rkey w c)) (k + 1) : Nat) → zW 61 d 0 0 4 [some (zr (some b)), some (zi (iI (c : Int))), some (zi o), some (zi (iI (k : Int) + zcn 1))] [] (I, L, R) Q := by
      intro o eo
      refine better_lp hd hL hk hR hc hQ n (k + 1) (by omega) _ _ eo ?_
      exact (by simp (disch := omega) only [eq_self, not_true_eq_false, not_false_eq_true, upI_same, upL_same, upI_ne, upL_ne, iI_ixN, zI_mk, zL_mk, zP_mk, zK_mk, zN_mk, zwI_up, zwL_up, zg_some, Nat.reduceMod, Nat.reduceDiv, zcn_I, iI_add, iI_sub, iI_mul, iI_neg, iI_lt, iI_le, iI_eq, iI_lt0, iI_le0, iI_gt0, iI_ge0, iI_eq0] <;> omega)
    have no : ¬ (0 < rMa w k ∧ rkey w k < rkey w c) → zW 61 d 0 0 33 [some (zr (some b)), some (zi (iI (c : Int))), some (zi (iI (ct (fun i => decide (0 < rMa w i ∧ rkey w i < rkey w c)) k : Nat))), some (zi (iI (k : Int)))] [zi (iI (ct (fun i => decide (0 < rMa w i ∧ rkey w i < rkey w c)) k : Nat))] (I, L, R) Q := by
      intro q
      refine zW.go [4] rfl (by omega) trivial (nx _ ?_)
      rw [zcn_I, iI_add, ct, decide_eq_false q]
      rfl
    refine zW.gbf [] rfl rfl rfl (by omega) trivial ?_ (zW.gb [] rfl rfl rfl (by omega) ?_ (fun h => ?_) (fun h => ?_))
    · exact (by simp (disch := omega) only [eq_self, not_true_eq_false, not_false_eq_true, upI_same, upL_same, upI_ne, upL_ne, iI_ixN, zI_mk, zL_mk, zP_mk, zK_mk, zN_mk, zwI_up, zwL_up, zg_some, Nat.reduceMod, Nat.reduceDiv, zcn_I, iI_add, iI_sub, iI_mul, iI_neg, iI_lt, iI_le, iI_eq, iI_lt0, iI_le0, iI_gt0, iI_ge0, iI_eq0] <;> omega)
    · simp (disch := omega) only [upI_same, upL_same, upI_ne, upL_ne, iI_ixN, zI_mk, zL_mk, zP_mk, zK_mk, zN_mk, zwI_up, zwL_up, zg_some, Nat.reduceMod, Nat.reduceDiv, zcn_I, iI_add, iI_sub, iI_mul, iI_neg, iI_lt, iI_le, iI_eq, iI_lt0, iI_le0, iI_gt0, iI_ge0, iI_eq0, p4]
      exact (by simp (disch := omega) only [true_or, or_true, eq_self, Option.some.injEq, Prod.mk.injEq, zall_0, zall_1, zall_2, zob_iff, zar_iff, zis_iff, zkIs_some, zkHas_some, iI_vp, z01_I, z01_bz, zch_I, true_and, and_true, or_false, false_or, and_self, upI_same, upL_same, upI_ne, upL_ne, iI_ixN, zI_mk, zL_mk, zP_mk, zK_mk, zN_mk, zwI_up, zwL_up, zg_some, Nat.reduceMod, Nat.reduceDiv, zcn_I, iI_add, iI_sub, iI_mul, iI_neg, iI_lt, iI_le, iI_eq, iI_lt0, iI_le0, iI_gt0, iI_ge0, iI_eq0, k0, p4, k14] <;> omega)
    · simp (disch := omega) only [upI_same, upL_same, upI_ne, upL_ne, iI_ixN, zI_mk, zL_mk, zP_mk, zK_mk, zN_mk, zwI_up, zwL_up, zg_some, Nat.reduceMod, Nat.reduceDiv, zcn_I, iI_add, iI_sub, iI_mul, iI_neg, iI_lt, iI_le, iI_eq, iI_lt0, iI_le0, iI_gt0, iI_ge0, iI_eq0, p4, m1] at h
      exact no fun q => by have := q.1; omega
    · simp (disch := omega) only [upI_same, upL_same, upI_ne, upL_ne, iI_ixN, zI_mk, zL_mk, zP_mk, zK_mk, zN_mk, zwI_up, zwL_up, zg_some, Nat.reduceMod, Nat.reduceDiv, zcn_I, iI_add, iI_sub, iI_mul, iI_neg, iI_lt, iI_le, iI_eq, iI_lt0, iI_le0, iI_gt0, iI_ge0, iI_eq0, p4, m1] at h
      refine zW.gz [] rfl rfl rfl (by omega) trivial ⟨_, rfl, k0⟩ rfl rfl (Nat.le_refl _) (Nat.le_refl _) ?_
      refine cmpR_ok (by omega) hL hk hR rfl rfl (by omega) hc ?_
      have hkey := cmpR_key hk (show k < 12 by omega) hc
      refine zW.gb [] rfl rfl rfl (by omega) trivial (fun g => ?_) (fun g => ?_)
      · simp (disch := omega) only [zcn_I, iI_add, iI_sub, iI_mul, iI_neg, iI_lt, iI_le, iI_eq, iI_lt0, iI_le0, iI_gt0, iI_ge0, iI_eq0] at g
        exact no fun q => by have := hkey.1.mpr q.2; omega
      · simp (disch := omega) only [zcn_I, iI_add, iI_sub, iI_mul, iI_neg, iI_lt, iI_le, iI_eq, iI_lt0, iI_le0, iI_gt0, iI_ge0, iI_eq0] at g
        refine zW.go [4] rfl (by omega) trivial (nx _ ?_)
        rw [zcn_I, iI_add, ct, decide_eq_true ⟨by omega, hkey.1.mp (by omega)⟩]
        rfl
theorem better_ok {c : Nat} {x : Int32} (hd : 5 ≤ d) (hL : RLy b R) (hk : rOK w) (hR : rPR b I w) (e : x = iI (c : Int)) (hc : c < 12) (hQ : Q (.inl (some (zi (iI (nBet w c : Int))))) (I, L, R)) : zS 61 d [zr (some b), zi x] (I, L, R) Q := by
  subst e
  refine zW.go [4] rfl (by omega) trivial ?_
  exact better_lp hd hL hk hR hc hQ 12 0 rfl _ _ rfl rfl
theorem alike_lp {c : Nat} (hd : 5 ≤ d) (hL : RLy b R) (hk : rOK w) (hR : rPR b I w) (hc : c < 12) (hQ : Q (.inl (some (zi (iI (nAlk w c : Int))))) (I, L, R)) :
    ∀ n k, k + n = 12 → ∀ (x y : Int32), x = iI (ct (fun i => decide (0 < rMa w i ∧ rkey w i = rkey w c)) k : Nat) → y = iI (k : Int) → zW 62 d 0 0 4 [some (zr (some b)), some (zi (iI (c : Int))), some (zi x), some (zi y)] [] (I, L, R) Q
  | 0, k, hkn, x, y, e1, e2 => by
    subst e1; subst e2
    obtain rfl : k = 12 := by omega
    refine zW.gbt [] rfl rfl rfl (by omega) trivial ?_ (zW.gr [] rfl rfl rfl (by omega) trivial trivial hQ)
    exact (by simp (disch := omega) only [eq_self, not_true_eq_false, not_false_eq_true, upI_same, upL_same, upI_ne, upL_ne, iI_ixN, zI_mk, zL_mk, zP_mk, zK_mk, zN_mk, zwI_up, zwL_up, zg_some, Nat.reduceMod, Nat.reduceDiv, zcn_I, iI_add, iI_sub, iI_mul, iI_neg, iI_lt, iI_le, iI_eq, iI_lt0, iI_le0, iI_gt0, iI_ge0, iI_eq0] <;> omega)
  | n + 1, k, hkn, x, y, e1, e2 => by
    subst e1; subst e2
    have hL' := hL
    obtain ⟨k0, p3, p4, p5, p6, p7, p8, k1, k14, k15, k16, k17, k18, krow⟩ := hL'
    obtain ⟨m1, -⟩ := hR.2.2.2.2.2.2 k (by omega)
    have hm := (hk.2.2.2.2 k (by omega)).1
    have hm5 := mxA_le (rFm w)
    have nx : ∀ (o : Int32), o = iI (ct (fun i => decide (0 < rMa w i ∧ rkey w i = rkey w c)) (k + 1) : Nat) → zW 62 d 0 0 4 [some (zr (some b)), some (zi (iI (c : Int))), some (zi o), some (zi (iI (k : Int) + zcn 1))] [] (I, L, R) Q := by
      intro o eo
      refine alike_lp hd hL hk hR hc hQ n (k + 1) (by omega) _ _ eo ?_
      exact (by simp (disch := omega) only [eq_self, not_true_eq_false, not_false_eq_true, upI_same, upL_same, upI_ne, upL_ne, iI_ixN, zI_mk, zL_mk, zP_mk, zK_mk, zN_mk, zwI_up, zwL_up, zg_some, Nat.reduceMod, Nat.reduceDiv, zcn_I, iI_add, iI_sub, iI_mul, iI_neg, iI_lt, iI_le, iI_eq, iI_lt0, iI_le0, iI_gt0, iI_ge0, iI_eq0] <;> omega)
    have no : ¬ (0 < rMa w k ∧ rkey w k = rkey w c) → zW 62 d 0 0 33 [some (zr (some b)), some (zi (iI (c : Int))), some (zi (iI (ct (fun i => decide (0 < rMa w i ∧ rkey w i = rkey w c)) k : Nat))), some (zi (iI (k : Int)))] [zi (iI (ct (fun i => decide (0 < rMa w i ∧ rkey w i = rkey w c)) k : Nat))] (I, L, R) Q := by
      intro q
      refine zW.go [4] rfl (by omega) trivial (nx _ ?_)
      rw [zcn_I, iI_add, ct, decide_eq_false q]
      rfl
    refine zW.gbf [] rfl rfl rfl (by omega) trivial ?_ (zW.gb [] rfl rfl rfl (by omega) ?_ (fun h => ?_) (fun h => ?_))
    · exact (by simp (disch := omega) only [eq_self, not_true_eq_false, not_false_eq_true, upI_same, upL_same, upI_ne, upL_ne, iI_ixN, zI_mk, zL_mk, zP_mk, zK_mk, zN_mk, zwI_up, zwL_up, zg_some, Nat.reduceMod, Nat.reduceDiv, zcn_I, iI_add, iI_sub, iI_mul, iI_neg, iI_lt, iI_le, iI_eq, iI_lt0, iI_le0, iI_gt0, iI_ge0, iI_eq0] <;> omega)
    · simp (disch := omega) only [upI_same, upL_same, upI_ne, upL_ne, iI_ixN, zI_mk, zL_mk, zP_mk, zK_mk, zN_mk, zwI_up, zwL_up, zg_some, Nat.reduceMod, Nat.reduceDiv, zcn_I, iI_add, iI_sub, iI_mul, iI_neg, iI_lt, iI_le, iI_eq, iI_lt0, iI_le0, iI_gt0, iI_ge0, iI_eq0, p4]
      exact (by simp (disch := omega) only [true_or, or_true, eq_self, Option.some.injEq, Prod.mk.injEq, zall_0, zall_1, zall_2, zob_iff, zar_iff, zis_iff, zkIs_some, zkHas_some, iI_vp, z01_I, z01_bz, zch_I, true_and, and_true, or_false, false_or, and_self, upI_same, upL_same, upI_ne, upL_ne, iI_ixN, zI_mk, zL_mk, zP_mk, zK_mk, zN_mk, zwI_up, zwL_up, zg_some, Nat.reduceMod, Nat.reduceDiv, zcn_I, iI_add, iI_sub, iI_mul, iI_neg, iI_lt, iI_le, iI_eq, iI_lt0, iI_le0, iI_gt0, iI_ge0, iI_eq0, k0, p4, k14] <;> omega)
    · simp (disch := omega) only [upI_same, upL_same, upI_ne, upL_ne, iI_ixN, zI_mk, zL_mk, zP_mk, zK_mk, zN_mk, zwI_up, zwL_up, zg_some, Nat.reduceMod, Nat.reduceDiv, zcn_I, iI_add, iI_sub, iI_mul, iI_neg, iI_lt, iI_le, iI_eq, iI_lt0, iI_le0, iI_gt0, iI_ge0, iI_eq0, p4, m1] at h
      exact no fun q => by have := q.1; omega
    · simp (disch := omega) only [upI_same, upL_same, upI_ne, upL_ne, iI_ixN, zI_mk, zL_mk, zP_mk, zK_mk, zN_mk, zwI_up, zwL_up, zg_some, Nat.reduceMod, Nat.reduceDiv, zcn_I, iI_add, iI_sub, iI_mul, iI_neg, iI_lt, iI_le, iI_eq, iI_lt0, iI_le0, iI_gt0, iI_ge0, iI_eq0, p4, m1] at h
      refine zW.gz [] rfl rfl rfl (by omega) trivial ⟨_, rfl, k0⟩ rfl rfl (Nat.le_refl _) (Nat.le_refl _) ?_
      refine cmpR_ok (by omega) hL hk hR rfl rfl (by omega) hc ?_
      have hkey := cmpR_key hk (show k < 12 by omega) hc
      refine zW.gb [] rfl rfl rfl (by omega) trivial (fun g => ?_) (fun g => ?_)
      · simp (disch := omega) only [zcn_I, iI_add, iI_sub, iI_mul, iI_neg, iI_lt, iI_le, iI_eq, iI_lt0, iI_le0, iI_gt0, iI_ge0, iI_eq0] at g
        exact no fun q => by have := hkey.2.1.mpr q.2; omega
      · simp (disch := omega) only [zcn_I, iI_add, iI_sub, iI_mul, iI_neg, iI_lt, iI_le, iI_eq, iI_lt0, iI_le0, iI_gt0, iI_ge0, iI_eq0] at g
        refine zW.go [4] rfl (by omega) trivial (nx _ ?_)
        rw [zcn_I, iI_add, ct, decide_eq_true ⟨by omega, hkey.2.1.mp (by omega)⟩]
        rfl
theorem alike_ok {c : Nat} {x : Int32} (hd : 5 ≤ d) (hL : RLy b R) (hk : rOK w) (hR : rPR b I w) (e : x = iI (c : Int)) (hc : c < 12) (hQ : Q (.inl (some (zi (iI (nAlk w c : Int))))) (I, L, R)) : zS 62 d [zr (some b), zi x] (I, L, R) Q := by
  subst e
  refine zW.go [4] rfl (by omega) trivial ?_
  exact alike_lp hd hL hk hR hc hQ 12 0 rfl _ _ rfl rfl
theorem started_lp (hd : 1 ≤ d) (hL : RLy b R) (hk : rOK w) (hR : rPR b I w) (hQ : Q (.inl (some (zi (iI (nSta w : Int))))) (I, L, R)) :
    ∀ n k, k + n = 12 → ∀ (x y : Int32), x = iI (ct (fun i => decide (0 < rMa w i)) k : Nat) → y = iI (k : Int) → zW 63 d 0 0 4 [some (zr (some b)), some (zi x), some (zi y)] [] (I, L, R) Q
  | 0, k, hkn, x, y, e1, e2 => by
    subst e1; subst e2
    obtain rfl : k = 12 := by omega
    refine zW.gbt [] rfl rfl rfl (by omega) trivial ?_ (zW.gr [] rfl rfl rfl (by omega) trivial trivial hQ)
    exact (by simp (disch := omega) only [eq_self, not_true_eq_false, not_false_eq_true, upI_same, upL_same, upI_ne, upL_ne, iI_ixN, zI_mk, zL_mk, zP_mk, zK_mk, zN_mk, zwI_up, zwL_up, zg_some, Nat.reduceMod, Nat.reduceDiv, zcn_I, iI_add, iI_sub, iI_mul, iI_neg, iI_lt, iI_le, iI_eq, iI_lt0, iI_le0, iI_gt0, iI_ge0, iI_eq0] <;> omega)
  | n + 1, k, hkn, x, y, e1, e2 => by
    subst e1; subst e2
    have hL' := hL
    obtain ⟨k0, p3, p4, p5, p6, p7, p8, k1, k14, k15, k16, k17, k18, krow⟩ := hL'
    obtain ⟨m1, -⟩ := hR.2.2.2.2.2.2 k (by omega)
    have hm := (hk.2.2.2.2 k (by omega)).1
    have hm5 := mxA_le (rFm w)
    refine zW.gbf [] rfl rfl rfl (by omega) trivial ?_ (zW.gb [] rfl rfl rfl (by omega) ?_ (fun h => ?_) (fun h => ?_))
    · exact (by simp (disch := omega) only [eq_self, not_true_eq_false, not_false_eq_true, upI_same, upL_same, upI_ne, upL_ne, iI_ixN, zI_mk, zL_mk, zP_mk, zK_mk, zN_mk, zwI_up, zwL_up, zg_some, Nat.reduceMod, Nat.reduceDiv, zcn_I, iI_add, iI_sub, iI_mul, iI_neg, iI_lt, iI_le, iI_eq, iI_lt0, iI_le0, iI_gt0, iI_ge0, iI_eq0] <;> omega)
    · simp (disch := omega) only [upI_same, upL_same, upI_ne, upL_ne, iI_ixN, zI_mk, zL_mk, zP_mk, zK_mk, zN_mk, zwI_up, zwL_up, zg_some, Nat.reduceMod, Nat.reduceDiv, zcn_I, iI_add, iI_sub, iI_mul, iI_neg, iI_lt, iI_le, iI_eq, iI_lt0, iI_le0, iI_gt0, iI_ge0, iI_eq0, p4]
      exact (by simp (disch := omega) only [true_or, or_true, eq_self, Option.some.injEq, Prod.mk.injEq, zall_0, zall_1, zall_2, zob_iff, zar_iff, zis_iff, zkIs_some, zkHas_some, iI_vp, z01_I, z01_bz, zch_I, true_and, and_true, or_false, false_or, and_self, upI_same, upL_same, upI_ne, upL_ne, iI_ixN, zI_mk, zL_mk, zP_mk, zK_mk, zN_mk, zwI_up, zwL_up, zg_some, Nat.reduceMod, Nat.reduceDiv, zcn_I, iI_add, iI_sub, iI_mul, iI_neg, iI_lt, iI_le, iI_eq, iI_lt0, iI_le0, iI_gt0, iI_ge0, iI_eq0, k0, p4, k14] <;> omega)
    · simp (disch := omega) only [upI_same, upL_same, upI_ne, upL_ne, iI_ixN, zI_mk, zL_mk, zP_mk, zK_mk, zN_mk, zwI_up, zwL_up, zg_some, Nat.reduceMod, Nat.reduceDiv, zcn_I, iI_add, iI_sub, iI_mul, iI_neg, iI_lt, iI_le, iI_eq, iI_lt0, iI_le0, iI_gt0, iI_ge0, iI_eq0, p4, m1] at h
      refine zW.go [4] rfl (by omega) trivial ?_
      refine started_lp hd hL hk hR hQ n (k + 1) (by omega) _ _ ?_ ?_
      · rw [zcn_I, iI_add, ct, decide_eq_false (by omega)]
        rfl
      · exact (by simp (disch := omega) only [eq_self, not_true_eq_false, not_false_eq_true, upI_same, upL_same, upI_ne, upL_ne, iI_ixN, zI_mk, zL_mk, zP_mk, zK_mk, zN_mk, zwI_up, zwL_up, zg_some, Nat.reduceMod, Nat.reduceDiv, zcn_I, iI_add, iI_sub, iI_mul, iI_neg, iI_lt, iI_le, iI_eq, iI_lt0, iI_le0, iI_gt0, iI_ge0, iI_eq0] <;> omega)
    · simp (disch := omega) only [upI_same, upL_same, upI_ne, upL_ne, iI_ixN, zI_mk, zL_mk, zP_mk, zK_mk, zN_mk, zwI_up, zwL_up, zg_some, Nat.reduceMod, Nat.reduceDiv, zcn_I, iI_add, iI_sub, iI_mul, iI_neg, iI_lt, iI_le, iI_eq, iI_lt0, iI_le0, iI_gt0, iI_ge0, iI_eq0, p4, m1] at h
      refine zW.go [4] rfl (by omega) trivial ?_
      refine started_lp hd hL hk hR hQ n (k + 1) (by omega) _ _ ?_ ?_
      · rw [zcn_I, iI_add, ct, decide_eq_true (by omega)]
        rfl
      · exact (by simp (disch := omega) only [eq_self, not_true_eq_false, not_false_eq_true, upI_same, upL_same, upI_ne, upL_ne, iI_ixN, zI_mk, zL_mk, zP_mk, zK_mk, zN_mk, zwI_up, zwL_up, zg_some, Nat.reduceMod, Nat.reduceDiv, zcn_I, iI_add, iI_sub, iI_mul, iI_neg, iI_lt, iI_le, iI_eq, iI_lt0, iI_le0, iI_gt0, iI_ge0, iI_eq0] <;> omega)
theorem started_ok (hd : 1 ≤ d) (hL : RLy b R) (hk : rOK w) (hR : rPR b I w) (hQ : Q (.inl (some (zi (iI (nSta w : Int))))) (I, L, R)) : zS 63 d [zr (some b)] (I, L, R) Q := by
  refine zW.go [4] rfl (by omega) trivial ?_
  exact started_lp hd hL hk hR hQ 12 0 rfl _ _ rfl rfl
theorem goes_ok {c many : Nat} {x y : Int32} (hd : 6 ≤ d) (hL : RLy b R) (hk : rOK w) (hR : rPR b I w) (e1 : x = iI (c : Int)) (e2 : y = iI (many : Int)) (hc : c < 12) (hmany : many ≤ 12) (t : rGo w c many → Q (.inl (some (zi (iI 1)))) (I, L, R)) (f : ¬ rGo w c many → Q (.inl (some (zi (iI 0)))) (I, L, R)) : zS 65 d [zr (some b), zi x, zi y] (I, L, R) Q := by
  subst e1; subst e2
  have hL' := hL
  obtain ⟨k0, p3, p4, p5, p6, p7, p8, k1, k14, k15, k16, k17, k18, krow⟩ := hL'
  obtain ⟨m1, -⟩ := hR.2.2.2.2.2.2 c hc
  have hm := (hk.2.2.2.2 c hc).1
  have hm5 := mxA_le (rFm w)
  have s12 : nSta w ≤ 12 := ct_le _ _
  have b12 : nBet w c ≤ 12 := ct_le _ _
  have a12 : nAlk w c ≤ 12 := ct_le _ _
  unfold rGo at t f
  refine zW.gb [] rfl rfl rfl (by omega) ?_ (fun h => ?_) (fun h => ?_)
  · simp (disch := omega) only [upI_same, upL_same, upI_ne, upL_ne, iI_ixN, zI_mk, zL_mk, zP_mk, zK_mk, zN_mk, zwI_up, zwL_up, zg_some, Nat.reduceMod, Nat.reduceDiv, zcn_I, iI_add, iI_sub, iI_mul, iI_neg, iI_lt, iI_le, iI_eq, iI_lt0, iI_le0, iI_gt0, iI_ge0, iI_eq0, p4]
    exact (by simp (disch := omega) only [true_or, or_true, eq_self, Option.some.injEq, Prod.mk.injEq, zall_0, zall_1, zall_2, zob_iff, zar_iff, zis_iff, zkIs_some, zkHas_some, iI_vp, z01_I, z01_bz, zch_I, true_and, and_true, or_false, false_or, and_self, upI_same, upL_same, upI_ne, upL_ne, iI_ixN, zI_mk, zL_mk, zP_mk, zK_mk, zN_mk, zwI_up, zwL_up, zg_some, Nat.reduceMod, Nat.reduceDiv, zcn_I, iI_add, iI_sub, iI_mul, iI_neg, iI_lt, iI_le, iI_eq, iI_lt0, iI_le0, iI_gt0, iI_ge0, iI_eq0, k0, p4, k14] <;> omega)
  · simp (disch := omega) only [upI_same, upL_same, upI_ne, upL_ne, iI_ixN, zI_mk, zL_mk, zP_mk, zK_mk, zN_mk, zwI_up, zwL_up, zg_some, Nat.reduceMod, Nat.reduceDiv, zcn_I, iI_add, iI_sub, iI_mul, iI_neg, iI_lt, iI_le, iI_eq, iI_lt0, iI_le0, iI_gt0, iI_ge0, iI_eq0, p4, m1] at h
    refine zW.gz [] rfl rfl rfl (by omega) trivial ⟨_, rfl, k0⟩ rfl rfl (Nat.le_refl _) (Nat.le_refl _) ?_
    refine started_ok (by omega) hL hk hR ?_
    have e34 : (nSta w : Int) * 3 / 4 = ((nSta w * 3 / 4 : Nat) : Int) := by omega
    refine zW.gz [] rfl rfl rfl (by omega) ?_ ⟨_, rfl, k0⟩ rfl rfl (Nat.le_refl _) (Nat.le_refl _) ?_
    · show ¬ zcn 4 = 0
      decide
    · simp (disch := omega) only [zcn_I, iI_mul, iI_div, e34]
      refine better_ok (by omega) hL hk hR rfl hc ?_
      have hmin : (if iI ((nSta w * 3 / 4 : Nat) : Int) < iI (many : Int) then iI ((nSta w * 3 / 4 : Nat) : Int) else iI (many : Int)) = iI ((if nSta w * 3 / 4 < many then nSta w * 3 / 4 else many : Nat) : Int) := by
        rw [iI_min (by omega) (by omega) (by omega) (by omega)]
        exact iI_cg (by split <;> split <;> omega)
      have hmn : (if nSta w * 3 / 4 < many then nSta w * 3 / 4 else many) ≤ 12 := by split <;> omega
      generalize (if nSta w * 3 / 4 < many then nSta w * 3 / 4 else many) = mn at *
      refine zW.gb [] rfl rfl rfl (by omega) trivial (fun g => ?_) (fun g => ?_)
      · rw [hmin] at g
        simp (disch := omega) only [zcn_I, iI_add, iI_sub, iI_mul, iI_neg, iI_lt, iI_le, iI_eq, iI_lt0, iI_le0, iI_gt0, iI_ge0, iI_eq0] at g
        refine zW.gr [] rfl rfl rfl (by omega) trivial z01c0 ?_
        rw [zcn_I]
        exact f fun q => by have := q.2.1; omega
      · rw [hmin] at g
        simp (disch := omega) only [zcn_I, iI_add, iI_sub, iI_mul, iI_neg, iI_lt, iI_le, iI_eq, iI_lt0, iI_le0, iI_gt0, iI_ge0, iI_eq0] at g
        refine zW.gz [] rfl rfl rfl (by omega) trivial ⟨_, rfl, k0⟩ rfl rfl (Nat.le_refl _) (Nat.le_refl _) ?_
        refine alike_ok (by omega) hL hk hR rfl hc ?_
        refine zW.gb [] rfl rfl rfl (by omega) trivial (fun g2 => ?_) (fun g2 => ?_)
        · simp (disch := omega) only [zcn_I, iI_add, iI_sub, iI_mul, iI_neg, iI_lt, iI_le, iI_eq, iI_lt0, iI_le0, iI_gt0, iI_ge0, iI_eq0] at g2
          refine zW.gr [] rfl rfl rfl (by omega) trivial z01c0 ?_
          rw [zcn_I]
          exact f fun q => by have := q.2.2; omega
        · simp (disch := omega) only [zcn_I, iI_add, iI_sub, iI_mul, iI_neg, iI_lt, iI_le, iI_eq, iI_lt0, iI_le0, iI_gt0, iI_ge0, iI_eq0] at g2
          refine zW.gr [] rfl rfl rfl (by omega) trivial z01c1 ?_
          rw [zcn_I]
          exact t ⟨by omega, by omega, by omega⟩
  · have h := Classical.not_not.mp h
    simp (disch := omega) only [upI_same, upL_same, upI_ne, upL_ne, iI_ixN, zI_mk, zL_mk, zP_mk, zK_mk, zN_mk, zwI_up, zwL_up, zg_some, Nat.reduceMod, Nat.reduceDiv, zcn_I, iI_add, iI_sub, iI_mul, iI_neg, iI_lt, iI_le, iI_eq, iI_lt0, iI_le0, iI_gt0, iI_ge0, iI_eq0, p4, m1] at h
    refine zW.gr [] rfl rfl rfl (by omega) trivial z01c0 ?_
    rw [zcn_I]
    exact f fun q => by have := q.1; omega
theorem keeps_lp (hd : 7 ≤ d) (hL : RLy b R) (hk : rOK w) (hR : rPR b I w) (hQ : Q (.inl (some (zi (iI 1)))) (I, L, R)) :
    ∀ n k, k + n = 12 → ∀ (x y : Int32), x = iI (ct (fun i => dc (rGo w i 12)) k : Nat) → y = iI (k : Int) → zW 66 d 0 0 4 [some (zr (some b)), some (zi x), some (zi y)] [] (I, L, R) Q
  | 0, k, hkn, x, y, e1, e2 => by
    subst e1; subst e2
    obtain rfl : k = 12 := by omega
    have k0 := hL.1
    have hf := rGo_few w 12
    have s12 : nSta w ≤ 12 := ct_le _ _
    refine zW.gbt [] rfl rfl rfl (by omega) trivial ?_ (zW.gz [] rfl rfl rfl (by omega) trivial ⟨_, rfl, k0⟩ rfl rfl (Nat.le_refl _) (Nat.le_refl _) ?_)
    · exact (by simp (disch := omega) only [eq_self, not_true_eq_false, not_false_eq_true, upI_same, upL_same, upI_ne, upL_ne, iI_ixN, zI_mk, zL_mk, zP_mk, zK_mk, zN_mk, zwI_up, zwL_up, zg_some, Nat.reduceMod, Nat.reduceDiv, zcn_I, iI_add, iI_sub, iI_mul, iI_neg, iI_lt, iI_le, iI_eq, iI_lt0, iI_le0, iI_gt0, iI_ge0, iI_eq0] <;> omega)
    · refine started_ok (by omega) hL hk hR ?_
      refine zW.gbf [] rfl rfl rfl (by omega) trivial ?_ (zW.gr [] rfl rfl rfl (by omega) trivial z01c1 ?_)
      · exact (by simp (disch := omega) only [eq_self, not_true_eq_false, not_false_eq_true, upI_same, upL_same, upI_ne, upL_ne, iI_ixN, zI_mk, zL_mk, zP_mk, zK_mk, zN_mk, zwI_up, zwL_up, zg_some, Nat.reduceMod, Nat.reduceDiv, zcn_I, iI_add, iI_sub, iI_mul, iI_neg, iI_lt, iI_le, iI_eq, iI_lt0, iI_le0, iI_gt0, iI_ge0, iI_eq0] <;> omega)
      · rw [zcn_I]
        exact hQ
  | n + 1, k, hkn, x, y, e1, e2 => by
    subst e1; subst e2
    have k0 := hL.1
    refine zW.gbf [] rfl rfl rfl (by omega) trivial ?_ (zW.gz [] rfl rfl rfl (by omega) trivial ⟨_, rfl, k0⟩ rfl rfl (Nat.le_refl _) (Nat.le_refl _) ?_)
    · exact (by simp (disch := omega) only [eq_self, not_true_eq_false, not_false_eq_true, upI_same, upL_same, upI_ne, upL_ne, iI_ixN, zI_mk, zL_mk, zP_mk, zK_mk, zN_mk, zwI_up, zwL_up, zg_some, Nat.reduceMod, Nat.reduceDiv, zcn_I, iI_add, iI_sub, iI_mul, iI_neg, iI_lt, iI_le, iI_eq, iI_lt0, iI_le0, iI_gt0, iI_ge0, iI_eq0] <;> omega)
    · refine goes_ok (many := 12) (by omega) hL hk hR rfl (zcn_I 12) (by omega) (Nat.le_refl _) (fun h => ?_) (fun h => ?_)
      · refine zW.gbf [] rfl rfl rfl (by omega) trivial ?_ (zW.go [4] rfl (by omega) trivial ?_)
        · exact (by simp (disch := omega) only [eq_self, not_true_eq_false, not_false_eq_true, upI_same, upL_same, upI_ne, upL_ne, iI_ixN, zI_mk, zL_mk, zP_mk, zK_mk, zN_mk, zwI_up, zwL_up, zg_some, Nat.reduceMod, Nat.reduceDiv, zcn_I, iI_add, iI_sub, iI_mul, iI_neg, iI_lt, iI_le, iI_eq, iI_lt0, iI_le0, iI_gt0, iI_ge0, iI_eq0] <;> omega)
        · refine keeps_lp hd hL hk hR hQ n (k + 1) (by omega) _ _ ?_ ?_
          · rw [zcn_I, iI_add, ct, dc_t.mpr h]
            rfl
          · exact (by simp (disch := omega) only [eq_self, not_true_eq_false, not_false_eq_true, upI_same, upL_same, upI_ne, upL_ne, iI_ixN, zI_mk, zL_mk, zP_mk, zK_mk, zN_mk, zwI_up, zwL_up, zg_some, Nat.reduceMod, Nat.reduceDiv, zcn_I, iI_add, iI_sub, iI_mul, iI_neg, iI_lt, iI_le, iI_eq, iI_lt0, iI_le0, iI_gt0, iI_ge0, iI_eq0] <;> omega)
      · refine zW.gbt [] rfl rfl rfl (by omega) trivial ?_ (zW.go [4] rfl (by omega) trivial ?_)
        · exact (by simp (disch := omega) only [eq_self, not_true_eq_false, not_false_eq_true, upI_same, upL_same, upI_ne, upL_ne, iI_ixN, zI_mk, zL_mk, zP_mk, zK_mk, zN_mk, zwI_up, zwL_up, zg_some, Nat.reduceMod, Nat.reduceDiv, zcn_I, iI_add, iI_sub, iI_mul, iI_neg, iI_lt, iI_le, iI_eq, iI_lt0, iI_le0, iI_gt0, iI_ge0, iI_eq0] <;> omega)
        · refine keeps_lp hd hL hk hR hQ n (k + 1) (by omega) _ _ ?_ ?_
          · rw [zcn_I, iI_add, ct, dc_f.mpr h]
            rfl
          · exact (by simp (disch := omega) only [eq_self, not_true_eq_false, not_false_eq_true, upI_same, upL_same, upI_ne, upL_ne, iI_ixN, zI_mk, zL_mk, zP_mk, zK_mk, zN_mk, zwI_up, zwL_up, zg_some, Nat.reduceMod, Nat.reduceDiv, zcn_I, iI_add, iI_sub, iI_mul, iI_neg, iI_lt, iI_le, iI_eq, iI_lt0, iI_le0, iI_gt0, iI_ge0, iI_eq0] <;> omega)
theorem keeps_ok (hd : 7 ≤ d) (hL : RLy b R) (hk : rOK w) (hR : rPR b I w) (hQ : Q (.inl (some (zi (iI 1)))) (I, L, R)) : zS 66 d [zr (some b)] (I, L, R) Q := by
  refine zW.go [4] rfl (by omega) trivial ?_
  exact keeps_lp hd hL hk hR hQ 12 0 rfl _ _ rfl rfl
/-- how many attempts, how many with a result -/
def nGd (w : zRd) (c k : Nat) : Nat := ct (fun k => decide (0 < rRs w c k)) k
def nAtt (w : zRd) (g : Bool) (c : Nat) : Nat := if g then nGd w c (rMa w c) else rMa w c
theorem ctA_in {g : Bool} {c : Nat} {t : Nat} (hd : 2 ≤ d) (hL : RLy b R) (hk : rOK w) (hR : rPR b I w) (hc : c < 12) (ht : t ≤ 60)
    (hQ : ∀ v, zW 64 d 0 0 64 [some (zr (some b)), some (zi (bz g)), some (zi (iI ((t + nAtt w g c : Nat) : Int))), some (zi (iI (c : Int))), v] [] (I, L, R) Q) :
    ∀ n k, k + n = rMa w c → ∀ (x y : Int32), x = iI ((t + (if g then nGd w c k else k) : Nat) : Int) → y = iI (k : Int) → zW 64 d 0 0 13 [some (zr (some b)), some (zi (bz g)), some (zi x), some (zi (iI (c : Int))), some (zi y)] [] (I, L, R) Q
  | 0, k, hkn, x, y, e1, e2 => by
    subst e1; subst e2
    obtain rfl : k = rMa w c := by omega
    have hL' := hL
    obtain ⟨k0, p3, p4, p5, p6, p7, p8, k1, k14, k15, k16, k17, k18, krow⟩ := hL'
    obtain ⟨m1, -⟩ := hR.2.2.2.2.2.2 c hc
    have hm := (hk.2.2.2.2 c hc).1
    have hm5 := mxA_le (rFm w)
    refine zW.gbt [] rfl rfl rfl (by omega) ?_ ?_ (hQ _)
    · simp (disch := omega) only [upI_same, upL_same, upI_ne, upL_ne, iI_ixN, zI_mk, zL_mk, zP_mk, zK_mk, zN_mk, zwI_up, zwL_up, zg_some, Nat.reduceMod, Nat.reduceDiv, zcn_I, iI_add, iI_sub, iI_mul, iI_neg, iI_lt, iI_le, iI_eq, iI_lt0, iI_le0, iI_gt0, iI_ge0, iI_eq0, p4]
      exact (by simp (disch := omega) only [true_or, or_true, eq_self, Option.some.injEq, Prod.mk.injEq, zall_0, zall_1, zall_2, zob_iff, zar_iff, zis_iff, zkIs_some, zkHas_some, iI_vp, z01_I, z01_bz, zch_I, true_and, and_true, or_false, false_or, and_self, upI_same, upL_same, upI_ne, upL_ne, iI_ixN, zI_mk, zL_mk, zP_mk, zK_mk, zN_mk, zwI_up, zwL_up, zg_some, Nat.reduceMod, Nat.reduceDiv, zcn_I, iI_add, iI_sub, iI_mul, iI_neg, iI_lt, iI_le, iI_eq, iI_lt0, iI_le0, iI_gt0, iI_ge0, iI_eq0, k0, p4, k14] <;> omega)
    · exact (by simp (disch := omega) only [eq_self, not_true_eq_false, not_false_eq_true, upI_same, upL_same, upI_ne, upL_ne, iI_ixN, zI_mk, zL_mk, zP_mk, zK_mk, zN_mk, zwI_up, zwL_up, zg_some, Nat.reduceMod, Nat.reduceDiv, zcn_I, iI_add, iI_sub, iI_mul, iI_neg, iI_lt, iI_le, iI_eq, iI_lt0, iI_le0, iI_gt0, iI_ge0, iI_eq0, p4, m1] <;> omega)
  | n + 1, k, hkn, x, y, e1, e2 => by
    subst e1; subst e2
    have hL' := hL
    obtain ⟨k0, p3, p4, p5, p6, p7, p8, k1, k14, k15, k16, k17, k18, krow⟩ := hL'
    obtain ⟨q1, q2⟩ := krow c hc
    obtain ⟨m1, -, -, -, -, m6⟩ := hR.2.2.2.2.2.2 c hc
    have hm := (hk.2.2.2.2 c hc).1
    have hm5 := mxA_le (rFm w)
    have mk6 := m6 k (by omega)
    have hv := (hk.2.2.2.2 c hc).2.1 k (by omega)
    have hgd : nGd w c k ≤ k := ct_le _ _
    have hgs : nGd w c (k + 1) = nGd w c k + (if decide (0 < rRs w c k) then 1 else 0) := rfl
    cases g with
    | false =>
      refine zW.gbf [] rfl rfl rfl (by omega) ?_ ?_ (zW.gbf [] rfl rfl rfl (by omega) trivial ?_ (zW.gbt [] rfl rfl rfl (by omega) trivial ?_ (zW.go [13] rfl (by omega) trivial ?_)))
      · simp (disch := omega) only [upI_same, upL_same, upI_ne, upL_ne, iI_ixN, zI_mk, zL_mk, zP_mk, zK_mk, zN_mk, zwI_up, zwL_up, zg_some, Nat.reduceMod, Nat.reduceDiv, zcn_I, iI_add, iI_sub, iI_mul, iI_neg, iI_lt, iI_le, iI_eq, iI_lt0, iI_le0, iI_gt0, iI_ge0, iI_eq0, p4]
        exact (by simp (disch := omega) only [true_or, or_true, eq_self, Option.some.injEq, Prod.mk.injEq, zall_0, zall_1, zall_2, zob_iff, zar_iff, zis_iff, zkIs_some, zkHas_some, iI_vp, z01_I, z01_bz, zch_I, true_and, and_true, or_false, false_or, and_self, upI_same, upL_same, upI_ne, upL_ne, iI_ixN, zI_mk, zL_mk, zP_mk, zK_mk, zN_mk, zwI_up, zwL_up, zg_some, Nat.reduceMod, Nat.reduceDiv, zcn_I, iI_add, iI_sub, iI_mul, iI_neg, iI_lt, iI_le, iI_eq, iI_lt0, iI_le0, iI_gt0, iI_ge0, iI_eq0, k0, p4, k14] <;> omega)
      · exact (by simp (disch := omega) only [eq_self, not_true_eq_false, not_false_eq_true, upI_same, upL_same, upI_ne, upL_ne, iI_ixN, zI_mk, zL_mk, zP_mk, zK_mk, zN_mk, zwI_up, zwL_up, zg_some, Nat.reduceMod, Nat.reduceDiv, zcn_I, iI_add, iI_sub, iI_mul, iI_neg, iI_lt, iI_le, iI_eq, iI_lt0, iI_le0, iI_gt0, iI_ge0, iI_eq0, p4, m1] <;> omega)
      · exact (by simp (disch := omega) only [eq_self, not_true_eq_false, not_false_eq_true, upI_same, upL_same, upI_ne, upL_ne, iI_ixN, zI_mk, zL_mk, zP_mk, zK_mk, zN_mk, zwI_up, zwL_up, zg_some, Nat.reduceMod, Nat.reduceDiv, zcn_I, iI_add, iI_sub, iI_mul, iI_neg, iI_lt, iI_le, iI_eq, iI_lt0, iI_le0, iI_gt0, iI_ge0, iI_eq0] <;> omega)
      · exact iI_0
      · refine ctA_in hd hL hk hR hc ht hQ n (k + 1) (by omega) _ _ ?_ ?_
        · rw [zcn_I, iI_add]
          rfl
        · exact (by simp (disch := omega) only [eq_self, not_true_eq_false, not_false_eq_true, upI_same, upL_same, upI_ne, upL_ne, iI_ixN, zI_mk, zL_mk, zP_mk, zK_mk, zN_mk, zwI_up, zwL_up, zg_some, Nat.reduceMod, Nat.reduceDiv, zcn_I, iI_add, iI_sub, iI_mul, iI_neg, iI_lt, iI_le, iI_eq, iI_lt0, iI_le0, iI_gt0, iI_ge0, iI_eq0] <;> omega)
    | true =>
      refine zW.gbf [] rfl rfl rfl (by omega) ?_ ?_ (zW.gbf [] rfl rfl rfl (by omega) trivial ?_ (zW.gbf [] rfl rfl rfl (by omega) trivial ?_ (zW.gz [] rfl rfl rfl (by omega) ?_ ⟨_, rfl, k0⟩ rfl rfl (Nat.le_refl _) (Nat.le_refl _) ?_)))
      · simp (disch := omega) only [upI_same, upL_same, upI_ne, upL_ne, iI_ixN, zI_mk, zL_mk, zP_mk, zK_mk, zN_mk, zwI_up, zwL_up, zg_some, Nat.reduceMod, Nat.reduceDiv, zcn_I, iI_add, iI_sub, iI_mul, iI_neg, iI_lt, iI_le, iI_eq, iI_lt0, iI_le0, iI_gt0, iI_ge0, iI_eq0, p4]
        exact (by simp (disch := omega) only [true_or, or_true, eq_self, Option.some.injEq, Prod.mk.injEq, zall_0, zall_1, zall_2, zob_iff, zar_iff, zis_iff, zkIs_some, zkHas_some, iI_vp, z01_I, z01_bz, zch_I, true_and, and_true, or_false, false_or, and_self, upI_same, upL_same, upI_ne, upL_ne, iI_ixN, zI_mk, zL_mk, zP_mk, zK_mk, zN_mk, zwI_up, zwL_up, zg_some, Nat.reduceMod, Nat.reduceDiv, zcn_I, iI_add, iI_sub, iI_mul, iI_neg, iI_lt, iI_le, iI_eq, iI_lt0, iI_le0, iI_gt0, iI_ge0, iI_eq0, k0, p4, k14] <;> omega)
      · exact (by simp (disch := omega) only [eq_self, not_true_eq_false, not_false_eq_true, upI_same, upL_same, upI_ne, upL_ne, iI_ixN, zI_mk, zL_mk, zP_mk, zK_mk, zN_mk, zwI_up, zwL_up, zg_some, Nat.reduceMod, Nat.reduceDiv, zcn_I, iI_add, iI_sub, iI_mul, iI_neg, iI_lt, iI_le, iI_eq, iI_lt0, iI_le0, iI_gt0, iI_ge0, iI_eq0, p4, m1] <;> omega)
      · exact (by simp (disch := omega) only [eq_self, not_true_eq_false, not_false_eq_true, upI_same, upL_same, upI_ne, upL_ne, iI_ixN, zI_mk, zL_mk, zP_mk, zK_mk, zN_mk, zwI_up, zwL_up, zg_some, Nat.reduceMod, Nat.reduceDiv, zcn_I, iI_add, iI_sub, iI_mul, iI_neg, iI_lt, iI_le, iI_eq, iI_lt0, iI_le0, iI_gt0, iI_ge0, iI_eq0] <;> omega)
      · show ¬ bz true = 0
        decide
      · simp (disch := omega) only [upI_same, upL_same, upI_ne, upL_ne, iI_ixN, zI_mk, zL_mk, zP_mk, zK_mk, zN_mk, zwI_up, zwL_up, zg_some, Nat.reduceMod, Nat.reduceDiv, zcn_I, iI_add, iI_sub, iI_mul, iI_neg, iI_lt, iI_le, iI_eq, iI_lt0, iI_le0, iI_gt0, iI_ge0, iI_eq0, p3, q1]
        exact (by simp (disch := omega) only [true_or, or_true, eq_self, Option.some.injEq, Prod.mk.injEq, zall_0, zall_1, zall_2, zob_iff, zar_iff, zis_iff, zkIs_some, zkHas_some, iI_vp, z01_I, z01_bz, zch_I, true_and, and_true, or_false, false_or, and_self, upI_same, upL_same, upI_ne, upL_ne, iI_ixN, zI_mk, zL_mk, zP_mk, zK_mk, zN_mk, zwI_up, zwL_up, zg_some, Nat.reduceMod, Nat.reduceDiv, zcn_I, iI_add, iI_sub, iI_mul, iI_neg, iI_lt, iI_le, iI_eq, iI_lt0, iI_le0, iI_gt0, iI_ge0, iI_eq0, k0, p3, k1, q1, q2] <;> omega)
      · simp (disch := omega) only [upI_same, upL_same, upI_ne, upL_ne, iI_ixN, zI_mk, zL_mk, zP_mk, zK_mk, zN_mk, zwI_up, zwL_up, zg_some, Nat.reduceMod, Nat.reduceDiv, zcn_I, iI_add, iI_sub, iI_mul, iI_neg, iI_lt, iI_le, iI_eq, iI_lt0, iI_le0, iI_gt0, iI_ge0, iI_eq0, p3, q1, mk6]
        refine isResult_ok (v := rRs w c k) (by omega) hL hk hR rfl hv (fun h => ?_) (fun h => ?_)
        · rw [decide_eq_true h] at hgs
          refine zW.gbf [] rfl rfl rfl (by omega) trivial ?_ (zW.go [13] rfl (by omega) trivial ?_)
          · exact (by simp (disch := omega) only [eq_self, not_true_eq_false, not_false_eq_true, upI_same, upL_same, upI_ne, upL_ne, iI_ixN, zI_mk, zL_mk, zP_mk, zK_mk, zN_mk, zwI_up, zwL_up, zg_some, Nat.reduceMod, Nat.reduceDiv, zcn_I, iI_add, iI_sub, iI_mul, iI_neg, iI_lt, iI_le, iI_eq, iI_lt0, iI_le0, iI_gt0, iI_ge0, iI_eq0] <;> omega)
          · refine ctA_in hd hL hk hR hc ht hQ n (k + 1) (by omega) _ _ ?_ ?_
            · rw [zcn_I, iI_add]
              refine iI_cg ?_
              show ((t + nGd w c k : Nat) : Int) + 1 = ((t + nGd w c (k + 1) : Nat) : Int)
              rw [hgs]
              rfl
            · exact (by simp (disch := omega) only [eq_self, not_true_eq_false, not_false_eq_true, upI_same, upL_same, upI_ne, upL_ne, iI_ixN, zI_mk, zL_mk, zP_mk, zK_mk, zN_mk, zwI_up, zwL_up, zg_some, Nat.reduceMod, Nat.reduceDiv, zcn_I, iI_add, iI_sub, iI_mul, iI_neg, iI_lt, iI_le, iI_eq, iI_lt0, iI_le0, iI_gt0, iI_ge0, iI_eq0] <;> omega)
        · rw [decide_eq_false (by omega)] at hgs
          refine zW.gbt [] rfl rfl rfl (by omega) trivial ?_ (zW.go [13] rfl (by omega) trivial ?_)
          · exact (by simp (disch := omega) only [eq_self, not_true_eq_false, not_false_eq_true, upI_same, upL_same, upI_ne, upL_ne, iI_ixN, zI_mk, zL_mk, zP_mk, zK_mk, zN_mk, zwI_up, zwL_up, zg_some, Nat.reduceMod, Nat.reduceDiv, zcn_I, iI_add, iI_sub, iI_mul, iI_neg, iI_lt, iI_le, iI_eq, iI_lt0, iI_le0, iI_gt0, iI_ge0, iI_eq0] <;> omega)
          · refine ctA_in hd hL hk hR hc ht hQ n (k + 1) (by omega) _ _ ?_ ?_
            · rw [zcn_I, iI_add]
              refine iI_cg ?_
              show ((t + nGd w c k : Nat) : Int) + 0 = ((t + nGd w c (k + 1) : Nat) : Int)
              rw [hgs]
              rfl
            · exact (by simp (disch := omega) only [eq_self, not_true_eq_false, not_false_eq_true, upI_same, upL_same, upI_ne, upL_ne, iI_ixN, zI_mk, zL_mk, zP_mk, zK_mk, zN_mk, zwI_up, zwL_up, zg_some, Nat.reduceMod, Nat.reduceDiv, zcn_I, iI_add, iI_sub, iI_mul, iI_neg, iI_lt, iI_le, iI_eq, iI_lt0, iI_le0, iI_gt0, iI_ge0, iI_eq0] <;> omega)
theorem nAtt_le (hk : rOK w) {g : Bool} {c : Nat} (hc : c < 12) : nAtt w g c ≤ 5 := by
  have hm := (hk.2.2.2.2 c hc).1
  have hm5 := mxA_le (rFm w)
  have : nGd w c (rMa w c) ≤ rMa w c := ct_le _ _
  unfold nAtt
  split <;> omega
theorem ctA_lp {g : Bool} (hd : 2 ≤ d) (hL : RLy b R) (hk : rOK w) (hR : rPR b I w) (hQ : Q (.inl (some (zi (iI (smN (nAtt w g) 12 : Int))))) (I, L, R)) :
    ∀ n c, c + n = 12 → ∀ (x y : Int32) (v : Option zV), smN (nAtt w g) c ≤ 5 * c → x = iI (smN (nAtt w g) c : Int) → y = iI (c : Int) → zW 64 d 0 0 4 [some (zr (some b)), some (zi (bz g)), some (zi x), some (zi y), v] [] (I, L, R) Q
  | 0, c, hc, x, y, v, hle, e1, e2 => by
    subst e1; subst e2
    obtain rfl : c = 12 := by omega
    refine zW.gbt [] rfl rfl rfl (by omega) trivial ?_ (zW.gr [] rfl rfl rfl (by omega) trivial trivial hQ)
    exact (by simp (disch := omega) only [eq_self, not_true_eq_false, not_false_eq_true, upI_same, upL_same, upI_ne, upL_ne, iI_ixN, zI_mk, zL_mk, zP_mk, zK_mk, zN_mk, zwI_up, zwL_up, zg_some, Nat.reduceMod, Nat.reduceDiv, zcn_I, iI_add, iI_sub, iI_mul, iI_neg, iI_lt, iI_le, iI_eq, iI_lt0, iI_le0, iI_gt0, iI_ge0, iI_eq0] <;> omega)
  | n + 1, c, hc, x, y, v, hle, e1, e2 => by
    subst e1; subst e2
    have h5 := nAtt_le hk (g := g) (show c < 12 by omega)
    refine zW.gbf [] rfl rfl rfl (by omega) trivial ?_ (zW.go [13] rfl (by omega) trivial ?_)
    · exact (by simp (disch := omega) only [eq_self, not_true_eq_false, not_false_eq_true, upI_same, upL_same, upI_ne, upL_ne, iI_ixN, zI_mk, zL_mk, zP_mk, zK_mk, zN_mk, zwI_up, zwL_up, zg_some, Nat.reduceMod, Nat.reduceDiv, zcn_I, iI_add, iI_sub, iI_mul, iI_neg, iI_lt, iI_le, iI_eq, iI_lt0, iI_le0, iI_gt0, iI_ge0, iI_eq0] <;> omega)
    · refine ctA_in (t := smN (nAtt w g) c) hd hL hk hR (by omega) (by omega) (fun v' => ?_) (rMa w c) 0 (by omega) _ _ ?_ rfl
      · refine zW.go [4] rfl (by omega) trivial ?_
        refine ctA_lp hd hL hk hR hQ n (c + 1) (by omega) _ _ _ ?_ rfl ?_
        · show smN (nAtt w g) c + nAtt w g c ≤ _
          omega
        · exact (by simp (disch := omega) only [eq_self, not_true_eq_false, not_false_eq_true, upI_same, upL_same, upI_ne, upL_ne, iI_ixN, zI_mk, zL_mk, zP_mk, zK_mk, zN_mk, zwI_up, zwL_up, zg_some, Nat.reduceMod, Nat.reduceDiv, zcn_I, iI_add, iI_sub, iI_mul, iI_neg, iI_lt, iI_le, iI_eq, iI_lt0, iI_le0, iI_gt0, iI_ge0, iI_eq0] <;> omega)
      · have : nGd w c 0 = 0 := rfl
        refine iI_cg ?_
        split <;> omega
theorem ctA_ok {g : Bool} {x : Int32} (hd : 2 ≤ d) (hL : RLy b R) (hk : rOK w) (hR : rPR b I w) (e : x = bz g) (hQ : Q (.inl (some (zi (iI (smN (nAtt w g) 12 : Int))))) (I, L, R)) : zS 64 d [zr (some b), zi x] (I, L, R) Q := by
  subst e
  refine zW.go [4] rfl (by omega) trivial ?_
  exact ctA_lp hd hL hk hR hQ 12 0 rfl _ _ _ (Nat.le_refl _) rfl rfl
end ROUND7
