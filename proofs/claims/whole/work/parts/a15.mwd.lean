/-! The model's words, asked. -/
section MWD
variable {d y : Nat} {T : tfT} {I : Nat → Nat → Int32} {L : Nat → Nat → Int64} {R : zRt} {Q : zO → zM → Prop}
theorem spell_no {sg : List Nat} (h : wF sg 0 w0) : spell sg = none := by
  unfold spell
  cases e : mkN sg w0 with
  | none => rfl
  | some w =>
    show (if w.2.1 = [] then some w.1 else none) = none
    exact if_neg (h w e)
theorem mSpel_ok (hd : 72 ≤ d) (h : mf y T (I, L, R)) (h1 : ∀ l, spell (tSg T) = some l → ∀ I', pfr y I I' → spR y I' l → Q (.inl (some (zi (iI 1)))) (I', L, R)) (h0 : spell (tSg T) = none → ∀ I', pfr y I I' → Q (.inl (some (zi (iI 0)))) (I', L, R)) : zS 216 d [zr (some y)] (I, L, R) Q := by
  have hM := h.2.1
  have k0 : R.2.1 y = some (7, 0) := hM.1
  obtain ⟨-, ⟨c1, c2⟩, -⟩ := m_own h
  have h30 := h.1.2.2.1.1
  have h65 := h.1.2.2.1.2
  have fI : pfr y I (upI (upI I y 36 (iI 0)) y 37 (iI 0)) := ⟨fun a q1 _ => by rw [upI_row q1, upI_row q1], fun k q1 q2 => by rw [upI_ne (by omega), upI_ne (by omega)]⟩
  have rI : rdR y (upI (upI I y 36 (iI 0)) y 37 (iI 0)) (tSg T) 0 := ⟨by simp (disch := omega) only [upI_same, upL_same, upI_ne, upL_ne, iI_ixN, zI_mk, zL_mk, zP_mk, zK_mk, zN_mk, zwI_up, zwL_up, zg_some, Nat.reduceMod, Nat.reduceDiv, zcn_I, iI_add, iI_sub, iI_mul, iI_neg, iI_lt, iI_le, iI_eq, iI_lt0, iI_le0, iI_gt0, iI_ge0, iI_eq0]; exact c1, by rw [upI_row (by omega), upI_row (by omega)]; exact c2, h30, h65, by simp (disch := omega) only [upI_same, upL_same, upI_ne, upL_ne, iI_ixN, zI_mk, zL_mk, zP_mk, zK_mk, zN_mk, zwI_up, zwL_up, zg_some, Nat.reduceMod, Nat.reduceDiv, zcn_I, iI_add, iI_sub, iI_mul, iI_neg, iI_lt, iI_le, iI_eq, iI_lt0, iI_le0, iI_gt0, iI_ge0, iI_eq0]; rfl, Nat.zero_le _⟩
  refine zW.gz [] rfl rfl rfl (by omega) (by simp (disch := omega) only [true_or, or_true, eq_self, Option.some.injEq, Prod.mk.injEq, zall_0, zall_1, zall_2, zob_iff, zar_iff, zis_iff, zkIs_some, zkHas_some, iI_vp, z01_I, z01_bz, zch_I, true_and, and_true, or_false, false_or, and_self, upI_same, upL_same, upI_ne, upL_ne, iI_ixN, zI_mk, zL_mk, zP_mk, zK_mk, zN_mk, zwI_up, zwL_up, zg_some, Nat.reduceMod, Nat.reduceDiv, zcn_I, iI_add, iI_sub, iI_mul, iI_neg, iI_lt, iI_le, iI_eq, iI_lt0, iI_le0, iI_gt0, iI_ge0, iI_eq0, k0] <;> omega) ⟨_, rfl, k0⟩ rfl rfl (by decide +kernel) (by decide +kernel) ?_
  simp (disch := omega) only [upI_same, upL_same, upI_ne, upL_ne, iI_ixN, zI_mk, zL_mk, zP_mk, zK_mk, zN_mk, zwI_up, zwL_up, zg_some, Nat.reduceMod, Nat.reduceDiv, zcn_I, iI_add, iI_sub, iI_mul, iI_neg, iI_lt, iI_le, iI_eq, iI_lt0, iI_le0, iI_gt0, iI_ge0, iI_eq0, zcn_I]
  refine WH_all (sg := tSg T) hM 30 (d - 1) 0 w0 _ _ (by omega) (by omega) rI ⟨upI_same _ _ _ _, fun i hi => absurd hi (Nat.not_lt_zero i)⟩ w0_ok (Nat.le_refl _) (fInv_ff _ _) (fun j w' I' f1 r1 s1 hj hw' hk' hst e => ?_) (fun hF I' f1 => ?_)
  · refine zW.gbf [] rfl rfl rfl (by omega) trivial (by simp (disch := omega) only [eq_self, not_true_eq_false, not_false_eq_true, upI_same, upL_same, upI_ne, upL_ne, iI_ixN, zI_mk, zL_mk, zP_mk, zK_mk, zN_mk, zwI_up, zwL_up, zg_some, Nat.reduceMod, Nat.reduceDiv, zcn_I, iI_add, iI_sub, iI_mul, iI_neg, iI_lt, iI_le, iI_eq, iI_lt0, iI_le0, iI_gt0, iI_ge0, iI_eq0] <;> omega) ?_
    have q1 := r1.1
    have q5 := r1.2.2.2.2.1
    have q6 := r1.2.2.2.2.2
    rw [List.drop_zero] at e
    have hk' : w'.2.1 = [] := hk'
    refine zW.gb [] rfl rfl rfl (by omega) (by simp (disch := omega) only [true_or, or_true, eq_self, Option.some.injEq, Prod.mk.injEq, zall_0, zall_1, zall_2, zob_iff, zar_iff, zis_iff, zkIs_some, zkHas_some, iI_vp, z01_I, z01_bz, zch_I, true_and, and_true, or_false, false_or, and_self, upI_same, upL_same, upI_ne, upL_ne, iI_ixN, zI_mk, zL_mk, zP_mk, zK_mk, zN_mk, zwI_up, zwL_up, zg_some, Nat.reduceMod, Nat.reduceDiv, zcn_I, iI_add, iI_sub, iI_mul, iI_neg, iI_lt, iI_le, iI_eq, iI_lt0, iI_le0, iI_gt0, iI_ge0, iI_eq0, k0] <;> omega) (fun h' => ?_) (fun h' => ?_)
    · simp (disch := omega) only [zcn_I, iI_add, iI_sub, iI_mul, iI_neg, iI_lt, iI_le, iI_eq, iI_lt0, iI_le0, iI_gt0, iI_ge0, iI_eq0, upI_same, upL_same, upI_ne, upL_ne, iI_ixN, zI_mk, zL_mk, zP_mk, zK_mk, zN_mk, zwI_up, zwL_up, zg_some, Nat.reduceMod, Nat.reduceDiv, q1, q5] at h'
      refine zW.gr [] rfl rfl rfl (by omega) trivial z01c0 ?_
      rw [zcn_I]
      refine h0 ?_ I' (pfr_tr fI f1)
      have hst := hst.resolve_left (by omega)
      obtain ⟨l', kk, p', cr', cb'⟩ := w'
      have hk' : kk = [] := hk'
      subst hk'
      have e2 : mk1 (nth (tSg T) j) (l', [], p', cr', cb') = none := by
        rcases hst with q | q | q
        · rw [q, mk_gt]
          rfl
        · rw [q, mk_bar]
          rfl
        · rw [q, mk_sq]
          rfl
      unfold spell
      rw [e, mkN_d (by omega), e2]
      rfl
    · simp (disch := omega) only [zcn_I, iI_add, iI_sub, iI_mul, iI_neg, iI_lt, iI_le, iI_eq, iI_lt0, iI_le0, iI_gt0, iI_ge0, iI_eq0, upI_same, upL_same, upI_ne, upL_ne, iI_ixN, zI_mk, zL_mk, zP_mk, zK_mk, zN_mk, zwI_up, zwL_up, zg_some, Nat.reduceMod, Nat.reduceDiv, q1, q5] at h'
      refine zW.gr [] rfl rfl rfl (by omega) trivial z01c1 ?_
      rw [zcn_I]
      obtain rfl : j = (tSg T).length := by omega
      refine h1 w'.1 ?_ I' (pfr_tr fI f1) s1
      unfold spell
      rw [e, List.drop_length]
      exact if_pos hk'
  · refine zW.gbt [] rfl rfl rfl (by omega) trivial (by simp (disch := omega) only [eq_self, not_true_eq_false, not_false_eq_true, upI_same, upL_same, upI_ne, upL_ne, iI_ixN, zI_mk, zL_mk, zP_mk, zK_mk, zN_mk, zwI_up, zwL_up, zg_some, Nat.reduceMod, Nat.reduceDiv, zcn_I, iI_add, iI_sub, iI_mul, iI_neg, iI_lt, iI_le, iI_eq, iI_lt0, iI_le0, iI_gt0, iI_ge0, iI_eq0] <;> omega) ?_
    refine zW.gr [] rfl rfl rfl (by omega) trivial z01c0 ?_
    rw [zcn_I]
    exact h0 (spell_no hF) I' (pfr_tr fI f1)
theorem mIsWord_ok (hd : 75 ≤ d) (h : mf y T (I, L, R)) (hQ : mP y (I, L, R) (oIsWord T) eI Q) : zS 217 d [zr (some y)] (I, L, R) Q := by
  have hM := h.2.1
  have k0 : R.2.1 y = some (7, 0) := hM.1
  refine zW.gz [] rfl rfl rfl (by omega) (by simp (disch := omega) only [true_or, or_true, eq_self, Option.some.injEq, Prod.mk.injEq, zall_0, zall_1, zall_2, zob_iff, zar_iff, zis_iff, zkIs_some, zkHas_some, iI_vp, z01_I, z01_bz, zch_I, true_and, and_true, or_false, false_or, and_self, upI_same, upL_same, upI_ne, upL_ne, iI_ixN, zI_mk, zL_mk, zP_mk, zK_mk, zN_mk, zwI_up, zwL_up, zg_some, Nat.reduceMod, Nat.reduceDiv, zcn_I, iI_add, iI_sub, iI_mul, iI_neg, iI_lt, iI_le, iI_eq, iI_lt0, iI_le0, iI_gt0, iI_ge0, iI_eq0, k0] <;> omega) ⟨_, rfl, k0⟩ rfl rfl (by decide +kernel) (by decide +kernel) ?_
  simp (disch := omega) only [upI_same, upL_same, upI_ne, upL_ne, iI_ixN, zI_mk, zL_mk, zP_mk, zK_mk, zN_mk, zwI_up, zwL_up, zg_some, Nat.reduceMod, Nat.reduceDiv, zcn_I, iI_add, iI_sub, iI_mul, iI_neg, iI_lt, iI_le, iI_eq, iI_lt0, iI_le0, iI_gt0, iI_ge0, iI_eq0, zcn_I]
  have hm := mf_scr h (th_scr (v := iI 0) (L := L))
  unfold oIsWord at hQ
  refine mSpel_ok (by omega) hm (fun l hl I' f s => ?_) (fun hl I' f => ?_)
  · refine zW.gr [] rfl rfl rfl (by omega) trivial z01_1 ?_
    rw [hl] at hQ
    rw [b01_t (show (some l).isSome = true from rfl)] at hQ
    exact mP_0 hQ rfl (mf_scr h (scr_tr th_scr (pfr_scr f))) (mgr_o (scr_o (scr_tr th_scr (pfr_scr f)))) ((f.2 41 (by omega) (by omega)).trans (upI_same _ _ _ _))
  · refine zW.gr [] rfl rfl rfl (by omega) trivial z01_0 ?_
    rw [hl] at hQ
    rw [b01_f (fun q => by cases q)] at hQ
    exact mP_0 hQ rfl (mf_scr h (scr_tr th_scr (pfr_scr f))) (mgr_o (scr_o (scr_tr th_scr (pfr_scr f)))) ((f.2 41 (by omega) (by omega)).trans (upI_same _ _ _ _))
def cnt1 (c : Int) (l : List Nat) (k : Nat) : Nat := if c = 116 then ct (rn l) k else k
theorem half_I {t : Nat} (h : t < 8) : iI (t : Int) / iI 2 = iI ((t / 2 : Nat) : Int) := by
  rw [iI_div (by omega) (by omega) (by omega) (by omega)]
  exact iI_cg (by omega)
theorem cntd_lp {c : Int} {l : List Nat} (hd : 1 ≤ d) (hM : ML y R) (h1 : 0 ≤ c) (h2 : c < 65536) (hl : spR y I l) (hn : l.length ≤ 120) (h8 : ∀ t, t ∈ l → t < 8) (hQ : Q (.inl (some (zi (iI (cnt1 c l l.length : Nat))))) (I, L, R)) :
    ∀ n k, k + n = l.length → ∀ (x z : Int32), x = iI (cnt1 c l k : Nat) → z = iI (k : Int) → zW 218 d 0 0 4 [some (zr (some y)), some (zi (iI c)), some (zi x), some (zi z)] [] (I, L, R) Q
  | 0, k, hk, x, z, e1, e2 => by
    subst e1; subst e2
    have k0 : R.2.1 y = some (7, 0) := hM.1
    obtain ⟨l1, l2⟩ := hl
    obtain rfl : k = l.length := by omega
    refine zW.gbt [] rfl rfl rfl (by omega) (by simp (disch := omega) only [true_or, or_true, eq_self, Option.some.injEq, Prod.mk.injEq, zall_0, zall_1, zall_2, zob_iff, zar_iff, zis_iff, zkIs_some, zkHas_some, iI_vp, z01_I, z01_bz, zch_I, true_and, and_true, or_false, false_or, and_self, upI_same, upL_same, upI_ne, upL_ne, iI_ixN, zI_mk, zL_mk, zP_mk, zK_mk, zN_mk, zwI_up, zwL_up, zg_some, Nat.reduceMod, Nat.reduceDiv, zcn_I, iI_add, iI_sub, iI_mul, iI_neg, iI_lt, iI_le, iI_eq, iI_lt0, iI_le0, iI_gt0, iI_ge0, iI_eq0, k0] <;> omega) (by simp (disch := omega) only [eq_self, not_true_eq_false, not_false_eq_true, upI_same, upL_same, upI_ne, upL_ne, iI_ixN, zI_mk, zL_mk, zP_mk, zK_mk, zN_mk, zwI_up, zwL_up, zg_some, Nat.reduceMod, Nat.reduceDiv, zcn_I, iI_add, iI_sub, iI_mul, iI_neg, iI_lt, iI_le, iI_eq, iI_lt0, iI_le0, iI_gt0, iI_ge0, iI_eq0, l1] <;> omega) ?_
    exact zW.gr [] rfl rfl rfl (by omega) trivial trivial hQ
  | n + 1, k, hk, x, z, e1, e2 => by
    subst e1; subst e2
    have k0 : R.2.1 y = some (7, 0) := hM.1
    obtain ⟨l1, l2⟩ := hl
    have v1 := l2 k (by omega)
    have t1 := h8 _ (nth_mem (l := l) (i := k) (by omega))
    have p18 : R.1 y 18 = some (y + 1783) := (hM.2.1 18 (by decide)).1; have k18 : R.2.1 (y + 1783) = some (20, 120) := (hM.2.1 18 (by decide)).2
    have NX : ∀ (q : Int32) (e : Nat), q = iI (e : Int) → cnt1 c l (k + 1) = cnt1 c l k + e → zW 218 d 0 0 49 [some (zr (some y)), some (zi (iI c)), some (zi (iI (cnt1 c l k : Nat))), some (zi (iI (k : Int)))] [zi q, zi (iI (cnt1 c l k : Nat))] (I, L, R) Q := fun q e eq he => by
      subst eq
      refine zW.go [4] rfl (by omega) trivial ?_
      exact cntd_lp hd hM h1 h2 ⟨l1, l2⟩ hn h8 hQ n (k + 1) (by omega) _ _ (by rw [iI_add, he]; rfl) (by rw [zcn_I, iI_add]; rfl)
    refine zW.gbf [] rfl rfl rfl (by omega) (by simp (disch := omega) only [true_or, or_true, eq_self, Option.some.injEq, Prod.mk.injEq, zall_0, zall_1, zall_2, zob_iff, zar_iff, zis_iff, zkIs_some, zkHas_some, iI_vp, z01_I, z01_bz, zch_I, true_and, and_true, or_false, false_or, and_self, upI_same, upL_same, upI_ne, upL_ne, iI_ixN, zI_mk, zL_mk, zP_mk, zK_mk, zN_mk, zwI_up, zwL_up, zg_some, Nat.reduceMod, Nat.reduceDiv, zcn_I, iI_add, iI_sub, iI_mul, iI_neg, iI_lt, iI_le, iI_eq, iI_lt0, iI_le0, iI_gt0, iI_ge0, iI_eq0, k0] <;> omega) (by simp (disch := omega) only [eq_self, not_true_eq_false, not_false_eq_true, upI_same, upL_same, upI_ne, upL_ne, iI_ixN, zI_mk, zL_mk, zP_mk, zK_mk, zN_mk, zwI_up, zwL_up, zg_some, Nat.reduceMod, Nat.reduceDiv, zcn_I, iI_add, iI_sub, iI_mul, iI_neg, iI_lt, iI_le, iI_eq, iI_lt0, iI_le0, iI_gt0, iI_ge0, iI_eq0, l1] <;> omega) ?_
    refine zW.gb [] rfl rfl rfl (by omega) trivial (fun h => ?_) (fun h => ?_)
    · simp (disch := omega) only [zcn_I, iI_add, iI_sub, iI_mul, iI_neg, iI_lt, iI_le, iI_eq, iI_lt0, iI_le0, iI_gt0, iI_ge0, iI_eq0] at h
      refine zW.go [49] rfl (by omega) trivial (NX _ 1 (zcn_I _) ?_)
      unfold cnt1
      rw [if_neg (by omega), if_neg (by omega)]
    simp (disch := omega) only [zcn_I, iI_add, iI_sub, iI_mul, iI_neg, iI_lt, iI_le, iI_eq, iI_lt0, iI_le0, iI_gt0, iI_ge0, iI_eq0] at h
    have hc : c = 116 := by omega
    have er : cnt1 c l (k + 1) = cnt1 c l k + (if rn l k then 1 else 0) := by
      unfold cnt1
      rw [if_pos hc, if_pos hc]
      rfl
    refine zW.gb [] rfl rfl rfl (by omega) trivial (fun h2 => ?_) (fun h2 => ?_)
    · simp (disch := omega) only [zcn_I, iI_add, iI_sub, iI_mul, iI_neg, iI_lt, iI_le, iI_eq, iI_lt0, iI_le0, iI_gt0, iI_ge0, iI_eq0] at h2
      refine zW.go [49] rfl (by omega) trivial (NX _ 1 (zcn_I _) ?_)
      rw [er, show rn l k = true by unfold rn; rw [show k = 0 by omega]; rfl]
      rfl
    simp (disch := omega) only [zcn_I, iI_add, iI_sub, iI_mul, iI_neg, iI_lt, iI_le, iI_eq, iI_lt0, iI_le0, iI_gt0, iI_ge0, iI_eq0] at h2
    have v2 := l2 (k - 1) (by omega)
    have t2 := h8 _ (nth_mem (l := l) (i := k - 1) (by omega))
    have e1 : iI (k : Int) - zcn 1 = iI ((k - 1 : Nat) : Int) := by
      rw [zcn_I, iI_sub]
      exact iI_cg (by omega)
    have n2 : ¬ zcn 2 = 0 := by decide +kernel
    have hrn : rn l k = (nth l k / 2 != nth l (k - 1) / 2) := by
      unfold rn
      rw [show (k == 0) = false from by simp; omega]
      rfl
    refine zW.gb [] rfl rfl rfl (by omega) ?_ (fun h3 => ?_) (fun h3 => ?_)
    · rw [e1]
      simp (disch := omega) only [true_or, or_true, eq_self, Option.some.injEq, Prod.mk.injEq, zall_0, zall_1, zall_2, zob_iff, zar_iff, zis_iff, zkIs_some, zkHas_some, iI_vp, z01_I, z01_bz, zch_I, true_and, and_true, or_false, false_or, and_self, upI_same, upL_same, upI_ne, upL_ne, iI_ixN, zI_mk, zL_mk, zP_mk, zK_mk, zN_mk, zwI_up, zwL_up, zg_some, Nat.reduceMod, Nat.reduceDiv, k0, p18, k18, n2, not_false_eq_true, iI_vp]
      omega
    · rw [e1] at h3
      simp (disch := omega) only [upI_same, upL_same, upI_ne, upL_ne, iI_ixN, zI_mk, zL_mk, zP_mk, zK_mk, zN_mk, zwI_up, zwL_up, zg_some, Nat.reduceMod, Nat.reduceDiv, p18, v1, v2] at h3
      rw [zcn_I, half_I t1, half_I t2, iI_eq (by omega) (by omega) (by omega) (by omega)] at h3
      refine zW.go [49] rfl (by omega) trivial (NX _ 1 (zcn_I _) ?_)
      rw [er, hrn, show (nth l k / 2 != nth l (k - 1) / 2) = true by simp; omega]
      rfl
    · rw [e1] at h3
      simp (disch := omega) only [upI_same, upL_same, upI_ne, upL_ne, iI_ixN, zI_mk, zL_mk, zP_mk, zK_mk, zN_mk, zwI_up, zwL_up, zg_some, Nat.reduceMod, Nat.reduceDiv, p18, v1, v2] at h3
      rw [zcn_I, half_I t1, half_I t2, iI_eq (by omega) (by omega) (by omega) (by omega)] at h3
      refine zW.go [49] rfl (by omega) trivial (NX _ 0 (zcn_I _) ?_)
      rw [er, hrn, show (nth l k / 2 != nth l (k - 1) / 2) = false by simp; omega]
      rfl
theorem cntd_ok {c : Int} {x : Int32} {l : List Nat} (hd : 1 ≤ d) (hM : ML y R) (e : x = iI c) (h1 : 0 ≤ c) (h2 : c < 65536) (hl : spR y I l) (hn : l.length ≤ 120) (h8 : ∀ t, t ∈ l → t < 8) (hQ : Q (.inl (some (zi (iI (cnt1 c l l.length : Nat))))) (I, L, R)) : zS 218 d [zr (some y), zi x] (I, L, R) Q := by
  subst e
  refine zW.go [4] rfl (by omega) trivial ?_
  exact cntd_lp hd hM h1 h2 hl hn h8 hQ l.length 0 (by omega) _ _ (by unfold cnt1; split <;> exact zcn_I _) (zcn_I _)
theorem mLength_ok {c : Int} {a : Int32} (hd : 80 ≤ d) (h : mf y T (I, L, R)) (e1 : a = iI c) (h1 : 0 ≤ c) (h2 : c < 65536) (hQ : mP y (I, L, R) (oLength T c) eI Q) : zS 219 d [zr (some y), zi a] (I, L, R) Q := by
  subst e1
  have hM := h.2.1
  have k0 : R.2.1 y = some (7, 0) := hM.1
  have F : ∀ q, tru (¬ (c = 113 ∨ c = 116)) q → zW 219 d 0 0 13 [some (zr (some y)), some (zi (iI c))] [zi q, zr (some y)] (I, L, R) Q := fun q hq => by
    refine zW.gz [] rfl rfl rfl (by omega) trivial ⟨_, rfl, k0⟩ rfl rfl (by decide +kernel) (by decide +kernel) ?_
    refine mThr_ok (k := 1) (by omega) k0 hq (zcn_I _) (fun hb => ?_) (fun hg => ?_)
    · refine zW.gbt [] rfl rfl rfl (by omega) trivial (by simp (disch := omega) only [eq_self, not_true_eq_false, not_false_eq_true, upI_same, upL_same, upI_ne, upL_ne, iI_ixN, zI_mk, zL_mk, zP_mk, zK_mk, zN_mk, zwI_up, zwL_up, zg_some, Nat.reduceMod, Nat.reduceDiv, zcn_I, iI_add, iI_sub, iI_mul, iI_neg, iI_lt, iI_le, iI_eq, iI_lt0, iI_le0, iI_gt0, iI_ge0, iI_eq0] <;> omega) ?_
      refine zW.gr [] rfl rfl rfl (by omega) trivial trivial ?_; rw [zcn_I]
      refine mP_t hQ (c := 0) (v := 0) ?_ (mf_scr h th_scr) (mgr_o (scr_o th_scr)) (upI_same _ _ _ _) 0
      exact if_pos hb
    · refine zW.gbf [] rfl rfl rfl (by omega) trivial (by simp (disch := omega) only [eq_self, not_true_eq_false, not_false_eq_true, upI_same, upL_same, upI_ne, upL_ne, iI_ixN, zI_mk, zL_mk, zP_mk, zK_mk, zN_mk, zwI_up, zwL_up, zg_some, Nat.reduceMod, Nat.reduceDiv, zcn_I, iI_add, iI_sub, iI_mul, iI_neg, iI_lt, iI_le, iI_eq, iI_lt0, iI_le0, iI_gt0, iI_ge0, iI_eq0] <;> omega) ?_
      unfold oLength at hQ
      rw [if_neg hg] at hQ
      have G : ∀ (q : Int32) (o : Option (List Nat)) (I' : Nat → Nat → Int32), spell (tSg T) = o → tru (o = none) q → pfr y (upI I y 41 (iI 0)) I' → (∀ l, o = some l → spR y I' l) → zW 219 d 0 0 33 [some (zr (some y)), some (zi (iI c))] [zi q, zr (some y)] (I', L, R) Q := fun q o I' ho hq f s => by
        have s2 : ∀ w, scr y I L (upI I' y 41 w) L := fun w => scr_tr (scr_tr th_scr (pfr_scr f)) th_scr
        rw [ho] at hQ
        refine zW.gz [] rfl rfl rfl (by omega) trivial ⟨_, rfl, k0⟩ rfl rfl (by decide +kernel) (by decide +kernel) ?_
        refine mThr_ok (k := 2) (by omega) k0 hq (zcn_I _) (fun hb => ?_) (fun hb => ?_)
        · refine zW.gbf [] rfl rfl rfl (by omega) trivial (by simp (disch := omega) only [eq_self, not_true_eq_false, not_false_eq_true, upI_same, upL_same, upI_ne, upL_ne, iI_ixN, zI_mk, zL_mk, zP_mk, zK_mk, zN_mk, zwI_up, zwL_up, zg_some, Nat.reduceMod, Nat.reduceDiv, zcn_I, iI_add, iI_sub, iI_mul, iI_neg, iI_lt, iI_le, iI_eq, iI_lt0, iI_le0, iI_gt0, iI_ge0, iI_eq0] <;> omega) ?_
          refine zW.gr [] rfl rfl rfl (by omega) trivial trivial ?_; rw [zcn_I]
          subst hb
          exact mP_t hQ (c := 1) (v := 0) rfl (mf_scr h (s2 _)) (mgr_o (scr_o (s2 _))) (upI_same _ _ _ _) 0
        · refine zW.gbt [] rfl rfl rfl (by omega) trivial (by simp (disch := omega) only [eq_self, not_true_eq_false, not_false_eq_true, upI_same, upL_same, upI_ne, upL_ne, iI_ixN, zI_mk, zL_mk, zP_mk, zK_mk, zN_mk, zwI_up, zwL_up, zg_some, Nat.reduceMod, Nat.reduceDiv, zcn_I, iI_add, iI_sub, iI_mul, iI_neg, iI_lt, iI_le, iI_eq, iI_lt0, iI_le0, iI_gt0, iI_ge0, iI_eq0] <;> omega) ?_
          cases o with
          | none => exact absurd rfl hb
          | some l =>
            obtain ⟨n1, n2⟩ := spell_ok ho
            have sl := s l rfl
            refine zW.gz [] rfl rfl rfl (by omega) trivial ⟨_, rfl, k0⟩ rfl rfl (by decide +kernel) (by decide +kernel) ?_
            refine cntd_ok (by omega) hM rfl h1 h2 ⟨by rw [upI_ne (by omega)]; exact sl.1, by rw [upI_row (by omega)]; exact sl.2⟩ n1 n2 ?_
            refine zW.gr [] rfl rfl rfl (by omega) trivial trivial ?_
            have e : cnt1 c l l.length = if c = 113 then l.length else ct (rn l) l.length := by
              unfold cnt1
              by_cases q : c = 113
              · rw [if_pos q, if_neg (by omega)]
              · rw [if_neg q, if_pos (by omega)]
            rw [e]
            exact mP_0 hQ rfl (mf_scr h (s2 _)) (mgr_o (scr_o (s2 _))) (upI_same _ _ _ _)
      have hm := mf_scr h (th_scr (v := iI 0) (L := L))
      refine zW.gz [] rfl rfl rfl (by omega) trivial ⟨_, rfl, k0⟩ rfl rfl (by decide +kernel) (by decide +kernel) ?_
      refine mSpel_ok (by omega) hm (fun l hl I' f s => ?_) (fun hl I' f => ?_)
      · refine zW.gbt [] rfl rfl rfl (by omega) trivial (by simp (disch := omega) only [eq_self, not_true_eq_false, not_false_eq_true, upI_same, upL_same, upI_ne, upL_ne, iI_ixN, zI_mk, zL_mk, zP_mk, zK_mk, zN_mk, zwI_up, zwL_up, zg_some, Nat.reduceMod, Nat.reduceDiv, zcn_I, iI_add, iI_sub, iI_mul, iI_neg, iI_lt, iI_le, iI_eq, iI_lt0, iI_le0, iI_gt0, iI_ge0, iI_eq0] <;> omega) ?_
        exact zW.go [33] rfl (by omega) trivial (G _ _ I' hl (tru_f (fun q => by cases q)) f (fun l' e => by cases e; exact s))
      · refine zW.gbf [] rfl rfl rfl (by omega) trivial (by simp (disch := omega) only [eq_self, not_true_eq_false, not_false_eq_true, upI_same, upL_same, upI_ne, upL_ne, iI_ixN, zI_mk, zL_mk, zP_mk, zK_mk, zN_mk, zwI_up, zwL_up, zg_some, Nat.reduceMod, Nat.reduceDiv, zcn_I, iI_add, iI_sub, iI_mul, iI_neg, iI_lt, iI_le, iI_eq, iI_lt0, iI_le0, iI_gt0, iI_ge0, iI_eq0] <;> omega) ?_
        exact zW.go [33] rfl (by omega) trivial (G _ _ I' hl (tru_t rfl) f (fun l' e => by cases e))
  refine zW.gz [] rfl rfl rfl (by omega) trivial trivial rfl rfl (by decide +kernel) (by decide +kernel) ?_
  refine isCnt_ok (by omega) rfl h1 h2 (fun q hq => ?_)
  rcases hq with ⟨g2, rfl⟩ | ⟨g2, rfl⟩
  · refine zW.gbt [] rfl rfl rfl (by omega) trivial (by simp (disch := omega) only [eq_self, not_true_eq_false, not_false_eq_true, upI_same, upL_same, upI_ne, upL_ne, iI_ixN, zI_mk, zL_mk, zP_mk, zK_mk, zN_mk, zwI_up, zwL_up, zg_some, Nat.reduceMod, Nat.reduceDiv, zcn_I, iI_add, iI_sub, iI_mul, iI_neg, iI_lt, iI_le, iI_eq, iI_lt0, iI_le0, iI_gt0, iI_ge0, iI_eq0] <;> omega) ?_
    exact zW.go [13] rfl (by omega) trivial (F _ (tru_f (fun c => c g2)))
  · refine zW.gbf [] rfl rfl rfl (by omega) trivial (by simp (disch := omega) only [eq_self, not_true_eq_false, not_false_eq_true, upI_same, upL_same, upI_ne, upL_ne, iI_ixN, zI_mk, zL_mk, zP_mk, zK_mk, zN_mk, zwI_up, zwL_up, zg_some, Nat.reduceMod, Nat.reduceDiv, zcn_I, iI_add, iI_sub, iI_mul, iI_neg, iI_lt, iI_le, iI_eq, iI_lt0, iI_le0, iI_gt0, iI_ge0, iI_eq0] <;> omega) ?_
    exact zW.go [13] rfl (by omega) trivial (F _ (tru_t g2))
theorem mTurnAt_ok {v : Int} {a : Int32} (hd : 80 ≤ d) (h : mf y T (I, L, R)) (e1 : a = iI v) (h1 : i32 v) (hQ : mP y (I, L, R) (oTurnAt T v) eI Q) : zS 220 d [zr (some y), zi a] (I, L, R) Q := by
  subst e1
  have hM := h.2.1
  have k0 : R.2.1 y = some (7, 0) := hM.1
  have G : ∀ (q : Int32) (o : Option (List Nat)) (I' : Nat → Nat → Int32), spell (tSg T) = o → tru (o = none) q → pfr y I I' → (∀ l, o = some l → spR y I' l) → zW 220 d 0 0 13 [some (zr (some y)), some (zi (iI v))] [zi q, zr (some y)] (I', L, R) Q := fun q o I' ho hq f s => by
    have s2 : ∀ w, scr y I L (upI I' y 41 w) L := fun w => scr_tr (pfr_scr f) th_scr
    have s3 : ∀ u w, scr y I L (upI (upI I' y 41 u) y 41 w) L := fun u w => scr_tr (s2 u) th_scr
    unfold oTurnAt at hQ
    rw [ho] at hQ
    refine zW.gz [] rfl rfl rfl (by omega) trivial ⟨_, rfl, k0⟩ rfl rfl (by decide +kernel) (by decide +kernel) ?_
    refine mThr_ok (k := 1) (by omega) k0 hq (zcn_I _) (fun hb => ?_) (fun hb => ?_)
    · refine zW.gbt [] rfl rfl rfl (by omega) trivial (by simp (disch := omega) only [eq_self, not_true_eq_false, not_false_eq_true, upI_same, upL_same, upI_ne, upL_ne, iI_ixN, zI_mk, zL_mk, zP_mk, zK_mk, zN_mk, zwI_up, zwL_up, zg_some, Nat.reduceMod, Nat.reduceDiv, zcn_I, iI_add, iI_sub, iI_mul, iI_neg, iI_lt, iI_le, iI_eq, iI_lt0, iI_le0, iI_gt0, iI_ge0, iI_eq0] <;> omega) ?_
      refine zW.gr [] rfl rfl rfl (by omega) trivial trivial ?_; rw [zcn_I]
      subst hb
      exact mP_t hQ (c := 0) (v := 0) rfl (mf_scr h (s2 _)) (mgr_o (scr_o (s2 _))) (upI_same _ _ _ _) 0
    · refine zW.gbf [] rfl rfl rfl (by omega) trivial (by simp (disch := omega) only [eq_self, not_true_eq_false, not_false_eq_true, upI_same, upL_same, upI_ne, upL_ne, iI_ixN, zI_mk, zL_mk, zP_mk, zK_mk, zN_mk, zwI_up, zwL_up, zg_some, Nat.reduceMod, Nat.reduceDiv, zcn_I, iI_add, iI_sub, iI_mul, iI_neg, iI_lt, iI_le, iI_eq, iI_lt0, iI_le0, iI_gt0, iI_ge0, iI_eq0] <;> omega) ?_
      cases o with
      | none => exact absurd rfl hb
      | some l =>
        obtain ⟨n1, n2⟩ := spell_ok ho
        have sl := s l rfl
        have sl1 := sl.1
        dsimp only at hQ
        have F : ∀ q, tru (¬ (0 ≤ v ∧ v < l.length)) q → zW 220 d 0 0 40 [some (zr (some y)), some (zi (iI v))] [zi q, zr (some y)] (upI I' y 41 (iI 0), L, R) Q := fun q hq => by
          refine zW.gz [] rfl rfl rfl (by omega) trivial ⟨_, rfl, k0⟩ rfl rfl (by decide +kernel) (by decide +kernel) ?_
          refine mThr_ok (k := 2) (by omega) k0 hq (zcn_I _) (fun hb => ?_) (fun hb => ?_)
          · refine zW.gbf [] rfl rfl rfl (by omega) trivial (by simp (disch := omega) only [eq_self, not_true_eq_false, not_false_eq_true, upI_same, upL_same, upI_ne, upL_ne, iI_ixN, zI_mk, zL_mk, zP_mk, zK_mk, zN_mk, zwI_up, zwL_up, zg_some, Nat.reduceMod, Nat.reduceDiv, zcn_I, iI_add, iI_sub, iI_mul, iI_neg, iI_lt, iI_le, iI_eq, iI_lt0, iI_le0, iI_gt0, iI_ge0, iI_eq0] <;> omega) ?_
            refine zW.gr [] rfl rfl rfl (by omega) trivial trivial ?_; rw [zcn_I]
            exact mP_t hQ (c := 1) (v := 0) (if_pos hb) (mf_scr h (s3 _ _)) (mgr_o (scr_o (s3 _ _))) (upI_same _ _ _ _) 0
          · refine zW.gbt [] rfl rfl rfl (by omega) trivial (by simp (disch := omega) only [eq_self, not_true_eq_false, not_false_eq_true, upI_same, upL_same, upI_ne, upL_ne, iI_ixN, zI_mk, zL_mk, zP_mk, zK_mk, zN_mk, zwI_up, zwL_up, zg_some, Nat.reduceMod, Nat.reduceDiv, zcn_I, iI_add, iI_sub, iI_mul, iI_neg, iI_lt, iI_le, iI_eq, iI_lt0, iI_le0, iI_gt0, iI_ge0, iI_eq0] <;> omega) ?_
            rw [if_neg hb] at hQ
            obtain ⟨j, rfl⟩ : ∃ j : Nat, v = j := ⟨v.toNat, by omega⟩
            rw [show ((j : Int)).toNat = j from rfl] at hQ
            have p18 : R.1 y 18 = some (y + 1783) := (hM.2.1 18 (by decide)).1; have k18 : R.2.1 (y + 1783) = some (20, 120) := (hM.2.1 18 (by decide)).2
            have vj := sl.2 j (by omega)
            refine zW.gr [] rfl rfl rfl (by omega) (by simp (disch := omega) only [true_or, or_true, eq_self, Option.some.injEq, Prod.mk.injEq, zall_0, zall_1, zall_2, zob_iff, zar_iff, zis_iff, zkIs_some, zkHas_some, iI_vp, z01_I, z01_bz, zch_I, true_and, and_true, or_false, false_or, and_self, upI_same, upL_same, upI_ne, upL_ne, iI_ixN, zI_mk, zL_mk, zP_mk, zK_mk, zN_mk, zwI_up, zwL_up, zg_some, Nat.reduceMod, Nat.reduceDiv, zcn_I, iI_add, iI_sub, iI_mul, iI_neg, iI_lt, iI_le, iI_eq, iI_lt0, iI_le0, iI_gt0, iI_ge0, iI_eq0, k0, p18, k18] <;> omega) trivial ?_
            simp (disch := omega) only [upI_same, upL_same, upI_ne, upL_ne, iI_ixN, zI_mk, zL_mk, zP_mk, zK_mk, zN_mk, zwI_up, zwL_up, zg_some, Nat.reduceMod, Nat.reduceDiv, p18, vj]
            exact mP_0 hQ rfl (mf_scr h (s3 _ _)) (mgr_o (scr_o (s3 _ _))) (upI_same _ _ _ _)
        refine zW.gz [] rfl rfl rfl (by omega) (by simp (disch := omega) only [true_or, or_true, eq_self, Option.some.injEq, Prod.mk.injEq, zall_0, zall_1, zall_2, zob_iff, zar_iff, zis_iff, zkIs_some, zkHas_some, iI_vp, z01_I, z01_bz, zch_I, true_and, and_true, or_false, false_or, and_self, upI_same, upL_same, upI_ne, upL_ne, iI_ixN, zI_mk, zL_mk, zP_mk, zK_mk, zN_mk, zwI_up, zwL_up, zg_some, Nat.reduceMod, Nat.reduceDiv, zcn_I, iI_add, iI_sub, iI_mul, iI_neg, iI_lt, iI_le, iI_eq, iI_lt0, iI_le0, iI_gt0, iI_ge0, iI_eq0, k0] <;> omega) trivial rfl rfl (by decide +kernel) (by decide +kernel) ?_
        simp (disch := omega) only [upI_same, upL_same, upI_ne, upL_ne, iI_ixN, zI_mk, zL_mk, zP_mk, zK_mk, zN_mk, zwI_up, zwL_up, zg_some, Nat.reduceMod, Nat.reduceDiv, zcn_I, iI_add, iI_sub, iI_mul, iI_neg, iI_lt, iI_le, iI_eq, iI_lt0, iI_le0, iI_gt0, iI_ge0, iI_eq0, sl1, iI_sub, zcn_I]
        refine mIn_ok (lo := 0) (hi := (l.length : Int) - 1) (by omega) rfl rfl rfl h1 ⟨by omega, by omega⟩ ⟨by omega, by omega⟩ (fun q hq => ?_)
        rcases hq with ⟨g2, rfl⟩ | ⟨g2, rfl⟩
        · refine zW.gbt [] rfl rfl rfl (by omega) trivial (by simp (disch := omega) only [eq_self, not_true_eq_false, not_false_eq_true, upI_same, upL_same, upI_ne, upL_ne, iI_ixN, zI_mk, zL_mk, zP_mk, zK_mk, zN_mk, zwI_up, zwL_up, zg_some, Nat.reduceMod, Nat.reduceDiv, zcn_I, iI_add, iI_sub, iI_mul, iI_neg, iI_lt, iI_le, iI_eq, iI_lt0, iI_le0, iI_gt0, iI_ge0, iI_eq0] <;> omega) ?_
          exact zW.go [40] rfl (by omega) trivial (F _ (tru_f (fun c => c (by omega))))
        · refine zW.gbf [] rfl rfl rfl (by omega) trivial (by simp (disch := omega) only [eq_self, not_true_eq_false, not_false_eq_true, upI_same, upL_same, upI_ne, upL_ne, iI_ixN, zI_mk, zL_mk, zP_mk, zK_mk, zN_mk, zwI_up, zwL_up, zg_some, Nat.reduceMod, Nat.reduceDiv, zcn_I, iI_add, iI_sub, iI_mul, iI_neg, iI_lt, iI_le, iI_eq, iI_lt0, iI_le0, iI_gt0, iI_ge0, iI_eq0] <;> omega) ?_
          exact zW.go [40] rfl (by omega) trivial (F _ (tru_t (fun c => g2 (by omega))))
  refine zW.gz [] rfl rfl rfl (by omega) trivial ⟨_, rfl, k0⟩ rfl rfl (by decide +kernel) (by decide +kernel) ?_
  refine mSpel_ok (by omega) h (fun l hl I' f s => ?_) (fun hl I' f => ?_)
  · refine zW.gbt [] rfl rfl rfl (by omega) trivial (by simp (disch := omega) only [eq_self, not_true_eq_false, not_false_eq_true, upI_same, upL_same, upI_ne, upL_ne, iI_ixN, zI_mk, zL_mk, zP_mk, zK_mk, zN_mk, zwI_up, zwL_up, zg_some, Nat.reduceMod, Nat.reduceDiv, zcn_I, iI_add, iI_sub, iI_mul, iI_neg, iI_lt, iI_le, iI_eq, iI_lt0, iI_le0, iI_gt0, iI_ge0, iI_eq0] <;> omega) ?_
    exact zW.go [13] rfl (by omega) trivial (G _ _ I' hl (tru_f (fun q => by cases q)) f (fun l' e => by cases e; exact s))
  · refine zW.gbf [] rfl rfl rfl (by omega) trivial (by simp (disch := omega) only [eq_self, not_true_eq_false, not_false_eq_true, upI_same, upL_same, upI_ne, upL_ne, iI_ixN, zI_mk, zL_mk, zP_mk, zK_mk, zN_mk, zwI_up, zwL_up, zg_some, Nat.reduceMod, Nat.reduceDiv, zcn_I, iI_add, iI_sub, iI_mul, iI_neg, iI_lt, iI_le, iI_eq, iI_lt0, iI_le0, iI_gt0, iI_ge0, iI_eq0] <;> omega) ?_
    exact zW.go [13] rfl (by omega) trivial (G _ _ I' hl (tru_t rfl) f (fun l' e => by cases e))
end MWD
