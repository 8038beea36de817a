/-! The model's rounds: who goes on, and closing. -/
theorem nBet_alk {w : zRd} {i c : Nat} (hi : i < 12) (hc : c < 12) (h1 : 0 < rMa w i) (h2 : 0 < rMa w c) : nBet w i = nBet w c ↔ rkey w i = rkey w c := by
  constructor
  · intro e
    apply Classical.byContradiction
    intro n
    rcases Int.lt_or_gt_of_ne n with q | q
    · have := ct_lt (a := fun t => decide (0 < rMa w t ∧ rkey w t < rkey w i)) (b := fun t => decide (0 < rMa w t ∧ rkey w t < rkey w c)) (i := i) (n := 12) (fun k _ h => decide_eq_true (by have := of_decide_eq_true h; omega)) hi (decide_eq_false (by omega)) (decide_eq_true ⟨h1, q⟩)
      unfold nBet at e
      omega
    · have := ct_lt (a := fun t => decide (0 < rMa w t ∧ rkey w t < rkey w c)) (b := fun t => decide (0 < rMa w t ∧ rkey w t < rkey w i)) (i := c) (n := 12) (fun k _ h => decide_eq_true (by have := of_decide_eq_true h; omega)) hc (decide_eq_false (by omega)) (decide_eq_true ⟨h2, q⟩)
      unfold nBet at e
      omega
  · intro e
    unfold nBet
    rw [e]
section MRD4
variable {d y : Nat} {T : tfT} {I : Nat → Nat → Int32} {L : Nat → Nat → Int64} {R : zRt} {Q : zO → zM → Prop}
theorem nAlk_n {w : zRd} (hz : ∀ c, tCn T ≤ c → c < 12 → rMa w c = 0) (h12 : tCn T ≤ 12) (c : Nat) : ct (fun i => decide (0 < rMa w i ∧ rkey w i = rkey w c)) (tCn T) = nAlk w c := by
  have := ct_more (b := fun i => decide (0 < rMa w i ∧ rkey w i = rkey w c)) (n := tCn T) (m := 12 - tCn T) (fun k q1 q2 => decide_eq_false (fun q => by rw [hz k q1 (by omega)] at q; omega))
  rw [show tCn T + (12 - tCn T) = 12 by omega] at this
  exact this.symm
theorem mAdv_lp {j c m t mn : Nat} (hd : 5 ≤ d) (h : mf y T (I, L, R)) (hj : j < tRn T) (hc : c < tCn T) (hc0 : 0 < rMa (tRd T j) c) (ht : t ≤ 12) (hmn : mn ≤ 12) (hm : m ≤ 12) (hQ : ∀ q, tru (nBet (tRd T j) c < mn ∧ nBet (tRd T j) c + nAlk (tRd T j) c ≤ t) q → Q (.inl (some (zi q))) (I, L, R)) :
    ∀ n k, k + n = tCn T → ∀ (x z : Int32), x = iI (ct (fun i => decide (0 < rMa (tRd T j) i ∧ rkey (tRd T j) i = rkey (tRd T j) c)) k : Nat) → z = iI (k : Int) → zW 243 d 0 0 85 [some (zr (some y)), some (zi (iI (j : Int))), some (zi (iI (c : Int))), some (zi (iI (m : Int))), some (zi (iI (t : Int))), some (zi (iI (mn : Int))), some (zi (iI (nBet (tRd T j) c : Int))), some (zi x), some (zi z)] [] (I, L, R) Q
  | 0, k, hk, x, z, e1, e2 => by
    subst e1; subst e2
    have k0 : R.2.1 y = some (7, 0) := h.2.1.1
    obtain ⟨-, -, ⟨b1, b2⟩, -⟩ := m_own h
    obtain ⟨j8, ho, hz, -⟩ := m_rd h hj
    have h12 := h.1.2.2.2.1.1
    obtain rfl : k = tCn T := by omega
    have b12 : nBet (tRd T j) c ≤ 12 := ct_le _ _
    have a12 : nAlk (tRd T j) c ≤ 12 := ct_le _ _
    rw [nAlk_n hz h12 c]
    refine zW.gbt [] rfl rfl rfl (by omega) (by simp (disch := omega) only [true_or, or_true, eq_self, Option.some.injEq, Prod.mk.injEq, zall_0, zall_1, zall_2, zob_iff, zar_iff, zis_iff, zkIs_some, zkHas_some, iI_vp, z01_I, z01_bz, zch_I, true_and, and_true, or_false, false_or, and_self, upI_same, upL_same, upI_ne, upL_ne, iI_ixN, zI_mk, zL_mk, zP_mk, zK_mk, zN_mk, zwI_up, zwL_up, zg_some, Nat.reduceMod, Nat.reduceDiv, zcn_I, iI_add, iI_sub, iI_mul, iI_neg, iI_lt, iI_le, iI_eq, iI_lt0, iI_le0, iI_gt0, iI_ge0, iI_eq0, k0] <;> omega) (by simp (disch := omega) only [eq_self, not_true_eq_false, not_false_eq_true, upI_same, upL_same, upI_ne, upL_ne, iI_ixN, zI_mk, zL_mk, zP_mk, zK_mk, zN_mk, zwI_up, zwL_up, zg_some, Nat.reduceMod, Nat.reduceDiv, zcn_I, iI_add, iI_sub, iI_mul, iI_neg, iI_lt, iI_le, iI_eq, iI_lt0, iI_le0, iI_gt0, iI_ge0, iI_eq0, b1] <;> omega) ?_
    refine zW.gb [] rfl rfl rfl (by omega) trivial (fun h' => ?_) (fun h' => ?_) <;> simp (disch := omega) only [zcn_I, iI_add, iI_sub, iI_mul, iI_neg, iI_lt, iI_le, iI_eq, iI_lt0, iI_le0, iI_gt0, iI_ge0, iI_eq0] at h'
    · refine zW.go [158] rfl (by omega) trivial ?_
      refine zW.gr [] rfl rfl rfl (by omega) trivial z01c0 ?_
      exact hQ _ (tru_f (fun q => by omega))
    · refine zW.gb [] rfl rfl rfl (by omega) trivial (fun h2 => ?_) (fun h2 => ?_) <;> simp (disch := omega) only [zcn_I, iI_add, iI_sub, iI_mul, iI_neg, iI_lt, iI_le, iI_eq, iI_lt0, iI_le0, iI_gt0, iI_ge0, iI_eq0] at h2
      · refine zW.go [158] rfl (by omega) trivial ?_
        refine zW.gr [] rfl rfl rfl (by omega) trivial z01c0 ?_
        exact hQ _ (tru_f (fun q => by omega))
      · refine zW.go [158] rfl (by omega) trivial ?_
        refine zW.gr [] rfl rfl rfl (by omega) trivial z01c1 ?_
        exact hQ _ (tru_t ⟨by omega, by omega⟩)
  | n + 1, k, hk, x, z, e1, e2 => by
    subst e1; subst e2
    have hM := h.2.1
    have k0 : R.2.1 y = some (7, 0) := hM.1
    obtain ⟨-, -, ⟨b1, b2⟩, -⟩ := m_own h
    obtain ⟨j8, ho, hz, r1, r2, r3, r4, r5, r6, r7⟩ := m_rd h hj
    have h12 := h.1.2.2.2.1.1
    have ma := (r7 k (by omega)).1
    have hm5 := (ho.2.2.2.2 k (by omega)).1
    have hx5 := mxA_le (rFm (tRd T j))
    have b12 : nBet (tRd T j) c ≤ 12 := ct_le _ _
    have b13 : nBet (tRd T j) k ≤ 12 := ct_le _ _
    have p26 : R.1 y 26 = some (y + 1791) := (hM.2.1 26 (by decide)).1; have k26 : R.2.1 (y + 1791) = some (25, 8) := (hM.2.1 26 (by decide)).2; have q26 : R.1 (y + 1791) (j) = some (y + 1792 + j) := (hM.2.2.2.2.2.2.2.2.2.1 (j) (by omega)).1.trans (congrArg some (by omega)); have j26 : R.2.1 (y + 1792 + j) = some (20, 12) := (congrArg R.2.1 (by omega)).trans (hM.2.2.2.2.2.2.2.2.2.1 (j) (by omega)).2
    have NX : ∀ (u : Int32) (e : Nat), u = iI (e : Int) → ct (fun i => decide (0 < rMa (tRd T j) i ∧ rkey (tRd T j) i = rkey (tRd T j) c)) (k + 1) = ct (fun i => decide (0 < rMa (tRd T j) i ∧ rkey (tRd T j) i = rkey (tRd T j) c)) k + e → zW 243 d 0 0 127 [some (zr (some y)), some (zi (iI (j : Int))), some (zi (iI (c : Int))), some (zi (iI (m : Int))), some (zi (iI (t : Int))), some (zi (iI (mn : Int))), some (zi (iI (nBet (tRd T j) c : Int))), some (zi (iI (ct (fun i => decide (0 < rMa (tRd T j) i ∧ rkey (tRd T j) i = rkey (tRd T j) c)) k : Nat))), some (zi (iI (k : Int)))] [zi u, zi (iI (ct (fun i => decide (0 < rMa (tRd T j) i ∧ rkey (tRd T j) i = rkey (tRd T j) c)) k : Nat))] (I, L, R) Q := fun u e hu he => by
      subst hu
      refine zW.go [85] rfl (by omega) trivial ?_
      exact mAdv_lp hd h hj hc hc0 ht hmn hm hQ n (k + 1) (by omega) _ _ (by rw [iI_add, he]; rfl) (by rw [zcn_I, iI_add]; rfl)
    refine zW.gbf [] rfl rfl rfl (by omega) (by simp (disch := omega) only [true_or, or_true, eq_self, Option.some.injEq, Prod.mk.injEq, zall_0, zall_1, zall_2, zob_iff, zar_iff, zis_iff, zkIs_some, zkHas_some, iI_vp, z01_I, z01_bz, zch_I, true_and, and_true, or_false, false_or, and_self, upI_same, upL_same, upI_ne, upL_ne, iI_ixN, zI_mk, zL_mk, zP_mk, zK_mk, zN_mk, zwI_up, zwL_up, zg_some, Nat.reduceMod, Nat.reduceDiv, zcn_I, iI_add, iI_sub, iI_mul, iI_neg, iI_lt, iI_le, iI_eq, iI_lt0, iI_le0, iI_gt0, iI_ge0, iI_eq0, k0] <;> omega) (by simp (disch := omega) only [eq_self, not_true_eq_false, not_false_eq_true, upI_same, upL_same, upI_ne, upL_ne, iI_ixN, zI_mk, zL_mk, zP_mk, zK_mk, zN_mk, zwI_up, zwL_up, zg_some, Nat.reduceMod, Nat.reduceDiv, zcn_I, iI_add, iI_sub, iI_mul, iI_neg, iI_lt, iI_le, iI_eq, iI_lt0, iI_le0, iI_gt0, iI_ge0, iI_eq0, b1] <;> omega) ?_
    refine zW.gb [] rfl rfl rfl (by omega) (by simp (disch := omega) only [true_or, or_true, eq_self, Option.some.injEq, Prod.mk.injEq, zall_0, zall_1, zall_2, zob_iff, zar_iff, zis_iff, zkIs_some, zkHas_some, iI_vp, z01_I, z01_bz, zch_I, true_and, and_true, or_false, false_or, and_self, upI_same, upL_same, upI_ne, upL_ne, iI_ixN, zI_mk, zL_mk, zP_mk, zK_mk, zN_mk, zwI_up, zwL_up, zg_some, Nat.reduceMod, Nat.reduceDiv, zcn_I, iI_add, iI_sub, iI_mul, iI_neg, iI_lt, iI_le, iI_eq, iI_lt0, iI_le0, iI_gt0, iI_ge0, iI_eq0, k0, p26, k26, q26, j26] <;> omega) (fun h' => ?_) (fun h' => ?_) <;> simp (disch := omega) only [zcn_I, iI_add, iI_sub, iI_mul, iI_neg, iI_lt, iI_le, iI_eq, iI_lt0, iI_le0, iI_gt0, iI_ge0, iI_eq0, upI_same, upL_same, upI_ne, upL_ne, iI_ixN, zI_mk, zL_mk, zP_mk, zK_mk, zN_mk, zwI_up, zwL_up, zg_some, Nat.reduceMod, Nat.reduceDiv, p26, q26, ma] at h'
    · refine zW.go [127] rfl (by omega) trivial (NX _ 0 (zcn_I _) ?_)
      exact congrArg (fun b : Bool => ct (fun i => decide (0 < rMa (tRd T j) i ∧ rkey (tRd T j) i = rkey (tRd T j) c)) k + (if b then 1 else 0)) (decide_eq_false (fun q => by omega))
    · refine zW.gz [] rfl rfl rfl (by omega) trivial ⟨_, rfl, k0⟩ rfl rfl (by decide +kernel) (by decide +kernel) ?_
      refine rankO_ok (by omega) h hj rfl rfl (by omega) ?_
      refine zW.gb [] rfl rfl rfl (by omega) trivial (fun h2 => ?_) (fun h2 => ?_) <;> simp (disch := omega) only [zcn_I, iI_add, iI_sub, iI_mul, iI_neg, iI_lt, iI_le, iI_eq, iI_lt0, iI_le0, iI_gt0, iI_ge0, iI_eq0] at h2
      · refine zW.go [127] rfl (by omega) trivial (NX _ 0 (zcn_I _) ?_)
        exact congrArg (fun b : Bool => ct (fun i => decide (0 < rMa (tRd T j) i ∧ rkey (tRd T j) i = rkey (tRd T j) c)) k + (if b then 1 else 0)) (decide_eq_false (fun q => by
          have := (nBet_alk (i := k) (by omega) (by omega) (by omega) hc0).mpr q.2
          omega))
      · refine zW.go [127] rfl (by omega) trivial (NX _ 1 (zcn_I _) ?_)
        exact congrArg (fun b : Bool => ct (fun i => decide (0 < rMa (tRd T j) i ∧ rkey (tRd T j) i = rkey (tRd T j) c)) k + (if b then 1 else 0)) (decide_eq_true ⟨by omega, (nBet_alk (by omega) (by omega) (by omega) hc0).mp (by omega)⟩)
theorem mAdv_ok {r c m : Int} {a b e : Int32} (hd : 7 ≤ d) (h : mf y T (I, L, R)) (e1 : a = iI r) (e2 : b = iI c) (e3 : e = iI m) (h1 : i32 r) (h2 : i32 c) (h3 : i32 m) (hQ : mP y (I, L, R) (oAdv T r c m) eI Q) : zS 243 d [zr (some y), zi a, zi b, zi e] (I, L, R) Q := by
  subst e1; subst e2; subst e3
  have hM := h.2.1
  have k0 : R.2.1 y = some (7, 0) := hM.1
  refine zW.gz [] rfl rfl rfl (by omega) trivial ⟨_, rfl, k0⟩ rfl rfl (by decide +kernel) (by decide +kernel) ?_
  refine nobody_ok (by omega) h rfl rfl h1 h2 (fun q hq => ?_)
  refine zW.gz [] rfl rfl rfl (by omega) trivial ⟨_, rfl, k0⟩ rfl rfl (by decide +kernel) (by decide +kernel) ?_
  refine mThr_ok (k := 1) (by omega) k0 hq (zcn_I _) (fun hb => ?_) (fun hg => ?_)
  · refine zW.gbt [] rfl rfl rfl (by omega) trivial (by simp (disch := omega) only [eq_self, not_true_eq_false, not_false_eq_true, upI_same, upL_same, upI_ne, upL_ne, iI_ixN, zI_mk, zL_mk, zP_mk, zK_mk, zN_mk, zwI_up, zwL_up, zg_some, Nat.reduceMod, Nat.reduceDiv, zcn_I, iI_add, iI_sub, iI_mul, iI_neg, iI_lt, iI_le, iI_eq, iI_lt0, iI_le0, iI_gt0, iI_ge0, iI_eq0] <;> omega) ?_
    refine zW.gr [] rfl rfl rfl (by omega) trivial z01c0 ?_; rw [zcn_I]
    refine mP_t hQ (c := 0) (v := 0) ?_ (mf_scr h th_scr) (mgr_o (scr_o th_scr)) (upI_same _ _ _ _) 0
    exact onC_no hb
  · obtain ⟨j, k, rfl, rfl, hj, hk, e⟩ := onC_yes hg
    unfold oAdv at hQ
    rw [e] at hQ
    obtain ⟨j8, ho, hz, r1, r2, r3, r4, r5, r6, r7⟩ := m_rd h hj
    have h12 := h.1.2.2.2.1.1
    have ma := (r7 k (by omega)).1
    have hm5 := (ho.2.2.2.2 k (by omega)).1
    have hx5 := mxA_le (rFm (tRd T j))
    have s12 : nSta (tRd T j) ≤ 12 := ct_le _ _
    have b12 : nBet (tRd T j) k ≤ 12 := ct_le _ _
    have p26 : R.1 y 26 = some (y + 1791) := (hM.2.1 26 (by decide)).1; have k26 : R.2.1 (y + 1791) = some (25, 8) := (hM.2.1 26 (by decide)).2; have q26 : R.1 (y + 1791) (j) = some (y + 1792 + j) := (hM.2.2.2.2.2.2.2.2.2.1 (j) (by omega)).1.trans (congrArg some (by omega)); have j26 : R.2.1 (y + 1792 + j) = some (20, 12) := (congrArg R.2.1 (by omega)).trans (hM.2.2.2.2.2.2.2.2.2.1 (j) (by omega)).2
    refine zW.gbf [] rfl rfl rfl (by omega) trivial (by simp (disch := omega) only [eq_self, not_true_eq_false, not_false_eq_true, upI_same, upL_same, upI_ne, upL_ne, iI_ixN, zI_mk, zL_mk, zP_mk, zK_mk, zN_mk, zwI_up, zwL_up, zg_some, Nat.reduceMod, Nat.reduceDiv, zcn_I, iI_add, iI_sub, iI_mul, iI_neg, iI_lt, iI_le, iI_eq, iI_lt0, iI_le0, iI_gt0, iI_ge0, iI_eq0] <;> omega) ?_
    refine zW.gz [] rfl rfl rfl (by omega) trivial trivial rfl rfl (by decide +kernel) (by decide +kernel) ?_
    refine mIn_ok (by omega) rfl (zcn_I _) (zcn_I _) h3 ⟨by omega, by omega⟩ ⟨by omega, by omega⟩ (fun q0 hq0 => ?_)
    have F : ∀ q, tru (¬ (0 ≤ m ∧ m ≤ 12)) q → zW 243 d 0 0 30 [some (zr (some y)), some (zi (iI (j : Int))), some (zi (iI (k : Int))), some (zi (iI m)), none, none, none, none, none] [zi q, zr (some y)] (upI I y 41 (iI 0), L, R) Q := fun q hq => by
      refine zW.gz [] rfl rfl rfl (by omega) trivial ⟨_, rfl, k0⟩ rfl rfl (by decide +kernel) (by decide +kernel) ?_
      refine mThr_ok (k := 2) (by omega) k0 hq (zcn_I _) (fun hb => ?_) (fun hb => ?_)
      · refine zW.gbt [] rfl rfl rfl (by omega) trivial (by simp (disch := omega) only [eq_self, not_true_eq_false, not_false_eq_true, upI_same, upL_same, upI_ne, upL_ne, iI_ixN, zI_mk, zL_mk, zP_mk, zK_mk, zN_mk, zwI_up, zwL_up, zg_some, Nat.reduceMod, Nat.reduceDiv, zcn_I, iI_add, iI_sub, iI_mul, iI_neg, iI_lt, iI_le, iI_eq, iI_lt0, iI_le0, iI_gt0, iI_ge0, iI_eq0] <;> omega) ?_
        refine zW.gr [] rfl rfl rfl (by omega) trivial z01c0 ?_; rw [zcn_I]
        exact mP_t hQ (c := 1) (v := 0) (if_pos hb) (mf_scr h th2_scr) (mgr_o (scr_o th2_scr)) (upI_same _ _ _ _) 0
      · rw [if_neg hb] at hQ
        obtain ⟨m', rfl⟩ : ∃ n : Nat, m = n := ⟨m.toNat, by omega⟩
        rw [show ((m' : Int)).toNat = m' from rfl] at hQ
        have hm2 : mf y T (upI (upI I y 41 (iI 0)) y 41 (iI 0), L, R) := mf_scr h th2_scr
        refine zW.gbf [] rfl rfl rfl (by omega) trivial (by simp (disch := omega) only [eq_self, not_true_eq_false, not_false_eq_true, upI_same, upL_same, upI_ne, upL_ne, iI_ixN, zI_mk, zL_mk, zP_mk, zK_mk, zN_mk, zwI_up, zwL_up, zg_some, Nat.reduceMod, Nat.reduceDiv, zcn_I, iI_add, iI_sub, iI_mul, iI_neg, iI_lt, iI_le, iI_eq, iI_lt0, iI_le0, iI_gt0, iI_ge0, iI_eq0] <;> omega) ?_
        refine zW.gb [] rfl rfl rfl (by omega) (by simp (disch := omega) only [true_or, or_true, eq_self, Option.some.injEq, Prod.mk.injEq, zall_0, zall_1, zall_2, zob_iff, zar_iff, zis_iff, zkIs_some, zkHas_some, iI_vp, z01_I, z01_bz, zch_I, true_and, and_true, or_false, false_or, and_self, upI_same, upL_same, upI_ne, upL_ne, iI_ixN, zI_mk, zL_mk, zP_mk, zK_mk, zN_mk, zwI_up, zwL_up, zg_some, Nat.reduceMod, Nat.reduceDiv, zcn_I, iI_add, iI_sub, iI_mul, iI_neg, iI_lt, iI_le, iI_eq, iI_lt0, iI_le0, iI_gt0, iI_ge0, iI_eq0, k0, p26, k26, q26, j26] <;> omega) (fun h' => ?_) (fun h' => ?_) <;> simp (disch := omega) only [zcn_I, iI_add, iI_sub, iI_mul, iI_neg, iI_lt, iI_le, iI_eq, iI_lt0, iI_le0, iI_gt0, iI_ge0, iI_eq0, upI_same, upL_same, upI_ne, upL_ne, iI_ixN, zI_mk, zL_mk, zP_mk, zK_mk, zN_mk, zwI_up, zwL_up, zg_some, Nat.reduceMod, Nat.reduceDiv, p26, q26, ma] at h'
        · have e34 : (nSta (tRd T j) : Int) * 3 / 4 = ((nSta (tRd T j) * 3 / 4 : Nat) : Int) := by omega
          refine zW.gz [] rfl rfl rfl (by omega) trivial ⟨_, rfl, k0⟩ rfl rfl (by decide +kernel) (by decide +kernel) ?_
          refine mHav_ok (by omega) hm2 hj rfl ?_
          refine zW.gz [] rfl rfl rfl (by omega) (show ¬ zcn 4 = 0 by decide +kernel) ⟨_, rfl, k0⟩ rfl rfl (by decide +kernel) (by decide +kernel) ?_
          have e35 : (3 : Int) * (nSta (tRd T j) : Int) / 4 = ((nSta (tRd T j) * 3 / 4 : Nat) : Int) := by omega
          simp (disch := omega) only [zcn_I, iI_mul, iI_div, e34, e35]
          refine rankO_ok (by omega) hm2 hj rfl rfl (by omega) ?_
          have hmin : (if iI ((nSta (tRd T j) * 3 / 4 : Nat) : Int) < iI (m' : Int) then iI ((nSta (tRd T j) * 3 / 4 : Nat) : Int) else iI (m' : Int)) = iI ((if nSta (tRd T j) * 3 / 4 < m' then nSta (tRd T j) * 3 / 4 else m' : Nat) : Int) := by
            rw [iI_min (by omega) (by omega) (by omega) (by omega)]
            exact iI_cg (by split <;> split <;> omega)
          have hmn : (if nSta (tRd T j) * 3 / 4 < m' then nSta (tRd T j) * 3 / 4 else m') ≤ 12 := by split <;> omega
          refine zW.go [85] rfl (by omega) trivial ?_
          rw [hmin, zcn_I, zcn_I, iI_sub, show ((nBet (tRd T j) k + 1 : Nat) : Int) - 1 = (nBet (tRd T j) k : Int) by omega]
          refine mAdv_lp (by omega) hm2 hj hk (by omega) (by omega) hmn (by omega) (fun q hq => ?_) (tCn T) 0 (by omega) _ _ rfl rfl
          rcases hq with ⟨g, rfl⟩ | ⟨g, rfl⟩
          · rw [b01_t (show rGo (tRd T j) k m' from ⟨by omega, g⟩)] at hQ
            exact mP_0 hQ rfl hm2 (mgr_o (scr_o th2_scr)) (upI_same _ _ _ _)
          · rw [b01_f (show ¬ rGo (tRd T j) k m' from fun q => g q.2)] at hQ
            exact mP_0 hQ rfl hm2 (mgr_o (scr_o th2_scr)) (upI_same _ _ _ _)
        · refine zW.gr [] rfl rfl rfl (by omega) trivial z01c0 ?_; rw [zcn_I]
          rw [b01_f (show ¬ rGo (tRd T j) k m' from fun q => by have := q.1; omega)] at hQ
          exact mP_0 hQ rfl hm2 (mgr_o (scr_o th2_scr)) (upI_same _ _ _ _)
    rcases hq0 with ⟨g, rfl⟩ | ⟨g, rfl⟩
    · refine zW.gbt [] rfl rfl rfl (by omega) trivial (by simp (disch := omega) only [eq_self, not_true_eq_false, not_false_eq_true, upI_same, upL_same, upI_ne, upL_ne, iI_ixN, zI_mk, zL_mk, zP_mk, zK_mk, zN_mk, zwI_up, zwL_up, zg_some, Nat.reduceMod, Nat.reduceDiv, zcn_I, iI_add, iI_sub, iI_mul, iI_neg, iI_lt, iI_le, iI_eq, iI_lt0, iI_le0, iI_gt0, iI_ge0, iI_eq0] <;> omega) ?_
      exact zW.go [30] rfl (by omega) trivial (F _ (tru_f (fun n => n g)))
    · refine zW.gbf [] rfl rfl rfl (by omega) trivial (by simp (disch := omega) only [eq_self, not_true_eq_false, not_false_eq_true, upI_same, upL_same, upI_ne, upL_ne, iI_ixN, zI_mk, zL_mk, zP_mk, zK_mk, zN_mk, zwI_up, zwL_up, zg_some, Nat.reduceMod, Nat.reduceDiv, zcn_I, iI_add, iI_sub, iI_mul, iI_neg, iI_lt, iI_le, iI_eq, iI_lt0, iI_le0, iI_gt0, iI_ge0, iI_eq0] <;> omega) ?_
      exact zW.go [30] rfl (by omega) trivial (F _ (tru_t g))
end MRD4
