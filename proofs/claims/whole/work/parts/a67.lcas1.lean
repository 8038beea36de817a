/-! The law's cases 12 to 23. -/
section LCAS1
variable {b L x m c s : Nat} {xs : Nat → Int32} {Q : zO → zM → Prop}
theorem l12_ok {T : tfT} {M : zM} {v6 v7 v8 : Option zV} (hm : m + 7 ≤ L) (hL : L ≤ 3584) (h : lw b L x xs T T M) (hc : c + 26 ≤ zmc 298) (hs : s + 10831 ≤ zms 298) (hQ : lwK b L x m xs c s Q) : zW 298 2048 c s 992 [some (zr (some b)), some (zr (some x)), some (zr (some (x + 17))), some (zr (some (x + 1958))), some (zr (some (x + 1959))), some (zi (iI (m : Int))), v6, v7, v8] [] M Q := by
  obtain ⟨I, Lg, R⟩ := M
  refine zW.gc [] rfl rfl rfl (by omega) (sc_ar h.2.2.1 hm hL (by decide) (by decide)) trivial (bu1 hc (by decide +kernel)) (bu1 hs (by decide +kernel)) ?_
  refine h266_ok (by omega) h.1 (lw_ro h).1 ((sc_v 1 h.2.2.2.1 hm hL rfl (by decide)).trans (ag_i _)) (ag_r _) (fun M1 k1 f1 w1 => ?_)
  obtain ⟨I1, Lg1, R1⟩ := M1
  have g1 := lw_1 h k1 f1 (by omega)
  refine zW.gc [] rfl rfl rfl (by omega) (sc_ar g1.2.2.1 hm hL (by decide) (by decide)) ⟨_, rfl, (lw_k0 g1).2⟩ (bu2 hc (by decide +kernel)) (bu2 hs (by decide +kernel)) ?_
  refine mCentre_ok (by omega) g1.2.1 ((sc_v 1 g1.2.2.2.1 hm hL rfl (by decide)).trans (ag_i _)) (ag_r _) (fun M2 w k2 f2 t2 w2 => ?_)
  obtain ⟨I2, Lg2, R2⟩ := M2
  obtain ⟨g2, q1, q2⟩ := lw_2 g1 k2 f2
  refine zW.gc [] rfl rfl rfl (by omega) trivial ⟨_, rfl, (lw_k0 g2).2⟩ (bu3 hc (by decide +kernel)) (bu3 hs (by decide +kernel)) ?_
  refine thrown_ok (by omega) (lw_k0 g2).2 t2 ?_
  refine zW.gbt [] rfl rfl rfl (by omega) trivial rfl ?_
  refine zW.gb [] rfl rfl rfl (by omega) trivial (fun g => ?_) (fun g => ?_)
  · exact zW.go [3358] rfl (by omega) trivial (hQ _ _ _ _ _ _ _ (bv3 (by decide +kernel)) (bv3 (by decide +kernel)) g2)
  · have n0 := n0_of b_oCentre (by decide) g
    have e := ((congrFun q1 0).trans (w1 n0)).trans (congrArg cI (w2 n0).symm)
    exact zW.gbt [] rfl rfl rfl (by omega) (oRo_ar (lw_ro g2).1.1) ((lg_cmp_eq _ _).mpr (la0 e)) (zW.go [3358] rfl (by omega) trivial (hQ _ _ _ _ _ _ _ (bv3 (by decide +kernel)) (bv3 (by decide +kernel)) g2))
theorem l13_ok {T : tfT} {M : zM} {v6 v7 v8 : Option zV} (hm : m + 7 ≤ L) (hL : L ≤ 3584) (h : lw b L x xs T T M) (hc : c + 26 ≤ zmc 298) (hs : s + 10831 ≤ zms 298) (hQ : lwK b L x m xs c s Q) : zW 298 2048 c s 1048 [some (zr (some b)), some (zr (some x)), some (zr (some (x + 17))), some (zr (some (x + 1958))), some (zr (some (x + 1959))), some (zi (iI (m : Int))), v6, v7, v8] [] M Q := by
  obtain ⟨I, Lg, R⟩ := M
  refine zW.gc [] rfl rfl rfl (by omega) (sc_ar h.2.2.1 hm hL (by decide) (by decide)) trivial (bu1 hc (by decide +kernel)) (bu1 hs (by decide +kernel)) ?_
  refine h267_ok (by omega) h.1 (lw_ro h).1 ((sc_v 1 h.2.2.2.1 hm hL rfl (by decide)).trans (ag_i _)) (ag_r _) (fun M1 k1 f1 w1 => ?_)
  obtain ⟨I1, Lg1, R1⟩ := M1
  have g1 := lw_1 h k1 f1 (by omega)
  refine zW.gc [] rfl rfl rfl (by omega) (sc_ar g1.2.2.1 hm hL (by decide) (by decide)) ⟨_, rfl, (lw_k0 g1).2⟩ (bu2 hc (by decide +kernel)) (bu2 hs (by decide +kernel)) ?_
  refine mKinds_ok (by omega) g1.2.1 ((sc_v 1 g1.2.2.2.1 hm hL rfl (by decide)).trans (ag_i _)) (ag_r _) (fun M2 w k2 f2 t2 w2 => ?_)
  obtain ⟨I2, Lg2, R2⟩ := M2
  obtain ⟨g2, q1, q2⟩ := lw_2 g1 k2 f2
  refine zW.gc [] rfl rfl rfl (by omega) trivial ⟨_, rfl, (lw_k0 g2).2⟩ (bu3 hc (by decide +kernel)) (bu3 hs (by decide +kernel)) ?_
  refine thrown_ok (by omega) (lw_k0 g2).2 t2 ?_
  refine zW.gbt [] rfl rfl rfl (by omega) trivial rfl ?_
  refine zW.gb [] rfl rfl rfl (by omega) trivial (fun g => ?_) (fun g => ?_)
  · exact zW.go [3358] rfl (by omega) trivial (hQ _ _ _ _ _ _ _ (bv3 (by decide +kernel)) (bv3 (by decide +kernel)) g2)
  · have n0 := n0_of b_oKinds (by decide) g
    have e := ((congrFun q1 0).trans (w1 n0)).trans (congrArg cI (w2 n0).symm)
    exact zW.gbt [] rfl rfl rfl (by omega) (oRo_ar (lw_ro g2).1.1) ((lg_cmp_eq _ _).mpr (la0 e)) (zW.go [3358] rfl (by omega) trivial (hQ _ _ _ _ _ _ _ (bv3 (by decide +kernel)) (bv3 (by decide +kernel)) g2))
theorem l14_ok {T : tfT} {M : zM} {v6 v7 v8 : Option zV} (hm : m + 7 ≤ L) (hL : L ≤ 3584) (h : lw b L x xs T T M) (hc : c + 26 ≤ zmc 298) (hs : s + 10831 ≤ zms 298) (hQ : lwK b L x m xs c s Q) : zW 298 2048 c s 1104 [some (zr (some b)), some (zr (some x)), some (zr (some (x + 17))), some (zr (some (x + 1958))), some (zr (some (x + 1959))), some (zi (iI (m : Int))), v6, v7, v8] [] M Q := by
  obtain ⟨I, Lg, R⟩ := M
  refine zW.gc [] rfl rfl rfl (by omega) (sc_ar h.2.2.1 hm hL (by decide) (by decide)) trivial (bu1 hc (by decide +kernel)) (bu1 hs (by decide +kernel)) ?_
  refine h268_ok (by omega) h.1 (lw_ro h).1 ((sc_v 1 h.2.2.2.1 hm hL rfl (by decide)).trans (ag_i _)) (ag_r _) (fun M1 k1 f1 w1 => ?_)
  obtain ⟨I1, Lg1, R1⟩ := M1
  have g1 := lw_1 h k1 f1 (by omega)
  refine zW.gc [] rfl rfl rfl (by omega) (sc_ar g1.2.2.1 hm hL (by decide) (by decide)) ⟨_, rfl, (lw_k0 g1).2⟩ (bu2 hc (by decide +kernel)) (bu2 hs (by decide +kernel)) ?_
  refine mOdd_ok (by omega) g1.2.1 ((sc_v 1 g1.2.2.2.1 hm hL rfl (by decide)).trans (ag_i _)) (ag_r _) (fun M2 w k2 f2 t2 w2 => ?_)
  obtain ⟨I2, Lg2, R2⟩ := M2
  obtain ⟨g2, q1, q2⟩ := lw_2 g1 k2 f2
  refine zW.gc [] rfl rfl rfl (by omega) trivial ⟨_, rfl, (lw_k0 g2).2⟩ (bu3 hc (by decide +kernel)) (bu3 hs (by decide +kernel)) ?_
  refine thrown_ok (by omega) (lw_k0 g2).2 t2 ?_
  refine zW.gbt [] rfl rfl rfl (by omega) trivial rfl ?_
  refine zW.gb [] rfl rfl rfl (by omega) trivial (fun g => ?_) (fun g => ?_)
  · exact zW.go [3358] rfl (by omega) trivial (hQ _ _ _ _ _ _ _ (bv3 (by decide +kernel)) (bv3 (by decide +kernel)) g2)
  · have n0 := n0_of b_oOdd (by decide) g
    have e := ((congrFun q1 0).trans (w1 n0)).trans (congrArg cB (w2 n0).symm)
    refine zW.gb [] rfl rfl rfl (by omega) (oRo_ar (lw_ro g2).1.1) (fun g' => ?_) (fun g' => ?_)
    · exact zW.gbt [] rfl rfl rfl (by omega) trivial ((lg_cmp_eq _ _).mpr (la0 (e.trans (if_pos g')))) (zW.go [3358] rfl (by omega) trivial (hQ _ _ _ _ _ _ _ (bv3 (by decide +kernel)) (bv3 (by decide +kernel)) g2))
    · exact zW.gbt [] rfl rfl rfl (by omega) trivial ((lg_cmp_eq _ _).mpr (la0 (e.trans (if_neg g')))) (zW.go [3358] rfl (by omega) trivial (hQ _ _ _ _ _ _ _ (bv3 (by decide +kernel)) (bv3 (by decide +kernel)) g2))
theorem l15_ok {T : tfT} {M : zM} {v6 v7 v8 : Option zV} (hm : m + 7 ≤ L) (hL : L ≤ 3584) (h : lw b L x xs T T M) (hc : c + 26 ≤ zmc 298) (hs : s + 10831 ≤ zms 298) (hQ : lwK b L x m xs c s Q) : zW 298 2048 c s 1167 [some (zr (some b)), some (zr (some x)), some (zr (some (x + 17))), some (zr (some (x + 1958))), some (zr (some (x + 1959))), some (zi (iI (m : Int))), v6, v7, v8] [] M Q := by
  obtain ⟨I, Lg, R⟩ := M
  refine zW.gc [] rfl rfl rfl (by omega) (sc_ar h.2.2.1 hm hL (by decide) (by decide)) trivial (bu1 hc (by decide +kernel)) (bu1 hs (by decide +kernel)) ?_
  refine h269_ok (by omega) h.1 (lw_ro h).1 ((sc_v 1 h.2.2.2.1 hm hL rfl (by decide)).trans (ag_i _)) (ag_r _) (fun M1 k1 f1 w1 => ?_)
  obtain ⟨I1, Lg1, R1⟩ := M1
  have g1 := lw_1 h k1 f1 (by omega)
  refine zW.gc [] rfl rfl rfl (by omega) (sc_ar g1.2.2.1 hm hL (by decide) (by decide)) ⟨_, rfl, (lw_k0 g1).2⟩ (bu2 hc (by decide +kernel)) (bu2 hs (by decide +kernel)) ?_
  refine mOrbs_ok (by omega) g1.2.1 ((sc_v 1 g1.2.2.2.1 hm hL rfl (by decide)).trans (ag_i _)) (ag_r _) (fun M2 w k2 f2 t2 w2 => ?_)
  obtain ⟨I2, Lg2, R2⟩ := M2
  obtain ⟨g2, q1, q2⟩ := lw_2 g1 k2 f2
  refine zW.gc [] rfl rfl rfl (by omega) trivial ⟨_, rfl, (lw_k0 g2).2⟩ (bu3 hc (by decide +kernel)) (bu3 hs (by decide +kernel)) ?_
  refine thrown_ok (by omega) (lw_k0 g2).2 t2 ?_
  refine zW.gbt [] rfl rfl rfl (by omega) trivial rfl ?_
  refine zW.gb [] rfl rfl rfl (by omega) trivial (fun g => ?_) (fun g => ?_)
  · exact zW.go [3358] rfl (by omega) trivial (hQ _ _ _ _ _ _ _ (bv3 (by decide +kernel)) (bv3 (by decide +kernel)) g2)
  · have n0 := n0_of b_oOrbs (by decide) g
    have e := ((congrFun q1 0).trans (w1 n0)).trans (congrArg cI (w2 n0).symm)
    exact zW.gbt [] rfl rfl rfl (by omega) (oRo_ar (lw_ro g2).1.1) ((lg_cmp_eq _ _).mpr (la0 e)) (zW.go [3358] rfl (by omega) trivial (hQ _ _ _ _ _ _ _ (bv3 (by decide +kernel)) (bv3 (by decide +kernel)) g2))
theorem l16_ok {T : tfT} {M : zM} {v6 v7 v8 : Option zV} (hm : m + 7 ≤ L) (hL : L ≤ 3584) (h : lw b L x xs T T M) (hc : c + 26 ≤ zmc 298) (hs : s + 10831 ≤ zms 298) (hQ : lwK b L x m xs c s Q) : zW 298 2048 c s 1223 [some (zr (some b)), some (zr (some x)), some (zr (some (x + 17))), some (zr (some (x + 1958))), some (zr (some (x + 1959))), some (zi (iI (m : Int))), v6, v7, v8] [] M Q := by
  obtain ⟨I, Lg, R⟩ := M
  refine zW.gc [] rfl rfl rfl (by omega) (sc_ar h.2.2.1 hm hL (by decide) (by decide)) trivial (bu1 hc (by decide +kernel)) (bu1 hs (by decide +kernel)) ?_
  refine h270_ok (by omega) h.1 (lw_ro h).1 ((sc_v 1 h.2.2.2.1 hm hL rfl (by decide)).trans (ag_i _)) (ag_r _) (fun M1 k1 f1 w1 => ?_)
  obtain ⟨I1, Lg1, R1⟩ := M1
  have g1 := lw_1 h k1 f1 (by omega)
  refine zW.gc [] rfl rfl rfl (by omega) (sc_ar g1.2.2.1 hm hL (by decide) (by decide)) ⟨_, rfl, (lw_k0 g1).2⟩ (bu2 hc (by decide +kernel)) (bu2 hs (by decide +kernel)) ?_
  refine mPer_ok (by omega) g1.2.1 ((sc_v 1 g1.2.2.2.1 hm hL rfl (by decide)).trans (ag_i _)) (ag_r _) (fun M2 w k2 f2 t2 w2 => ?_)
  obtain ⟨I2, Lg2, R2⟩ := M2
  obtain ⟨g2, q1, q2⟩ := lw_2 g1 k2 f2
  refine zW.gc [] rfl rfl rfl (by omega) trivial ⟨_, rfl, (lw_k0 g2).2⟩ (bu3 hc (by decide +kernel)) (bu3 hs (by decide +kernel)) ?_
  refine thrown_ok (by omega) (lw_k0 g2).2 t2 ?_
  refine zW.gbt [] rfl rfl rfl (by omega) trivial rfl ?_
  refine zW.gb [] rfl rfl rfl (by omega) trivial (fun g => ?_) (fun g => ?_)
  · exact zW.go [3358] rfl (by omega) trivial (hQ _ _ _ _ _ _ _ (bv3 (by decide +kernel)) (bv3 (by decide +kernel)) g2)
  · have n0 := n0_of b_oPer (by decide) g
    have e := ((congrFun q1 0).trans (w1 n0)).trans (congrArg cI (w2 n0).symm)
    exact zW.gbt [] rfl rfl rfl (by omega) (oRo_ar (lw_ro g2).1.1) ((lg_cmp_eq _ _).mpr (la0 e)) (zW.go [3358] rfl (by omega) trivial (hQ _ _ _ _ _ _ _ (bv3 (by decide +kernel)) (bv3 (by decide +kernel)) g2))
theorem l17_ok {T : tfT} {M : zM} {v6 v7 v8 : Option zV} (hm : m + 7 ≤ L) (hL : L ≤ 3584) (h : lw b L x xs T T M) (hc : c + 26 ≤ zmc 298) (hs : s + 10831 ≤ zms 298) (hQ : lwK b L x m xs c s Q) : zW 298 2048 c s 1279 [some (zr (some b)), some (zr (some x)), some (zr (some (x + 17))), some (zr (some (x + 1958))), some (zr (some (x + 1959))), some (zi (iI (m : Int))), v6, v7, v8] [] M Q := by
  obtain ⟨I, Lg, R⟩ := M
  refine zW.gc [] rfl rfl rfl (by omega) (sc_ar h.2.2.1 hm hL (by decide) (by decide)) trivial (bu1 hc (by decide +kernel)) (bu1 hs (by decide +kernel)) ?_
  refine h271_ok (by omega) h.1 (lw_ro h).1 ((sc_v 1 h.2.2.2.1 hm hL rfl (by decide)).trans (ag_i _)) (ag_r _) (fun M1 k1 f1 w1 => ?_)
  obtain ⟨I1, Lg1, R1⟩ := M1
  have g1 := lw_1 h k1 f1 (by omega)
  refine zW.gc [] rfl rfl rfl (by omega) (sc_ar g1.2.2.1 hm hL (by decide) (by decide)) ⟨_, rfl, (lw_k0 g1).2⟩ (bu2 hc (by decide +kernel)) (bu2 hs (by decide +kernel)) ?_
  refine mNumb_ok (by omega) g1.2.1 ((sc_v 1 g1.2.2.2.1 hm hL rfl (by decide)).trans (ag_i _)) (ag_r _) (fun M2 w k2 f2 t2 w2 => ?_)
  obtain ⟨I2, Lg2, R2⟩ := M2
  obtain ⟨g2, q1, q2⟩ := lw_2 g1 k2 f2
  refine zW.gc [] rfl rfl rfl (by omega) trivial ⟨_, rfl, (lw_k0 g2).2⟩ (bu3 hc (by decide +kernel)) (bu3 hs (by decide +kernel)) ?_
  refine thrown_ok (by omega) (lw_k0 g2).2 t2 ?_
  refine zW.gbt [] rfl rfl rfl (by omega) trivial rfl ?_
  refine zW.gb [] rfl rfl rfl (by omega) trivial (fun g => ?_) (fun g => ?_)
  · exact zW.go [3358] rfl (by omega) trivial (hQ _ _ _ _ _ _ _ (bv3 (by decide +kernel)) (bv3 (by decide +kernel)) g2)
  · have n0 := n0_of b_oNumb (by decide) g
    have e := ((congrFun q1 0).trans (w1 n0)).trans (congrArg cL (w2 n0).symm)
    exact zW.gbt [] rfl rfl rfl (by omega) (oRo_ar (lw_ro g2).1.1) ((lg_cmp_eq _ _).mpr (la0 e)) (zW.go [3358] rfl (by omega) trivial (hQ _ _ _ _ _ _ _ (bv3 (by decide +kernel)) (bv3 (by decide +kernel)) g2))
theorem l18_ok {T : tfT} {M : zM} {v6 v7 v8 : Option zV} (hm : m + 7 ≤ L) (hL : L ≤ 3584) (h : lw b L x xs T T M) (hc : c + 26 ≤ zmc 298) (hs : s + 10831 ≤ zms 298) (hQ : lwK b L x m xs c s Q) : zW 298 2048 c s 1334 [some (zr (some b)), some (zr (some x)), some (zr (some (x + 17))), some (zr (some (x + 1958))), some (zr (some (x + 1959))), some (zi (iI (m : Int))), v6, v7, v8] [] M Q := by
  obtain ⟨I, Lg, R⟩ := M
  refine zW.gc [] rfl rfl rfl (by omega) ⟨sc_ar h.2.2.1 hm hL (by decide) (by decide), sc_ar h.2.2.1 hm hL (by decide) (by decide), sc_ar h.2.2.1 hm hL (by decide) (by decide)⟩ trivial (bu1 hc (by decide +kernel)) (bu1 hs (by decide +kernel)) ?_
  refine h272_ok (by omega) h.1 (lw_ro h).1 ((sc_v 1 h.2.2.2.1 hm hL rfl (by decide)).trans (ag_i _)) ((sL_e (sc_v 2 h.2.2.2.1 hm hL rfl (by decide)) (sc_v 3 h.2.2.2.1 hm hL rfl (by decide))).trans (ag_l _)) (ag_r _) (ag_l0 _) (ag_l1 _) (fun M1 k1 f1 w1 => ?_)
  obtain ⟨I1, Lg1, R1⟩ := M1
  have g1 := lw_1 h k1 f1 (by omega)
  refine zW.gc [] rfl rfl rfl (by omega) ⟨sc_ar g1.2.2.1 hm hL (by decide) (by decide), sc_ar g1.2.2.1 hm hL (by decide) (by decide), sc_ar g1.2.2.1 hm hL (by decide) (by decide)⟩ ⟨_, rfl, (lw_k0 g1).2⟩ (bu2 hc (by decide +kernel)) (bu2 hs (by decide +kernel)) ?_
  refine mToN_ok (by omega) g1.2.1 ((sc_v 1 g1.2.2.2.1 hm hL rfl (by decide)).trans (ag_i _)) (ag_r _) ((sL_e (sc_v 2 g1.2.2.2.1 hm hL rfl (by decide)) (sc_v 3 g1.2.2.2.1 hm hL rfl (by decide))).trans (ag_l _)) (ag_l0 _) (ag_l1 _) (fun M2 w k2 f2 t2 w2 => ?_)
  obtain ⟨I2, Lg2, R2⟩ := M2
  obtain ⟨g2, q1, q2⟩ := lw_2 g1 k2 f2
  refine zW.gc [] rfl rfl rfl (by omega) trivial ⟨_, rfl, (lw_k0 g2).2⟩ (bu3 hc (by decide +kernel)) (bu3 hs (by decide +kernel)) ?_
  refine thrown_ok (by omega) (lw_k0 g2).2 t2 ?_
  refine zW.gbt [] rfl rfl rfl (by omega) trivial rfl ?_
  refine zW.gb [] rfl rfl rfl (by omega) trivial (fun g => ?_) (fun g => ?_)
  · exact zW.go [3358] rfl (by omega) trivial (hQ _ _ _ _ _ _ _ (bv3 (by decide +kernel)) (bv3 (by decide +kernel)) g2)
  · have n0 := n0_of b_oToNum (by decide) g
    have e := ((congrFun q1 0).trans (w1 n0)).trans (congrArg cI (w2 n0).symm)
    exact zW.gbt [] rfl rfl rfl (by omega) (oRo_ar (lw_ro g2).1.1) ((lg_cmp_eq _ _).mpr (la0 e)) (zW.go [3358] rfl (by omega) trivial (hQ _ _ _ _ _ _ _ (bv3 (by decide +kernel)) (bv3 (by decide +kernel)) g2))
theorem l19_ok {T : tfT} {M : zM} {v6 v7 v8 : Option zV} (hm : m + 7 ≤ L) (hL : L ≤ 3584) (h : lw b L x xs T T M) (hc : c + 26 ≤ zmc 298) (hs : s + 10831 ≤ zms 298) (hQ : lwK b L x m xs c s Q) : zW 298 2048 c s 1434 [some (zr (some b)), some (zr (some x)), some (zr (some (x + 17))), some (zr (some (x + 1958))), some (zr (some (x + 1959))), some (zi (iI (m : Int))), v6, v7, v8] [] M Q := by
  obtain ⟨I, Lg, R⟩ := M
  refine zW.gc [] rfl rfl rfl (by omega) ⟨sc_ar h.2.2.1 hm hL (by decide) (by decide), sc_ar h.2.2.1 hm hL (by decide) (by decide)⟩ trivial (bu1 hc (by decide +kernel)) (bu1 hs (by decide +kernel)) ?_
  refine h273_ok (by omega) h.1 (lw_ro h).1 ((sc_v 1 h.2.2.2.1 hm hL rfl (by decide)).trans (ag_i _)) ((sc_v 2 h.2.2.2.1 hm hL rfl (by decide)).trans (ag_i _)) (ag_r _) (ag_r _) (fun M1 k1 f1 w1 => ?_)
  obtain ⟨I1, Lg1, R1⟩ := M1
  have g1 := lw_1 h k1 f1 (by omega)
  refine zW.gc [] rfl rfl rfl (by omega) ⟨sc_ar g1.2.2.1 hm hL (by decide) (by decide), sc_ar g1.2.2.1 hm hL (by decide) (by decide)⟩ ⟨_, rfl, (lw_k0 g1).2⟩ (bu2 hc (by decide +kernel)) (bu2 hs (by decide +kernel)) ?_
  refine mScr_ok (by omega) g1.2.1 ((sc_v 1 g1.2.2.2.1 hm hL rfl (by decide)).trans (ag_i _)) ((sc_v 2 g1.2.2.2.1 hm hL rfl (by decide)).trans (ag_i _)) (ag_r _) (ag_r _) (fun M2 w k2 f2 t2 w2 => ?_)
  obtain ⟨I2, Lg2, R2⟩ := M2
  obtain ⟨g2, q1, q2⟩ := lw_2 g1 k2 f2
  refine zW.gc [] rfl rfl rfl (by omega) trivial ⟨_, rfl, (lw_k0 g2).2⟩ (bu3 hc (by decide +kernel)) (bu3 hs (by decide +kernel)) ?_
  refine thrown_ok (by omega) (lw_k0 g2).2 t2 ?_
  refine zW.gbt [] rfl rfl rfl (by omega) trivial rfl ?_
  refine zW.gb [] rfl rfl rfl (by omega) trivial (fun g => ?_) (fun g => ?_)
  · exact zW.go [3358] rfl (by omega) trivial (hQ _ _ _ _ _ _ _ (bv3 (by decide +kernel)) (bv3 (by decide +kernel)) g2)
  · have n0 := n0_of b_oScr (by decide) g
    have e := ((congrFun q1 0).trans (w1 n0)).trans (congrArg cL (w2 n0).symm)
    exact zW.gbt [] rfl rfl rfl (by omega) (oRo_ar (lw_ro g2).1.1) ((lg_cmp_eq _ _).mpr (la0 e)) (zW.go [3358] rfl (by omega) trivial (hQ _ _ _ _ _ _ _ (bv3 (by decide +kernel)) (bv3 (by decide +kernel)) g2))
theorem l20_ok {T : tfT} {M : zM} {v6 v7 v8 : Option zV} (hm : m + 7 ≤ L) (hL : L ≤ 3584) (h : lw b L x xs T T M) (hc : c + 26 ≤ zmc 298) (hs : s + 10831 ≤ zms 298) (hQ : lwK b L x m xs c s Q) : zW 298 2048 c s 1501 [some (zr (some b)), some (zr (some x)), some (zr (some (x + 17))), some (zr (some (x + 1958))), some (zr (some (x + 1959))), some (zi (iI (m : Int))), v6, v7, v8] [] M Q := by
  obtain ⟨I, Lg, R⟩ := M
  refine zW.gc [] rfl rfl rfl (by omega) ⟨sc_ar h.2.2.1 hm hL (by decide) (by decide), sc_ar h.2.2.1 hm hL (by decide) (by decide)⟩ trivial (bu1 hc (by decide +kernel)) (bu1 hs (by decide +kernel)) ?_
  refine h274_ok (by omega) h.1 (lw_ro h).1 ((sc_v 1 h.2.2.2.1 hm hL rfl (by decide)).trans (ag_i _)) ((congrArg (fun q : Int32 => (q.toUInt32 % 65536).toInt32) (sc_v 2 h.2.2.2.1 hm hL rfl (by decide))).trans (ag_c _)) (ag_r _) (ag_c0 _) (ag_c1 _) (fun M1 k1 f1 w1 => ?_)
  obtain ⟨I1, Lg1, R1⟩ := M1
  have g1 := lw_1 h k1 f1 (by omega)
  refine zW.gc [] rfl rfl rfl (by omega) ⟨sc_ar g1.2.2.1 hm hL (by decide) (by decide), sc_ar g1.2.2.1 hm hL (by decide) (by decide)⟩ ⟨_, rfl, (lw_k0 g1).2⟩ (bu2 hc (by decide +kernel)) (bu2 hs (by decide +kernel)) ?_
  refine mDist_ok (by omega) g1.2.1 ((sc_v 1 g1.2.2.2.1 hm hL rfl (by decide)).trans (ag_i _)) ((congrArg (fun q : Int32 => (q.toUInt32 % 65536).toInt32) (sc_v 2 g1.2.2.2.1 hm hL rfl (by decide))).trans (ag_c _)) (ag_r _) (ag_c0 _) (ag_c1 _) (fun M2 w k2 f2 t2 w2 => ?_)
  obtain ⟨I2, Lg2, R2⟩ := M2
  obtain ⟨g2, q1, q2⟩ := lw_2 g1 k2 f2
  refine zW.gc [] rfl rfl rfl (by omega) trivial ⟨_, rfl, (lw_k0 g2).2⟩ (bu3 hc (by decide +kernel)) (bu3 hs (by decide +kernel)) ?_
  refine thrown_ok (by omega) (lw_k0 g2).2 t2 ?_
  refine zW.gbt [] rfl rfl rfl (by omega) trivial rfl ?_
  refine zW.gb [] rfl rfl rfl (by omega) trivial (fun g => ?_) (fun g => ?_)
  · exact zW.go [3358] rfl (by omega) trivial (hQ _ _ _ _ _ _ _ (bv3 (by decide +kernel)) (bv3 (by decide +kernel)) g2)
  · have n0 := n0_of b_oDist (by decide) g
    have e := ((congrFun q1 0).trans (w1 n0)).trans (congrArg cI (w2 n0).symm)
    exact zW.gbt [] rfl rfl rfl (by omega) (oRo_ar (lw_ro g2).1.1) ((lg_cmp_eq _ _).mpr (la0 e)) (zW.go [3358] rfl (by omega) trivial (hQ _ _ _ _ _ _ _ (bv3 (by decide +kernel)) (bv3 (by decide +kernel)) g2))
theorem l21_ok {T : tfT} {M : zM} {v6 v7 v8 : Option zV} (hm : m + 7 ≤ L) (hL : L ≤ 3584) (h : lw b L x xs T T M) (hc : c + 26 ≤ zmc 298) (hs : s + 10831 ≤ zms 298) (hQ : lwK b L x m xs c s Q) : zW 298 2048 c s 1571 [some (zr (some b)), some (zr (some x)), some (zr (some (x + 17))), some (zr (some (x + 1958))), some (zr (some (x + 1959))), some (zi (iI (m : Int))), v6, v7, v8] [] M Q := by
  obtain ⟨I, Lg, R⟩ := M
  refine zW.gc [] rfl rfl rfl (by omega) ⟨sc_ar h.2.2.1 hm hL (by decide) (by decide), sc_ar h.2.2.1 hm hL (by decide) (by decide)⟩ trivial (bu1 hc (by decide +kernel)) (bu1 hs (by decide +kernel)) ?_
  refine h275_ok (by omega) h.1 (lw_ro h).1 ((sc_v 1 h.2.2.2.1 hm hL rfl (by decide)).trans (ag_i _)) ((congrArg (fun q : Int32 => (q.toUInt32 % 65536).toInt32) (sc_v 2 h.2.2.2.1 hm hL rfl (by decide))).trans (ag_c _)) (ag_r _) (ag_c0 _) (ag_c1 _) (fun M1 k1 f1 w1 => ?_)
  obtain ⟨I1, Lg1, R1⟩ := M1
  have g1 := lw_1 h k1 f1 (by omega)
  refine zW.gc [] rfl rfl rfl (by omega) ⟨sc_ar g1.2.2.1 hm hL (by decide) (by decide), sc_ar g1.2.2.1 hm hL (by decide) (by decide)⟩ ⟨_, rfl, (lw_k0 g1).2⟩ (bu2 hc (by decide +kernel)) (bu2 hs (by decide +kernel)) ?_
  refine mGod_ok (by omega) g1.2.1 ((sc_v 1 g1.2.2.2.1 hm hL rfl (by decide)).trans (ag_i _)) ((congrArg (fun q : Int32 => (q.toUInt32 % 65536).toInt32) (sc_v 2 g1.2.2.2.1 hm hL rfl (by decide))).trans (ag_c _)) (ag_r _) (ag_c0 _) (ag_c1 _) (fun M2 w k2 f2 t2 w2 => ?_)
  obtain ⟨I2, Lg2, R2⟩ := M2
  obtain ⟨g2, q1, q2⟩ := lw_2 g1 k2 f2
  refine zW.gc [] rfl rfl rfl (by omega) trivial ⟨_, rfl, (lw_k0 g2).2⟩ (bu3 hc (by decide +kernel)) (bu3 hs (by decide +kernel)) ?_
  refine thrown_ok (by omega) (lw_k0 g2).2 t2 ?_
  refine zW.gbt [] rfl rfl rfl (by omega) trivial rfl ?_
  refine zW.gb [] rfl rfl rfl (by omega) trivial (fun g => ?_) (fun g => ?_)
  · exact zW.go [3358] rfl (by omega) trivial (hQ _ _ _ _ _ _ _ (bv3 (by decide +kernel)) (bv3 (by decide +kernel)) g2)
  · have n0 := n0_of b_oGod (by decide) g
    have e := ((congrFun q1 0).trans (w1 n0)).trans (congrArg cI (w2 n0).symm)
    exact zW.gbt [] rfl rfl rfl (by omega) (oRo_ar (lw_ro g2).1.1) ((lg_cmp_eq _ _).mpr (la0 e)) (zW.go [3358] rfl (by omega) trivial (hQ _ _ _ _ _ _ _ (bv3 (by decide +kernel)) (bv3 (by decide +kernel)) g2))
theorem l22_ok {T : tfT} {M : zM} {v6 v7 v8 : Option zV} (hm : m + 7 ≤ L) (hL : L ≤ 3584) (h : lw b L x xs T T M) (hc : c + 26 ≤ zmc 298) (hs : s + 10831 ≤ zms 298) (hQ : lwK b L x m xs c s Q) : zW 298 2048 c s 1641 [some (zr (some b)), some (zr (some x)), some (zr (some (x + 17))), some (zr (some (x + 1958))), some (zr (some (x + 1959))), some (zi (iI (m : Int))), v6, v7, v8] [] M Q := by
  obtain ⟨I, Lg, R⟩ := M
  refine zW.gc [] rfl rfl rfl (by omega) ⟨sc_ar h.2.2.1 hm hL (by decide) (by decide), sc_ar h.2.2.1 hm hL (by decide) (by decide), sc_ar h.2.2.1 hm hL (by decide) (by decide)⟩ trivial (bu1 hc (by decide +kernel)) (bu1 hs (by decide +kernel)) ?_
  refine h276_ok (by omega) h.1 (lw_ro h).1 ((sc_v 1 h.2.2.2.1 hm hL rfl (by decide)).trans (ag_i _)) ((congrArg (fun q : Int32 => (q.toUInt32 % 65536).toInt32) (sc_v 2 h.2.2.2.1 hm hL rfl (by decide))).trans (ag_c _)) ((sc_v 3 h.2.2.2.1 hm hL rfl (by decide)).trans (ag_i _)) (ag_r _) (ag_c0 _) (ag_c1 _) (ag_r _) (fun M1 k1 f1 w1 => ?_)
  obtain ⟨I1, Lg1, R1⟩ := M1
  have g1 := lw_1 h k1 f1 (by omega)
  refine zW.gc [] rfl rfl rfl (by omega) ⟨sc_ar g1.2.2.1 hm hL (by decide) (by decide), sc_ar g1.2.2.1 hm hL (by decide) (by decide), sc_ar g1.2.2.1 hm hL (by decide) (by decide)⟩ ⟨_, rfl, (lw_k0 g1).2⟩ (bu2 hc (by decide +kernel)) (bu2 hs (by decide +kernel)) ?_
  refine mMany_ok (by omega) g1.2.1 ((sc_v 1 g1.2.2.2.1 hm hL rfl (by decide)).trans (ag_i _)) ((congrArg (fun q : Int32 => (q.toUInt32 % 65536).toInt32) (sc_v 2 g1.2.2.2.1 hm hL rfl (by decide))).trans (ag_c _)) ((sc_v 3 g1.2.2.2.1 hm hL rfl (by decide)).trans (ag_i _)) (ag_r _) (ag_c0 _) (ag_c1 _) (ag_r _) (fun M2 w k2 f2 t2 w2 => ?_)
  obtain ⟨I2, Lg2, R2⟩ := M2
  obtain ⟨g2, q1, q2⟩ := lw_2 g1 k2 f2
  refine zW.gc [] rfl rfl rfl (by omega) trivial ⟨_, rfl, (lw_k0 g2).2⟩ (bu3 hc (by decide +kernel)) (bu3 hs (by decide +kernel)) ?_
  refine thrown_ok (by omega) (lw_k0 g2).2 t2 ?_
  refine zW.gbt [] rfl rfl rfl (by omega) trivial rfl ?_
  refine zW.gb [] rfl rfl rfl (by omega) trivial (fun g => ?_) (fun g => ?_)
  · exact zW.go [3358] rfl (by omega) trivial (hQ _ _ _ _ _ _ _ (bv3 (by decide +kernel)) (bv3 (by decide +kernel)) g2)
  · have n0 := n0_of b_oMany (by decide) g
    have e := ((congrFun q1 0).trans (w1 n0)).trans (congrArg cI (w2 n0).symm)
    exact zW.gbt [] rfl rfl rfl (by omega) (oRo_ar (lw_ro g2).1.1) ((lg_cmp_eq _ _).mpr (la0 e)) (zW.go [3358] rfl (by omega) trivial (hQ _ _ _ _ _ _ _ (bv3 (by decide +kernel)) (bv3 (by decide +kernel)) g2))
theorem l23_ok {T : tfT} {M : zM} {v6 v7 v8 : Option zV} (hm : m + 7 ≤ L) (hL : L ≤ 3584) (h : lw b L x xs T T M) (hc : c + 26 ≤ zmc 298) (hs : s + 10831 ≤ zms 298) (hQ : lwK b L x m xs c s Q) : zW 298 2048 c s 1723 [some (zr (some b)), some (zr (some x)), some (zr (some (x + 17))), some (zr (some (x + 1958))), some (zr (some (x + 1959))), some (zi (iI (m : Int))), v6, v7, v8] [] M Q := by
  obtain ⟨I, Lg, R⟩ := M
  refine zW.gc [] rfl rfl rfl (by omega) ⟨sc_ar h.2.2.1 hm hL (by decide) (by decide), sc_ar h.2.2.1 hm hL (by decide) (by decide)⟩ trivial (bu1 hc (by decide +kernel)) (bu1 hs (by decide +kernel)) ?_
  refine h277_ok (by omega) h.1 (lw_ro h).1 ((sc_v 1 h.2.2.2.1 hm hL rfl (by decide)).trans (ag_i _)) ((sc_v 2 h.2.2.2.1 hm hL rfl (by decide)).trans (ag_i _)) (ag_r _) (ag_r _) (fun M1 k1 f1 w1 => ?_)
  obtain ⟨I1, Lg1, R1⟩ := M1
  have g1 := lw_1 h k1 f1 (by omega)
  refine zW.gc [] rfl rfl rfl (by omega) ⟨sc_ar g1.2.2.1 hm hL (by decide) (by decide), sc_ar g1.2.2.1 hm hL (by decide) (by decide)⟩ ⟨_, rfl, (lw_k0 g1).2⟩ (bu2 hc (by decide +kernel)) (bu2 hs (by decide +kernel)) ?_
  refine mSearch_ok (by omega) g1.2.1 ((sc_v 1 g1.2.2.2.1 hm hL rfl (by decide)).trans (ag_i _)) ((sc_v 2 g1.2.2.2.1 hm hL rfl (by decide)).trans (ag_i _)) (ag_r _) (ag_r _) (fun M2 w k2 f2 t2 w2 => ?_)
  obtain ⟨I2, Lg2, R2⟩ := M2
  obtain ⟨g2, q1, q2⟩ := lw_2 g1 k2 f2
  refine zW.gc [] rfl rfl rfl (by omega) trivial ⟨_, rfl, (lw_k0 g2).2⟩ (bu3 hc (by decide +kernel)) (bu3 hs (by decide +kernel)) ?_
  refine thrown_ok (by omega) (lw_k0 g2).2 t2 ?_
  refine zW.gbt [] rfl rfl rfl (by omega) trivial rfl ?_
  refine zW.gb [] rfl rfl rfl (by omega) trivial (fun g => ?_) (fun g => ?_)
  · exact zW.go [3358] rfl (by omega) trivial (hQ _ _ _ _ _ _ _ (bv3 (by decide +kernel)) (bv3 (by decide +kernel)) g2)
  · have n0 := n0_of b_oSearch (by decide) g
    have e := ((congrFun q1 0).trans (w1 n0)).trans (congrArg cI (w2 n0).symm)
    exact zW.gbt [] rfl rfl rfl (by omega) (oRo_ar (lw_ro g2).1.1) ((lg_cmp_eq _ _).mpr (la0 e)) (zW.go [3358] rfl (by omega) trivial (hQ _ _ _ _ _ _ _ (bv3 (by decide +kernel)) (bv3 (by decide +kernel)) g2))
end LCAS1
