/-! The law's cases 24 to 35. -/
section LCAS2
variable {b L x m c s : Nat} {xs : Nat → Int32} {Q : zO → zM → Prop}
theorem l24_ok {T : tfT} {M : zM} {v6 v7 v8 : Option zV} (hm : m + 7 ≤ L) (hL : L ≤ 3584) (h : lw b L x xs T T M) (hc : c + 26 ≤ zmc 298) (hs : s + 10831 ≤ zms 298) (hQ : lwK b L x m xs c s Q) : zW 298 2048 c s 1791 [some (zr (some b)), some (zr (some x)), some (zr (some (x + 17))), some (zr (some (x + 1958))), some (zr (some (x + 1959))), some (zi (iI (m : Int))), v6, v7, v8] [] M Q := by
  obtain ⟨I, Lg, R⟩ := M
  refine zW.gc [] rfl rfl rfl (by omega) ⟨sc_ar h.2.2.1 hm hL (by decide) (by decide), sc_ar h.2.2.1 hm hL (by decide) (by decide), sc_ar h.2.2.1 hm hL (by decide) (by decide)⟩ trivial (bu1 hc (by decide +kernel)) (bu1 hs (by decide +kernel)) ?_
  refine h278_ok (by omega) h.1 (lw_ro h).1 ((sc_v 1 h.2.2.2.1 hm hL rfl (by decide)).trans (ag_i _)) ((sc_v 2 h.2.2.2.1 hm hL rfl (by decide)).trans (ag_i _)) ((sc_v 3 h.2.2.2.1 hm hL rfl (by decide)).trans (ag_i _)) (ag_r _) (ag_r _) (ag_r _) (fun M1 k1 f1 w1 => ?_)
  obtain ⟨I1, Lg1, R1⟩ := M1
  have g1 := lw_1 h k1 f1 (by omega)
  refine zW.gc [] rfl rfl rfl (by omega) ⟨sc_ar g1.2.2.1 hm hL (by decide) (by decide), sc_ar g1.2.2.1 hm hL (by decide) (by decide), sc_ar g1.2.2.1 hm hL (by decide) (by decide)⟩ ⟨_, rfl, (lw_k0 g1).2⟩ (bu2 hc (by decide +kernel)) (bu2 hs (by decide +kernel)) ?_
  refine mSeaAt_ok (by omega) g1.2.1 ((sc_v 1 g1.2.2.2.1 hm hL rfl (by decide)).trans (ag_i _)) ((sc_v 2 g1.2.2.2.1 hm hL rfl (by decide)).trans (ag_i _)) ((sc_v 3 g1.2.2.2.1 hm hL rfl (by decide)).trans (ag_i _)) (ag_r _) (ag_r _) (ag_r _) (fun M2 w k2 f2 t2 w2 => ?_)
  obtain ⟨I2, Lg2, R2⟩ := M2
  obtain ⟨g2, q1, q2⟩ := lw_2 g1 k2 f2
  refine zW.gc [] rfl rfl rfl (by omega) trivial ⟨_, rfl, (lw_k0 g2).2⟩ (bu3 hc (by decide +kernel)) (bu3 hs (by decide +kernel)) ?_
  refine thrown_ok (by omega) (lw_k0 g2).2 t2 ?_
  refine zW.gbt [] rfl rfl rfl (by omega) trivial rfl ?_
  refine zW.gb [] rfl rfl rfl (by omega) trivial (fun g => ?_) (fun g => ?_)
  · exact zW.go [3358] rfl (by omega) trivial (hQ _ _ _ _ _ _ _ (bv3 (by decide +kernel)) (bv3 (by decide +kernel)) g2)
  · have n0 := n0_of b_oSeaAt (by decide) g
    have e := ((congrFun q1 0).trans (w1 n0)).trans (congrArg cI (w2 n0).symm)
    exact zW.gbt [] rfl rfl rfl (by omega) (oRo_ar (lw_ro g2).1.1) ((lg_cmp_eq _ _).mpr (la0 e)) (zW.go [3358] rfl (by omega) trivial (hQ _ _ _ _ _ _ _ (bv3 (by decide +kernel)) (bv3 (by decide +kernel)) g2))
theorem l25_ok {T : tfT} {M : zM} {v6 v7 v8 : Option zV} (hm : m + 7 ≤ L) (hL : L ≤ 3584) (h : lw b L x xs T T M) (hc : c + 26 ≤ zmc 298) (hs : s + 10831 ≤ zms 298) (hQ : lwK b L x m xs c s Q) : zW 298 2048 c s 1871 [some (zr (some b)), some (zr (some x)), some (zr (some (x + 17))), some (zr (some (x + 1958))), some (zr (some (x + 1959))), some (zi (iI (m : Int))), v6, v7, v8] [] M Q := by
  obtain ⟨I, Lg, R⟩ := M
  refine zW.gc [] rfl rfl rfl (by omega) (sc_ar h.2.2.1 hm hL (by decide) (by decide)) trivial (bu1 hc (by decide +kernel)) (bu1 hs (by decide +kernel)) ?_
  refine h279_ok (by omega) h.1 (lw_ro h).1 ((congrArg (fun q : Int32 => (q.toUInt32 % 65536).toInt32) (sc_v 1 h.2.2.2.1 hm hL rfl (by decide))).trans (ag_c _)) (ag_c0 _) (ag_c1 _) (fun M1 k1 f1 w1 => ?_)
  obtain ⟨I1, Lg1, R1⟩ := M1
  have g1 := lw_1 h k1 f1 (by omega)
  refine zW.gc [] rfl rfl rfl (by omega) (sc_ar g1.2.2.1 hm hL (by decide) (by decide)) ⟨_, rfl, (lw_k0 g1).2⟩ (bu2 hc (by decide +kernel)) (bu2 hs (by decide +kernel)) ?_
  refine mType_ok (by omega) g1.2.1 ((congrArg (fun q : Int32 => (q.toUInt32 % 65536).toInt32) (sc_v 1 g1.2.2.2.1 hm hL rfl (by decide))).trans (ag_c _)) (ag_c0 _) (ag_c1 _) (fun M2 w k2 f2 t2 w2 => ?_)
  obtain ⟨I2, Lg2, R2⟩ := M2
  obtain ⟨g2, q1, q2⟩ := lw_2 g1 k2 f2
  refine zW.gc [] rfl rfl rfl (by omega) trivial ⟨_, rfl, (lw_k0 g2).2⟩ (bu3 hc (by decide +kernel)) (bu3 hs (by decide +kernel)) ?_
  refine thrown_ok (by omega) (lw_k0 g2).2 t2 ?_
  refine zW.gbt [] rfl rfl rfl (by omega) trivial rfl ?_
  refine zW.gb [] rfl rfl rfl (by omega) trivial (fun g => ?_) (fun g => ?_)
  · exact zW.go [3358] rfl (by omega) trivial (hQ _ _ _ _ _ _ _ (bv3 (by decide +kernel)) (bv3 (by decide +kernel)) g2)
  · have n0 := n0_of b_oType (by decide) g
    have e := ((congrFun q1 0).trans (w1 n0)).trans (congrArg cI (w2 n0).symm)
    exact zW.gbt [] rfl rfl rfl (by omega) (oRo_ar (lw_ro g2).1.1) ((lg_cmp_eq _ _).mpr (la0 e)) (zW.go [3358] rfl (by omega) trivial (hQ _ _ _ _ _ _ _ (bv3 (by decide +kernel)) (bv3 (by decide +kernel)) g2))
theorem l26_ok {T : tfT} {M : zM} {v6 v7 v8 : Option zV} (hm : m + 7 ≤ L) (hL : L ≤ 3584) (h : lw b L x xs T T M) (hc : c + 26 ≤ zmc 298) (hs : s + 10831 ≤ zms 298) (hQ : lwK b L x m xs c s Q) : zW 298 2048 c s 1929 [some (zr (some b)), some (zr (some x)), some (zr (some (x + 17))), some (zr (some (x + 1958))), some (zr (some (x + 1959))), some (zi (iI (m : Int))), v6, v7, v8] [] M Q := by
  obtain ⟨I, Lg, R⟩ := M
  refine zW.gc [] rfl rfl rfl (by omega) trivial ⟨_, rfl, (lw_k0 h).1⟩ (bu1 hc (by decide +kernel)) (bu1 hs (by decide +kernel)) ?_
  refine wipe_ok (by omega) h.1 (tP_h (n := 0) (Nat.le_refl _) (fun M1 w1 T1 e1 k1 f1 => ?_) (fun c' _ _ _ q => absurd q (Nat.not_lt_zero _)))
  obtain ⟨I1, Lg1, R1⟩ := M1
  have g1 := lw_1 (o := x + 1958) h k1 (tfr_h f1) (Nat.le_refl _)
  refine zW.gc [] rfl rfl rfl (by omega) trivial ⟨_, rfl, (lw_k0 g1).2⟩ (bu2 hc (by decide +kernel)) (bu2 hs (by decide +kernel)) ?_
  refine mWipe_ok (by omega) g1.2.1 (fun M2 w k2 f2 t2 w2 => ?_)
  obtain ⟨I2, Lg2, R2⟩ := M2
  obtain ⟨g2, -, -⟩ := lw_2 g1 k2 f2
  have w2 := w2 rfl
  rw [e1] at g2 w2
  exact zW.gbt [] rfl rfl rfl (by omega) trivial (congrArg iI w2.symm) (hQ _ _ _ _ _ _ _ (bv2 (by decide +kernel)) (bv2 (by decide +kernel)) g2)
theorem l27_ok {T : tfT} {M : zM} {v6 v7 v8 : Option zV} (hm : m + 7 ≤ L) (hL : L ≤ 3584) (h : lw b L x xs T T M) (hc : c + 26 ≤ zmc 298) (hs : s + 10831 ≤ zms 298) (hQ : lwK b L x m xs c s Q) : zW 298 2048 c s 1942 [some (zr (some b)), some (zr (some x)), some (zr (some (x + 17))), some (zr (some (x + 1958))), some (zr (some (x + 1959))), some (zi (iI (m : Int))), v6, v7, v8] [] M Q := by
  obtain ⟨I, Lg, R⟩ := M
  refine zW.gc [] rfl rfl rfl (by omega) trivial ⟨_, rfl, (lw_k0 h).1⟩ (bu1 hc (by decide +kernel)) (bu1 hs (by decide +kernel)) ?_
  refine isWordT_ok (by omega) h.1 (tP_h (n := 0) (Nat.le_refl _) (fun M1 w1 T1 e1 k1 f1 => ?_) (fun c' _ _ _ q => absurd q (Nat.not_lt_zero _)))
  obtain ⟨I1, Lg1, R1⟩ := M1
  have g1 := lw_1 (o := x + 1958) h k1 (tfr_h f1) (Nat.le_refl _)
  refine zW.gc [] rfl rfl rfl (by omega) trivial ⟨_, rfl, (lw_k0 g1).2⟩ (bu2 hc (by decide +kernel)) (bu2 hs (by decide +kernel)) ?_
  refine mIsWord_ok (by omega) g1.2.1 (fun M2 w k2 f2 t2 w2 => ?_)
  obtain ⟨I2, Lg2, R2⟩ := M2
  obtain ⟨g2, -, -⟩ := lw_2 g1 k2 f2
  have w2 := w2 rfl
  rw [e1] at g2 w2
  exact zW.gbt [] rfl rfl rfl (by omega) trivial (congrArg iI w2.symm) (hQ _ _ _ _ _ _ _ (bv2 (by decide +kernel)) (bv2 (by decide +kernel)) g2)
theorem l28_ok {T : tfT} {M : zM} {v6 v7 v8 : Option zV} (hm : m + 7 ≤ L) (hL : L ≤ 3584) (h : lw b L x xs T T M) (hc : c + 26 ≤ zmc 298) (hs : s + 10831 ≤ zms 298) (hQ : lwK b L x m xs c s Q) : zW 298 2048 c s 1955 [some (zr (some b)), some (zr (some x)), some (zr (some (x + 17))), some (zr (some (x + 1958))), some (zr (some (x + 1959))), some (zi (iI (m : Int))), v6, v7, v8] [] M Q := by
  obtain ⟨I, Lg, R⟩ := M
  refine zW.gc [] rfl rfl rfl (by omega) (sc_ar h.2.2.1 hm hL (by decide) (by decide)) trivial (bu1 hc (by decide +kernel)) (bu1 hs (by decide +kernel)) ?_
  refine h280_ok (by omega) h.1 (lw_ro h).1 ((congrArg (fun q : Int32 => (q.toUInt32 % 65536).toInt32) (sc_v 1 h.2.2.2.1 hm hL rfl (by decide))).trans (ag_c _)) (ag_c0 _) (ag_c1 _) (fun M1 k1 f1 w1 => ?_)
  obtain ⟨I1, Lg1, R1⟩ := M1
  have g1 := lw_1 h k1 f1 (by omega)
  refine zW.gc [] rfl rfl rfl (by omega) (sc_ar g1.2.2.1 hm hL (by decide) (by decide)) ⟨_, rfl, (lw_k0 g1).2⟩ (bu2 hc (by decide +kernel)) (bu2 hs (by decide +kernel)) ?_
  refine mLength_ok (by omega) g1.2.1 ((congrArg (fun q : Int32 => (q.toUInt32 % 65536).toInt32) (sc_v 1 g1.2.2.2.1 hm hL rfl (by decide))).trans (ag_c _)) (ag_c0 _) (ag_c1 _) (fun M2 w k2 f2 t2 w2 => ?_)
  obtain ⟨I2, Lg2, R2⟩ := M2
  obtain ⟨g2, q1, q2⟩ := lw_2 g1 k2 f2
  refine zW.gc [] rfl rfl rfl (by omega) trivial ⟨_, rfl, (lw_k0 g2).2⟩ (bu3 hc (by decide +kernel)) (bu3 hs (by decide +kernel)) ?_
  refine thrown_ok (by omega) (lw_k0 g2).2 t2 ?_
  refine zW.gbt [] rfl rfl rfl (by omega) trivial rfl ?_
  refine zW.gb [] rfl rfl rfl (by omega) trivial (fun g => ?_) (fun g => ?_)
  · exact zW.go [3358] rfl (by omega) trivial (hQ _ _ _ _ _ _ _ (bv3 (by decide +kernel)) (bv3 (by decide +kernel)) g2)
  · have n0 := n0_of b_oLength (by decide) g
    have e := ((congrFun q1 0).trans (w1 n0)).trans (congrArg cI (w2 n0).symm)
    exact zW.gbt [] rfl rfl rfl (by omega) (oRo_ar (lw_ro g2).1.1) ((lg_cmp_eq _ _).mpr (la0 e)) (zW.go [3358] rfl (by omega) trivial (hQ _ _ _ _ _ _ _ (bv3 (by decide +kernel)) (bv3 (by decide +kernel)) g2))
theorem l29_ok {T : tfT} {M : zM} {v6 v7 v8 : Option zV} (hm : m + 7 ≤ L) (hL : L ≤ 3584) (h : lw b L x xs T T M) (hc : c + 26 ≤ zmc 298) (hs : s + 10831 ≤ zms 298) (hQ : lwK b L x m xs c s Q) : zW 298 2048 c s 2013 [some (zr (some b)), some (zr (some x)), some (zr (some (x + 17))), some (zr (some (x + 1958))), some (zr (some (x + 1959))), some (zi (iI (m : Int))), v6, v7, v8] [] M Q := by
  obtain ⟨I, Lg, R⟩ := M
  refine zW.gc [] rfl rfl rfl (by omega) (sc_ar h.2.2.1 hm hL (by decide) (by decide)) trivial (bu1 hc (by decide +kernel)) (bu1 hs (by decide +kernel)) ?_
  refine h281_ok (by omega) h.1 (lw_ro h).1 ((sc_v 1 h.2.2.2.1 hm hL rfl (by decide)).trans (ag_i _)) (ag_r _) (fun M1 k1 f1 w1 => ?_)
  obtain ⟨I1, Lg1, R1⟩ := M1
  have g1 := lw_1 h k1 f1 (by omega)
  refine zW.gc [] rfl rfl rfl (by omega) (sc_ar g1.2.2.1 hm hL (by decide) (by decide)) ⟨_, rfl, (lw_k0 g1).2⟩ (bu2 hc (by decide +kernel)) (bu2 hs (by decide +kernel)) ?_
  refine mTurnAt_ok (by omega) g1.2.1 ((sc_v 1 g1.2.2.2.1 hm hL rfl (by decide)).trans (ag_i _)) (ag_r _) (fun M2 w k2 f2 t2 w2 => ?_)
  obtain ⟨I2, Lg2, R2⟩ := M2
  obtain ⟨g2, q1, q2⟩ := lw_2 g1 k2 f2
  refine zW.gc [] rfl rfl rfl (by omega) trivial ⟨_, rfl, (lw_k0 g2).2⟩ (bu3 hc (by decide +kernel)) (bu3 hs (by decide +kernel)) ?_
  refine thrown_ok (by omega) (lw_k0 g2).2 t2 ?_
  refine zW.gbt [] rfl rfl rfl (by omega) trivial rfl ?_
  refine zW.gb [] rfl rfl rfl (by omega) trivial (fun g => ?_) (fun g => ?_)
  · exact zW.go [3358] rfl (by omega) trivial (hQ _ _ _ _ _ _ _ (bv3 (by decide +kernel)) (bv3 (by decide +kernel)) g2)
  · have n0 := n0_of b_oTurnAt (by decide) g
    have e := ((congrFun q1 0).trans (w1 n0)).trans (congrArg cI (w2 n0).symm)
    exact zW.gbt [] rfl rfl rfl (by omega) (oRo_ar (lw_ro g2).1.1) ((lg_cmp_eq _ _).mpr (la0 e)) (zW.go [3358] rfl (by omega) trivial (hQ _ _ _ _ _ _ _ (bv3 (by decide +kernel)) (bv3 (by decide +kernel)) g2))
theorem l30_ok {T : tfT} {M : zM} {v6 v7 v8 : Option zV} (hm : m + 7 ≤ L) (hL : L ≤ 3584) (h : lw b L x xs T T M) (hc : c + 26 ≤ zmc 298) (hs : s + 10831 ≤ zms 298) (hQ : lwK b L x m xs c s Q) : zW 298 2048 c s 2069 [some (zr (some b)), some (zr (some x)), some (zr (some (x + 17))), some (zr (some (x + 1958))), some (zr (some (x + 1959))), some (zi (iI (m : Int))), v6, v7, v8] [] M Q := by
  obtain ⟨I, Lg, R⟩ := M
  refine zW.gc [] rfl rfl rfl (by omega) (sc_ar h.2.2.1 hm hL (by decide) (by decide)) trivial (bu1 hc (by decide +kernel)) (bu1 hs (by decide +kernel)) ?_
  refine h282_ok (by omega) h.1 (lw_ro h).1 ((sc_v 1 h.2.2.2.1 hm hL rfl (by decide)).trans (ag_i _)) (ag_r _) (fun M1 k1 f1 w1 => ?_)
  obtain ⟨I1, Lg1, R1⟩ := M1
  have g1 := lw_1 h k1 f1 (by omega)
  refine zW.gc [] rfl rfl rfl (by omega) (sc_ar g1.2.2.1 hm hL (by decide) (by decide)) ⟨_, rfl, (lw_k0 g1).2⟩ (bu2 hc (by decide +kernel)) (bu2 hs (by decide +kernel)) ?_
  refine mApply_ok (by omega) g1.2.1 ((sc_v 1 g1.2.2.2.1 hm hL rfl (by decide)).trans (ag_i _)) (ag_r _) (fun M2 w k2 f2 t2 w2 => ?_)
  obtain ⟨I2, Lg2, R2⟩ := M2
  obtain ⟨g2, q1, q2⟩ := lw_2 g1 k2 f2
  refine zW.gc [] rfl rfl rfl (by omega) trivial ⟨_, rfl, (lw_k0 g2).2⟩ (bu3 hc (by decide +kernel)) (bu3 hs (by decide +kernel)) ?_
  refine thrown_ok (by omega) (lw_k0 g2).2 t2 ?_
  refine zW.gbt [] rfl rfl rfl (by omega) trivial rfl ?_
  refine zW.gb [] rfl rfl rfl (by omega) trivial (fun g => ?_) (fun g => ?_)
  · exact zW.go [3358] rfl (by omega) trivial (hQ _ _ _ _ _ _ _ (bv3 (by decide +kernel)) (bv3 (by decide +kernel)) g2)
  · have n0 := n0_of b_oApply (by decide) g
    have e := ((congrFun q1 0).trans (w1 n0)).trans (congrArg cB (w2 n0).symm)
    refine zW.gb [] rfl rfl rfl (by omega) (oRo_ar (lw_ro g2).1.1) (fun g' => ?_) (fun g' => ?_)
    · exact zW.gbt [] rfl rfl rfl (by omega) trivial ((lg_cmp_eq _ _).mpr (la0 (e.trans (if_pos g')))) (zW.go [3358] rfl (by omega) trivial (hQ _ _ _ _ _ _ _ (bv3 (by decide +kernel)) (bv3 (by decide +kernel)) g2))
    · exact zW.gbt [] rfl rfl rfl (by omega) trivial ((lg_cmp_eq _ _).mpr (la0 (e.trans (if_neg g')))) (zW.go [3358] rfl (by omega) trivial (hQ _ _ _ _ _ _ _ (bv3 (by decide +kernel)) (bv3 (by decide +kernel)) g2))
theorem l31_ok {T : tfT} {M : zM} {v6 v7 v8 : Option zV} (hm : m + 7 ≤ L) (hL : L ≤ 3584) (h : lw b L x xs T T M) (hc : c + 26 ≤ zmc 298) (hs : s + 10831 ≤ zms 298) (hQ : lwK b L x m xs c s Q) : zW 298 2048 c s 2132 [some (zr (some b)), some (zr (some x)), some (zr (some (x + 17))), some (zr (some (x + 1958))), some (zr (some (x + 1959))), some (zi (iI (m : Int))), v6, v7, v8] [] M Q := by
  obtain ⟨I, Lg, R⟩ := M
  refine zW.gc [] rfl rfl rfl (by omega) (sc_ar h.2.2.1 hm hL (by decide) (by decide)) trivial (bu1 hc (by decide +kernel)) (bu1 hs (by decide +kernel)) ?_
  refine h283_ok (by omega) h.1 (lw_ro h).1 ((sc_v 1 h.2.2.2.1 hm hL rfl (by decide)).trans (ag_i _)) (ag_r _) (fun M1 k1 f1 w1 => ?_)
  obtain ⟨I1, Lg1, R1⟩ := M1
  have g1 := lw_1 h k1 f1 (by omega)
  refine zW.gc [] rfl rfl rfl (by omega) (sc_ar g1.2.2.1 hm hL (by decide) (by decide)) ⟨_, rfl, (lw_k0 g1).2⟩ (bu2 hc (by decide +kernel)) (bu2 hs (by decide +kernel)) ?_
  refine mComp_ok (by omega) g1.2.1 ((sc_v 1 g1.2.2.2.1 hm hL rfl (by decide)).trans (ag_i _)) (ag_r _) (fun M2 w k2 f2 t2 w2 => ?_)
  obtain ⟨I2, Lg2, R2⟩ := M2
  obtain ⟨g2, q1, q2⟩ := lw_2 g1 k2 f2
  refine zW.gc [] rfl rfl rfl (by omega) trivial ⟨_, rfl, (lw_k0 g2).2⟩ (bu3 hc (by decide +kernel)) (bu3 hs (by decide +kernel)) ?_
  refine thrown_ok (by omega) (lw_k0 g2).2 t2 ?_
  refine zW.gbt [] rfl rfl rfl (by omega) trivial rfl ?_
  refine zW.gb [] rfl rfl rfl (by omega) trivial (fun g => ?_) (fun g => ?_)
  · exact zW.go [3358] rfl (by omega) trivial (hQ _ _ _ _ _ _ _ (bv3 (by decide +kernel)) (bv3 (by decide +kernel)) g2)
  · have n0 := n0_of b_oComp (by decide) g
    have e := ((congrFun q1 0).trans (w1 n0)).trans (congrArg cI (w2 n0).symm)
    exact zW.gbt [] rfl rfl rfl (by omega) (oRo_ar (lw_ro g2).1.1) ((lg_cmp_eq _ _).mpr (la0 e)) (zW.go [3358] rfl (by omega) trivial (hQ _ _ _ _ _ _ _ (bv3 (by decide +kernel)) (bv3 (by decide +kernel)) g2))
theorem l32_ok {T : tfT} {M : zM} {v6 v7 v8 : Option zV} (hm : m + 7 ≤ L) (hL : L ≤ 3584) (h : lw b L x xs T T M) (hc : c + 26 ≤ zmc 298) (hs : s + 10831 ≤ zms 298) (hQ : lwK b L x m xs c s Q) : zW 298 2048 c s 2188 [some (zr (some b)), some (zr (some x)), some (zr (some (x + 17))), some (zr (some (x + 1958))), some (zr (some (x + 1959))), some (zi (iI (m : Int))), v6, v7, v8] [] M Q := by
  obtain ⟨I, Lg, R⟩ := M
  refine zW.gc [] rfl rfl rfl (by omega) ⟨sc_ar h.2.2.1 hm hL (by decide) (by decide), sc_ar h.2.2.1 hm hL (by decide) (by decide), sc_ar h.2.2.1 hm hL (by decide) (by decide)⟩ trivial (bu1 hc (by decide +kernel)) (bu1 hs (by decide +kernel)) ?_
  refine h284_ok (by omega) h.1 (lw_ro h).1 ((congrArg (fun q : Int32 => (q.toUInt32 % 65536).toInt32) (sc_v 1 h.2.2.2.1 hm hL rfl (by decide))).trans (ag_c _)) ((sc_v 2 h.2.2.2.1 hm hL rfl (by decide)).trans (ag_i _)) ((sc_v 3 h.2.2.2.1 hm hL rfl (by decide)).trans (ag_i _)) (ag_c0 _) (ag_c1 _) (ag_r _) (ag_r _) (fun M1 k1 f1 w1 => ?_)
  obtain ⟨I1, Lg1, R1⟩ := M1
  have g1 := lw_1 h k1 f1 (by omega)
  refine zW.gc [] rfl rfl rfl (by omega) ⟨sc_ar g1.2.2.1 hm hL (by decide) (by decide), sc_ar g1.2.2.1 hm hL (by decide) (by decide), sc_ar g1.2.2.1 hm hL (by decide) (by decide)⟩ ⟨_, rfl, (lw_k0 g1).2⟩ (bu2 hc (by decide +kernel)) (bu2 hs (by decide +kernel)) ?_
  refine mRound_ok (by omega) g1.2.1 ((congrArg (fun q : Int32 => (q.toUInt32 % 65536).toInt32) (sc_v 1 g1.2.2.2.1 hm hL rfl (by decide))).trans (ag_c _)) ((sc_v 2 g1.2.2.2.1 hm hL rfl (by decide)).trans (ag_i _)) ((sc_v 3 g1.2.2.2.1 hm hL rfl (by decide)).trans (ag_i _)) (ag_c0 _) (ag_c1 _) (ag_r _) (ag_r _) (fun M2 w k2 f2 t2 w2 => ?_)
  obtain ⟨I2, Lg2, R2⟩ := M2
  obtain ⟨g2, q1, q2⟩ := lw_2 g1 k2 f2
  refine zW.gc [] rfl rfl rfl (by omega) trivial ⟨_, rfl, (lw_k0 g2).2⟩ (bu3 hc (by decide +kernel)) (bu3 hs (by decide +kernel)) ?_
  refine thrown_ok (by omega) (lw_k0 g2).2 t2 ?_
  refine zW.gbt [] rfl rfl rfl (by omega) trivial rfl ?_
  refine zW.gb [] rfl rfl rfl (by omega) trivial (fun g => ?_) (fun g => ?_)
  · exact zW.go [3358] rfl (by omega) trivial (hQ _ _ _ _ _ _ _ (bv3 (by decide +kernel)) (bv3 (by decide +kernel)) g2)
  · have n0 := n0_of b_oRnd (by decide) g
    have e := ((congrFun q1 0).trans (w1 n0)).trans (congrArg cI (w2 n0).symm)
    exact zW.gbt [] rfl rfl rfl (by omega) (oRo_ar (lw_ro g2).1.1) ((lg_cmp_eq _ _).mpr (la0 e)) (zW.go [3358] rfl (by omega) trivial (hQ _ _ _ _ _ _ _ (bv3 (by decide +kernel)) (bv3 (by decide +kernel)) g2))
theorem l33_ok {T : tfT} {M : zM} {v6 v7 v8 : Option zV} (hm : m + 7 ≤ L) (hL : L ≤ 3584) (h : lw b L x xs T T M) (hc : c + 26 ≤ zmc 298) (hs : s + 10831 ≤ zms 298) (hQ : lwK b L x m xs c s Q) : zW 298 2048 c s 2270 [some (zr (some b)), some (zr (some x)), some (zr (some (x + 17))), some (zr (some (x + 1958))), some (zr (some (x + 1959))), some (zi (iI (m : Int))), v6, v7, v8] [] M Q := by
  obtain ⟨I, Lg, R⟩ := M
  refine zW.gb [] rfl rfl rfl (by omega) ⟨sc_ar h.2.2.1 hm hL (by decide) (by decide), sc_ar h.2.2.1 hm hL (by decide) (by decide), sc_ar h.2.2.1 hm hL (by decide) (by decide), sc_ar h.2.2.1 hm hL (by decide) (by decide), sc_ar h.2.2.1 hm hL (by decide) (by decide), sc_ar h.2.2.1 hm hL (by decide) (by decide)⟩ (fun gb => ?_) (fun gb => ?_)
  · have gb := (sc_v 6 h.2.2.2.1 hm hL rfl (by decide)).symm.trans gb
    refine zW.gc [] rfl rfl rfl (by omega) trivial trivial (bu1 hc (by decide +kernel)) (bu1 hs (by decide +kernel)) ?_
    refine h285_ok (by omega) h.1 (lw_ro h).1 ((sc_v 1 h.2.2.2.1 hm hL rfl (by decide)).trans (ag_i _)) ((sc_v 2 h.2.2.2.1 hm hL rfl (by decide)).trans (ag_i _)) ((sc_v 3 h.2.2.2.1 hm hL rfl (by decide)).trans (ag_i _)) ((sc_v 4 h.2.2.2.1 hm hL rfl (by decide)).trans (ag_i _)) ((sc_v 5 h.2.2.2.1 hm hL rfl (by decide)).trans (ag_i _)) (zcn_I _) (ag_r _) (ag_r _) (ag_r _) (ag_r _) (ag_r _) ⟨by decide, by decide⟩ (fun M1 k1 f1 w1 => ?_)
    obtain ⟨I1, Lg1, R1⟩ := M1
    have g1 := lw_1 h k1 f1 (by omega)
    refine zW.gbt [] rfl rfl rfl (by omega) ⟨sc_ar g1.2.2.1 hm hL (by decide) (by decide), sc_ar g1.2.2.1 hm hL (by decide) (by decide), sc_ar g1.2.2.1 hm hL (by decide) (by decide), sc_ar g1.2.2.1 hm hL (by decide) (by decide), sc_ar g1.2.2.1 hm hL (by decide) (by decide), sc_ar g1.2.2.1 hm hL (by decide) (by decide)⟩ ((sc_v 6 g1.2.2.2.1 hm hL rfl (by decide)).trans gb) ?_
    refine zW.gc [] rfl rfl rfl (by omega) trivial ⟨_, rfl, (lw_k0 g1).2⟩ (bu2 hc (by decide +kernel)) (bu2 hs (by decide +kernel)) ?_
    refine mAtt_ok (by omega) g1.2.1 ((sc_v 1 g1.2.2.2.1 hm hL rfl (by decide)).trans (ag_i _)) ((sc_v 2 g1.2.2.2.1 hm hL rfl (by decide)).trans (ag_i _)) ((sc_v 3 g1.2.2.2.1 hm hL rfl (by decide)).trans (ag_i _)) ((sc_v 4 g1.2.2.2.1 hm hL rfl (by decide)).trans (ag_i _)) ((sc_v 5 g1.2.2.2.1 hm hL rfl (by decide)).trans (ag_i _)) (zcn_I _) (ag_r _) (ag_r _) (ag_r _) (ag_r _) (ag_r _) ⟨by decide, by decide⟩ (fun M2 w k2 f2 t2 w2 => ?_)
    obtain ⟨I2, Lg2, R2⟩ := M2
    obtain ⟨g2, q1, q2⟩ := lw_2 g1 k2 f2
    refine zW.gc [] rfl rfl rfl (by omega) trivial ⟨_, rfl, (lw_k0 g2).2⟩ (bu3 hc (by decide +kernel)) (bu3 hs (by decide +kernel)) ?_
    refine thrown_ok (by omega) (lw_k0 g2).2 t2 ?_
    refine zW.gbt [] rfl rfl rfl (by omega) trivial rfl ?_
    refine zW.gb [] rfl rfl rfl (by omega) trivial (fun g => ?_) (fun g => ?_)
    · exact zW.go [3358] rfl (by omega) trivial (hQ _ _ _ _ _ _ _ (bv3 (by decide +kernel)) (bv3 (by decide +kernel)) g2)
    · have n0 := n0_of b_oAtt (by decide) g
      have e := ((congrFun q1 0).trans (w1 n0)).trans (congrArg cI (w2 n0).symm)
      exact zW.gbt [] rfl rfl rfl (by omega) (oRo_ar (lw_ro g2).1.1) ((lg_cmp_eq _ _).mpr (la0 e)) (zW.go [3358] rfl (by omega) trivial (hQ _ _ _ _ _ _ _ (bv3 (by decide +kernel)) (bv3 (by decide +kernel)) g2))
  · have gb := fun q => gb ((sc_v 6 h.2.2.2.1 hm hL rfl (by decide)).trans q)
    refine zW.gc [] rfl rfl rfl (by omega) trivial trivial (bu1 hc (by decide +kernel)) (bu1 hs (by decide +kernel)) ?_
    refine h285_ok (by omega) h.1 (lw_ro h).1 ((sc_v 1 h.2.2.2.1 hm hL rfl (by decide)).trans (ag_i _)) ((sc_v 2 h.2.2.2.1 hm hL rfl (by decide)).trans (ag_i _)) ((sc_v 3 h.2.2.2.1 hm hL rfl (by decide)).trans (ag_i _)) ((sc_v 4 h.2.2.2.1 hm hL rfl (by decide)).trans (ag_i _)) ((sc_v 5 h.2.2.2.1 hm hL rfl (by decide)).trans (ag_i _)) (zcn_I _) (ag_r _) (ag_r _) (ag_r _) (ag_r _) (ag_r _) ⟨by decide, by decide⟩ (fun M1 k1 f1 w1 => ?_)
    obtain ⟨I1, Lg1, R1⟩ := M1
    have g1 := lw_1 h k1 f1 (by omega)
    refine zW.gbf [] rfl rfl rfl (by omega) ⟨sc_ar g1.2.2.1 hm hL (by decide) (by decide), sc_ar g1.2.2.1 hm hL (by decide) (by decide), sc_ar g1.2.2.1 hm hL (by decide) (by decide), sc_ar g1.2.2.1 hm hL (by decide) (by decide), sc_ar g1.2.2.1 hm hL (by decide) (by decide), sc_ar g1.2.2.1 hm hL (by decide) (by decide)⟩ (fun q => gb ((sc_v 6 g1.2.2.2.1 hm hL rfl (by decide)).symm.trans q)) ?_
    refine zW.gc [] rfl rfl rfl (by omega) trivial ⟨_, rfl, (lw_k0 g1).2⟩ (bu2 hc (by decide +kernel)) (bu2 hs (by decide +kernel)) ?_
    refine mAtt_ok (by omega) g1.2.1 ((sc_v 1 g1.2.2.2.1 hm hL rfl (by decide)).trans (ag_i _)) ((sc_v 2 g1.2.2.2.1 hm hL rfl (by decide)).trans (ag_i _)) ((sc_v 3 g1.2.2.2.1 hm hL rfl (by decide)).trans (ag_i _)) ((sc_v 4 g1.2.2.2.1 hm hL rfl (by decide)).trans (ag_i _)) ((sc_v 5 g1.2.2.2.1 hm hL rfl (by decide)).trans (ag_i _)) (zcn_I _) (ag_r _) (ag_r _) (ag_r _) (ag_r _) (ag_r _) ⟨by decide, by decide⟩ (fun M2 w k2 f2 t2 w2 => ?_)
    obtain ⟨I2, Lg2, R2⟩ := M2
    obtain ⟨g2, q1, q2⟩ := lw_2 g1 k2 f2
    refine zW.gc [] rfl rfl rfl (by omega) trivial ⟨_, rfl, (lw_k0 g2).2⟩ (bu3 hc (by decide +kernel)) (bu3 hs (by decide +kernel)) ?_
    refine thrown_ok (by omega) (lw_k0 g2).2 t2 ?_
    refine zW.gbt [] rfl rfl rfl (by omega) trivial rfl ?_
    refine zW.gb [] rfl rfl rfl (by omega) trivial (fun g => ?_) (fun g => ?_)
    · exact zW.go [3358] rfl (by omega) trivial (hQ _ _ _ _ _ _ _ (bv3 (by decide +kernel)) (bv3 (by decide +kernel)) g2)
    · have n0 := n0_of b_oAtt (by decide) g
      have e := ((congrFun q1 0).trans (w1 n0)).trans (congrArg cI (w2 n0).symm)
      exact zW.gbt [] rfl rfl rfl (by omega) (oRo_ar (lw_ro g2).1.1) ((lg_cmp_eq _ _).mpr (la0 e)) (zW.go [3358] rfl (by omega) trivial (hQ _ _ _ _ _ _ _ (bv3 (by decide +kernel)) (bv3 (by decide +kernel)) g2))
theorem l34_ok {T : tfT} {M : zM} {v6 v7 v8 : Option zV} (hm : m + 7 ≤ L) (hL : L ≤ 3584) (h : lw b L x xs T T M) (hc : c + 26 ≤ zmc 298) (hs : s + 10831 ≤ zms 298) (hQ : lwK b L x m xs c s Q) : zW 298 2048 c s 2404 [some (zr (some b)), some (zr (some x)), some (zr (some (x + 17))), some (zr (some (x + 1958))), some (zr (some (x + 1959))), some (zi (iI (m : Int))), v6, v7, v8] [] M Q := by
  obtain ⟨I, Lg, R⟩ := M
  refine zW.gc [] rfl rfl rfl (by omega) ⟨sc_ar h.2.2.1 hm hL (by decide) (by decide), sc_ar h.2.2.1 hm hL (by decide) (by decide), sc_ar h.2.2.1 hm hL (by decide) (by decide)⟩ trivial (bu1 hc (by decide +kernel)) (bu1 hs (by decide +kernel)) ?_
  refine h286_ok (by omega) h.1 (lw_ro h).1 ((sc_v 1 h.2.2.2.1 hm hL rfl (by decide)).trans (ag_i _)) ((sc_v 2 h.2.2.2.1 hm hL rfl (by decide)).trans (ag_i _)) ((sc_v 3 h.2.2.2.1 hm hL rfl (by decide)).trans (ag_i _)) (ag_r _) (ag_r _) (ag_r _) (fun M1 k1 f1 w1 => ?_)
  obtain ⟨I1, Lg1, R1⟩ := M1
  have g1 := lw_1 h k1 f1 (by omega)
  refine zW.gc [] rfl rfl rfl (by omega) ⟨sc_ar g1.2.2.1 hm hL (by decide) (by decide), sc_ar g1.2.2.1 hm hL (by decide) (by decide), sc_ar g1.2.2.1 hm hL (by decide) (by decide)⟩ ⟨_, rfl, (lw_k0 g1).2⟩ (bu2 hc (by decide +kernel)) (bu2 hs (by decide +kernel)) ?_
  refine mMov_ok (by omega) g1.2.1 ((sc_v 1 g1.2.2.2.1 hm hL rfl (by decide)).trans (ag_i _)) ((sc_v 2 g1.2.2.2.1 hm hL rfl (by decide)).trans (ag_i _)) ((sc_v 3 g1.2.2.2.1 hm hL rfl (by decide)).trans (ag_i _)) (ag_r _) (ag_r _) (ag_r _) (fun M2 w k2 f2 t2 w2 => ?_)
  obtain ⟨I2, Lg2, R2⟩ := M2
  obtain ⟨g2, q1, q2⟩ := lw_2 g1 k2 f2
  refine zW.gc [] rfl rfl rfl (by omega) trivial ⟨_, rfl, (lw_k0 g2).2⟩ (bu3 hc (by decide +kernel)) (bu3 hs (by decide +kernel)) ?_
  refine thrown_ok (by omega) (lw_k0 g2).2 t2 ?_
  refine zW.gbt [] rfl rfl rfl (by omega) trivial rfl ?_
  refine zW.gb [] rfl rfl rfl (by omega) trivial (fun g => ?_) (fun g => ?_)
  · exact zW.go [3358] rfl (by omega) trivial (hQ _ _ _ _ _ _ _ (bv3 (by decide +kernel)) (bv3 (by decide +kernel)) g2)
  · have n0 := n0_of b_oMov (by decide) g
    have e := ((congrFun q1 0).trans (w1 n0)).trans (congrArg cI (w2 n0).symm)
    exact zW.gbt [] rfl rfl rfl (by omega) (oRo_ar (lw_ro g2).1.1) ((lg_cmp_eq _ _).mpr (la0 e)) (zW.go [3358] rfl (by omega) trivial (hQ _ _ _ _ _ _ _ (bv3 (by decide +kernel)) (bv3 (by decide +kernel)) g2))
theorem l35_ok {T : tfT} {M : zM} {v6 v7 v8 : Option zV} (hm : m + 7 ≤ L) (hL : L ≤ 3584) (h : lw b L x xs T T M) (hc : c + 26 ≤ zmc 298) (hs : s + 10831 ≤ zms 298) (hQ : lwK b L x m xs c s Q) : zW 298 2048 c s 2484 [some (zr (some b)), some (zr (some x)), some (zr (some (x + 17))), some (zr (some (x + 1958))), some (zr (some (x + 1959))), some (zi (iI (m : Int))), v6, v7, v8] [] M Q := by
  obtain ⟨I, Lg, R⟩ := M
  refine zW.gc [] rfl rfl rfl (by omega) ⟨sc_ar h.2.2.1 hm hL (by decide) (by decide), sc_ar h.2.2.1 hm hL (by decide) (by decide), sc_ar h.2.2.1 hm hL (by decide) (by decide), sc_ar h.2.2.1 hm hL (by decide) (by decide), sc_ar h.2.2.1 hm hL (by decide) (by decide)⟩ trivial (bu1 hc (by decide +kernel)) (bu1 hs (by decide +kernel)) ?_
  refine h287_ok (by omega) h.1 (lw_ro h).1 ((sc_v 1 h.2.2.2.1 hm hL rfl (by decide)).trans (ag_i _)) ((sc_v 2 h.2.2.2.1 hm hL rfl (by decide)).trans (ag_i _)) ((sc_v 3 h.2.2.2.1 hm hL rfl (by decide)).trans (ag_i _)) ((sc_v 4 h.2.2.2.1 hm hL rfl (by decide)).trans (ag_i _)) ((sc_v 5 h.2.2.2.1 hm hL rfl (by decide)).trans (ag_i _)) (ag_r _) (ag_r _) (ag_r _) (ag_r _) (ag_r _) (fun M1 k1 f1 w1 => ?_)
  obtain ⟨I1, Lg1, R1⟩ := M1
  have g1 := lw_1 h k1 f1 (by omega)
  refine zW.gc [] rfl rfl rfl (by omega) ⟨sc_ar g1.2.2.1 hm hL (by decide) (by decide), sc_ar g1.2.2.1 hm hL (by decide) (by decide), sc_ar g1.2.2.1 hm hL (by decide) (by decide), sc_ar g1.2.2.1 hm hL (by decide) (by decide), sc_ar g1.2.2.1 hm hL (by decide) (by decide)⟩ ⟨_, rfl, (lw_k0 g1).2⟩ (bu2 hc (by decide +kernel)) (bu2 hs (by decide +kernel)) ?_
  refine mSev_ok (by omega) g1.2.1 ((sc_v 1 g1.2.2.2.1 hm hL rfl (by decide)).trans (ag_i _)) ((sc_v 2 g1.2.2.2.1 hm hL rfl (by decide)).trans (ag_i _)) ((sc_v 3 g1.2.2.2.1 hm hL rfl (by decide)).trans (ag_i _)) ((sc_v 4 g1.2.2.2.1 hm hL rfl (by decide)).trans (ag_i _)) ((sc_v 5 g1.2.2.2.1 hm hL rfl (by decide)).trans (ag_i _)) (ag_r _) (ag_r _) (ag_r _) (ag_r _) (ag_r _) (fun M2 w k2 f2 t2 w2 => ?_)
  obtain ⟨I2, Lg2, R2⟩ := M2
  obtain ⟨g2, q1, q2⟩ := lw_2 g1 k2 f2
  refine zW.gc [] rfl rfl rfl (by omega) trivial ⟨_, rfl, (lw_k0 g2).2⟩ (bu3 hc (by decide +kernel)) (bu3 hs (by decide +kernel)) ?_
  refine thrown_ok (by omega) (lw_k0 g2).2 t2 ?_
  refine zW.gbt [] rfl rfl rfl (by omega) trivial rfl ?_
  refine zW.gb [] rfl rfl rfl (by omega) trivial (fun g => ?_) (fun g => ?_)
  · exact zW.go [3358] rfl (by omega) trivial (hQ _ _ _ _ _ _ _ (bv3 (by decide +kernel)) (bv3 (by decide +kernel)) g2)
  · have n0 := n0_of b_oSev (by decide) g
    have e := ((congrFun q1 0).trans (w1 n0)).trans (congrArg cI (w2 n0).symm)
    exact zW.gbt [] rfl rfl rfl (by omega) (oRo_ar (lw_ro g2).1.1) ((lg_cmp_eq _ _).mpr (la0 e)) (zW.go [3358] rfl (by omega) trivial (hQ _ _ _ _ _ _ _ (bv3 (by decide +kernel)) (bv3 (by decide +kernel)) g2))
end LCAS2
