/-! The law's cases 36 to 47. -/
theorem s_oShare {T : tfT} : (oShare T).2.2 = T := by
  unfold oShare
  split <;> rfl
theorem s_oMean {T : tfT} {p c : Int} : (oMean T p c).2.2 = T := by
  unfold oMean onG onP sml
  repeat (first | rfl | (dsimp only; split) | split)
section LCAS3
variable {b L x m c s : Nat} {xs : Nat → Int32} {Q : zO → zM → Prop}
theorem l36_ok {T : tfT} {M : zM} {v6 v7 v8 : Option zV} (hm : m + 7 ≤ L) (hL : L ≤ 3584) (h : lw b L x xs T T M) (hc : c + 26 ≤ zmc 298) (hs : s + 10831 ≤ zms 298) (hQ : lwK b L x m xs c s Q) : zW 298 2048 c s 2588 [some (zr (some b)), some (zr (some x)), some (zr (some (x + 17))), some (zr (some (x + 1958))), some (zr (some (x + 1959))), some (zi (iI (m : Int))), v6, v7, v8] [] M Q := by
  obtain ⟨I, Lg, R⟩ := M
  refine zW.gc [] rfl rfl rfl (by omega) ⟨sc_ar h.2.2.1 hm hL (by decide) (by decide), sc_ar h.2.2.1 hm hL (by decide) (by decide)⟩ trivial (bu1 hc (by decide +kernel)) (bu1 hs (by decide +kernel)) ?_
  refine h288_ok (by omega) h.1 (lw_ro h).1 ((sc_v 1 h.2.2.2.1 hm hL rfl (by decide)).trans (ag_i _)) ((sc_v 2 h.2.2.2.1 hm hL rfl (by decide)).trans (ag_i _)) (ag_r _) (ag_r _) (fun M1 k1 f1 w1 => ?_)
  obtain ⟨I1, Lg1, R1⟩ := M1
  have g1 := lw_1 h k1 f1 (by omega)
  refine zW.gc [] rfl rfl rfl (by omega) ⟨sc_ar g1.2.2.1 hm hL (by decide) (by decide), sc_ar g1.2.2.1 hm hL (by decide) (by decide)⟩ ⟨_, rfl, (lw_k0 g1).2⟩ (bu2 hc (by decide +kernel)) (bu2 hs (by decide +kernel)) ?_
  refine mAtts_ok (by omega) g1.2.1 ((sc_v 1 g1.2.2.2.1 hm hL rfl (by decide)).trans (ag_i _)) ((sc_v 2 g1.2.2.2.1 hm hL rfl (by decide)).trans (ag_i _)) (ag_r _) (ag_r _) (fun M2 w k2 f2 t2 w2 => ?_)
  obtain ⟨I2, Lg2, R2⟩ := M2
  obtain ⟨g2, q1, q2⟩ := lw_2 g1 k2 f2
  refine zW.gc [] rfl rfl rfl (by omega) trivial ⟨_, rfl, (lw_k0 g2).2⟩ (bu3 hc (by decide +kernel)) (bu3 hs (by decide +kernel)) ?_
  refine thrown_ok (by omega) (lw_k0 g2).2 t2 ?_
  refine zW.gbt [] rfl rfl rfl (by omega) trivial rfl ?_
  refine zW.gb [] rfl rfl rfl (by omega) trivial (fun g => ?_) (fun g => ?_)
  · exact zW.go [3358] rfl (by omega) trivial (hQ _ _ _ _ _ _ _ (bv3 (by decide +kernel)) (bv3 (by decide +kernel)) g2)
  · have n0 := n0_of b_oAtts (by decide) g
    have e := ((congrFun q1 0).trans (w1 n0)).trans (congrArg cI (w2 n0).symm)
    exact zW.gbt [] rfl rfl rfl (by omega) (oRo_ar (lw_ro g2).1.1) ((lg_cmp_eq _ _).mpr (la0 e)) (zW.go [3358] rfl (by omega) trivial (hQ _ _ _ _ _ _ _ (bv3 (by decide +kernel)) (bv3 (by decide +kernel)) g2))
theorem l37_ok {T : tfT} {M : zM} {v6 v7 v8 : Option zV} (hm : m + 7 ≤ L) (hL : L ≤ 3584) (h : lw b L x xs T T M) (hc : c + 26 ≤ zmc 298) (hs : s + 10831 ≤ zms 298) (hQ : lwK b L x m xs c s Q) : zW 298 2048 c s 2656 [some (zr (some b)), some (zr (some x)), some (zr (some (x + 17))), some (zr (some (x + 1958))), some (zr (some (x + 1959))), some (zi (iI (m : Int))), v6, v7, v8] [] M Q := by
  obtain ⟨I, Lg, R⟩ := M
  refine zW.gc [] rfl rfl rfl (by omega) ⟨sc_ar h.2.2.1 hm hL (by decide) (by decide), sc_ar h.2.2.1 hm hL (by decide) (by decide)⟩ trivial (bu1 hc (by decide +kernel)) (bu1 hs (by decide +kernel)) ?_
  refine h289_ok (by omega) h.1 (lw_ro h).1 ((sc_v 1 h.2.2.2.1 hm hL rfl (by decide)).trans (ag_i _)) ((sc_v 2 h.2.2.2.1 hm hL rfl (by decide)).trans (ag_i _)) (ag_r _) (ag_r _) (fun M1 k1 f1 w1 => ?_)
  obtain ⟨I1, Lg1, R1⟩ := M1
  have g1 := lw_1 h k1 f1 (by omega)
  refine zW.gc [] rfl rfl rfl (by omega) ⟨sc_ar g1.2.2.1 hm hL (by decide) (by decide), sc_ar g1.2.2.1 hm hL (by decide) (by decide)⟩ ⟨_, rfl, (lw_k0 g1).2⟩ (bu2 hc (by decide +kernel)) (bu2 hs (by decide +kernel)) ?_
  refine mBst_ok (by omega) g1.2.1 ((sc_v 1 g1.2.2.2.1 hm hL rfl (by decide)).trans (ag_i _)) ((sc_v 2 g1.2.2.2.1 hm hL rfl (by decide)).trans (ag_i _)) (ag_r _) (ag_r _) (fun M2 w k2 f2 t2 w2 => ?_)
  obtain ⟨I2, Lg2, R2⟩ := M2
  obtain ⟨g2, q1, q2⟩ := lw_2 g1 k2 f2
  refine zW.gc [] rfl rfl rfl (by omega) trivial ⟨_, rfl, (lw_k0 g2).2⟩ (bu3 hc (by decide +kernel)) (bu3 hs (by decide +kernel)) ?_
  refine thrown_ok (by omega) (lw_k0 g2).2 t2 ?_
  refine zW.gbt [] rfl rfl rfl (by omega) trivial rfl ?_
  refine zW.gb [] rfl rfl rfl (by omega) trivial (fun g => ?_) (fun g => ?_)
  · exact zW.go [3358] rfl (by omega) trivial (hQ _ _ _ _ _ _ _ (bv3 (by decide +kernel)) (bv3 (by decide +kernel)) g2)
  · have n0 := n0_of b_oBest (by decide) g
    have e := ((congrFun q1 0).trans (w1 n0)).trans (congrArg cI (w2 n0).symm)
    exact zW.gbt [] rfl rfl rfl (by omega) (oRo_ar (lw_ro g2).1.1) ((lg_cmp_eq _ _).mpr (la0 e)) (zW.go [3358] rfl (by omega) trivial (hQ _ _ _ _ _ _ _ (bv3 (by decide +kernel)) (bv3 (by decide +kernel)) g2))
theorem l38_ok {T : tfT} {M : zM} {v6 v7 v8 : Option zV} (hm : m + 7 ≤ L) (hL : L ≤ 3584) (h : lw b L x xs T T M) (hc : c + 26 ≤ zmc 298) (hs : s + 10831 ≤ zms 298) (hQ : lwK b L x m xs c s Q) : zW 298 2048 c s 2724 [some (zr (some b)), some (zr (some x)), some (zr (some (x + 17))), some (zr (some (x + 1958))), some (zr (some (x + 1959))), some (zi (iI (m : Int))), v6, v7, v8] [] M Q := by
  obtain ⟨I, Lg, R⟩ := M
  refine zW.gc [] rfl rfl rfl (by omega) ⟨sc_ar h.2.2.1 hm hL (by decide) (by decide), sc_ar h.2.2.1 hm hL (by decide) (by decide)⟩ trivial (bu1 hc (by decide +kernel)) (bu1 hs (by decide +kernel)) ?_
  refine h290_ok (by omega) h.1 (lw_ro h).1 ((sc_v 1 h.2.2.2.1 hm hL rfl (by decide)).trans (ag_i _)) ((sc_v 2 h.2.2.2.1 hm hL rfl (by decide)).trans (ag_i _)) (ag_r _) (ag_r _) (fun M1 k1 f1 w1 => ?_)
  obtain ⟨I1, Lg1, R1⟩ := M1
  have g1 := lw_1 h k1 f1 (by omega)
  refine zW.gc [] rfl rfl rfl (by omega) ⟨sc_ar g1.2.2.1 hm hL (by decide) (by decide), sc_ar g1.2.2.1 hm hL (by decide) (by decide)⟩ ⟨_, rfl, (lw_k0 g1).2⟩ (bu2 hc (by decide +kernel)) (bu2 hs (by decide +kernel)) ?_
  refine mAver_ok (by omega) g1.2.1 ((sc_v 1 g1.2.2.2.1 hm hL rfl (by decide)).trans (ag_i _)) ((sc_v 2 g1.2.2.2.1 hm hL rfl (by decide)).trans (ag_i _)) (ag_r _) (ag_r _) (fun M2 w k2 f2 t2 w2 => ?_)
  obtain ⟨I2, Lg2, R2⟩ := M2
  obtain ⟨g2, q1, q2⟩ := lw_2 g1 k2 f2
  refine zW.gc [] rfl rfl rfl (by omega) trivial ⟨_, rfl, (lw_k0 g2).2⟩ (bu3 hc (by decide +kernel)) (bu3 hs (by decide +kernel)) ?_
  refine thrown_ok (by omega) (lw_k0 g2).2 t2 ?_
  refine zW.gbt [] rfl rfl rfl (by omega) trivial rfl ?_
  refine zW.gb [] rfl rfl rfl (by omega) trivial (fun g => ?_) (fun g => ?_)
  · exact zW.go [3358] rfl (by omega) trivial (hQ _ _ _ _ _ _ _ (bv3 (by decide +kernel)) (bv3 (by decide +kernel)) g2)
  · have n0 := n0_of b_oAver (by decide) g
    have e := ((congrFun q1 0).trans (w1 n0)).trans (congrArg cI (w2 n0).symm)
    exact zW.gbt [] rfl rfl rfl (by omega) (oRo_ar (lw_ro g2).1.1) ((lg_cmp_eq _ _).mpr (la0 e)) (zW.go [3358] rfl (by omega) trivial (hQ _ _ _ _ _ _ _ (bv3 (by decide +kernel)) (bv3 (by decide +kernel)) g2))
theorem l39_ok {T : tfT} {M : zM} {v6 v7 v8 : Option zV} (hm : m + 7 ≤ L) (hL : L ≤ 3584) (h : lw b L x xs T T M) (hc : c + 26 ≤ zmc 298) (hs : s + 10831 ≤ zms 298) (hQ : lwK b L x m xs c s Q) : zW 298 2048 c s 2792 [some (zr (some b)), some (zr (some x)), some (zr (some (x + 17))), some (zr (some (x + 1958))), some (zr (some (x + 1959))), some (zi (iI (m : Int))), v6, v7, v8] [] M Q := by
  obtain ⟨I, Lg, R⟩ := M
  refine zW.gc [] rfl rfl rfl (by omega) ⟨sc_ar h.2.2.1 hm hL (by decide) (by decide), sc_ar h.2.2.1 hm hL (by decide) (by decide)⟩ trivial (bu1 hc (by decide +kernel)) (bu1 hs (by decide +kernel)) ?_
  refine h291_ok (by omega) h.1 (lw_ro h).1 ((sc_v 1 h.2.2.2.1 hm hL rfl (by decide)).trans (ag_i _)) ((sc_v 2 h.2.2.2.1 hm hL rfl (by decide)).trans (ag_i _)) (ag_r _) (ag_r _) (fun M1 k1 f1 w1 => ?_)
  obtain ⟨I1, Lg1, R1⟩ := M1
  have g1 := lw_1 h k1 f1 (by omega)
  refine zW.gc [] rfl rfl rfl (by omega) ⟨sc_ar g1.2.2.1 hm hL (by decide) (by decide), sc_ar g1.2.2.1 hm hL (by decide) (by decide)⟩ ⟨_, rfl, (lw_k0 g1).2⟩ (bu2 hc (by decide +kernel)) (bu2 hs (by decide +kernel)) ?_
  refine mRank_ok (by omega) g1.2.1 ((sc_v 1 g1.2.2.2.1 hm hL rfl (by decide)).trans (ag_i _)) ((sc_v 2 g1.2.2.2.1 hm hL rfl (by decide)).trans (ag_i _)) (ag_r _) (ag_r _) (fun M2 w k2 f2 t2 w2 => ?_)
  obtain ⟨I2, Lg2, R2⟩ := M2
  obtain ⟨g2, q1, q2⟩ := lw_2 g1 k2 f2
  refine zW.gc [] rfl rfl rfl (by omega) trivial ⟨_, rfl, (lw_k0 g2).2⟩ (bu3 hc (by decide +kernel)) (bu3 hs (by decide +kernel)) ?_
  refine thrown_ok (by omega) (lw_k0 g2).2 t2 ?_
  refine zW.gbt [] rfl rfl rfl (by omega) trivial rfl ?_
  refine zW.gb [] rfl rfl rfl (by omega) trivial (fun g => ?_) (fun g => ?_)
  · exact zW.go [3358] rfl (by omega) trivial (hQ _ _ _ _ _ _ _ (bv3 (by decide +kernel)) (bv3 (by decide +kernel)) g2)
  · have n0 := n0_of b_oRank (by decide) g
    have e := ((congrFun q1 0).trans (w1 n0)).trans (congrArg cI (w2 n0).symm)
    exact zW.gbt [] rfl rfl rfl (by omega) (oRo_ar (lw_ro g2).1.1) ((lg_cmp_eq _ _).mpr (la0 e)) (zW.go [3358] rfl (by omega) trivial (hQ _ _ _ _ _ _ _ (bv3 (by decide +kernel)) (bv3 (by decide +kernel)) g2))
theorem l40_ok {T : tfT} {M : zM} {v6 v7 v8 : Option zV} (hm : m + 7 ≤ L) (hL : L ≤ 3584) (h : lw b L x xs T T M) (hc : c + 26 ≤ zmc 298) (hs : s + 10831 ≤ zms 298) (hQ : lwK b L x m xs c s Q) : zW 298 2048 c s 2860 [some (zr (some b)), some (zr (some x)), some (zr (some (x + 17))), some (zr (some (x + 1958))), some (zr (some (x + 1959))), some (zi (iI (m : Int))), v6, v7, v8] [] M Q := by
  obtain ⟨I, Lg, R⟩ := M
  refine zW.gc [] rfl rfl rfl (by omega) ⟨sc_ar h.2.2.1 hm hL (by decide) (by decide), sc_ar h.2.2.1 hm hL (by decide) (by decide), sc_ar h.2.2.1 hm hL (by decide) (by decide)⟩ trivial (bu1 hc (by decide +kernel)) (bu1 hs (by decide +kernel)) ?_
  refine h292_ok (by omega) h.1 (lw_ro h).1 ((sc_v 1 h.2.2.2.1 hm hL rfl (by decide)).trans (ag_i _)) ((sc_v 2 h.2.2.2.1 hm hL rfl (by decide)).trans (ag_i _)) ((sc_v 3 h.2.2.2.1 hm hL rfl (by decide)).trans (ag_i _)) (ag_r _) (ag_r _) (ag_r _) (fun M1 k1 f1 w1 => ?_)
  obtain ⟨I1, Lg1, R1⟩ := M1
  have g1 := lw_1 h k1 f1 (by omega)
  refine zW.gc [] rfl rfl rfl (by omega) ⟨sc_ar g1.2.2.1 hm hL (by decide) (by decide), sc_ar g1.2.2.1 hm hL (by decide) (by decide), sc_ar g1.2.2.1 hm hL (by decide) (by decide)⟩ ⟨_, rfl, (lw_k0 g1).2⟩ (bu2 hc (by decide +kernel)) (bu2 hs (by decide +kernel)) ?_
  refine mAdv_ok (by omega) g1.2.1 ((sc_v 1 g1.2.2.2.1 hm hL rfl (by decide)).trans (ag_i _)) ((sc_v 2 g1.2.2.2.1 hm hL rfl (by decide)).trans (ag_i _)) ((sc_v 3 g1.2.2.2.1 hm hL rfl (by decide)).trans (ag_i _)) (ag_r _) (ag_r _) (ag_r _) (fun M2 w k2 f2 t2 w2 => ?_)
  obtain ⟨I2, Lg2, R2⟩ := M2
  obtain ⟨g2, q1, q2⟩ := lw_2 g1 k2 f2
  refine zW.gc [] rfl rfl rfl (by omega) trivial ⟨_, rfl, (lw_k0 g2).2⟩ (bu3 hc (by decide +kernel)) (bu3 hs (by decide +kernel)) ?_
  refine thrown_ok (by omega) (lw_k0 g2).2 t2 ?_
  refine zW.gbt [] rfl rfl rfl (by omega) trivial rfl ?_
  refine zW.gb [] rfl rfl rfl (by omega) trivial (fun g => ?_) (fun g => ?_)
  · exact zW.go [3358] rfl (by omega) trivial (hQ _ _ _ _ _ _ _ (bv3 (by decide +kernel)) (bv3 (by decide +kernel)) g2)
  · have n0 := n0_of b_oAdv (by decide) g
    have e := ((congrFun q1 0).trans (w1 n0)).trans (congrArg cB (w2 n0).symm)
    refine zW.gb [] rfl rfl rfl (by omega) (oRo_ar (lw_ro g2).1.1) (fun g' => ?_) (fun g' => ?_)
    · exact zW.gbt [] rfl rfl rfl (by omega) trivial ((lg_cmp_eq _ _).mpr (la0 (e.trans (if_pos g')))) (zW.go [3358] rfl (by omega) trivial (hQ _ _ _ _ _ _ _ (bv3 (by decide +kernel)) (bv3 (by decide +kernel)) g2))
    · exact zW.gbt [] rfl rfl rfl (by omega) trivial ((lg_cmp_eq _ _).mpr (la0 (e.trans (if_neg g')))) (zW.go [3358] rfl (by omega) trivial (hQ _ _ _ _ _ _ _ (bv3 (by decide +kernel)) (bv3 (by decide +kernel)) g2))
theorem l41_ok {T : tfT} {M : zM} {v6 v7 v8 : Option zV} (hm : m + 7 ≤ L) (hL : L ≤ 3584) (h : lw b L x xs T T M) (hc : c + 26 ≤ zmc 298) (hs : s + 10831 ≤ zms 298) (hQ : lwK b L x m xs c s Q) : zW 298 2048 c s 2947 [some (zr (some b)), some (zr (some x)), some (zr (some (x + 17))), some (zr (some (x + 1958))), some (zr (some (x + 1959))), some (zi (iI (m : Int))), v6, v7, v8] [] M Q := by
  obtain ⟨I, Lg, R⟩ := M
  refine zW.gc [] rfl rfl rfl (by omega) ⟨sc_ar h.2.2.1 hm hL (by decide) (by decide), sc_ar h.2.2.1 hm hL (by decide) (by decide)⟩ trivial (bu1 hc (by decide +kernel)) (bu1 hs (by decide +kernel)) ?_
  refine h293_ok (by omega) h.1 (lw_ro h).1 ((sc_v 1 h.2.2.2.1 hm hL rfl (by decide)).trans (ag_i _)) ((sc_v 2 h.2.2.2.1 hm hL rfl (by decide)).trans (ag_i _)) (ag_r _) (ag_r _) (fun M1 k1 f1 w1 => ?_)
  obtain ⟨I1, Lg1, R1⟩ := M1
  have g1 := lw_1 h k1 f1 (by omega)
  refine zW.gc [] rfl rfl rfl (by omega) ⟨sc_ar g1.2.2.1 hm hL (by decide) (by decide), sc_ar g1.2.2.1 hm hL (by decide) (by decide)⟩ ⟨_, rfl, (lw_k0 g1).2⟩ (bu2 hc (by decide +kernel)) (bu2 hs (by decide +kernel)) ?_
  refine mClose_ok (by omega) g1.2.1 ((sc_v 1 g1.2.2.2.1 hm hL rfl (by decide)).trans (ag_i _)) ((sc_v 2 g1.2.2.2.1 hm hL rfl (by decide)).trans (ag_i _)) (ag_r _) (ag_r _) (fun M2 w k2 f2 t2 w2 => ?_)
  obtain ⟨I2, Lg2, R2⟩ := M2
  obtain ⟨g2, q1, q2⟩ := lw_2 g1 k2 f2
  refine zW.gc [] rfl rfl rfl (by omega) trivial ⟨_, rfl, (lw_k0 g2).2⟩ (bu3 hc (by decide +kernel)) (bu3 hs (by decide +kernel)) ?_
  refine thrown_ok (by omega) (lw_k0 g2).2 t2 ?_
  refine zW.gbt [] rfl rfl rfl (by omega) trivial rfl ?_
  refine zW.gb [] rfl rfl rfl (by omega) trivial (fun g => ?_) (fun g => ?_)
  · exact zW.go [3358] rfl (by omega) trivial (hQ _ _ _ _ _ _ _ (bv3 (by decide +kernel)) (bv3 (by decide +kernel)) g2)
  · have n0 := n0_of b_oClose (by decide) g
    have e := ((congrFun q1 0).trans (w1 n0)).trans (congrArg cI (w2 n0).symm)
    exact zW.gbt [] rfl rfl rfl (by omega) (oRo_ar (lw_ro g2).1.1) ((lg_cmp_eq _ _).mpr (la0 e)) (zW.go [3358] rfl (by omega) trivial (hQ _ _ _ _ _ _ _ (bv3 (by decide +kernel)) (bv3 (by decide +kernel)) g2))
theorem l42_ok {T : tfT} {M : zM} {v6 v7 v8 : Option zV} (hm : m + 7 ≤ L) (hL : L ≤ 3584) (h : lw b L x xs T T M) (hc : c + 26 ≤ zmc 298) (hs : s + 10831 ≤ zms 298) (hQ : lwK b L x m xs c s Q) : zW 298 2048 c s 3015 [some (zr (some b)), some (zr (some x)), some (zr (some (x + 17))), some (zr (some (x + 1958))), some (zr (some (x + 1959))), some (zi (iI (m : Int))), v6, v7, v8] [] M Q := by
  obtain ⟨I, Lg, R⟩ := M
  refine zW.gc [] rfl rfl rfl (by omega) (sc_ar h.2.2.1 hm hL (by decide) (by decide)) trivial (bu1 hc (by decide +kernel)) (bu1 hs (by decide +kernel)) ?_
  refine h294_ok (by omega) h.1 (lw_ro h).1 ((sc_v 1 h.2.2.2.1 hm hL rfl (by decide)).trans (ag_i _)) (ag_r _) (fun M1 k1 f1 w1 => ?_)
  obtain ⟨I1, Lg1, R1⟩ := M1
  have g1 := lw_1 h k1 f1 (by omega)
  refine zW.gc [] rfl rfl rfl (by omega) (sc_ar g1.2.2.1 hm hL (by decide) (by decide)) ⟨_, rfl, (lw_k0 g1).2⟩ (bu2 hc (by decide +kernel)) (bu2 hs (by decide +kernel)) ?_
  refine mUndo_ok (by omega) g1.2.1 ((sc_v 1 g1.2.2.2.1 hm hL rfl (by decide)).trans (ag_i _)) (ag_r _) (fun M2 w k2 f2 t2 w2 => ?_)
  obtain ⟨I2, Lg2, R2⟩ := M2
  obtain ⟨g2, q1, q2⟩ := lw_2 g1 k2 f2
  refine zW.gc [] rfl rfl rfl (by omega) trivial ⟨_, rfl, (lw_k0 g2).2⟩ (bu3 hc (by decide +kernel)) (bu3 hs (by decide +kernel)) ?_
  refine thrown_ok (by omega) (lw_k0 g2).2 t2 ?_
  refine zW.gbt [] rfl rfl rfl (by omega) trivial rfl ?_
  refine zW.gb [] rfl rfl rfl (by omega) trivial (fun g => ?_) (fun g => ?_)
  · exact zW.go [3358] rfl (by omega) trivial (hQ _ _ _ _ _ _ _ (bv3 (by decide +kernel)) (bv3 (by decide +kernel)) g2)
  · have n0 := n0_of b_oUndo (by decide) g
    have e := ((congrFun q1 0).trans (w1 n0)).trans (congrArg cI (w2 n0).symm)
    exact zW.gbt [] rfl rfl rfl (by omega) (oRo_ar (lw_ro g2).1.1) ((lg_cmp_eq _ _).mpr (la0 e)) (zW.go [3358] rfl (by omega) trivial (hQ _ _ _ _ _ _ _ (bv3 (by decide +kernel)) (bv3 (by decide +kernel)) g2))
theorem l43_ok {T : tfT} {M : zM} {v6 v7 v8 : Option zV} (hm : m + 7 ≤ L) (hL : L ≤ 3584) (h : lw b L x xs T T M) (hc : c + 26 ≤ zmc 298) (hs : s + 10831 ≤ zms 298) (hQ : lwK b L x m xs c s Q) : zW 298 2048 c s 3071 [some (zr (some b)), some (zr (some x)), some (zr (some (x + 17))), some (zr (some (x + 1958))), some (zr (some (x + 1959))), some (zi (iI (m : Int))), v6, v7, v8] [] M Q := by
  obtain ⟨I, Lg, R⟩ := M
  refine zW.gb [] rfl rfl rfl (by omega) ⟨sc_ar h.2.2.1 hm hL (by decide) (by decide), sc_ar h.2.2.1 hm hL (by decide) (by decide), sc_ar h.2.2.1 hm hL (by decide) (by decide)⟩ (fun gb => ?_) (fun gb => ?_)
  · have gb := (sc_v 3 h.2.2.2.1 hm hL rfl (by decide)).symm.trans gb
    refine zW.gc [] rfl rfl rfl (by omega) trivial trivial (bu1 hc (by decide +kernel)) (bu1 hs (by decide +kernel)) ?_
    refine h295_ok (by omega) h.1 (lw_ro h).1 ((sc_v 1 h.2.2.2.1 hm hL rfl (by decide)).trans (ag_i _)) ((sc_v 2 h.2.2.2.1 hm hL rfl (by decide)).trans (ag_i _)) (zcn_I _) (ag_r _) (ag_r _) ⟨by decide, by decide⟩ (fun M1 k1 f1 w1 => ?_)
    obtain ⟨I1, Lg1, R1⟩ := M1
    have g1 := lw_1 h k1 f1 (by omega)
    refine zW.gbt [] rfl rfl rfl (by omega) ⟨sc_ar g1.2.2.1 hm hL (by decide) (by decide), sc_ar g1.2.2.1 hm hL (by decide) (by decide), sc_ar g1.2.2.1 hm hL (by decide) (by decide)⟩ ((sc_v 3 g1.2.2.2.1 hm hL rfl (by decide)).trans gb) ?_
    refine zW.gc [] rfl rfl rfl (by omega) trivial ⟨_, rfl, (lw_k0 g1).2⟩ (bu2 hc (by decide +kernel)) (bu2 hs (by decide +kernel)) ?_
    refine mIsRec_ok (by omega) g1.2.1 ((sc_v 1 g1.2.2.2.1 hm hL rfl (by decide)).trans (ag_i _)) ((sc_v 2 g1.2.2.2.1 hm hL rfl (by decide)).trans (ag_i _)) (zcn_I _) (ag_r _) (ag_r _) ⟨by decide, by decide⟩ (fun M2 w k2 f2 t2 w2 => ?_)
    obtain ⟨I2, Lg2, R2⟩ := M2
    obtain ⟨g2, q1, q2⟩ := lw_2 g1 k2 f2
    refine zW.gc [] rfl rfl rfl (by omega) trivial ⟨_, rfl, (lw_k0 g2).2⟩ (bu3 hc (by decide +kernel)) (bu3 hs (by decide +kernel)) ?_
    refine thrown_ok (by omega) (lw_k0 g2).2 t2 ?_
    refine zW.gbt [] rfl rfl rfl (by omega) trivial rfl ?_
    refine zW.gb [] rfl rfl rfl (by omega) trivial (fun g => ?_) (fun g => ?_)
    · exact zW.go [3358] rfl (by omega) trivial (hQ _ _ _ _ _ _ _ (bv3 (by decide +kernel)) (bv3 (by decide +kernel)) g2)
    · have n0 := n0_of b_oIsRec (by decide) g
      have e := ((congrFun q1 0).trans (w1 n0)).trans (congrArg cB (w2 n0).symm)
      refine zW.gb [] rfl rfl rfl (by omega) (oRo_ar (lw_ro g2).1.1) (fun g' => ?_) (fun g' => ?_)
      · exact zW.gbt [] rfl rfl rfl (by omega) trivial ((lg_cmp_eq _ _).mpr (la0 (e.trans (if_pos g')))) (zW.go [3358] rfl (by omega) trivial (hQ _ _ _ _ _ _ _ (bv3 (by decide +kernel)) (bv3 (by decide +kernel)) g2))
      · exact zW.gbt [] rfl rfl rfl (by omega) trivial ((lg_cmp_eq _ _).mpr (la0 (e.trans (if_neg g')))) (zW.go [3358] rfl (by omega) trivial (hQ _ _ _ _ _ _ _ (bv3 (by decide +kernel)) (bv3 (by decide +kernel)) g2))
  · have gb := fun q => gb ((sc_v 3 h.2.2.2.1 hm hL rfl (by decide)).trans q)
    refine zW.gc [] rfl rfl rfl (by omega) trivial trivial (bu1 hc (by decide +kernel)) (bu1 hs (by decide +kernel)) ?_
    refine h295_ok (by omega) h.1 (lw_ro h).1 ((sc_v 1 h.2.2.2.1 hm hL rfl (by decide)).trans (ag_i _)) ((sc_v 2 h.2.2.2.1 hm hL rfl (by decide)).trans (ag_i _)) (zcn_I _) (ag_r _) (ag_r _) ⟨by decide, by decide⟩ (fun M1 k1 f1 w1 => ?_)
    obtain ⟨I1, Lg1, R1⟩ := M1
    have g1 := lw_1 h k1 f1 (by omega)
    refine zW.gbf [] rfl rfl rfl (by omega) ⟨sc_ar g1.2.2.1 hm hL (by decide) (by decide), sc_ar g1.2.2.1 hm hL (by decide) (by decide), sc_ar g1.2.2.1 hm hL (by decide) (by decide)⟩ (fun q => gb ((sc_v 3 g1.2.2.2.1 hm hL rfl (by decide)).symm.trans q)) ?_
    refine zW.gc [] rfl rfl rfl (by omega) trivial ⟨_, rfl, (lw_k0 g1).2⟩ (bu2 hc (by decide +kernel)) (bu2 hs (by decide +kernel)) ?_
    refine mIsRec_ok (by omega) g1.2.1 ((sc_v 1 g1.2.2.2.1 hm hL rfl (by decide)).trans (ag_i _)) ((sc_v 2 g1.2.2.2.1 hm hL rfl (by decide)).trans (ag_i _)) (zcn_I _) (ag_r _) (ag_r _) ⟨by decide, by decide⟩ (fun M2 w k2 f2 t2 w2 => ?_)
    obtain ⟨I2, Lg2, R2⟩ := M2
    obtain ⟨g2, q1, q2⟩ := lw_2 g1 k2 f2
    refine zW.gc [] rfl rfl rfl (by omega) trivial ⟨_, rfl, (lw_k0 g2).2⟩ (bu3 hc (by decide +kernel)) (bu3 hs (by decide +kernel)) ?_
    refine thrown_ok (by omega) (lw_k0 g2).2 t2 ?_
    refine zW.gbt [] rfl rfl rfl (by omega) trivial rfl ?_
    refine zW.gb [] rfl rfl rfl (by omega) trivial (fun g => ?_) (fun g => ?_)
    · exact zW.go [3358] rfl (by omega) trivial (hQ _ _ _ _ _ _ _ (bv3 (by decide +kernel)) (bv3 (by decide +kernel)) g2)
    · have n0 := n0_of b_oIsRec (by decide) g
      have e := ((congrFun q1 0).trans (w1 n0)).trans (congrArg cB (w2 n0).symm)
      refine zW.gb [] rfl rfl rfl (by omega) (oRo_ar (lw_ro g2).1.1) (fun g' => ?_) (fun g' => ?_)
      · exact zW.gbt [] rfl rfl rfl (by omega) trivial ((lg_cmp_eq _ _).mpr (la0 (e.trans (if_pos g')))) (zW.go [3358] rfl (by omega) trivial (hQ _ _ _ _ _ _ _ (bv3 (by decide +kernel)) (bv3 (by decide +kernel)) g2))
      · exact zW.gbt [] rfl rfl rfl (by omega) trivial ((lg_cmp_eq _ _).mpr (la0 (e.trans (if_neg g')))) (zW.go [3358] rfl (by omega) trivial (hQ _ _ _ _ _ _ _ (bv3 (by decide +kernel)) (bv3 (by decide +kernel)) g2))
theorem l44_ok {T : tfT} {M : zM} {v6 v7 v8 : Option zV} (hm : m + 7 ≤ L) (hL : L ≤ 3584) (h : lw b L x xs T T M) (hc : c + 26 ≤ zmc 298) (hs : s + 10831 ≤ zms 298) (hQ : lwK b L x m xs c s Q) : zW 298 2048 c s 3174 [some (zr (some b)), some (zr (some x)), some (zr (some (x + 17))), some (zr (some (x + 1958))), some (zr (some (x + 1959))), some (zi (iI (m : Int))), v6, v7, v8] [] M Q := by
  obtain ⟨I, Lg, R⟩ := M
  refine zW.gc [] rfl rfl rfl (by omega) trivial trivial (bu1 hc (by decide +kernel)) (bu1 hs (by decide +kernel)) ?_
  refine h296_ok (by omega) h.1 (lw_ro h).2  (fun M1 k1 f1 w1 => ?_)
  obtain ⟨I1, Lg1, R1⟩ := M1
  have g1 := lw_1 h k1 f1 (by omega)
  refine zW.gc [] rfl rfl rfl (by omega) trivial ⟨_, rfl, (lw_k0 g1).2⟩ (bu2 hc (by decide +kernel)) (bu2 hs (by decide +kernel)) ?_
  refine mShare_ok (by omega) g1.2.1  (fun M2 w k2 f2 t2 w2 => ?_)
  obtain ⟨I2, Lg2, R2⟩ := M2
  obtain ⟨g2, q1, q2⟩ := lw_2 g1 k2 f2
  rw [s_oShare] at g2
  refine zW.gc [] rfl rfl rfl (by omega) trivial ⟨_, rfl, (lw_k0 g2).2⟩ (bu3 hc (by decide +kernel)) (bu3 hs (by decide +kernel)) ?_
  refine thrown_ok (by omega) (lw_k0 g2).2 t2 ?_
  refine zW.gbt [] rfl rfl rfl (by omega) trivial rfl ?_
  refine zW.gb [] rfl rfl rfl (by omega) trivial (fun g => ?_) (fun g => ?_)
  · exact zW.go [3358] rfl (by omega) trivial (hQ _ _ _ _ _ _ _ (bv3 (by decide +kernel)) (bv3 (by decide +kernel)) g2)
  · have n0 := n0_of b_oShare (by decide) g
    have e0 := eF_f (w2 n0)
    have e := (congrFun q2 0).trans (w1 n0).1
    have n := (w1 n0).2
    rw [← e0] at e n
    exact zW.gbt [] rfl rfl rfl (by omega) ⟨n, oRo_ar (lw_ro g2).2.1⟩ (fl0 (la0 e) n) (zW.go [3358] rfl (by omega) trivial (hQ _ _ _ _ _ _ _ (bv3 (by decide +kernel)) (bv3 (by decide +kernel)) g2))
theorem l45_ok {T : tfT} {M : zM} {v6 v7 v8 : Option zV} (hm : m + 7 ≤ L) (hL : L ≤ 3584) (h : lw b L x xs T T M) (hc : c + 26 ≤ zmc 298) (hs : s + 10831 ≤ zms 298) (hQ : lwK b L x m xs c s Q) : zW 298 2048 c s 3240 [some (zr (some b)), some (zr (some x)), some (zr (some (x + 17))), some (zr (some (x + 1958))), some (zr (some (x + 1959))), some (zi (iI (m : Int))), v6, v7, v8] [] M Q := by
  obtain ⟨I, Lg, R⟩ := M
  refine zW.gc [] rfl rfl rfl (by omega) ⟨sc_ar h.2.2.1 hm hL (by decide) (by decide), sc_ar h.2.2.1 hm hL (by decide) (by decide)⟩ trivial (bu1 hc (by decide +kernel)) (bu1 hs (by decide +kernel)) ?_
  refine h297_ok (by omega) h.1 (lw_ro h).2 ((sc_v 1 h.2.2.2.1 hm hL rfl (by decide)).trans (ag_i _)) ((congrArg (fun q : Int32 => (q.toUInt32 % 65536).toInt32) (sc_v 2 h.2.2.2.1 hm hL rfl (by decide))).trans (ag_c _)) (ag_r _) (ag_c0 _) (ag_c1 _) (fun M1 k1 f1 w1 => ?_)
  obtain ⟨I1, Lg1, R1⟩ := M1
  have g1 := lw_1 h k1 f1 (by omega)
  refine zW.gc [] rfl rfl rfl (by omega) ⟨sc_ar g1.2.2.1 hm hL (by decide) (by decide), sc_ar g1.2.2.1 hm hL (by decide) (by decide)⟩ ⟨_, rfl, (lw_k0 g1).2⟩ (bu2 hc (by decide +kernel)) (bu2 hs (by decide +kernel)) ?_
  refine mMean_ok (by omega) g1.2.1 ((sc_v 1 g1.2.2.2.1 hm hL rfl (by decide)).trans (ag_i _)) ((congrArg (fun q : Int32 => (q.toUInt32 % 65536).toInt32) (sc_v 2 g1.2.2.2.1 hm hL rfl (by decide))).trans (ag_c _)) (ag_r _) (ag_c0 _) (ag_c1 _) (fun M2 w k2 f2 t2 w2 => ?_)
  obtain ⟨I2, Lg2, R2⟩ := M2
  obtain ⟨g2, q1, q2⟩ := lw_2 g1 k2 f2
  rw [s_oMean] at g2
  refine zW.gc [] rfl rfl rfl (by omega) trivial ⟨_, rfl, (lw_k0 g2).2⟩ (bu3 hc (by decide +kernel)) (bu3 hs (by decide +kernel)) ?_
  refine thrown_ok (by omega) (lw_k0 g2).2 t2 ?_
  refine zW.gbt [] rfl rfl rfl (by omega) trivial rfl ?_
  refine zW.gb [] rfl rfl rfl (by omega) trivial (fun g => ?_) (fun g => ?_)
  · exact zW.go [3358] rfl (by omega) trivial (hQ _ _ _ _ _ _ _ (bv3 (by decide +kernel)) (bv3 (by decide +kernel)) g2)
  · have n0 := n0_of b_oMean (by decide) g
    have e0 := eD_f (w2 n0)
    have e := (congrFun q2 0).trans (w1 n0).1
    have n := (w1 n0).2
    rw [← e0] at e n
    exact zW.gbt [] rfl rfl rfl (by omega) (oRo_ar (lw_ro g2).2.1) (fl0 (la0 e) n) (zW.go [3358] rfl (by omega) trivial (hQ _ _ _ _ _ _ _ (bv3 (by decide +kernel)) (bv3 (by decide +kernel)) g2))
theorem l46_ok {T : tfT} {M : zM} {v6 v7 v8 : Option zV} (hm : m + 7 ≤ L) (hL : L ≤ 3584) (h : lw b L x xs T T M) (hc : c + 26 ≤ zmc 298) (hs : s + 10831 ≤ zms 298) (hQ : lwK b L x m xs c s Q) : zW 298 2048 c s 3331 [some (zr (some b)), some (zr (some x)), some (zr (some (x + 17))), some (zr (some (x + 1958))), some (zr (some (x + 1959))), some (zi (iI (m : Int))), v6, v7, v8] [] M Q := by
  obtain ⟨I, Lg, R⟩ := M
  refine zW.gc [] rfl rfl rfl (by omega) trivial ⟨_, rfl, (lw_k0 h).1⟩ (bu1 hc (by decide +kernel)) (bu1 hs (by decide +kernel)) ?_
  refine check_ok (by omega) h.1 (tP_h (n := 0) (Nat.le_refl _) (fun M1 w1 T1 e1 k1 f1 => ?_) (fun c' _ _ _ q => absurd q (Nat.not_lt_zero _)))
  obtain ⟨I1, Lg1, R1⟩ := M1
  have g1 := lw_1 (o := x + 1958) h k1 (tfr_h f1) (Nat.le_refl _)
  refine zW.gc [] rfl rfl rfl (by omega) trivial ⟨_, rfl, (lw_k0 g1).2⟩ (bu2 hc (by decide +kernel)) (bu2 hs (by decide +kernel)) ?_
  refine mCheck_ok (by omega) g1.2.1 (fun M2 w k2 f2 t2 w2 => ?_)
  obtain ⟨I2, Lg2, R2⟩ := M2
  obtain ⟨g2, -, -⟩ := lw_2 g1 k2 f2
  have w2 := w2 rfl
  rw [e1] at g2 w2
  exact zW.gbt [] rfl rfl rfl (by omega) trivial ((lg_cmp_eq _ _).mpr (congrArg iL w2.symm)) (hQ _ _ _ _ _ _ _ (bv2 (by decide +kernel)) (bv2 (by decide +kernel)) g2)
theorem l47_ok {T : tfT} {M : zM} {v6 v7 v8 : Option zV} (hm : m + 7 ≤ L) (hL : L ≤ 3584) (h : lw b L x xs T T M) (hc : c + 26 ≤ zmc 298) (hs : s + 10831 ≤ zms 298) (hQ : lwK b L x m xs c s Q) : zW 298 2048 c s 3345 [some (zr (some b)), some (zr (some x)), some (zr (some (x + 17))), some (zr (some (x + 1958))), some (zr (some (x + 1959))), some (zi (iI (m : Int))), v6, v7, v8] [] M Q := by
  obtain ⟨I, Lg, R⟩ := M
  refine zW.gc [] rfl rfl rfl (by omega) trivial ⟨_, rfl, (lw_k0 h).1⟩ (bu1 hc (by decide +kernel)) (bu1 hs (by decide +kernel)) ?_
  refine sound_ok (by omega) h.1 (tP_h (n := 0) (Nat.le_refl _) (fun M1 w1 T1 e1 k1 f1 => ?_) (fun c' _ _ _ q => absurd q (Nat.not_lt_zero _)))
  obtain ⟨I1, Lg1, R1⟩ := M1
  have g1 := lw_1 (o := x + 1958) h k1 (tfr_h f1) (Nat.le_refl _)
  refine zW.gc [] rfl rfl rfl (by omega) trivial ⟨_, rfl, (lw_k0 g1).2⟩ (bu2 hc (by decide +kernel)) (bu2 hs (by decide +kernel)) ?_
  refine mSound_ok (by omega) g1.2.1 (fun M2 w k2 f2 t2 w2 => ?_)
  obtain ⟨I2, Lg2, R2⟩ := M2
  obtain ⟨g2, -, -⟩ := lw_2 g1 k2 f2
  have w2 := w2 rfl
  rw [e1] at g2 w2
  exact zW.gbt [] rfl rfl rfl (by omega) trivial (congrArg iI w2.symm) (hQ _ _ _ _ _ _ _ (bv2 (by decide +kernel)) (bv2 (by decide +kernel)) g2)
end LCAS3
