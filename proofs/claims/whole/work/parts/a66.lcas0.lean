/-! The law's cases 0 to 11. -/
def sL (u v : Int32) : Int64 := (u.toInt64 <<< ((zcn 32).toInt64 &&& 63)) ||| (v.toInt64 &&& Int64.ofInt (zldL 8125))
theorem sL_e {u v u' v' : Int32} (e1 : u = u') (e2 : v = v') : sL u v = sL u' v' := by rw [e1, e2]
theorem eF_f {f : UInt32} {n : Nat} {v : Int} (h : zf f = eF n v) : FP.f2d f = cF n v := by
  have h := Sum.inl.inj (Sum.inr.inj (Sum.inr.inj (Sum.inr.inj h)))
  rw [h]
  rfl
theorem eD_f {f : UInt64} {n : Nat} {v : Int} (h : zd f = eD n v) : f = cD n v := Sum.inr.inj (Sum.inr.inj (Sum.inr.inj (Sum.inr.inj h)))
theorem fl0 {op : CmpOp} {u : Int64} {v : UInt64} (e : u = v.toInt64) (n : vf_n64 v) : Op.cmpValue (FP.dcmp u.toUInt64 v) op = 0 := by
  rw [e, UInt64.toUInt64_toInt64, dcmp_same n]
  rfl
section LCAS0
variable {b L x m c s : Nat} {xs : Nat → Int32} {Q : zO → zM → Prop}
theorem l0_ok {T : tfT} {M : zM} {v6 v7 v8 : Option zV} (hm : m + 7 ≤ L) (hL : L ≤ 3584) (h : lw b L x xs T T M) (hc : c + 26 ≤ zmc 298) (hs : s + 10831 ≤ zms 298) (hQ : lwK b L x m xs c s Q) : zW 298 2048 c s 252 [some (zr (some b)), some (zr (some x)), some (zr (some (x + 17))), some (zr (some (x + 1958))), some (zr (some (x + 1959))), some (zi (iI (m : Int))), v6, v7, v8] [] M Q := by
  obtain ⟨I, Lg, R⟩ := M
  refine zW.gc [] rfl rfl rfl (by omega) (sc_ar h.2.2.1 hm hL (by decide) (by decide)) trivial (bu1 hc (by decide +kernel)) (bu1 hs (by decide +kernel)) ?_
  refine h255_ok (by omega) h.1 (lw_ro h).1 ((sc_v 1 h.2.2.2.1 hm hL rfl (by decide)).trans (ag_i _)) (ag_r _) (fun M1 k1 f1 w1 => ?_)
  obtain ⟨I1, Lg1, R1⟩ := M1
  have g1 := lw_1 h k1 f1 (by omega)
  refine zW.gc [] rfl rfl rfl (by omega) (sc_ar g1.2.2.1 hm hL (by decide) (by decide)) ⟨_, rfl, (lw_k0 g1).2⟩ (bu2 hc (by decide +kernel)) (bu2 hs (by decide +kernel)) ?_
  refine mTypeP_ok (by omega) g1.2.1 ((sc_v 1 g1.2.2.2.1 hm hL rfl (by decide)).trans (ag_i _)) (ag_r _) (fun M2 w k2 f2 t2 w2 => ?_)
  obtain ⟨I2, Lg2, R2⟩ := M2
  obtain ⟨g2, q1, q2⟩ := lw_2 g1 k2 f2
  refine zW.gc [] rfl rfl rfl (by omega) trivial ⟨_, rfl, (lw_k0 g2).2⟩ (bu3 hc (by decide +kernel)) (bu3 hs (by decide +kernel)) ?_
  refine thrown_ok (by omega) (lw_k0 g2).2 t2 ?_
  refine zW.gbt [] rfl rfl rfl (by omega) trivial rfl ?_
  refine zW.gb [] rfl rfl rfl (by omega) trivial (fun g => ?_) (fun g => ?_)
  · exact zW.go [3358] rfl (by omega) trivial (hQ _ _ _ _ _ _ _ (bv3 (by decide +kernel)) (bv3 (by decide +kernel)) g2)
  · have n0 := n0_of b_oTypeP (by decide) g
    have e := ((congrFun q1 0).trans (w1 n0)).trans (congrArg cI (w2 n0).symm)
    exact zW.gbt [] rfl rfl rfl (by omega) (oRo_ar (lw_ro g2).1.1) ((lg_cmp_eq _ _).mpr (la0 e)) (zW.go [3358] rfl (by omega) trivial (hQ _ _ _ _ _ _ _ (bv3 (by decide +kernel)) (bv3 (by decide +kernel)) g2))
theorem l1_ok {T : tfT} {M : zM} {v6 v7 v8 : Option zV} (hm : m + 7 ≤ L) (hL : L ≤ 3584) (h : lw b L x xs T T M) (hc : c + 26 ≤ zmc 298) (hs : s + 10831 ≤ zms 298) (hQ : lwK b L x m xs c s Q) : zW 298 2048 c s 308 [some (zr (some b)), some (zr (some x)), some (zr (some (x + 17))), some (zr (some (x + 1958))), some (zr (some (x + 1959))), some (zi (iI (m : Int))), v6, v7, v8] [] M Q := by
  obtain ⟨I, Lg, R⟩ := M
  refine zW.gc [] rfl rfl rfl (by omega) trivial ⟨_, rfl, (lw_k0 h).1⟩ (bu1 hc (by decide +kernel)) (bu1 hs (by decide +kernel)) ?_
  refine wipeP_ok (by omega) h.1 (tP_h (n := 0) (Nat.le_refl _) (fun M1 w1 T1 e1 k1 f1 => ?_) (fun c' _ _ _ q => absurd q (Nat.not_lt_zero _)))
  obtain ⟨I1, Lg1, R1⟩ := M1
  have g1 := lw_1 (o := x + 1958) h k1 (tfr_h f1) (Nat.le_refl _)
  refine zW.gc [] rfl rfl rfl (by omega) trivial ⟨_, rfl, (lw_k0 g1).2⟩ (bu2 hc (by decide +kernel)) (bu2 hs (by decide +kernel)) ?_
  refine mWipeP_ok (by omega) g1.2.1 (fun M2 w k2 f2 t2 w2 => ?_)
  obtain ⟨I2, Lg2, R2⟩ := M2
  obtain ⟨g2, -, -⟩ := lw_2 g1 k2 f2
  have w2 := w2 rfl
  rw [e1] at g2 w2
  exact zW.gbt [] rfl rfl rfl (by omega) trivial (congrArg iI w2.symm) (hQ _ _ _ _ _ _ _ (bv2 (by decide +kernel)) (bv2 (by decide +kernel)) g2)
theorem l2_ok {T : tfT} {M : zM} {v6 v7 v8 : Option zV} (hm : m + 7 ≤ L) (hL : L ≤ 3584) (h : lw b L x xs T T M) (hc : c + 26 ≤ zmc 298) (hs : s + 10831 ≤ zms 298) (hQ : lwK b L x m xs c s Q) : zW 298 2048 c s 321 [some (zr (some b)), some (zr (some x)), some (zr (some (x + 17))), some (zr (some (x + 1958))), some (zr (some (x + 1959))), some (zi (iI (m : Int))), v6, v7, v8] [] M Q := by
  obtain ⟨I, Lg, R⟩ := M
  refine zW.gc [] rfl rfl rfl (by omega) (sc_ar h.2.2.1 hm hL (by decide) (by decide)) trivial (bu1 hc (by decide +kernel)) (bu1 hs (by decide +kernel)) ?_
  refine h256_ok (by omega) h.1 (lw_ro h).1 ((sc_v 1 h.2.2.2.1 hm hL rfl (by decide)).trans (ag_i _)) (ag_r _) (fun M1 k1 f1 w1 => ?_)
  obtain ⟨I1, Lg1, R1⟩ := M1
  have g1 := lw_1 h k1 f1 (by omega)
  refine zW.gc [] rfl rfl rfl (by omega) (sc_ar g1.2.2.1 hm hL (by decide) (by decide)) ⟨_, rfl, (lw_k0 g1).2⟩ (bu2 hc (by decide +kernel)) (bu2 hs (by decide +kernel)) ?_
  refine mPuz_ok (by omega) g1.2.1 ((sc_v 1 g1.2.2.2.1 hm hL rfl (by decide)).trans (ag_i _)) (ag_r _) (fun M2 w k2 f2 t2 w2 => ?_)
  obtain ⟨I2, Lg2, R2⟩ := M2
  obtain ⟨g2, q1, q2⟩ := lw_2 g1 k2 f2
  refine zW.gc [] rfl rfl rfl (by omega) trivial ⟨_, rfl, (lw_k0 g2).2⟩ (bu3 hc (by decide +kernel)) (bu3 hs (by decide +kernel)) ?_
  refine thrown_ok (by omega) (lw_k0 g2).2 t2 ?_
  refine zW.gbt [] rfl rfl rfl (by omega) trivial rfl ?_
  refine zW.gb [] rfl rfl rfl (by omega) trivial (fun g => ?_) (fun g => ?_)
  · exact zW.go [3358] rfl (by omega) trivial (hQ _ _ _ _ _ _ _ (bv3 (by decide +kernel)) (bv3 (by decide +kernel)) g2)
  · have n0 := n0_of b_oPuz (by decide) g
    have e := ((congrFun q1 0).trans (w1 n0)).trans (congrArg cI (w2 n0).symm)
    exact zW.gbt [] rfl rfl rfl (by omega) (oRo_ar (lw_ro g2).1.1) ((lg_cmp_eq _ _).mpr (la0 e)) (zW.go [3358] rfl (by omega) trivial (hQ _ _ _ _ _ _ _ (bv3 (by decide +kernel)) (bv3 (by decide +kernel)) g2))
theorem l3_ok {T : tfT} {M : zM} {v6 v7 v8 : Option zV} (hm : m + 7 ≤ L) (hL : L ≤ 3584) (h : lw b L x xs T T M) (hc : c + 26 ≤ zmc 298) (hs : s + 10831 ≤ zms 298) (hQ : lwK b L x m xs c s Q) : zW 298 2048 c s 377 [some (zr (some b)), some (zr (some x)), some (zr (some (x + 17))), some (zr (some (x + 1958))), some (zr (some (x + 1959))), some (zi (iI (m : Int))), v6, v7, v8] [] M Q := by
  obtain ⟨I, Lg, R⟩ := M
  refine zW.gc [] rfl rfl rfl (by omega) ⟨sc_ar h.2.2.1 hm hL (by decide) (by decide), sc_ar h.2.2.1 hm hL (by decide) (by decide)⟩ trivial (bu1 hc (by decide +kernel)) (bu1 hs (by decide +kernel)) ?_
  refine h257_ok (by omega) h.1 (lw_ro h).1 ((sc_v 1 h.2.2.2.1 hm hL rfl (by decide)).trans (ag_i _)) ((sc_v 2 h.2.2.2.1 hm hL rfl (by decide)).trans (ag_i _)) (ag_r _) (ag_r _) (fun M1 k1 f1 w1 => ?_)
  obtain ⟨I1, Lg1, R1⟩ := M1
  have g1 := lw_1 h k1 f1 (by omega)
  refine zW.gc [] rfl rfl rfl (by omega) ⟨sc_ar g1.2.2.1 hm hL (by decide) (by decide), sc_ar g1.2.2.1 hm hL (by decide) (by decide)⟩ ⟨_, rfl, (lw_k0 g1).2⟩ (bu2 hc (by decide +kernel)) (bu2 hs (by decide +kernel)) ?_
  refine mRing_ok (by omega) g1.2.1 ((sc_v 1 g1.2.2.2.1 hm hL rfl (by decide)).trans (ag_i _)) ((sc_v 2 g1.2.2.2.1 hm hL rfl (by decide)).trans (ag_i _)) (ag_r _) (ag_r _) (fun M2 w k2 f2 t2 w2 => ?_)
  obtain ⟨I2, Lg2, R2⟩ := M2
  obtain ⟨g2, q1, q2⟩ := lw_2 g1 k2 f2
  refine zW.gc [] rfl rfl rfl (by omega) trivial ⟨_, rfl, (lw_k0 g2).2⟩ (bu3 hc (by decide +kernel)) (bu3 hs (by decide +kernel)) ?_
  refine thrown_ok (by omega) (lw_k0 g2).2 t2 ?_
  refine zW.gbt [] rfl rfl rfl (by omega) trivial rfl ?_
  refine zW.gb [] rfl rfl rfl (by omega) trivial (fun g => ?_) (fun g => ?_)
  · exact zW.go [3358] rfl (by omega) trivial (hQ _ _ _ _ _ _ _ (bv3 (by decide +kernel)) (bv3 (by decide +kernel)) g2)
  · have n0 := n0_of b_oRing (by decide) g
    have e := ((congrFun q1 0).trans (w1 n0)).trans (congrArg cI (w2 n0).symm)
    exact zW.gbt [] rfl rfl rfl (by omega) (oRo_ar (lw_ro g2).1.1) ((lg_cmp_eq _ _).mpr (la0 e)) (zW.go [3358] rfl (by omega) trivial (hQ _ _ _ _ _ _ _ (bv3 (by decide +kernel)) (bv3 (by decide +kernel)) g2))
theorem l4_ok {T : tfT} {M : zM} {v6 v7 v8 : Option zV} (hm : m + 7 ≤ L) (hL : L ≤ 3584) (h : lw b L x xs T T M) (hc : c + 26 ≤ zmc 298) (hs : s + 10831 ≤ zms 298) (hQ : lwK b L x m xs c s Q) : zW 298 2048 c s 445 [some (zr (some b)), some (zr (some x)), some (zr (some (x + 17))), some (zr (some (x + 1958))), some (zr (some (x + 1959))), some (zi (iI (m : Int))), v6, v7, v8] [] M Q := by
  obtain ⟨I, Lg, R⟩ := M
  refine zW.gc [] rfl rfl rfl (by omega) ⟨sc_ar h.2.2.1 hm hL (by decide) (by decide), sc_ar h.2.2.1 hm hL (by decide) (by decide), sc_ar h.2.2.1 hm hL (by decide) (by decide)⟩ trivial (bu1 hc (by decide +kernel)) (bu1 hs (by decide +kernel)) ?_
  refine h258_ok (by omega) h.1 (lw_ro h).1 ((sc_v 1 h.2.2.2.1 hm hL rfl (by decide)).trans (ag_i _)) ((sc_v 2 h.2.2.2.1 hm hL rfl (by decide)).trans (ag_i _)) ((sc_v 3 h.2.2.2.1 hm hL rfl (by decide)).trans (ag_i _)) (ag_r _) (ag_r _) (ag_r _) (fun M1 k1 f1 w1 => ?_)
  obtain ⟨I1, Lg1, R1⟩ := M1
  have g1 := lw_1 h k1 f1 (by omega)
  refine zW.gc [] rfl rfl rfl (by omega) ⟨sc_ar g1.2.2.1 hm hL (by decide) (by decide), sc_ar g1.2.2.1 hm hL (by decide) (by decide), sc_ar g1.2.2.1 hm hL (by decide) (by decide)⟩ ⟨_, rfl, (lw_k0 g1).2⟩ (bu2 hc (by decide +kernel)) (bu2 hs (by decide +kernel)) ?_
  refine mColour_ok (by omega) g1.2.1 ((sc_v 1 g1.2.2.2.1 hm hL rfl (by decide)).trans (ag_i _)) ((sc_v 2 g1.2.2.2.1 hm hL rfl (by decide)).trans (ag_i _)) ((sc_v 3 g1.2.2.2.1 hm hL rfl (by decide)).trans (ag_i _)) (ag_r _) (ag_r _) (ag_r _) (fun M2 w k2 f2 t2 w2 => ?_)
  obtain ⟨I2, Lg2, R2⟩ := M2
  obtain ⟨g2, q1, q2⟩ := lw_2 g1 k2 f2
  refine zW.gc [] rfl rfl rfl (by omega) trivial ⟨_, rfl, (lw_k0 g2).2⟩ (bu3 hc (by decide +kernel)) (bu3 hs (by decide +kernel)) ?_
  refine thrown_ok (by omega) (lw_k0 g2).2 t2 ?_
  refine zW.gbt [] rfl rfl rfl (by omega) trivial rfl ?_
  refine zW.gb [] rfl rfl rfl (by omega) trivial (fun g => ?_) (fun g => ?_)
  · exact zW.go [3358] rfl (by omega) trivial (hQ _ _ _ _ _ _ _ (bv3 (by decide +kernel)) (bv3 (by decide +kernel)) g2)
  · have n0 := n0_of b_oColour (by decide) g
    have e := ((congrFun q1 0).trans (w1 n0)).trans (congrArg cI (w2 n0).symm)
    exact zW.gbt [] rfl rfl rfl (by omega) (oRo_ar (lw_ro g2).1.1) ((lg_cmp_eq _ _).mpr (la0 e)) (zW.go [3358] rfl (by omega) trivial (hQ _ _ _ _ _ _ _ (bv3 (by decide +kernel)) (bv3 (by decide +kernel)) g2))
theorem l5_ok {T : tfT} {M : zM} {v6 v7 v8 : Option zV} (hm : m + 7 ≤ L) (hL : L ≤ 3584) (h : lw b L x xs T T M) (hc : c + 26 ≤ zmc 298) (hs : s + 10831 ≤ zms 298) (hQ : lwK b L x m xs c s Q) : zW 298 2048 c s 525 [some (zr (some b)), some (zr (some x)), some (zr (some (x + 17))), some (zr (some (x + 1958))), some (zr (some (x + 1959))), some (zi (iI (m : Int))), v6, v7, v8] [] M Q := by
  obtain ⟨I, Lg, R⟩ := M
  refine zW.gc [] rfl rfl rfl (by omega) ⟨sc_ar h.2.2.1 hm hL (by decide) (by decide), sc_ar h.2.2.1 hm hL (by decide) (by decide), sc_ar h.2.2.1 hm hL (by decide) (by decide)⟩ trivial (bu1 hc (by decide +kernel)) (bu1 hs (by decide +kernel)) ?_
  refine h259_ok (by omega) h.1 (lw_ro h).1 ((sc_v 1 h.2.2.2.1 hm hL rfl (by decide)).trans (ag_i _)) ((congrArg (fun q : Int32 => (q.toUInt32 % 65536).toInt32) (sc_v 2 h.2.2.2.1 hm hL rfl (by decide))).trans (ag_c _)) ((sc_v 3 h.2.2.2.1 hm hL rfl (by decide)).trans (ag_i _)) (ag_r _) (ag_c0 _) (ag_c1 _) (ag_r _) (fun M1 k1 f1 w1 => ?_)
  obtain ⟨I1, Lg1, R1⟩ := M1
  have g1 := lw_1 h k1 f1 (by omega)
  refine zW.gc [] rfl rfl rfl (by omega) ⟨sc_ar g1.2.2.1 hm hL (by decide) (by decide), sc_ar g1.2.2.1 hm hL (by decide) (by decide), sc_ar g1.2.2.1 hm hL (by decide) (by decide)⟩ ⟨_, rfl, (lw_k0 g1).2⟩ (bu2 hc (by decide +kernel)) (bu2 hs (by decide +kernel)) ?_
  refine mTurn_ok (by omega) g1.2.1 ((sc_v 1 g1.2.2.2.1 hm hL rfl (by decide)).trans (ag_i _)) ((congrArg (fun q : Int32 => (q.toUInt32 % 65536).toInt32) (sc_v 2 g1.2.2.2.1 hm hL rfl (by decide))).trans (ag_c _)) ((sc_v 3 g1.2.2.2.1 hm hL rfl (by decide)).trans (ag_i _)) (ag_r _) (ag_c0 _) (ag_c1 _) (ag_r _) (fun M2 w k2 f2 t2 w2 => ?_)
  obtain ⟨I2, Lg2, R2⟩ := M2
  obtain ⟨g2, q1, q2⟩ := lw_2 g1 k2 f2
  refine zW.gc [] rfl rfl rfl (by omega) trivial ⟨_, rfl, (lw_k0 g2).2⟩ (bu3 hc (by decide +kernel)) (bu3 hs (by decide +kernel)) ?_
  refine thrown_ok (by omega) (lw_k0 g2).2 t2 ?_
  refine zW.gbt [] rfl rfl rfl (by omega) trivial rfl ?_
  refine zW.gb [] rfl rfl rfl (by omega) trivial (fun g => ?_) (fun g => ?_)
  · exact zW.go [3358] rfl (by omega) trivial (hQ _ _ _ _ _ _ _ (bv3 (by decide +kernel)) (bv3 (by decide +kernel)) g2)
  · have n0 := n0_of b_oTurn (by decide) g
    have e := ((congrFun q1 0).trans (w1 n0)).trans (congrArg cI (w2 n0).symm)
    exact zW.gbt [] rfl rfl rfl (by omega) (oRo_ar (lw_ro g2).1.1) ((lg_cmp_eq _ _).mpr (la0 e)) (zW.go [3358] rfl (by omega) trivial (hQ _ _ _ _ _ _ _ (bv3 (by decide +kernel)) (bv3 (by decide +kernel)) g2))
theorem l6_ok {T : tfT} {M : zM} {v6 v7 v8 : Option zV} (hm : m + 7 ≤ L) (hL : L ≤ 3584) (h : lw b L x xs T T M) (hc : c + 26 ≤ zmc 298) (hs : s + 10831 ≤ zms 298) (hQ : lwK b L x m xs c s Q) : zW 298 2048 c s 607 [some (zr (some b)), some (zr (some x)), some (zr (some (x + 17))), some (zr (some (x + 1958))), some (zr (some (x + 1959))), some (zi (iI (m : Int))), v6, v7, v8] [] M Q := by
  obtain ⟨I, Lg, R⟩ := M
  refine zW.gc [] rfl rfl rfl (by omega) ⟨sc_ar h.2.2.1 hm hL (by decide) (by decide), sc_ar h.2.2.1 hm hL (by decide) (by decide)⟩ trivial (bu1 hc (by decide +kernel)) (bu1 hs (by decide +kernel)) ?_
  refine h260_ok (by omega) h.1 (lw_ro h).1 ((sc_v 1 h.2.2.2.1 hm hL rfl (by decide)).trans (ag_i _)) ((sc_v 2 h.2.2.2.1 hm hL rfl (by decide)).trans (ag_i _)) (ag_r _) (ag_r _) (fun M1 k1 f1 w1 => ?_)
  obtain ⟨I1, Lg1, R1⟩ := M1
  have g1 := lw_1 h k1 f1 (by omega)
  refine zW.gc [] rfl rfl rfl (by omega) ⟨sc_ar g1.2.2.1 hm hL (by decide) (by decide), sc_ar g1.2.2.1 hm hL (by decide) (by decide)⟩ ⟨_, rfl, (lw_k0 g1).2⟩ (bu2 hc (by decide +kernel)) (bu2 hs (by decide +kernel)) ?_
  refine mPiece_ok (by omega) g1.2.1 ((sc_v 1 g1.2.2.2.1 hm hL rfl (by decide)).trans (ag_i _)) ((sc_v 2 g1.2.2.2.1 hm hL rfl (by decide)).trans (ag_i _)) (ag_r _) (ag_r _) (fun M2 w k2 f2 t2 w2 => ?_)
  obtain ⟨I2, Lg2, R2⟩ := M2
  obtain ⟨g2, q1, q2⟩ := lw_2 g1 k2 f2
  refine zW.gc [] rfl rfl rfl (by omega) trivial ⟨_, rfl, (lw_k0 g2).2⟩ (bu3 hc (by decide +kernel)) (bu3 hs (by decide +kernel)) ?_
  refine thrown_ok (by omega) (lw_k0 g2).2 t2 ?_
  refine zW.gbt [] rfl rfl rfl (by omega) trivial rfl ?_
  refine zW.gb [] rfl rfl rfl (by omega) trivial (fun g => ?_) (fun g => ?_)
  · exact zW.go [3358] rfl (by omega) trivial (hQ _ _ _ _ _ _ _ (bv3 (by decide +kernel)) (bv3 (by decide +kernel)) g2)
  · have n0 := n0_of b_oPiece (by decide) g
    have e := ((congrFun q1 0).trans (w1 n0)).trans (congrArg cI (w2 n0).symm)
    exact zW.gbt [] rfl rfl rfl (by omega) (oRo_ar (lw_ro g2).1.1) ((lg_cmp_eq _ _).mpr (la0 e)) (zW.go [3358] rfl (by omega) trivial (hQ _ _ _ _ _ _ _ (bv3 (by decide +kernel)) (bv3 (by decide +kernel)) g2))
theorem l7_ok {T : tfT} {M : zM} {v6 v7 v8 : Option zV} (hm : m + 7 ≤ L) (hL : L ≤ 3584) (h : lw b L x xs T T M) (hc : c + 26 ≤ zmc 298) (hs : s + 10831 ≤ zms 298) (hQ : lwK b L x m xs c s Q) : zW 298 2048 c s 675 [some (zr (some b)), some (zr (some x)), some (zr (some (x + 17))), some (zr (some (x + 1958))), some (zr (some (x + 1959))), some (zi (iI (m : Int))), v6, v7, v8] [] M Q := by
  obtain ⟨I, Lg, R⟩ := M
  refine zW.gc [] rfl rfl rfl (by omega) ⟨sc_ar h.2.2.1 hm hL (by decide) (by decide), sc_ar h.2.2.1 hm hL (by decide) (by decide), sc_ar h.2.2.1 hm hL (by decide) (by decide)⟩ trivial (bu1 hc (by decide +kernel)) (bu1 hs (by decide +kernel)) ?_
  refine h261_ok (by omega) h.1 (lw_ro h).1 ((sc_v 1 h.2.2.2.1 hm hL rfl (by decide)).trans (ag_i _)) ((sc_v 2 h.2.2.2.1 hm hL rfl (by decide)).trans (ag_i _)) ((sc_v 3 h.2.2.2.1 hm hL rfl (by decide)).trans (ag_i _)) (ag_r _) (ag_r _) (ag_r _) (fun M1 k1 f1 w1 => ?_)
  obtain ⟨I1, Lg1, R1⟩ := M1
  have g1 := lw_1 h k1 f1 (by omega)
  refine zW.gc [] rfl rfl rfl (by omega) ⟨sc_ar g1.2.2.1 hm hL (by decide) (by decide), sc_ar g1.2.2.1 hm hL (by decide) (by decide), sc_ar g1.2.2.1 hm hL (by decide) (by decide)⟩ ⟨_, rfl, (lw_k0 g1).2⟩ (bu2 hc (by decide +kernel)) (bu2 hs (by decide +kernel)) ?_
  refine mSwap_ok (by omega) g1.2.1 ((sc_v 1 g1.2.2.2.1 hm hL rfl (by decide)).trans (ag_i _)) ((sc_v 2 g1.2.2.2.1 hm hL rfl (by decide)).trans (ag_i _)) ((sc_v 3 g1.2.2.2.1 hm hL rfl (by decide)).trans (ag_i _)) (ag_r _) (ag_r _) (ag_r _) (fun M2 w k2 f2 t2 w2 => ?_)
  obtain ⟨I2, Lg2, R2⟩ := M2
  obtain ⟨g2, q1, q2⟩ := lw_2 g1 k2 f2
  refine zW.gc [] rfl rfl rfl (by omega) trivial ⟨_, rfl, (lw_k0 g2).2⟩ (bu3 hc (by decide +kernel)) (bu3 hs (by decide +kernel)) ?_
  refine thrown_ok (by omega) (lw_k0 g2).2 t2 ?_
  refine zW.gbt [] rfl rfl rfl (by omega) trivial rfl ?_
  refine zW.gb [] rfl rfl rfl (by omega) trivial (fun g => ?_) (fun g => ?_)
  · exact zW.go [3358] rfl (by omega) trivial (hQ _ _ _ _ _ _ _ (bv3 (by decide +kernel)) (bv3 (by decide +kernel)) g2)
  · have n0 := n0_of b_oSwap (by decide) g
    have e := ((congrFun q1 0).trans (w1 n0)).trans (congrArg cI (w2 n0).symm)
    exact zW.gbt [] rfl rfl rfl (by omega) (oRo_ar (lw_ro g2).1.1) ((lg_cmp_eq _ _).mpr (la0 e)) (zW.go [3358] rfl (by omega) trivial (hQ _ _ _ _ _ _ _ (bv3 (by decide +kernel)) (bv3 (by decide +kernel)) g2))
theorem l8_ok {T : tfT} {M : zM} {v6 v7 v8 : Option zV} (hm : m + 7 ≤ L) (hL : L ≤ 3584) (h : lw b L x xs T T M) (hc : c + 26 ≤ zmc 298) (hs : s + 10831 ≤ zms 298) (hQ : lwK b L x m xs c s Q) : zW 298 2048 c s 755 [some (zr (some b)), some (zr (some x)), some (zr (some (x + 17))), some (zr (some (x + 1958))), some (zr (some (x + 1959))), some (zi (iI (m : Int))), v6, v7, v8] [] M Q := by
  obtain ⟨I, Lg, R⟩ := M
  refine zW.gc [] rfl rfl rfl (by omega) (sc_ar h.2.2.1 hm hL (by decide) (by decide)) trivial (bu1 hc (by decide +kernel)) (bu1 hs (by decide +kernel)) ?_
  refine h262_ok (by omega) h.1 (lw_ro h).1 ((sc_v 1 h.2.2.2.1 hm hL rfl (by decide)).trans (ag_i _)) (ag_r _) (fun M1 k1 f1 w1 => ?_)
  obtain ⟨I1, Lg1, R1⟩ := M1
  have g1 := lw_1 h k1 f1 (by omega)
  refine zW.gc [] rfl rfl rfl (by omega) (sc_ar g1.2.2.1 hm hL (by decide) (by decide)) ⟨_, rfl, (lw_k0 g1).2⟩ (bu2 hc (by decide +kernel)) (bu2 hs (by decide +kernel)) ?_
  refine mReset_ok (by omega) g1.2.1 ((sc_v 1 g1.2.2.2.1 hm hL rfl (by decide)).trans (ag_i _)) (ag_r _) (fun M2 w k2 f2 t2 w2 => ?_)
  obtain ⟨I2, Lg2, R2⟩ := M2
  obtain ⟨g2, q1, q2⟩ := lw_2 g1 k2 f2
  refine zW.gc [] rfl rfl rfl (by omega) trivial ⟨_, rfl, (lw_k0 g2).2⟩ (bu3 hc (by decide +kernel)) (bu3 hs (by decide +kernel)) ?_
  refine thrown_ok (by omega) (lw_k0 g2).2 t2 ?_
  refine zW.gbt [] rfl rfl rfl (by omega) trivial rfl ?_
  refine zW.gb [] rfl rfl rfl (by omega) trivial (fun g => ?_) (fun g => ?_)
  · exact zW.go [3358] rfl (by omega) trivial (hQ _ _ _ _ _ _ _ (bv3 (by decide +kernel)) (bv3 (by decide +kernel)) g2)
  · have n0 := n0_of b_oReset (by decide) g
    have e := ((congrFun q1 0).trans (w1 n0)).trans (congrArg cI (w2 n0).symm)
    exact zW.gbt [] rfl rfl rfl (by omega) (oRo_ar (lw_ro g2).1.1) ((lg_cmp_eq _ _).mpr (la0 e)) (zW.go [3358] rfl (by omega) trivial (hQ _ _ _ _ _ _ _ (bv3 (by decide +kernel)) (bv3 (by decide +kernel)) g2))
theorem l9_ok {T : tfT} {M : zM} {v6 v7 v8 : Option zV} (hm : m + 7 ≤ L) (hL : L ≤ 3584) (h : lw b L x xs T T M) (hc : c + 26 ≤ zmc 298) (hs : s + 10831 ≤ zms 298) (hQ : lwK b L x m xs c s Q) : zW 298 2048 c s 811 [some (zr (some b)), some (zr (some x)), some (zr (some (x + 17))), some (zr (some (x + 1958))), some (zr (some (x + 1959))), some (zi (iI (m : Int))), v6, v7, v8] [] M Q := by
  obtain ⟨I, Lg, R⟩ := M
  refine zW.gc [] rfl rfl rfl (by omega) (sc_ar h.2.2.1 hm hL (by decide) (by decide)) trivial (bu1 hc (by decide +kernel)) (bu1 hs (by decide +kernel)) ?_
  refine h263_ok (by omega) h.1 (lw_ro h).1 ((sc_v 1 h.2.2.2.1 hm hL rfl (by decide)).trans (ag_i _)) (ag_r _) (fun M1 k1 f1 w1 => ?_)
  obtain ⟨I1, Lg1, R1⟩ := M1
  have g1 := lw_1 h k1 f1 (by omega)
  refine zW.gc [] rfl rfl rfl (by omega) (sc_ar g1.2.2.1 hm hL (by decide) (by decide)) ⟨_, rfl, (lw_k0 g1).2⟩ (bu2 hc (by decide +kernel)) (bu2 hs (by decide +kernel)) ?_
  refine mSolved_ok (by omega) g1.2.1 ((sc_v 1 g1.2.2.2.1 hm hL rfl (by decide)).trans (ag_i _)) (ag_r _) (fun M2 w k2 f2 t2 w2 => ?_)
  obtain ⟨I2, Lg2, R2⟩ := M2
  obtain ⟨g2, q1, q2⟩ := lw_2 g1 k2 f2
  refine zW.gc [] rfl rfl rfl (by omega) trivial ⟨_, rfl, (lw_k0 g2).2⟩ (bu3 hc (by decide +kernel)) (bu3 hs (by decide +kernel)) ?_
  refine thrown_ok (by omega) (lw_k0 g2).2 t2 ?_
  refine zW.gbt [] rfl rfl rfl (by omega) trivial rfl ?_
  refine zW.gb [] rfl rfl rfl (by omega) trivial (fun g => ?_) (fun g => ?_)
  · exact zW.go [3358] rfl (by omega) trivial (hQ _ _ _ _ _ _ _ (bv3 (by decide +kernel)) (bv3 (by decide +kernel)) g2)
  · have n0 := n0_of b_oSolved (by decide) g
    have e := ((congrFun q1 0).trans (w1 n0)).trans (congrArg cB (w2 n0).symm)
    refine zW.gb [] rfl rfl rfl (by omega) (oRo_ar (lw_ro g2).1.1) (fun g' => ?_) (fun g' => ?_)
    · exact zW.gbt [] rfl rfl rfl (by omega) trivial ((lg_cmp_eq _ _).mpr (la0 (e.trans (if_pos g')))) (zW.go [3358] rfl (by omega) trivial (hQ _ _ _ _ _ _ _ (bv3 (by decide +kernel)) (bv3 (by decide +kernel)) g2))
    · exact zW.gbt [] rfl rfl rfl (by omega) trivial ((lg_cmp_eq _ _).mpr (la0 (e.trans (if_neg g')))) (zW.go [3358] rfl (by omega) trivial (hQ _ _ _ _ _ _ _ (bv3 (by decide +kernel)) (bv3 (by decide +kernel)) g2))
theorem l10_ok {T : tfT} {M : zM} {v6 v7 v8 : Option zV} (hm : m + 7 ≤ L) (hL : L ≤ 3584) (h : lw b L x xs T T M) (hc : c + 26 ≤ zmc 298) (hs : s + 10831 ≤ zms 298) (hQ : lwK b L x m xs c s Q) : zW 298 2048 c s 874 [some (zr (some b)), some (zr (some x)), some (zr (some (x + 17))), some (zr (some (x + 1958))), some (zr (some (x + 1959))), some (zi (iI (m : Int))), v6, v7, v8] [] M Q := by
  obtain ⟨I, Lg, R⟩ := M
  refine zW.gc [] rfl rfl rfl (by omega) (sc_ar h.2.2.1 hm hL (by decide) (by decide)) trivial (bu1 hc (by decide +kernel)) (bu1 hs (by decide +kernel)) ?_
  refine h264_ok (by omega) h.1 (lw_ro h).1 ((sc_v 1 h.2.2.2.1 hm hL rfl (by decide)).trans (ag_i _)) (ag_r _) (fun M1 k1 f1 w1 => ?_)
  obtain ⟨I1, Lg1, R1⟩ := M1
  have g1 := lw_1 h k1 f1 (by omega)
  refine zW.gc [] rfl rfl rfl (by omega) (sc_ar g1.2.2.1 hm hL (by decide) (by decide)) ⟨_, rfl, (lw_k0 g1).2⟩ (bu2 hc (by decide +kernel)) (bu2 hs (by decide +kernel)) ?_
  refine mOrder_ok (by omega) g1.2.1 ((sc_v 1 g1.2.2.2.1 hm hL rfl (by decide)).trans (ag_i _)) (ag_r _) (fun M2 w k2 f2 t2 w2 => ?_)
  obtain ⟨I2, Lg2, R2⟩ := M2
  obtain ⟨g2, q1, q2⟩ := lw_2 g1 k2 f2
  refine zW.gc [] rfl rfl rfl (by omega) trivial ⟨_, rfl, (lw_k0 g2).2⟩ (bu3 hc (by decide +kernel)) (bu3 hs (by decide +kernel)) ?_
  refine thrown_ok (by omega) (lw_k0 g2).2 t2 ?_
  refine zW.gbt [] rfl rfl rfl (by omega) trivial rfl ?_
  refine zW.gb [] rfl rfl rfl (by omega) trivial (fun g => ?_) (fun g => ?_)
  · exact zW.go [3358] rfl (by omega) trivial (hQ _ _ _ _ _ _ _ (bv3 (by decide +kernel)) (bv3 (by decide +kernel)) g2)
  · have n0 := n0_of b_oOrder (by decide) g
    have e := ((congrFun q1 0).trans (w1 n0)).trans (congrArg cL (w2 n0).symm)
    exact zW.gbt [] rfl rfl rfl (by omega) (oRo_ar (lw_ro g2).1.1) ((lg_cmp_eq _ _).mpr (la0 e)) (zW.go [3358] rfl (by omega) trivial (hQ _ _ _ _ _ _ _ (bv3 (by decide +kernel)) (bv3 (by decide +kernel)) g2))
theorem l11_ok {T : tfT} {M : zM} {v6 v7 v8 : Option zV} (hm : m + 7 ≤ L) (hL : L ≤ 3584) (h : lw b L x xs T T M) (hc : c + 26 ≤ zmc 298) (hs : s + 10831 ≤ zms 298) (hQ : lwK b L x m xs c s Q) : zW 298 2048 c s 929 [some (zr (some b)), some (zr (some x)), some (zr (some (x + 17))), some (zr (some (x + 1958))), some (zr (some (x + 1959))), some (zi (iI (m : Int))), v6, v7, v8] [] M Q := by
  obtain ⟨I, Lg, R⟩ := M
  refine zW.gc [] rfl rfl rfl (by omega) (sc_ar h.2.2.1 hm hL (by decide) (by decide)) trivial (bu1 hc (by decide +kernel)) (bu1 hs (by decide +kernel)) ?_
  refine h265_ok (by omega) h.1 (lw_ro h).1 ((sc_v 1 h.2.2.2.1 hm hL rfl (by decide)).trans (ag_i _)) (ag_r _) (fun M1 k1 f1 w1 => ?_)
  obtain ⟨I1, Lg1, R1⟩ := M1
  have g1 := lw_1 h k1 f1 (by omega)
  refine zW.gc [] rfl rfl rfl (by omega) (sc_ar g1.2.2.1 hm hL (by decide) (by decide)) ⟨_, rfl, (lw_k0 g1).2⟩ (bu2 hc (by decide +kernel)) (bu2 hs (by decide +kernel)) ?_
  refine mIsIn_ok (by omega) g1.2.1 ((sc_v 1 g1.2.2.2.1 hm hL rfl (by decide)).trans (ag_i _)) (ag_r _) (fun M2 w k2 f2 t2 w2 => ?_)
  obtain ⟨I2, Lg2, R2⟩ := M2
  obtain ⟨g2, q1, q2⟩ := lw_2 g1 k2 f2
  refine zW.gc [] rfl rfl rfl (by omega) trivial ⟨_, rfl, (lw_k0 g2).2⟩ (bu3 hc (by decide +kernel)) (bu3 hs (by decide +kernel)) ?_
  refine thrown_ok (by omega) (lw_k0 g2).2 t2 ?_
  refine zW.gbt [] rfl rfl rfl (by omega) trivial rfl ?_
  refine zW.gb [] rfl rfl rfl (by omega) trivial (fun g => ?_) (fun g => ?_)
  · exact zW.go [3358] rfl (by omega) trivial (hQ _ _ _ _ _ _ _ (bv3 (by decide +kernel)) (bv3 (by decide +kernel)) g2)
  · have n0 := n0_of b_oIsIn (by decide) g
    have e := ((congrFun q1 0).trans (w1 n0)).trans (congrArg cB (w2 n0).symm)
    refine zW.gb [] rfl rfl rfl (by omega) (oRo_ar (lw_ro g2).1.1) (fun g' => ?_) (fun g' => ?_)
    · exact zW.gbt [] rfl rfl rfl (by omega) trivial ((lg_cmp_eq _ _).mpr (la0 (e.trans (if_pos g')))) (zW.go [3358] rfl (by omega) trivial (hQ _ _ _ _ _ _ _ (bv3 (by decide +kernel)) (bv3 (by decide +kernel)) g2))
    · exact zW.gbt [] rfl rfl rfl (by omega) trivial ((lg_cmp_eq _ _).mpr (la0 (e.trans (if_neg g')))) (zW.go [3358] rfl (by omega) trivial (hQ _ _ _ _ _ _ _ (bv3 (by decide +kernel)) (bv3 (by decide +kernel)) g2))
end LCAS0
