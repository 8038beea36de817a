/-! The law's first comparisons. -/
section FIN
variable {n r m i a : Nat} {tn : Nat → Nat → Nat} {f : Nat → Nat → Nat} {D : Nat → Nat} {st : Nat → Nat}
theorem fin_sz (hz : zOK n r tn (fun p => p) st) (hJ : lfJ n r tn f D m i a) (hi : m ≤ i) : szG (zG r tn) 10 = m := enu_sz (zG_is hz) (lfJ_enu hJ hi)
theorem fin_dF (hz : zOK n r tn (fun p => p) st) (hJ : lfJ n r tn f D m i a) (hi : m ≤ i) (hm : m ≤ 24) {k : Nat} (hk : k < m) : dF 0 r tn (numG (zG r tn) (f k) 10) = (D k : Int) := lfJ_dG hz (by rw [fin_sz hz hJ hi]; omega) hJ hi hk
theorem mxd_cg {g h : Nat → Int} : ∀ {n : Nat}, (∀ k, k < n → g k = h k) → mxd g n = mxd h n
  | 0, _ => rfl
  | n + 1, e => by
    show (if mxd g n < g n then g n else mxd g n) = (if mxd h n < h n then h n else mxd h n)
    rw [mxd_cg (fun k hk => e k (by omega)), e n (by omega)]
theorem fin_god (hz : zOK n r tn (fun p => p) st) (hJ : lfJ n r tn f D m i a) (hi : m ≤ i) (hm : m ≤ 24) : mxd (dF 0 r tn) m = mxd (fun k => (D k : Int)) m := by
  rw [enu_mx (zG_is hz) (lfJ_enu hJ hi)]
  exact mxd_cg fun k hk => fin_dF hz hJ hi hm hk
theorem fin_godt (hz : zOK n r tn (fun p => p) st) (hJ : lfJ n r tn f D m i a) (hi : m ≤ i) (hm : m ≤ 24) : mxd (dF 1 r tn) m ≤ mxd (fun k => (D k : Int)) m := by
  rw [enu_mx (zG_is hz) (lfJ_enu hJ hi)]
  refine mxd_le (mxd_nn _ _) fun k hk => ?_
  have h1 := dst_le (zG_tnO hz) (dG_dst (k := 0) hz (by rw [fin_sz hz hJ hi]; omega)) (dG_dst (k := 1) hz (by rw [fin_sz hz hJ hi]; omega)) (dG_dnr hz (by rw [fin_sz hz hJ hi]; omega)) (hJ.2.1 k hk).1
  have h2 : dF 1 r tn (numG (zG r tn) (f k) 10) ≤ dF 0 r tn (numG (zG r tn) (f k) 10) := h1
  rw [fin_dF hz hJ hi hm hk] at h2
  have := mxd_up (g := fun k => (D k : Int)) hk
  exact Int.le_trans h2 this
theorem fin_many (hz : zOK n r tn (fun p => p) st) (hJ : lfJ n r tn f D m i a) (hi : m ≤ i) (hm : m ≤ 24) {v : Int} {u : Nat} (hv : v = (u : Int)) : ct (fun s => decide (dF 0 r tn s = v)) m = ct (fun k => decide (D k = u)) m := by
  rw [← enu_ct (zG_is hz) (lfJ_enu hJ hi)]
  refine ct_cg fun k hk => ?_
  rw [fin_dF hz hJ hi hm hk, hv]
  exact bl_iff (by rw [decide_eq_true_iff, decide_eq_true_iff]; omega)
theorem fin_one (hz : zOK n r tn (fun p => p) st) (hJ : lfJ n r tn f D m i a) (hi : m ≤ i) (hm : m ≤ 24) : ct (fun k => decide (D k = 0)) m = 1 := by
  have h0 := hJ.1
  have := ct_set (a := fun _ => false) (b := fun k => decide (D k = 0)) (show 0 < m by omega) rfl (decide_eq_true h0.2.2) (fun k hk hne => decide_eq_false (fun q => by
    obtain ⟨j, b, q1, q2, q3, q4⟩ := hJ.2.2.2.1 k hk (by omega)
    omega))
  rw [this, ct_z (fun _ _ => rfl)]
theorem fin_none (hz : zOK n r tn (fun p => p) st) (hJ : lfJ n r tn f D m i a) (hi : m ≤ i) (hm : m ≤ 24) : ct (fun s => decide (dF 1 r tn s = -1)) m = 0 := by
  have hs := fin_sz hz hJ hi
  refine ct_z fun k hk => decide_eq_false fun q => ?_
  have := dF_nn (k := 1) hz (by rw [hs]; omega) (i := k) (by rw [hs]; exact hk)
  omega
theorem fin_mean (hz : zOK n r tn (fun p => p) st) (hJ : lfJ n r tn f D m i a) (hi : m ≤ i) (hm : m ≤ 24) : smd (dF 0 r tn) m = ((sumN D m : Nat) : Int) := by
  have hs := fin_sz hz hJ hi
  exact enu_sm (zG_is hz) (lfJ_enu hJ hi) (fun k hk => dF_nn hz (by rw [hs]; omega) (by rw [hs]; exact hk)) (fun k hk => fin_dF hz hJ hi hm hk)
end FIN
theorem i2d_l2d {n : Nat} (h : n < 2147483648) : FP.i2d (iI (n : Int)) = FP.l2d (iL (n : Int)) := by
  show FP.Core.i2d (iI (n : Int)) = FP.Core.l2d (iL (n : Int))
  unfold FP.Core.i2d FP.Core.l2d
  rw [iI_toInt (by omega) (by omega), iL_toInt (by omega) (by omega)]
theorem eI_i2l {n : Nat} (h : n < 2147483648) : (iI (n : Int)).toInt64 = iL (n : Int) := iI_L (by omega) (by omega)
section SD
variable {b Ls x n r ta sa al c s m aa i a : Nat} {Q : zO → zM → Prop} {g F : Nat → Nat → Int} {Dm A : Nat → Int} {D : Nat → Nat} {T : tfT} {tn f : Nat → Nat → Nat}
theorem sD1 {K : Nat} {I : Nat → Nat → Int32} {L : Nat → Nat → Int64} {R : zRt} {y3 y10 y11 y13 : Int32} {v14 v15 v16 v17 v18 : Option zV} (hn : n = 3 ∨ n = 4) (hr : r = 1 ∨ r = 2) (hal : al ≤ 24) (hm : m ≤ al) (hq : tq T [] (pq n r tn (fun p => p) (fun p => p))) (hJ : lfJ n r tn f D m i a) (hi : m ≤ i) (hb : bu c s (K + 20)) (e3 : y3 = iI 1) (e10 : y10 = iI (mxd (fun k => (D k : Int)) m)) (e11 : y11 = iI ((sumN D m : Nat) : Int)) (hA : (∀ u, u ≤ al → A u = ((ct (fun j => decide (D j = u)) m : Nat) : Int))) (hg : lS x (C3 b ta r sa al aa) (W3 b Ls ta r n g sa al F Dm aa A) T (I, L, R))
    (kk : ∀ c s I L R y3 y10 y11 y13 v14 v15 v16 v17 v18, bu c s K → y3 = iI 1 → y13 = iI 0 → lS x (C3 b ta r sa al aa) (W3 b Ls ta r n g sa al F Dm aa A) T (I, L, R) → zW 298 2048 c s 831 [some (zr (some b)), some (zr (some x)), some (zi (iI (n : Int))), some (zi y3), some (zi (iI (r : Int))), some (zr (some ta)), some (zi (iI (al : Int))), some (zr (some sa)), some (zr (some (sa + 1 + al))), some (zi (iI (m : Int))), some (zi y10), some (zi y11), some (zr (some aa)), some (zi y13), v14, v15, v16, v17, v18] [] (I, L, R) Q) : zW 298 2048 c s 663 [some (zr (some b)), some (zr (some x)), some (zi (iI (n : Int))), some (zi y3), some (zi (iI (r : Int))), some (zr (some ta)), some (zi (iI (al : Int))), some (zr (some sa)), some (zr (some (sa + 1 + al))), some (zi (iI (m : Int))), some (zi y10), some (zi y11), some (zr (some aa)), some (zi y13), v14, v15, v16, v17, v18] [] (I, L, R) Q := by
  subst e3; subst e10; subst e11
  have hz := lS_zOK hg hq
  have hs := fin_sz hz hJ hi
  have h8 : szG (zG r tn) 10 ≤ 800 := by omega
  have hm1 := hJ.1.1
  have hDk := lfJ_Dk hJ m
  have mx0 := mxd_nn (fun k => (D k : Int)) m
  have mx1 : mxd (fun k => (D k : Int)) m ≤ (al : Int) := mxd_le (by omega) (fun j hj => by
    have := hDk j (by omega) hj
    omega)
  obtain ⟨gd, egd⟩ : ∃ gd : Nat, mxd (fun k => (D k : Int)) m = (gd : Int) := ⟨(mxd (fun k => (D k : Int)) m).toNat, by omega⟩
  have hgod := fin_god hz hJ hi (by omega)
  have hgodt := fin_godt hz hJ hi (by omega)
  have gt0 := mxd_nn (dF 1 r tn) m
  have hmean := fin_mean hz hJ hi (by omega)
  have hsum : sumN D m ≤ 1000 := by
    have := sumN_bd (f := D) (B := 24) (n := m) (fun k hk => by have := hDk k (by omega) hk; omega)
    omega
  rw [egd] at hgod hgodt mx0 mx1 ⊢
  obtain ⟨hb1, hb⟩ := bu_y (y := 264) (j := 1) (k := K + 19) hb (by decide +kernel) (by decide +kernel)
  refine zW.gc [] rfl rfl rfl (by omega) trivial trivial hb1.1 hb1.2 ?_
  refine h264_ok (v1 := 0) (by omega) hg.1.1 (zcn_I 0) (i32_s (by omega)) (hR_v (q_order hq) (fun M1 k1 f1 => ?_))
  obtain ⟨I, L, R⟩ := M1
  have hg := lS_call (dep_3 _ _ _ _ _ _ _ _ _ _ _ _) hg k1 hq.2.2.1 f1
  refine zW.gbf [] rfl rfl rfl (by omega) trivial (fun q => q ((lg_cmp_eq _ _).mpr (by rw [hs, eI_i2l (by omega)]))) ?_
  obtain ⟨hb1, hb⟩ := bu_y (y := 275) (j := 1) (k := K + 18) hb (by decide +kernel) (by decide +kernel)
  refine zW.gc [] rfl rfl rfl (by omega) trivial trivial hb1.1 hb1.2 ?_
  refine h275_ok (v1 := 0) (v2 := 113) (by omega) hg.1.1 (zcn_I 0) (zcn_I 113) (i32_s (by omega)) (by omega) (by omega) (hR_v (q_god hq h8 (k := 0) (Or.inl ⟨rfl, rfl⟩)) (fun M1 k1 f1 => ?_))
  obtain ⟨I, L, R⟩ := M1
  have hg := lS_call (dep_3 _ _ _ _ _ _ _ _ _ _ _ _) hg k1 hq.2.2.1 f1
  refine zW.gbf [] rfl rfl rfl (by omega) trivial (fun q => q (by rw [hs, hgod])) ?_
  obtain ⟨hb1, hb⟩ := bu_y (y := 275) (j := 1) (k := K + 17) hb (by decide +kernel) (by decide +kernel)
  refine zW.gc [] rfl rfl rfl (by omega) trivial trivial hb1.1 hb1.2 ?_
  refine h275_ok (v1 := 0) (v2 := 116) (by omega) hg.1.1 (zcn_I 0) (zcn_I 116) (i32_s (by omega)) (by omega) (by omega) (hR_v (q_god hq h8 (k := 1) (Or.inr ⟨rfl, rfl⟩)) (fun M1 k1 f1 => ?_))
  obtain ⟨I, L, R⟩ := M1
  have hg := lS_call (dep_3 _ _ _ _ _ _ _ _ _ _ _ _) hg k1 hq.2.2.1 f1
  refine zW.gbf [] rfl rfl rfl (by omega) trivial (by rw [hs, iI_lt (by omega) (by omega) (by omega) (by omega)]; omega) ?_
  obtain ⟨hb1, hb⟩ := bu_y (y := 267) (j := 1) (k := K + 16) hb (by decide +kernel) (by decide +kernel)
  refine zW.gc [] rfl rfl rfl (by omega) trivial trivial hb1.1 hb1.2 ?_
  refine h267_ok (v1 := 0) (by omega) hg.1.1 (zcn_I 0) (i32_s (by omega)) (hR_v (q_kinds hq h8) (fun M1 k1 f1 => ?_))
  obtain ⟨I, L, R⟩ := M1
  have hg := lS_call (dep_3 _ _ _ _ _ _ _ _ _ _ _ _) hg k1 hq.2.2.1 f1
  refine zW.gbf [] rfl rfl rfl (by omega) trivial (fun q => q (by rw [sv_one hz, hs, Nat.div_one])) ?_
  obtain ⟨hb1, hb⟩ := bu_y (y := 276) (j := 1) (k := K + 15) hb (by decide +kernel) (by decide +kernel)
  refine zW.gc [] rfl rfl rfl (by omega) trivial trivial hb1.1 hb1.2 ?_
  refine h276_ok (v1 := 0) (v2 := 113) (v3 := (gd : Int)) (by omega) hg.1.1 (zcn_I 0) (zcn_I 113) rfl (i32_s (by omega)) (by omega) (by omega) (i32_s (by omega)) (hR_v (q_many hq h8 (k := 0) (Or.inl ⟨rfl, rfl⟩) (gd : Int)) (fun M1 k1 f1 => ?_))
  obtain ⟨I, L, R⟩ := M1
  have hg := lS_call (dep_3 _ _ _ _ _ _ _ _ _ _ _ _) hg k1 hq.2.2.1 f1
  have u0 := rw_ld (I := I) (L := L) (p := gd) hg.2.2.1.1 (by omega) (by omega) (rfl : iI (gd : Int) = iI (gd : Int)) (hg.2.2.1.2 gd (by omega))
  refine zW.go [724] rfl (by omega) u0.1 ?_
  rw [u0.2]
  refine zW.gbf [] rfl rfl rfl (by omega) trivial (fun q => q (by rw [hs, fin_many hz hJ hi (by omega) rfl, hA gd (by omega)])) ?_
  obtain ⟨hb1, hb⟩ := bu_y (y := 276) (j := 1) (k := K + 14) hb (by decide +kernel) (by decide +kernel)
  refine zW.gc [] rfl rfl rfl (by omega) trivial trivial hb1.1 hb1.2 ?_
  refine h276_ok (v1 := 0) (v2 := 113) (v3 := 0) (by omega) hg.1.1 (zcn_I 0) (zcn_I 113) (zcn_I 0) (i32_s (by omega)) (by omega) (by omega) (i32_s (by omega)) (hR_v (q_many hq h8 (k := 0) (Or.inl ⟨rfl, rfl⟩) 0) (fun M1 k1 f1 => ?_))
  obtain ⟨I, L, R⟩ := M1
  have hg := lS_call (dep_3 _ _ _ _ _ _ _ _ _ _ _ _) hg k1 hq.2.2.1 f1
  refine zW.gbf [] rfl rfl rfl (by omega) trivial (fun q => q (by rw [hs, fin_many (v := 0) (u := 0) hz hJ hi (by omega) rfl, fin_one hz hJ hi (by omega)]; decide +kernel)) ?_
  obtain ⟨hb1, hb⟩ := bu_y (y := 276) (j := 1) (k := K + 13) hb (by decide +kernel) (by decide +kernel)
  refine zW.gc [] rfl rfl rfl (by omega) trivial trivial hb1.1 hb1.2 ?_
  refine h276_ok (v1 := 0) (v2 := 116) (v3 := -1) (by omega) hg.1.1 (zcn_I 0) (zcn_I 116) (zcn_I (-1)) (i32_s (by omega)) (by omega) (by omega) (i32_s (by omega)) (hR_v (q_many hq h8 (k := 1) (Or.inr ⟨rfl, rfl⟩) (-1)) (fun M1 k1 f1 => ?_))
  obtain ⟨I, L, R⟩ := M1
  have hg := lS_call (dep_3 _ _ _ _ _ _ _ _ _ _ _ _) hg k1 hq.2.2.1 f1
  refine zW.gbf [] rfl rfl rfl (by omega) trivial (fun q => q (by rw [hs, fin_none hz hJ hi (by omega)]; exact iI_0)) ?_
  obtain ⟨hb1, hb⟩ := bu_y (y := 275) (j := 1) (k := K + 12) hb (by decide +kernel) (by decide +kernel)
  refine zW.gc [] rfl rfl rfl (by omega) trivial trivial hb1.1 hb1.2 ?_
  refine h275_ok (v1 := 0) (v2 := 120) (by omega) hg.1.1 (zcn_I 0) (zcn_I 120) (i32_s (by omega)) (by omega) (by omega) (hR_x (q_godB hq.2.1) (fun M1 k1 f1 => ?_))
  obtain ⟨I, L, R⟩ := M1
  have hg := lS_call (dep_3 _ _ _ _ _ _ _ _ _ _ _ _) hg k1 hq.2.2.1 f1
  refine zW.gbf [] rfl rfl rfl (by omega) trivial (fun q => q (by decide +kernel)) ?_
  -- the mean distance
  obtain ⟨hb1, hb⟩ := bu_y (y := 144) (j := 1) (k := K + 11) hb (by decide +kernel) (by decide +kernel)
  refine zW.gc [] rfl rfl rfl (by omega) trivial ⟨_, rfl, lS_k0 hg⟩ hb1.1 hb1.2 ?_
  have eM := q_mean hq h8
  refine mean_ok (p := 0) (c := 113) (by omega) hg.1.1 (zcn_I 0) (zcn_I 113) (i32_s (by omega)) (i32_s (by omega)) (fun M1 k1 f1 => ?_)
  rw [eM] at k1 ⊢
  obtain ⟨I, L, R⟩ := M1
  have hg := lS_call (dep_3 _ _ _ _ _ _ _ _ _ _ _ _) hg k1 hq.2.2.1 f1
  have ez : pzZ (tPz T (0 : Int).toNat) = m := by
    show pzZ (tPz T 0) = m
    rw [hq.2.2.2]
    exact hs
  have n64 : vf_n64 (FP.ddiv (FP.l2d (iL ((sumN D m : Nat) : Int))) (FP.l2d (iL (m : Int)))) := n64_quo hm1 (by omega) (by omega)
  have ediv : FP.ddiv (FP.i2d (iI ((sumN D m : Nat) : Int))) (FP.i2d (iI (m : Int))) = FP.ddiv (FP.l2d (iL ((sumN D m : Nat) : Int))) (FP.l2d (iL (m : Int))) := by rw [i2d_l2d (by omega), i2d_l2d (by omega)]
  refine zW.go [784] rfl (by omega) (by rw [ediv]; exact n64) ?_
  rw [ediv, ez, hs, hmean]
  refine zW.gbf [] rfl rfl rfl (by omega) trivial (fun q => q ?_) ?_
  · show Op.cmpValue (FP.dcmp (FP.ddiv (FP.l2d (iL ((sumN D m : Nat) : Int))) (FP.l2d (iL (m : Int)))) (FP.ddiv (FP.l2d (iL ((sumN D m : Nat) : Int))) (FP.l2d (iL (m : Int))))) _ = 0
    rw [dcmp_same n64]
    rfl
  -- the centre
  have hc0 := lagr (zG_is hz) (zCen_sbg hz)
  have hc1 := sbg_1 (zG_is hz) (zCen_sbg hz)
  have hc2 := ct_le (fun j => dc (zCen r tn (stG (zG r tn) j))) (szG (zG r tn) 10)
  have eC := q_centre hq h8
  generalize ct (fun j => dc (zCen r tn (stG (zG r tn) j))) (szG (zG r tn) 10) = ce at hc0 hc1 hc2 eC
  rw [hs] at hc0 hc2
  obtain ⟨hb1, hb⟩ := bu_y (y := 266) (j := 1) (k := K + 10) hb (by decide +kernel) (by decide +kernel)
  refine zW.gc [] rfl rfl rfl (by omega) trivial trivial hb1.1 hb1.2 ?_
  refine h266_ok (v1 := 0) (by omega) hg.1.1 (zcn_I 0) (i32_s (by omega)) (hR_v eC (fun M1 k1 f1 => ?_))
  obtain ⟨I, L, R⟩ := M1
  have hg := lS_call (dep_3 _ _ _ _ _ _ _ _ _ _ _ _) hg k1 hq.2.2.1 f1
  refine zW.gbf [] rfl rfl rfl (by omega) trivial (by rw [zcn_I, iI_lt (by omega) (by omega) (by omega) (by omega)]; omega) ?_
  obtain ⟨hb1, hb⟩ := bu_y (y := 266) (j := 1) (k := K + 9) hb (by decide +kernel) (by decide +kernel)
  refine zW.gc [] rfl rfl rfl (by omega) trivial trivial hb1.1 hb1.2 ?_
  refine h266_ok (v1 := 0) (by omega) hg.1.1 (zcn_I 0) (i32_s (by omega)) (hR_v eC (fun M1 k1 f1 => ?_))
  obtain ⟨I, L, R⟩ := M1
  have hg := lS_call (dep_3 _ _ _ _ _ _ _ _ _ _ _ _) hg k1 hq.2.2.1 f1
  refine zW.gbf [] rfl rfl rfl (by omega) (show ¬ iI ((ce : Nat) : Int) = 0 by rw [iI_eq0 (by omega) (by omega)]; omega) (fun q => q ?_) ?_
  · show iI (m : Int) - iI (m : Int) / iI ((ce : Nat) : Int) * iI ((ce : Nat) : Int) = 0
    rw [iI_mod (by omega) (by omega) (by omega) (by omega), show (m : Int) % (ce : Int) = ((m % ce : Nat) : Int) from rfl, hc0]
    exact iI_0
  obtain ⟨hb1, hb⟩ := bu_y (y := 272) (j := 1) (k := K + 8) hb (by decide +kernel) (by decide +kernel)
  refine zW.gc [] rfl rfl rfl (by omega) trivial trivial hb1.1 hb1.2 ?_
  refine h272_ok (v1 := 0) (v2 := (m : Int)) (by omega) hg.1.1 (zcn_I 0) (eI_i2l (by omega)) (i32_s (by omega)) (by omega) (by omega) (hR_x (q_toNB hq (fun q => by have := q.2; omega)) (fun M1 k1 f1 => ?_))
  obtain ⟨I, L, R⟩ := M1
  have hg := lS_call (dep_3 _ _ _ _ _ _ _ _ _ _ _ _) hg k1 hq.2.2.1 f1
  refine zW.gbf [] rfl rfl rfl (by omega) trivial (fun q => q (by decide +kernel)) ?_
  refine zW.go [831] rfl (by omega) trivial ?_
  exact kk _ _ I L R _ _ _ _ _ _ _ _ _ (bu_le hb (by omega)) (by decide +kernel) (zcn_I 0) hg
end SD
