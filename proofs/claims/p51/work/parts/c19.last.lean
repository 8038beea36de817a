/-! The law's last questions. -/
section SJ
variable {b Ls x n r ta sa al m aa i a : Nat} {g F : Nat → Nat → Int} {Dm A : Nat → Int} {D : Nat → Nat} {tn f : Nat → Nat → Nat} {y10 y11 : Int32} {Q : zO → zM → Prop}
theorem g1_ok {K : Nat} {c s : Nat} {T : tfT} {st : Nat → Nat} {I : Nat → Nat → Int32} {L : Nat → Nat → Int64} {R : zRt} {y3 y13 : Int32} {v14 v15 v16 v17 v18 : Option zV} (hn : n = 3 ∨ n = 4) (hal : al ≤ 24) (hm : m ≤ al) (hL : Ls ≤ 260) (hJ : lfJ n r tn f D m i a) (hi : m ≤ i) (hb : bu c s (K + 8)) (e3 : y3 = iI 1) (hq : tq T [] (pq n r tn (fun p => p) st)) (hg : lS x (C3 b ta r sa al aa) (W3 b Ls ta r n g sa al F Dm aa A) T (I, L, R))
    (kk : ∀ (c s : Nat) T I L R y3 y13 y14 y15 v16 v17 v18, bu c s K → y3 = iI 1 → y14 = iI 0 → y15 = iI 0 → tq T [] (pq n r tn (fun p => p) swp) → lS x (C3 b ta r sa al aa) (W3 b Ls ta r n g sa al F Dm aa A) T (I, L, R) → zW 298 2048 c s 1373 [some (zr (some b)), some (zr (some x)), some (zi (iI (n : Int))), some (zi y3), some (zi (iI (r : Int))), some (zr (some ta)), some (zi (iI (al : Int))), some (zr (some sa)), some (zr (some (sa + 1 + al))), some (zi (iI (m : Int))), some (zi y10), some (zi y11), some (zr (some aa)), some (zi y13), some (zi y14), some (zi y15), v16, v17, v18] [] (I, L, R) Q) : zW 298 2048 c s 1268 [some (zr (some b)), some (zr (some x)), some (zi (iI (n : Int))), some (zi y3), some (zi (iI (r : Int))), some (zr (some ta)), some (zi (iI (al : Int))), some (zr (some sa)), some (zr (some (sa + 1 + al))), some (zi (iI (m : Int))), some (zi y10), some (zi y11), some (zr (some aa)), some (zi y13), v14, v15, v16, v17, v18] [] (I, L, R) Q := by
  subst e3
  have hz := lS_zOK hg hq
  have hG := zG_is hz
  have hs := fin_sz hz hJ hi
  have hm1 := hJ.1.1
  have hns : nst st ≤ 10 := ct_le _ 10
  -- reset
  have eT := q_reset hq
  have hq2 : tq (tSetP T 0 (pq n r tn (fun p => p) (fun q => q))) [] (pq n r tn (fun p => p) (fun q => q)) := q_set hq _
  generalize tSetP T 0 (pq n r tn (fun p => p) (fun q => q)) = T2 at eT hq2
  obtain ⟨hb1, hb⟩ := bu_y (y := 262) (j := 1) (k := K + 7) hb (by decide +kernel) (by decide +kernel)
  refine zW.gc [] rfl rfl rfl (by omega) trivial trivial hb1.1 hb1.2 ?_
  refine h262_ok (v1 := 0) (by omega) hg.1.1 (zcn_I 0) (i32_s (by omega)) (hR_v eT (fun M1 k1 f1 => ?_))
  obtain ⟨I, L, R⟩ := M1
  have hg := lS_call (dep_3 _ _ _ _ _ _ _ _ _ _ _ _) hg k1 hq2.2.2.1 f1
  clear eT hq
  refine zW.gbf [] rfl rfl rfl (by omega) trivial (show ¬ iI ((nst st : Nat) : Int) < 0 by rw [iI_lt0 (by omega) (by omega)]; omega) ?_
  clear hns
  -- scramble
  obtain ⟨hb1, hb⟩ := bu_y (y := 296) (j := 1) (k := K + 6) hb (by decide +kernel) (by decide +kernel)
  refine zW.gc [] rfl rfl rfl (by omega) trivial trivial hb1.1 hb1.2 ?_
  refine h296_ok (i := 8) (n := 99999) (by omega) hg.2.1.1.1 hL (zcn_I 8) (by omega) (by decide +kernel) (by omega) (by omega) (fun v hv => ?_)
  have hml := Nat.mod_lt (scz v) (show szG (zG r tn) 10 > 0 by omega)
  have hgs := (stG_sp hG hml).1
  have eT := q_scr (T := T2) hq2 (v := v) (by omega)
  have hq3 : tq (tSetP T2 0 (pq n r tn (fun p => p) (stG (zG r tn) (scz v % szG (zG r tn) 10)))) [] (pq n r tn (fun p => p) (stG (zG r tn) (scz v % szG (zG r tn) 10))) := q_set hq2 _
  generalize tSetP T2 0 (pq n r tn (fun p => p) (stG (zG r tn) (scz v % szG (zG r tn) 10))) = T3 at eT hq3
  generalize stG (zG r tn) (scz v % szG (zG r tn) 10) = st3 at hgs hq3
  generalize scz v % szG (zG r tn) 10 = sv at eT hml
  obtain ⟨hb1, hb⟩ := bu_y (y := 273) (j := 1) (k := K + 5) hb (by decide +kernel) (by decide +kernel)
  refine zW.gc [] rfl rfl rfl (by omega) trivial trivial hb1.1 hb1.2 ?_
  refine h273_ok (v1 := 0) (v2 := (v : Int)) (by omega) hg.1.1 (zcn_I 0) rfl (i32_s (by omega)) (i32_s (by omega)) (hR_v eT (fun M1 k1 f1 => ?_))
  obtain ⟨I, L, R⟩ := M1
  have hg := lS_call (dep_3 _ _ _ _ _ _ _ _ _ _ _ _) hg k1 hq3.2.2.1 f1
  clear eT hq2
  refine zW.gbf [] rfl rfl rfl (by omega) trivial (fun q => ?_) ?_
  · have q2 := (lg_cmp_ge _ _).mp q
    rw [eI_i2l (by omega)] at q2
    have q3 : iL (m : Int) ≤ iL ((sv : Nat) : Int) := q2
    rw [iL_le (by omega) (by omega) (by omega) (by omega)] at q3
    omega
  -- isIn
  obtain ⟨hb1, hb⟩ := bu_y (y := 110) (j := 1) (k := K + 4) hb (by decide +kernel) (by decide +kernel)
  refine zW.gc [] rfl rfl rfl (by omega) trivial ⟨_, rfl, lS_k0 hg⟩ hb1.1 hb1.2 ?_
  refine isIn_ok (p := 0) (by omega) hg.1.1 (zcn_I 0) (i32_s (by omega)) (fun M1 k1 f1 => ?_)
  rw [q_isin hq3, b01_t hgs] at k1 ⊢
  obtain ⟨I, L, R⟩ := M1
  have hg := lS_call (dep_3 _ _ _ _ _ _ _ _ _ _ _ _) hg k1 hq3.2.2.1 f1
  refine zW.gbf [] rfl rfl rfl (by omega) trivial (show ¬ iI 1 = 0 by decide +kernel) ?_
  -- scramble(-1)
  obtain ⟨hb1, hb⟩ := bu_y (y := 273) (j := 1) (k := K + 3) hb (by decide +kernel) (by decide +kernel)
  refine zW.gc [] rfl rfl rfl (by omega) trivial trivial hb1.1 hb1.2 ?_
  refine h273_ok (v1 := 0) (v2 := -1) (by omega) hg.1.1 (zcn_I 0) (zcn_I (-1)) (i32_s (by omega)) (i32_s (by omega)) (hR_x (q_scrB hq3.2.1) (fun M1 k1 f1 => ?_))
  obtain ⟨I, L, R⟩ := M1
  have hg := lS_call (dep_3 _ _ _ _ _ _ _ _ _ _ _ _) hg k1 hq3.2.2.1 f1
  refine zW.gbf [] rfl rfl rfl (by omega) trivial (fun q => q ((lg_cmp_eq _ _).mpr (by decide +kernel))) ?_
  -- reset
  have hns : nst st3 ≤ 10 := ct_le _ 10
  have eT := q_reset hq3
  have hq4 : tq (tSetP T3 0 (pq n r tn (fun p => p) (fun q => q))) [] (pq n r tn (fun p => p) (fun q => q)) := q_set hq3 _
  generalize tSetP T3 0 (pq n r tn (fun p => p) (fun q => q)) = T4 at eT hq4
  obtain ⟨hb1, hb⟩ := bu_y (y := 262) (j := 1) (k := K + 2) hb (by decide +kernel) (by decide +kernel)
  refine zW.gc [] rfl rfl rfl (by omega) trivial trivial hb1.1 hb1.2 ?_
  refine h262_ok (v1 := 0) (by omega) hg.1.1 (zcn_I 0) (i32_s (by omega)) (hR_v eT (fun M1 k1 f1 => ?_))
  obtain ⟨I, L, R⟩ := M1
  have hg := lS_call (dep_3 _ _ _ _ _ _ _ _ _ _ _ _) hg k1 hq4.2.2.1 f1
  clear eT hq3
  refine zW.gbf [] rfl rfl rfl (by omega) trivial (show ¬ iI ((nst st3 : Nat) : Int) < 0 by rw [iI_lt0 (by omega) (by omega)]; omega) ?_
  -- swap
  have eT := q_swap hq4 (by omega)
  have hq5 : tq (tSetP T4 0 (pq n r tn (fun p => p) swp)) [] (pq n r tn (fun p => p) swp) := q_set hq4 _
  have esw : swf (fun q => q) 0 1 = swp := rfl
  rw [esw, swp_nst] at eT
  generalize tSetP T4 0 (pq n r tn (fun p => p) swp) = T5 at eT hq5
  obtain ⟨hb1, hb⟩ := bu_y (y := 261) (j := 1) (k := K + 1) hb (by decide +kernel) (by decide +kernel)
  refine zW.gc [] rfl rfl rfl (by omega) trivial trivial hb1.1 hb1.2 ?_
  refine h261_ok (v1 := 0) (v2 := 0) (v3 := 1) (by omega) hg.1.1 (zcn_I 0) (zcn_I 0) (zcn_I 1) (i32_s (by omega)) (i32_s (by omega)) (i32_s (by omega)) (hR_v eT (fun M1 k1 f1 => ?_))
  obtain ⟨I, L, R⟩ := M1
  have hg := lS_call (dep_3 _ _ _ _ _ _ _ _ _ _ _ _) hg k1 hq5.2.2.1 f1
  clear eT hq4
  refine zW.gbf [] rfl rfl rfl (by omega) trivial (fun q => q (by rw [zcn_I, iI_sub]; rfl)) ?_
  -- period
  obtain ⟨hb1, hb⟩ := bu_y (y := 270) (j := 1) (k := K) hb (by decide +kernel) (by decide +kernel)
  refine zW.gc [] rfl rfl rfl (by omega) trivial trivial hb1.1 hb1.2 ?_
  refine h270_ok (v1 := 0) (by omega) hg.1.1 (zcn_I 0) (i32_s (by omega)) (hR_v (q_per hq5) (fun M1 k1 f1 => ?_))
  obtain ⟨I, L, R⟩ := M1
  have hg := lS_call (dep_3 _ _ _ _ _ _ _ _ _ _ _ _) hg k1 hq5.2.2.1 f1
  refine zW.gbf [] rfl rfl rfl (by omega) trivial (fun q => q (by rw [swp_perd]; decide +kernel)) ?_
  refine zW.go [1373] rfl (by omega) trivial ?_
  exact kk _ _ T5 I L R _ _ _ _ _ _ _ hb (by decide +kernel) (zcn_I 0) (zcn_I 0) hq5 hg
/-- from the exchange's question to the end -/
theorem g2_ok {K : Nat} {c s : Nat} {T : tfT} {I : Nat → Nat → Int32} {L : Nat → Nat → Int64} {R : zRt} {y3 y13 y14 y15 : Int32} {v16 v17 v18 : Option zV} (hn : n = 3 ∨ n = 4) (hal : al ≤ 24) (hm : m ≤ al) (hJ : lfJ n r tn f D m i a) (hi : m ≤ i) (hb : bu c s (K + 10)) (e3 : y3 = iI 1) (h14 : (y14 = iI 1 ∧ ∃ j, j < m ∧ f j = swp) ∨ (y14 = iI 0 ∧ ∀ j, j < m → f j ≠ swp)) (hq : tq T [] (pq n r tn (fun p => p) swp)) (hg : lS x (C3 b ta r sa al aa) (W3 b Ls ta r n g sa al F Dm aa A) T (I, L, R)) : zW 298 2048 c s 1459 [some (zr (some b)), some (zr (some x)), some (zi (iI (n : Int))), some (zi y3), some (zi (iI (r : Int))), some (zr (some ta)), some (zi (iI (al : Int))), some (zr (some sa)), some (zr (some (sa + 1 + al))), some (zi (iI (m : Int))), some (zi y10), some (zi y11), some (zr (some aa)), some (zi y13), some (zi y14), some (zi y15), v16, v17, v18] [] (I, L, R) lQ := by
  subst e3
  have hz := lS_zOK hg hq
  have hG := zG_is hz
  have hs := fin_sz hz hJ hi
  have h8 : szG (zG r tn) 10 ≤ 800 := by omega
  have hm1 := hJ.1.1
  have hE := lfJ_enu hJ hi
  -- the end, once more
  have fin : ∀ c s I L R y, bu c s (K + 7) → y = iI 1 → lS x (C3 b ta r sa al aa) (W3 b Ls ta r n g sa al F Dm aa A) T (I, L, R) → zW 298 2048 c s 1505 [some (zr (some b)), some (zr (some x)), some (zi (iI (n : Int))), some (zi (iI 1)), some (zi (iI (r : Int))), some (zr (some ta)), some (zi (iI (al : Int))), some (zr (some sa)), some (zr (some (sa + 1 + al))), some (zi (iI (m : Int))), some (zi y10), some (zi y11), some (zr (some aa)), some (zi y13), some (zi y14), some (zi y15), v16, v17, v18] [zi y] (I, L, R) lQ := fun c s I L R y hb ey hg => by
    subst ey
    refine zW.gbf [] rfl rfl rfl (by omega) trivial (show ¬ iI 1 = 0 by decide +kernel) ?_
    -- colours
    have eT := q_col (u := 0) (v := 5) hq (by omega) (by omega)
    have hq2 : tq (tSetP T 0 (pq n r tn (fu (fun p => p) 0 5) swp)) [] (pq n r tn (fu (fun p => p) 0 5) swp) := q_set hq _
    generalize tSetP T 0 (pq n r tn (fu (fun p => p) 0 5) swp) = T2 at eT hq2
    obtain ⟨hb1, hb⟩ := bu_y (y := 258) (j := 1) (k := K + 6) hb (by decide +kernel) (by decide +kernel)
    refine zW.gc [] rfl rfl rfl (by omega) trivial trivial hb1.1 hb1.2 ?_
    refine h258_ok (v1 := 0) (v2 := ((0 : Nat) : Int)) (v3 := ((5 : Nat) : Int)) (by omega) hg.1.1 (zcn_I 0) (zcn_I 0) (zcn_I 5) (i32_s (by omega)) (i32_s (by omega)) (i32_s (by omega)) (hR_v eT (fun M1 k1 f1 => ?_))
    obtain ⟨I, L, R⟩ := M1
    have hg := lS_call (dep_3 _ _ _ _ _ _ _ _ _ _ _ _) hg k1 hq2.2.2.1 f1
    refine zW.gbf [] rfl rfl rfl (by omega) trivial (fun q => q iI_0) ?_
    have eT := q_col (u := 1) (v := 5) hq2 (by omega) (by omega)
    have hq3 : tq (tSetP T2 0 (pq n r tn (fu (fu (fun p => p) 0 5) 1 5) swp)) [] (pq n r tn (fu (fu (fun p => p) 0 5) 1 5) swp) := q_set hq2 _
    generalize tSetP T2 0 (pq n r tn (fu (fu (fun p => p) 0 5) 1 5) swp) = T3 at eT hq3
    obtain ⟨hb1, hb⟩ := bu_y (y := 258) (j := 1) (k := K + 5) hb (by decide +kernel) (by decide +kernel)
    refine zW.gc [] rfl rfl rfl (by omega) trivial trivial hb1.1 hb1.2 ?_
    refine h258_ok (v1 := 0) (v2 := ((1 : Nat) : Int)) (v3 := ((5 : Nat) : Int)) (by omega) hg.1.1 (zcn_I 0) (zcn_I 1) (zcn_I 5) (i32_s (by omega)) (i32_s (by omega)) (i32_s (by omega)) (hR_v eT (fun M1 k1 f1 => ?_))
    obtain ⟨I, L, R⟩ := M1
    have hg := lS_call (dep_3 _ _ _ _ _ _ _ _ _ _ _ _) hg k1 hq3.2.2.1 f1
    refine zW.gbf [] rfl rfl rfl (by omega) trivial (fun q => q (show iI ((fu (fun p => p) 0 5 1 : Nat) : Int) = zcn 1 by decide +kernel)) ?_
    -- it shows as solved
    have hsol : ∀ q, q < 10 → fu (fu (fun p => p) 0 5) 1 5 (swp q) = fu (fu (fun p => p) 0 5) 1 5 q := by decide
    obtain ⟨hb1, hb⟩ := bu_y (y := 108) (j := 1) (k := K + 4) hb (by decide +kernel) (by decide +kernel)
    refine zW.gc [] rfl rfl rfl (by omega) trivial ⟨_, rfl, lS_k0 hg⟩ hb1.1 hb1.2 ?_
    refine isSolved_ok (p := 0) (by omega) hg.1.1 (zcn_I 0) (i32_s (by omega)) (fun M1 k1 f1 => ?_)
    rw [q_solved hq3, b01_t hsol] at k1 ⊢
    obtain ⟨I, L, R⟩ := M1
    have hg := lS_call (dep_3 _ _ _ _ _ _ _ _ _ _ _ _) hg k1 hq3.2.2.1 f1
    refine zW.gbf [] rfl rfl rfl (by omega) trivial (show ¬ iI 1 = 0 by decide +kernel) ?_
    -- kinds
    have eK := q_kinds hq3 h8
    have kle := Nat.div_le_self (szG (zG r tn) 10) (ct (zSv r tn (fu (fu (fun p => p) 0 5) 1 5)) (szG (zG r tn) 10))
    generalize szG (zG r tn) 10 / ct (zSv r tn (fu (fu (fun p => p) 0 5) 1 5)) (szG (zG r tn) 10) = kn at eK kle
    obtain ⟨hb1, hb⟩ := bu_y (y := 267) (j := 1) (k := K + 3) hb (by decide +kernel) (by decide +kernel)
    refine zW.gc [] rfl rfl rfl (by omega) trivial trivial hb1.1 hb1.2 ?_
    refine h267_ok (v1 := 0) (by omega) hg.1.1 (zcn_I 0) (i32_s (by omega)) (hR_v eK (fun M1 k1 f1 => ?_))
    obtain ⟨I, L, R⟩ := M1
    have hg := lS_call (dep_3 _ _ _ _ _ _ _ _ _ _ _ _) hg k1 hq3.2.2.1 f1
    refine zW.gbf [] rfl rfl rfl (by omega) trivial (show ¬ iI (m : Int) < iI ((kn : Nat) : Int) by rw [iI_lt (by omega) (by omega) (by omega) (by omega)]; omega) ?_
    -- a search of nothing
    obtain ⟨hb1, hb⟩ := bu_y (y := 277) (j := 1) (k := K + 2) hb (by decide +kernel) (by decide +kernel)
    refine zW.gc [] rfl rfl rfl (by omega) trivial trivial hb1.1 hb1.2 ?_
    refine h277_ok (v1 := 0) (v2 := 0) (by omega) hg.1.1 (zcn_I 0) (zcn_I 0) (i32_s (by omega)) (i32_s (by omega)) (hR_v (q_sea0 hq3 hsol) (fun M1 k1 f1 => ?_))
    obtain ⟨I, L, R⟩ := M1
    have hg := lS_call (dep_3 _ _ _ _ _ _ _ _ _ _ _ _) hg k1 hq3.2.2.1 f1
    refine zW.gbf [] rfl rfl rfl (by omega) trivial (fun q => q iI_0) ?_
    -- sound
    obtain ⟨hb1, hb⟩ := bu_y (y := 146) (j := 1) (k := K + 1) hb (by decide +kernel) (by decide +kernel)
    refine zW.gc [] rfl rfl rfl (by omega) trivial ⟨_, rfl, lS_k0 hg⟩ hb1.1 hb1.2 ?_
    refine sound_ok (by omega) hq3.2.2.1 hg.1.1 (fun M1 k1 f1 => ?_)
    refine zW.gbf [] rfl rfl rfl (by omega) trivial (show ¬ iI 1 = 0 by decide +kernel) ?_
    refine zW.gr [] rfl rfl rfl (by omega) trivial z01c1 ?_
    show (Sum.inl (some (zi (zcn 1))) : zO) = .inl (some (zi 1))
    rw [zcn_I, iI_1]
  obtain ⟨hb1, hb⟩ := bu_y (y := 110) (j := 1) (k := K + 9) hb (by decide +kernel) (by decide +kernel)
  refine zW.gc [] rfl rfl rfl (by omega) trivial ⟨_, rfl, lS_k0 hg⟩ hb1.1 hb1.2 ?_
  refine isIn_ok (p := 0) (by omega) hg.1.1 (zcn_I 0) (i32_s (by omega)) (fun M1 k1 f1 => ?_)
  rcases h14 with ⟨rfl, j, hj, ej⟩ | ⟨rfl, h14⟩
  · have hin : zG r tn swp := by
      rw [← ej]
      exact hE.1 j hj
    rw [q_isin hq, b01_t hin] at k1 ⊢
    obtain ⟨I, L, R⟩ := M1
    have hg := lS_call (dep_3 _ _ _ _ _ _ _ _ _ _ _ _) hg k1 hq.2.2.1 f1
    refine zW.gbf [] rfl rfl rfl (by omega) trivial (fun q => q rfl) ?_
    refine zW.gbt [] rfl rfl rfl (by omega) trivial (show ¬ iI 1 = 0 by decide +kernel) ?_
    refine zW.go [1505] rfl (by omega) trivial ?_
    exact fin _ _ I L R _ (bu_le hb (by omega)) (by decide +kernel) hg
  · have hin : ¬ zG r tn swp := fun q => by
      obtain ⟨j, q1, q2⟩ := hE.2.2 _ q
      exact h14 j q1 q2
    rw [q_isin hq, b01_f hin] at k1 ⊢
    obtain ⟨I, L, R⟩ := M1
    have hg := lS_call (dep_3 _ _ _ _ _ _ _ _ _ _ _ _) hg k1 hq.2.2.1 f1
    refine zW.gbf [] rfl rfl rfl (by omega) trivial (fun q => q rfl) ?_
    refine zW.gbf [] rfl rfl rfl (by omega) trivial (fun q => q iI_0) ?_
    obtain ⟨hb1, hb⟩ := bu_y (y := 271) (j := 1) (k := K + 8) hb (by decide +kernel) (by decide +kernel)
    refine zW.gc [] rfl rfl rfl (by omega) trivial trivial hb1.1 hb1.2 ?_
    refine h271_ok (v1 := 0) (by omega) hg.1.1 (zcn_I 0) (i32_s (by omega)) (hR_x (q_numbB hq hin) (fun M1 k1 f1 => ?_))
    obtain ⟨I, L, R⟩ := M1
    have hg := lS_call (dep_3 _ _ _ _ _ _ _ _ _ _ _ _) hg k1 hq.2.2.1 f1
    refine zW.gbf [] rfl rfl rfl (by omega) trivial (fun q => q ((lg_cmp_eq _ _).mpr (by decide +kernel))) ?_
    obtain ⟨hb1, hb⟩ := bu_y (y := 274) (j := 1) (k := K + 7) hb (by decide +kernel) (by decide +kernel)
    refine zW.gc [] rfl rfl rfl (by omega) trivial trivial hb1.1 hb1.2 ?_
    refine h274_ok (v1 := 0) (v2 := 113) (by omega) hg.1.1 (zcn_I 0) (zcn_I 113) (i32_s (by omega)) (by omega) (by omega) (hR_x (q_distB hq h8 hin) (fun M1 k1 f1 => ?_))
    obtain ⟨I, L, R⟩ := M1
    have hg := lS_call (dep_3 _ _ _ _ _ _ _ _ _ _ _ _) hg k1 hq.2.2.1 f1
    refine zW.gbf [] rfl rfl rfl (by omega) trivial (fun q => q (by decide +kernel)) ?_
    refine zW.go [1505] rfl (by omega) trivial ?_
    exact fin _ _ I L R _ hb (by decide +kernel) hg
end SJ
