/-! The law, state by state: its number, its distances, its pieces. -/
theorem nst_0 {s : Nat → Nat} : nst s = 0 ↔ ∀ q, q < 10 → s q = q := by
  refine ⟨fun h q hq => Classical.byContradiction fun e => ?_, fun h => ct_z fun q hq => by simp [h q hq]⟩
  have := ct_pos (b := fun q => !(s q == q)) hq (by simp [e])
  unfold nst at h
  omega
section SF
variable {b Ls x n r ta sa al c s m aa i a : Nat} {Q : zO → zM → Prop} {g F : Nat → Nat → Int} {Dm A : Nat → Int} {D : Nat → Nat} {tn f : Nat → Nat → Nat} {y10 y11 : Int32} {k : Nat}
theorem e4_ok {K : Nat} {T : tfT} {st : Nat → Nat} {I : Nat → Nat → Int32} {L : Nat → Nat → Int64} {R : zRt} {y3 y14 y15 y16 : Int32} {v17 v18 : Option zV} (hn : n = 3 ∨ n = 4) (hal : al ≤ 24) (hm : m ≤ al) (hk : k < m) (hD : rD m Dm D) (hJ : lfJ n r tn f D m i a) (hi : m ≤ i) (hb : bu c s (K + 6)) (e3 : y3 = iI 1) (e14 : y14 = iI ((ct (fun j => dc (lx (f j) (f k))) m : Nat) : Int)) (e15 : y15 = iI ((ct (fun p => !(f k p == p)) n : Nat) : Int)) (hq : tq T [] (pq n r tn (fun p => p) st)) (hg : lS x (C3 b ta r sa al aa) (W3 b Ls ta r n g sa al F Dm aa A) T (I, L, R))
    (kk : ∀ c s T I L R y3 y14 y15 y16 v17 v18, bu c s K → y3 = iI 1 → y16 = iI 0 → tq T [] (pq n r tn (fun p => p) (f k)) → lS x (C3 b ta r sa al aa) (W3 b Ls ta r n g sa al F Dm aa A) T (I, L, R) → zW 298 2048 c s 1047 [some (zr (some b)), some (zr (some x)), some (zi (iI (n : Int))), some (zi y3), some (zi (iI (r : Int))), some (zr (some ta)), some (zi (iI (al : Int))), some (zr (some sa)), some (zr (some (sa + 1 + al))), some (zi (iI (m : Int))), some (zi y10), some (zi y11), some (zr (some aa)), some (zi (iI (k : Int))), some (zi y14), some (zi y15), some (zi y16), v17, v18] [] (I, L, R) Q) : zW 298 2048 c s 955 [some (zr (some b)), some (zr (some x)), some (zi (iI (n : Int))), some (zi y3), some (zi (iI (r : Int))), some (zr (some ta)), some (zi (iI (al : Int))), some (zr (some sa)), some (zr (some (sa + 1 + al))), some (zi (iI (m : Int))), some (zi y10), some (zi y11), some (zr (some aa)), some (zi (iI (k : Int))), some (zi y14), some (zi y15), some (zi y16), v17, v18] [] (I, L, R) Q := by
  have hz := lS_zOK hg hq
  have hG := zG_is hz
  have hs := fin_sz hz hJ hi
  have h8 : szG (zG r tn) 10 ≤ 800 := by omega
  have hgk := (hJ.2.1 k hk).1
  have hpk := (hJ.2.1 k hk).2
  have hlow := enu_low hG (lfJ_enu hJ hi) hk
  have hlt := numG_lt hG hgk 10 (Nat.le_refl _)
  have hst := stG_num hG hgk
  rw [← hlow] at e14
  rw [← nst_n hpk (by omega)] at e15
  have hns : nst (f k) ≤ 10 := ct_le _ 10
  subst e3; subst e14; subst e15
  have hDk := lfJ_dG hz h8 hJ hi hk
  have hDl := lfJ_Dk hJ k k (Nat.le_refl k) hk
  have ht1 := dst_le (zG_tnO hz) (dG_dst (k := 0) hz h8) (dG_dst (k := 1) hz h8) (dG_dnr hz h8) hgk
  have ht0 := dG_nn (k := 1) hz h8 hgk
  have eT := q_toN hq hlt
  rw [hst] at eT
  have hq2 : tq (tSetP T 0 (pq n r tn (fun p => p) (f k))) [] (pq n r tn (fun p => p) (f k)) := q_set hq _
  generalize tSetP T 0 (pq n r tn (fun p => p) (f k)) = T2 at eT hq2
  -- toNumber
  obtain ⟨hb1, hb⟩ := bu_y (y := 272) (j := 1) (k := K + 5) hb (by decide +kernel) (by decide +kernel)
  refine zW.gc [] rfl rfl rfl (by omega) trivial trivial hb1.1 hb1.2 ?_
  refine h272_ok (v1 := 0) (v2 := ((numG (zG r tn) (f k) 10 : Nat) : Int)) (by omega) hg.1.1 (zcn_I 0) (eI_i2l (by omega)) (i32_s (by omega)) (by omega) (by omega) (hR_v eT (fun M1 k1 f1 => ?_))
  obtain ⟨I, L, R⟩ := M1
  have hg := lS_call (dep_3 _ _ _ _ _ _ _ _ _ _ _ _) hg k1 hq2.2.2.1 f1
  clear hq
  have hq := hq2
  have eD1 := q_dist hq h8 hgk (k := 1) (Or.inr ⟨rfl, rfl⟩)
  rw [hDk] at ht1
  generalize dG 1 r tn (f k) = dt at eD1 ht0 ht1
  refine zW.gbf [] rfl rfl rfl (by omega) trivial (fun q => q rfl) ?_
  obtain ⟨hb1, hb⟩ := bu_y (y := 271) (j := 1) (k := K + 4) hb (by decide +kernel) (by decide +kernel)
  refine zW.gc [] rfl rfl rfl (by omega) trivial trivial hb1.1 hb1.2 ?_
  refine h271_ok (v1 := 0) (by omega) hg.1.1 (zcn_I 0) (i32_s (by omega)) (hR_v (q_numb hq hgk) (fun M1 k1 f1 => ?_))
  obtain ⟨I, L, R⟩ := M1
  have hg := lS_call (dep_3 _ _ _ _ _ _ _ _ _ _ _ _) hg k1 hq.2.2.1 f1
  refine zW.gbf [] rfl rfl rfl (by omega) trivial (fun q => q ((lg_cmp_eq _ _).mpr (by rw [eI_i2l (by omega)]))) ?_
  obtain ⟨hb1, hb⟩ := bu_y (y := 110) (j := 1) (k := K + 3) hb (by decide +kernel) (by decide +kernel)
  refine zW.gc [] rfl rfl rfl (by omega) trivial ⟨_, rfl, lS_k0 hg⟩ hb1.1 hb1.2 ?_
  refine isIn_ok (p := 0) (by omega) hg.1.1 (zcn_I 0) (i32_s (by omega)) (fun M1 k1 f1 => ?_)
  rw [q_isin hq, b01_t hgk] at k1 ⊢
  obtain ⟨I, L, R⟩ := M1
  have hg := lS_call (dep_3 _ _ _ _ _ _ _ _ _ _ _ _) hg k1 hq.2.2.1 f1
  refine zW.gbf [] rfl rfl rfl (by omega) trivial (show ¬ iI 1 = 0 by decide +kernel) ?_
  obtain ⟨hb1, hb⟩ := bu_y (y := 274) (j := 1) (k := K + 2) hb (by decide +kernel) (by decide +kernel)
  refine zW.gc [] rfl rfl rfl (by omega) trivial trivial hb1.1 hb1.2 ?_
  refine h274_ok (v1 := 0) (v2 := 113) (by omega) hg.1.1 (zcn_I 0) (zcn_I 113) (i32_s (by omega)) (by omega) (by omega) (hR_v (q_dist hq h8 hgk (k := 0) (Or.inl ⟨rfl, rfl⟩)) (fun M1 k1 f1 => ?_))
  obtain ⟨I, L, R⟩ := M1
  have hg := lS_call (dep_3 _ _ _ _ _ _ _ _ _ _ _ _) hg k1 hq.2.2.1 f1
  have d1 := D_row (i1 := iI (k : Int)) (lS_W hg hg.2.1) hal (show k < al by omega) rfl (hD k hk)
  refine zW.go [1001] rfl (by omega) d1.1 ?_
  rw [d1.2]
  refine zW.gbf [] rfl rfl rfl (by omega) trivial (fun q => q (by rw [hDk])) ?_
  obtain ⟨hb1, hb⟩ := bu_y (y := 274) (j := 1) (k := K + 1) hb (by decide +kernel) (by decide +kernel)
  refine zW.gc [] rfl rfl rfl (by omega) trivial trivial hb1.1 hb1.2 ?_
  refine h274_ok (v1 := 0) (v2 := 116) (by omega) hg.1.1 (zcn_I 0) (zcn_I 116) (i32_s (by omega)) (by omega) (by omega) (hR_v eD1 (fun M1 k1 f1 => ?_))
  obtain ⟨I, L, R⟩ := M1
  have hg := lS_call (dep_3 _ _ _ _ _ _ _ _ _ _ _ _) hg k1 hq.2.2.1 f1
  have d1 := D_row (i1 := iI (k : Int)) (lS_W hg hg.2.1) hal (show k < al by omega) rfl (hD k hk)
  refine zW.go [1016] rfl (by omega) d1.1 ?_
  rw [d1.2]
  refine zW.gbf [] rfl rfl rfl (by omega) trivial (by rw [iI_lt (by omega) (by omega) (by omega) (by omega)]; omega) ?_
  obtain ⟨hb1, hb⟩ := bu_y (y := 108) (j := 1) (k := K) hb (by decide +kernel) (by decide +kernel)
  refine zW.gc [] rfl rfl rfl (by omega) trivial ⟨_, rfl, lS_k0 hg⟩ hb1.1 hb1.2 ?_
  refine isSolved_ok (p := 0) (by omega) hg.1.1 (zcn_I 0) (i32_s (by omega)) (fun M1 k1 f1 => ?_)
  rw [q_solved hq] at k1 ⊢
  obtain ⟨I, L, R⟩ := M1
  have hg := lS_call (dep_3 _ _ _ _ _ _ _ _ _ _ _ _) hg k1 hq.2.2.1 f1
  have n0 := nst_0 (s := f k)
  refine zW.gb [] rfl rfl rfl (by omega) trivial (fun hh => ?_) (fun hh => ?_)
  · have hf : ¬ ∀ q, q < 10 → (fun p => p) (f k q) = (fun p => p) q := fun q => hh (by
      rw [n0.mpr q]
      exact iI_0)
    refine zW.go [1034] rfl (by omega) trivial ?_
    refine zW.gbf [] rfl rfl rfl (by omega) trivial (fun q => q ?_) ?_
    · show iI (b01 (∀ q, q < 10 → (fun p => p) (f k q) = (fun p => p) q)) = zcn 0
      rw [b01_f hf]
      decide +kernel
    · refine zW.go [1047] rfl (by omega) trivial ?_
      exact kk _ _ T2 I L R _ _ _ _ _ _ hb (by decide +kernel) (zcn_I 0) hq hg
  · have hf : ∀ q, q < 10 → (fun p => p) (f k q) = (fun p => p) q := n0.mp (by
      have : iI ((nst (f k) : Nat) : Int) = 0 := Classical.byContradiction hh
      rw [iI_eq0 (by omega) (by omega)] at this
      omega)
    refine zW.go [1034] rfl (by omega) trivial ?_
    refine zW.gbf [] rfl rfl rfl (by omega) trivial (fun q => q ?_) ?_
    · show iI (b01 (∀ q, q < 10 → (fun p => p) (f k q) = (fun p => p) q)) = zcn 1
      rw [b01_t hf]
      decide +kernel
    · refine zW.go [1047] rfl (by omega) trivial ?_
      exact kk _ _ T2 I L R _ _ _ _ _ _ hb (by decide +kernel) (zcn_I 0) hq hg
/-- the pieces -/
theorem e5_lp {K : Nat} {T : tfT} {y14 y15 : Int32} {v17 v18 : Option zV} (hn : n = 3 ∨ n = 4) (hal : al ≤ 24) (hm : m ≤ al) (hk : k < m) (hF : rF n m F f) (hv : ∀ k, k < m → pm n (f k)) (hq : tq T [] (pq n r tn (fun p => p) (f k)))
    (kk : ∀ c s I L R y3 y16, bu c s K → y3 = iI 1 → lS x (C3 b ta r sa al aa) (W3 b Ls ta r n g sa al F Dm aa A) T (I, L, R) → zW 298 2048 c s 1085 [some (zr (some b)), some (zr (some x)), some (zi (iI (n : Int))), some (zi y3), some (zi (iI (r : Int))), some (zr (some ta)), some (zi (iI (al : Int))), some (zr (some sa)), some (zr (some (sa + 1 + al))), some (zi (iI (m : Int))), some (zi y10), some (zi y11), some (zr (some aa)), some (zi (iI (k : Int))), some (zi y14), some (zi y15), some (zi y16), v17, v18] [] (I, L, R) Q) :
    ∀ q j, j + q = n → ∀ c s I L R y3 y16, bu c s (K + q) → y3 = iI 1 → y16 = iI (j : Int) → lS x (C3 b ta r sa al aa) (W3 b Ls ta r n g sa al F Dm aa A) T (I, L, R) → zW 298 2048 c s 1047 [some (zr (some b)), some (zr (some x)), some (zi (iI (n : Int))), some (zi y3), some (zi (iI (r : Int))), some (zr (some ta)), some (zi (iI (al : Int))), some (zr (some sa)), some (zr (some (sa + 1 + al))), some (zi (iI (m : Int))), some (zi y10), some (zi y11), some (zr (some aa)), some (zi (iI (k : Int))), some (zi y14), some (zi y15), some (zi y16), v17, v18] [] (I, L, R) Q
  | 0, j, hj, c, s, I, L, R, y3, y16, hb, e3, e, hg => by
    subst e
    refine zW.gbt [] rfl rfl rfl (by omega) trivial (by rw [iI_le (by omega) (by omega) (by omega) (by omega)]; omega) ?_
    exact kk _ _ I L R _ _ hb e3 hg
  | q + 1, j, hj, c, s, I, L, R, y3, y16, hb, e3, e, hg => by
    subst e; subst e3
    have ja : j < n := by omega
    refine zW.gbf [] rfl rfl rfl (by omega) trivial (by rw [iI_le (by omega) (by omega) (by omega) (by omega)]; omega) ?_
    obtain ⟨hb1, hb⟩ := bu_y (y := 260) (j := 1) (k := K + q) hb (by decide +kernel) (by decide +kernel)
    refine zW.gc [] rfl rfl rfl (by omega) trivial trivial hb1.1 hb1.2 ?_
    refine h260_ok (v1 := 0) (v2 := (j : Int)) (by omega) hg.1.1 (zcn_I 0) rfl (i32_s (by omega)) (i32_s (by omega)) (hR_v (q_piece hq ja) (fun M1 k1 f1 => ?_))
    obtain ⟨I, L, R⟩ := M1
    have hg := lS_call (dep_3 _ _ _ _ _ _ _ _ _ _ _ _) hg k1 hq.2.2.1 f1
    have s1 := S_row (i1 := iI (k : Int)) (i2 := iI (j : Int)) (lS_W hg hg.2.1) hal hn (by omega) ja rfl rfl (hF k j hk ja)
    refine zW.go [1066] rfl (by omega) s1.1.1 ?_
    rw [s1.1.2]
    refine zW.go [1069] rfl (by omega) s1.2.1 ?_
    rw [s1.2.2]
    refine zW.gbf [] rfl rfl rfl (by omega) trivial (fun q => q rfl) ?_
    refine zW.go [1047] rfl (by omega) trivial ?_
    exact e5_lp hn hal hm hk hF hv hq kk q (j + 1) (by omega) _ _ I L R _ _ hb (by decide +kernel) (by rw [zcn_I, iI_add]; rfl) hg
end SF
