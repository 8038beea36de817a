/-! The law, state by state: searches and ways. -/
theorem ch_t : ∀ a : Nat, a < 4 → (((zcn 65 + iI (a : Int) / zcn 2).toUInt32 % 65536).toInt32) = iI (65 + ((a / 2 : Nat) : Int)) := by decide +kernel
theorem rm_t : ∀ a : Nat, a < 4 → iI (a : Int) - iI (a : Int) / zcn 2 * zcn 2 = iI ((a % 2 : Nat) : Int) := by decide +kernel
section SG
variable {b Ls x n r ta sa al c s m aa i a : Nat} {Q : zO → zM → Prop} {g F : Nat → Nat → Int} {Dm A : Nat → Int} {D : Nat → Nat} {tn f : Nat → Nat → Nat} {y10 y11 : Int32} {k : Nat}
/-- the search -/
theorem e6_ok {K : Nat} {T : tfT} {I : Nat → Nat → Int32} {L : Nat → Nat → Int64} {R : zRt} {y3 y14 y15 y16 : Int32} {v17 v18 : Option zV} (hn : n = 3 ∨ n = 4) (hal : al ≤ 24) (hm : m ≤ al) (hk : k < m) (hD : rD m Dm D) (hJ : lfJ n r tn f D m i a) (hi : m ≤ i) (hb : bu c s (K + 2)) (e3 : y3 = iI 1) (hq : tq T [] (pq n r tn (fun p => p) (f k))) (hg : lS x (C3 b ta r sa al aa) (W3 b Ls ta r n g sa al F Dm aa A) T (I, L, R))
    (kk : ∀ c s I L R y3 y16 y17 v18, bu c s K → y3 = iI 1 → y17 = iI 0 → lS x (C3 b ta r sa al aa) (W3 b Ls ta r n g sa al F Dm aa A) T (I, L, R) → zW 298 2048 c s 1146 [some (zr (some b)), some (zr (some x)), some (zi (iI (n : Int))), some (zi y3), some (zi (iI (r : Int))), some (zr (some ta)), some (zi (iI (al : Int))), some (zr (some sa)), some (zr (some (sa + 1 + al))), some (zi (iI (m : Int))), some (zi y10), some (zi y11), some (zr (some aa)), some (zi (iI (k : Int))), some (zi y14), some (zi y15), some (zi y16), some (zi y17), v18] [] (I, L, R) Q) : zW 298 2048 c s 1085 [some (zr (some b)), some (zr (some x)), some (zi (iI (n : Int))), some (zi y3), some (zi (iI (r : Int))), some (zr (some ta)), some (zi (iI (al : Int))), some (zr (some sa)), some (zr (some (sa + 1 + al))), some (zi (iI (m : Int))), some (zi y10), some (zi y11), some (zr (some aa)), some (zi (iI (k : Int))), some (zi y14), some (zi y15), some (zi y16), v17, v18] [] (I, L, R) Q := by
  subst e3
  have hz := lS_zOK hg hq
  have hs := fin_sz hz hJ hi
  have h8 : szG (zG r tn) 10 ≤ 800 := by omega
  have hgk := (hJ.2.1 k hk).1
  have hDk := lfJ_dG hz h8 hJ hi hk
  have hDl := lfJ_Dk hJ k k (Nat.le_refl k) hk
  have sea := sea_is (zG_tnO hz) (dG_dst (k := 0) hz h8) (dG_dnr hz h8) hgk hDk 6
  have qs := q_sea (m := 6) hq (by omega)
  have e6 : zcn 6 = iI ((6 : Nat) : Int) := zcn_I 6
  obtain ⟨hb1, hb⟩ := bu_y (y := 277) (j := 1) (k := K + 1) hb (by decide +kernel) (by decide +kernel)
  obtain ⟨hb2, hb⟩ := bu_y (y := 278) (j := 1) (k := K) hb (by decide +kernel) (by decide +kernel)
  refine zW.gc [] rfl rfl rfl (by omega) trivial trivial hb1.1 hb1.2 ?_
  by_cases h6 : D k ≤ 6
  · obtain ⟨v, w1, w2, w3, w4⟩ := sea.1 h6
    obtain ⟨q1, q2⟩ := qs.1 _ w1
    refine h277_ok (v1 := 0) (v2 := ((6 : Nat) : Int)) (by omega) hg.1.1 (zcn_I 0) e6 (i32_s (by omega)) (i32_s (by omega)) (hR_v q1 (fun M1 k1 f1 => ?_))
    obtain ⟨I, L, R⟩ := M1
    have hg := lS_call (dep_3 _ _ _ _ _ _ _ _ _ _ _ _) hg k1 hq.2.2.1 f1
    have d1 := D_row (i1 := iI (k : Int)) (lS_W hg hg.2.1) hal (show k < al by omega) rfl (hD k hk)
    refine zW.go [1102] rfl (by omega) d1.1 ?_
    rw [d1.2]
    refine zW.gbf [] rfl rfl rfl (by omega) trivial (by rw [zcn_I, iI_lt (by omega) (by omega) (by omega) (by omega)]; omega) ?_
    refine zW.go [1112] rfl (by omega) d1.1 ?_
    rw [d1.2]
    refine zW.gbf [] rfl rfl rfl (by omega) trivial (fun q => q rfl) ?_
    refine zW.go [1128] rfl (by omega) d1.1 ?_
    rw [d1.2]
    refine zW.gc [] rfl rfl rfl (by omega) trivial trivial hb2.1 hb2.2 ?_
    have q3 := q2 (D k)
    rw [if_neg (Nat.lt_irrefl _)] at q3
    refine h278_ok (v1 := 0) (v2 := ((6 : Nat) : Int)) (v3 := ((D k : Nat) : Int)) (by omega) hg.1.1 (zcn_I 0) e6 rfl (i32_s (by omega)) (i32_s (by omega)) (i32_s (by omega)) (hR_x q3 (fun M1 k1 f1 => ?_))
    obtain ⟨I, L, R⟩ := M1
    have hg := lS_call (dep_3 _ _ _ _ _ _ _ _ _ _ _ _) hg k1 hq.2.2.1 f1
    refine zW.gbf [] rfl rfl rfl (by omega) trivial (fun q => q (by decide +kernel)) ?_
    refine zW.go [1146] rfl (by omega) trivial ?_
    exact kk _ _ I L R _ _ _ _ hb (by decide +kernel) (zcn_I 0) hg
  · have w1 := sea.2 (by omega)
    obtain ⟨q1, q2⟩ := qs.2 w1
    refine h277_ok (v1 := 0) (v2 := ((6 : Nat) : Int)) (by omega) hg.1.1 (zcn_I 0) e6 (i32_s (by omega)) (i32_s (by omega)) (hR_v q1 (fun M1 k1 f1 => ?_))
    obtain ⟨I, L, R⟩ := M1
    have hg := lS_call (dep_3 _ _ _ _ _ _ _ _ _ _ _ _) hg k1 hq.2.2.1 f1
    have d1 := D_row (i1 := iI (k : Int)) (lS_W hg hg.2.1) hal (show k < al by omega) rfl (hD k hk)
    refine zW.go [1102] rfl (by omega) d1.1 ?_
    rw [d1.2]
    refine zW.gbt [] rfl rfl rfl (by omega) trivial (by rw [zcn_I, iI_lt (by omega) (by omega) (by omega) (by omega)]; omega) ?_
    refine zW.gbf [] rfl rfl rfl (by omega) trivial (fun q => q (by decide +kernel)) ?_
    refine zW.go [1128] rfl (by omega) d1.1 ?_
    rw [d1.2]
    refine zW.gc [] rfl rfl rfl (by omega) trivial trivial hb2.1 hb2.2 ?_
    refine h278_ok (v1 := 0) (v2 := ((6 : Nat) : Int)) (v3 := ((D k : Nat) : Int)) (by omega) hg.1.1 (zcn_I 0) e6 rfl (i32_s (by omega)) (i32_s (by omega)) (i32_s (by omega)) (hR_x (q2 _) (fun M1 k1 f1 => ?_))
    obtain ⟨I, L, R⟩ := M1
    have hg := lS_call (dep_3 _ _ _ _ _ _ _ _ _ _ _ _) hg k1 hq.2.2.1 f1
    refine zW.gbf [] rfl rfl rfl (by omega) trivial (fun q => q (by decide +kernel)) ?_
    refine zW.go [1146] rfl (by omega) trivial ?_
    exact kk _ _ I L R _ _ _ _ hb (by decide +kernel) (zcn_I 0) hg
/-- the way -/
theorem e7_lp {K : Nat} {y14 y15 y16 : Int32} {DD : (Nat → Nat) → Int} (hdst : dst r tn (zG r tn) DD) (hdnr : dnr r tn (zG r tn) DD) (hn : n = 3 ∨ n = 4) (hr : r = 1 ∨ r = 2) (hal : al ≤ 24) (hm : m ≤ al) (hk : k < m) (hD : rD m Dm D) (h6 : D k ≤ 6) (htn : ∀ b, b < 2 * r → tn b ≠ fun p => p) 
    (kk : ∀ c s T I L R y3 y17 v18, bu c s K → y3 = iI 1 → tq T [] (pq n r tn (fun p => p) (fun p => p)) → lS x (C3 b ta r sa al aa) (W3 b Ls ta r n g sa al F Dm aa A) T (I, L, R) → zW 298 2048 c s 1236 [some (zr (some b)), some (zr (some x)), some (zi (iI (n : Int))), some (zi y3), some (zi (iI (r : Int))), some (zr (some ta)), some (zi (iI (al : Int))), some (zr (some sa)), some (zr (some (sa + 1 + al))), some (zi (iI (m : Int))), some (zi y10), some (zi y11), some (zr (some aa)), some (zi (iI (k : Int))), some (zi y14), some (zi y15), some (zi y16), some (zi y17), v18] [] (I, L, R) Q) :
    ∀ q j, j + q = D k → ∀ c s T I L R y3 y17 v18 (st : Nat → Nat), bu c s (K + 2 * q) → y3 = iI 1 → y17 = iI (j : Int) → tq T [] (pq n r tn (fun p => p) st) → zG r tn st → DD st = (q : Int) → lS x (C3 b ta r sa al aa) (W3 b Ls ta r n g sa al F Dm aa A) T (I, L, R) → zW 298 2048 c s 1146 [some (zr (some b)), some (zr (some x)), some (zi (iI (n : Int))), some (zi y3), some (zi (iI (r : Int))), some (zr (some ta)), some (zi (iI (al : Int))), some (zr (some sa)), some (zr (some (sa + 1 + al))), some (zi (iI (m : Int))), some (zi y10), some (zi y11), some (zr (some aa)), some (zi (iI (k : Int))), some (zi y14), some (zi y15), some (zi y16), some (zi y17), v18] [] (I, L, R) Q
  | 0, j, hj, c, s, T, I, L, R, y3, y17, v18, st, hb, e3, e, hq, hG, hd, hg => by
    subst e
    have hz := lS_zOK hg hq
    have hd0 : DD st = 0 := by omega
    have est : st = fun p => p := dst_id (zG_tnO hz) hdst hdnr hG hd0
    subst est
    have d1 := D_row (i1 := iI (k : Int)) (lS_W hg hg.2.1) hal (show k < al by omega) rfl (hD k hk)
    refine zW.go [1153] rfl (by omega) d1.1 ?_
    rw [d1.2]
    refine zW.gbt [] rfl rfl rfl (by omega) trivial (by rw [iI_le (by omega) (by omega) (by omega) (by omega)]; omega) ?_
    exact kk _ _ T I L R _ _ _ hb e3 hq hg
  | q + 1, j, hj, c, s, T, I, L, R, y3, y17, v18, st, hb, e3, e, hq, hG, hd, hg => by
    subst e; subst e3
    have hz := lS_zOK hg hq
    have hT := zG_tnO hz
    have d1 := D_row (i1 := iI (k : Int)) (lS_W hg hg.2.1) hal (show k < al by omega) rfl (hD k hk)
    refine zW.go [1153] rfl (by omega) d1.1 ?_
    rw [d1.2]
    refine zW.gbf [] rfl rfl rfl (by omega) trivial (by rw [iI_le (by omega) (by omega) (by omega) (by omega)]; omega) ?_
    refine zW.go [1161] rfl (by omega) d1.1 ?_
    rw [d1.2]
    refine zW.gbf [] rfl rfl rfl (by omega) trivial (by rw [zcn_I, iI_lt (by omega) (by omega) (by omega) (by omega)]; omega) ?_
    -- the first turn of a way
    obtain ⟨w, w1, w2, w3, w4⟩ := (sea_is hT hdst hdnr hG hd (6 - j)).1 (by omega)
    cases w with
    | nil => exact absurd w2 (Nat.succ_ne_zero q).symm
    | cons t w =>
    have qs := ((q_sea (m := 6 - j) hq (by omega)).1 _ w1).2 0
    rw [if_pos (Nat.succ_pos q)] at qs
    have wl : w.length = q := by simpa using w2
    obtain ⟨t1, t2, t3⟩ := way_1 hT hdst hG hd wl w3 w4
    have t4 : t < 4 := by omega
    have e6 : zcn 6 - iI (j : Int) = iI ((6 - j : Nat) : Int) := by
      rw [zcn_I, iI_sub]
      exact iI_cg (by omega)
    obtain ⟨hb1, hb⟩ := bu_y (y := 278) (j := 1) (k := K + 2 * q + 1) (bu_le hb (by omega)) (by decide +kernel) (by decide +kernel)
    refine zW.gc [] rfl rfl rfl (by omega) trivial trivial hb1.1 hb1.2 ?_
    refine h278_ok (v1 := 0) (v2 := ((6 - j : Nat) : Int)) (v3 := ((0 : Nat) : Int)) (by omega) hg.1.1 (zcn_I 0) e6 (zcn_I 0) (i32_s (by omega)) (i32_s (by omega)) (i32_s (by omega)) (hR_v qs (fun M1 k1 f1 => ?_))
    obtain ⟨I, L, R⟩ := M1
    have hg := lS_call (dep_3 _ _ _ _ _ _ _ _ _ _ _ _) hg k1 hq.2.2.1 f1
    have nt : nth (t :: w) 0 = t := rfl
    rw [nt]
    refine zW.gbf [] rfl rfl rfl (by omega) trivial (show ¬ iI ((t : Nat) : Int) < 0 by rw [iI_lt0 (by omega) (by omega)]; omega) ?_
    refine zW.gbf [] rfl rfl rfl (by omega) trivial (show ¬ zcn 2 * iI (r : Int) ≤ iI ((t : Nat) : Int) by rw [zcn_I, iI_mul, iI_le (by omega) (by omega) (by omega) (by omega)]; omega) ?_
    have nz2 : ¬ zcn 2 = 0 := by decide +kernel
    refine zW.go [1208] rfl (by omega) ⟨nz2, nz2⟩ ?_
    rw [ch_t t t4, rm_t t t4]
    obtain ⟨hb1, hb⟩ := bu_y (y := 259) (j := 1) (k := K + 2 * q) hb (by decide +kernel) (by decide +kernel)
    have htp := ztn_pm hz t1
    have two := two_mv (hT.2.2.1 _ hG) htp (htn t t1)
    have twl := ct_le (fun q => !(st q == st (tn t q))) 10
    -- behind the turn
    have key : ∀ y, (y = iI 1 ∧ t % 2 = 0) ∨ (y = iI (-1) ∧ t % 2 = 1) → zW 298 2048 (c + zmc 278) (s + zms 278) 1216 [some (zr (some b)), some (zr (some x)), some (zi (iI (n : Int))), some (zi (iI 1)), some (zi (iI (r : Int))), some (zr (some ta)), some (zi (iI (al : Int))), some (zr (some sa)), some (zr (some (sa + 1 + al))), some (zi (iI (m : Int))), some (zi y10), some (zi y11), some (zr (some aa)), some (zi (iI (k : Int))), some (zi y14), some (zi y15), some (zi y16), some (zi (iI (j : Int))), some (zi (iI ((t : Nat) : Int)))] [zi y, zi (iI (65 + ((t / 2 : Nat) : Int))), zi (zcn 0), zr (some x), zi (iI 1)] (I, L, R) Q := fun y hy => by
      have hy2 : ∃ u : Int, y = iI u ∧ (u = 1 ∨ u = -1) ∧ t = 2 * (t / 2) + if u < 0 then 1 else 0 := by
        rcases hy with ⟨h1, h2⟩ | ⟨h1, h2⟩
        · exact ⟨1, h1, Or.inl rfl, by rw [if_neg (by omega)]; omega⟩
        · exact ⟨-1, h1, Or.inr rfl, by rw [if_pos (by omega)]; omega⟩
      obtain ⟨u, rfl, hu1, hu2⟩ := hy2
      have eT := q_turn hq (j := t / 2) (by omega) hu1 hu2
      have hq2 : tq (tSetP T 0 (pq n r tn (fun p => p) (fun q => st (tn t q)))) [] (pq n r tn (fun p => p) (fun q => st (tn t q))) := q_set hq _
      generalize tSetP T 0 (pq n r tn (fun p => p) (fun q => st (tn t q))) = T2 at eT hq2
      refine zW.gc [] rfl rfl rfl (by omega) trivial trivial hb1.1 hb1.2 ?_
      refine h259_ok (v1 := 0) (v2 := 65 + ((t / 2 : Nat) : Int)) (v3 := u) (by omega) hg.1.1 (zcn_I 0) rfl rfl (i32_s (by omega)) (by omega) (by omega) (i32_s (by omega)) (hR_v eT (fun M2 k2 f2 => ?_))
      obtain ⟨I, L, R⟩ := M2
      have hg := lS_call (dep_3 _ _ _ _ _ _ _ _ _ _ _ _) hg k2 hq2.2.2.1 f2
      refine zW.gbf [] rfl rfl rfl (by omega) trivial (by rw [zcn_I, iI_lt (by omega) (by omega) (by omega) (by omega)]; omega) ?_
      refine zW.go [1146] rfl (by omega) trivial ?_
      exact e7_lp hdst hdnr hn hr hal hm hk hD h6 htn kk q (j + 1) (by omega) _ _ T2 I L R _ _ _ _ hb (by decide +kernel) (by rw [zcn_I, iI_add]; rfl) hq2 t2 t3 hg
    refine zW.gb [] rfl rfl rfl (by omega) trivial (fun hh => ?_) (fun hh => ?_)
    · rw [iI_eq0 (by omega) (by omega)] at hh
      refine zW.go [1216] rfl (by omega) trivial ?_
      exact key _ (Or.inr ⟨zcn_I _, by omega⟩)
    · rw [iI_eq0 (by omega) (by omega)] at hh
      refine zW.go [1216] rfl (by omega) trivial ?_
      exact key _ (Or.inl ⟨zcn_I _, by omega⟩)
end SG
