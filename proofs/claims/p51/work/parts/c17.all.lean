/-! The law, state by state: all of them. -/
section SH
variable {b Ls x n r ta sa al m aa i a : Nat} {Q : zO → zM → Prop} {g F : Nat → Nat → Int} {Dm A : Nat → Int} {D : Nat → Nat} {tn f : Nat → Nat → Nat} {y10 y11 : Int32}
theorem e9_lp {K : Nat} (hn : n = 3 ∨ n = 4) (hr : r = 1 ∨ r = 2) (hal : al ≤ 24) (hm : m ≤ al) (hD : rD m Dm D) (hF : rF n m F f) (hJ : lfJ n r tn f D m i a) (hi : m ≤ i) (htn : ∀ b, b < 2 * r → tn b ≠ fun p => p)
    (kk : ∀ (c s : Nat) T st I L R y3 y13 v14 v15 v16 v17 v18, bu c s K → y3 = iI 1 → tq T [] (pq n r tn (fun p => p) st) → lS x (C3 b ta r sa al aa) (W3 b Ls ta r n g sa al F Dm aa A) T (I, L, R) → zW 298 2048 c s 1268 [some (zr (some b)), some (zr (some x)), some (zi (iI (n : Int))), some (zi y3), some (zi (iI (r : Int))), some (zr (some ta)), some (zi (iI (al : Int))), some (zr (some sa)), some (zr (some (sa + 1 + al))), some (zi (iI (m : Int))), some (zi y10), some (zi y11), some (zr (some aa)), some (zi y13), v14, v15, v16, v17, v18] [] (I, L, R) Q) :
    ∀ q k, k + q = m → ∀ (c s : Nat) T st I L R y3 y13 v14 v15 v16 v17 v18, bu c s (K + 40 * q) → y3 = iI 1 → y13 = iI (k : Int) → tq T [] (pq n r tn (fun p => p) st) → lS x (C3 b ta r sa al aa) (W3 b Ls ta r n g sa al F Dm aa A) T (I, L, R) → zW 298 2048 c s 831 [some (zr (some b)), some (zr (some x)), some (zi (iI (n : Int))), some (zi y3), some (zi (iI (r : Int))), some (zr (some ta)), some (zi (iI (al : Int))), some (zr (some sa)), some (zr (some (sa + 1 + al))), some (zi (iI (m : Int))), some (zi y10), some (zi y11), some (zr (some aa)), some (zi y13), v14, v15, v16, v17, v18] [] (I, L, R) Q
  | 0, k, hk, c, s, T, st, I, L, R, y3, y13, v14, v15, v16, v17, v18, hb, e3, e, hq, hg => by
    subst e
    refine zW.gbt [] rfl rfl rfl (by omega) trivial (by rw [iI_le (by omega) (by omega) (by omega) (by omega)]; omega) ?_
    exact kk _ _ T st I L R _ _ _ _ _ _ _ hb e3 hq hg
  | q + 1, k, hk, c, s, T, st, I, L, R, y3, y13, v14, v15, v16, v17, v18, hb, e3, e, hq, hg => by
    subst e
    have km : k < m := by omega
    have hv : ∀ k, k < m → pm n (f k) := fun k hk => (hJ.2.1 k hk).2
    refine zW.gbf [] rfl rfl rfl (by omega) trivial (by rw [iI_le (by omega) (by omega) (by omega) (by omega)]; omega) ?_
    refine zW.go [847] rfl (by omega) trivial ?_
    refine e1_lp hn hal hm km hF hv hg (fun y15 y16 e15 => ?_) n 0 (by omega) _ _ (zcn_I 0) (zcn_I 0)
    refine zW.go [885] rfl (by omega) trivial ?_
    refine e3_lp hn hal hm km hF hv hg (fun y14 y16 v17 v18 e14 => ?_) m 0 (by omega) _ _ _ _ (zcn_I 0) (zcn_I 0)
    refine e4_ok (K := K + 40 * q + 34) hn hal hm km hD hJ hi (bu_le hb (by omega)) e3 e14 e15 hq hg (fun c s T I L R y3 y14 y15 y16 v17 v18 hb e3 e16 hq hg => ?_)
    refine e5_lp (K := K + 40 * q + 30) hn hal hm km hF hv hq (fun c s I L R y3 y16 hb e3 hg => ?_) n 0 (by omega) _ _ I L R _ _ (bu_le hb (by omega)) e3 e16 hg
    refine e6_ok (K := K + 40 * q + 20) hn hal hm km hD hJ hi (bu_le hb (by omega)) e3 hq hg (fun c s I L R y3 y16 y17 v18 hb e3 e17 hg => ?_)
    have hz := lS_zOK hg hq
    have hs := fin_sz hz hJ hi
    have h8 : szG (zG r tn) 10 ≤ 800 := by omega
    have hDk := lfJ_dG hz h8 hJ hi km
    have hDl := lfJ_Dk hJ k k (Nat.le_refl k) km
    have d0 := dG_dst (k := 0) hz h8
    have d9 := dG_dnr hz h8
    generalize dG 0 r tn = DD at hDk d0 d9
    by_cases h6 : D k ≤ 6
    · refine e7_lp (K := K + 40 * q + 8) (DD := DD) d0 d9 hn hr hal hm km hD h6 htn (fun c s T I L R y3 y17 v18 hb e3 hq hg => ?_) (D k) 0 (by omega) _ _ T I L R _ _ _ (f k) (bu_le hb (by omega)) e3 e17 hq (hJ.2.1 k km).1 hDk hg
      subst e3
      have d1 := D_row (i1 := iI (k : Int)) (lS_W hg hg.2.1) hal (show k < al by omega) rfl (hD k km)
      refine zW.go [1242] rfl (by omega) d1.1 ?_
      rw [d1.2]
      refine zW.gbf [] rfl rfl rfl (by omega) trivial (by rw [zcn_I, iI_lt (by omega) (by omega) (by omega) (by omega)]; omega) ?_
      obtain ⟨hb1, hb⟩ := bu_y (y := 108) (j := 1) (k := K + 40 * q) (bu_le hb (by omega)) (by decide +kernel) (by decide +kernel)
      refine zW.gc [] rfl rfl rfl (by omega) trivial ⟨_, rfl, lS_k0 hg⟩ hb1.1 hb1.2 ?_
      refine isSolved_ok (p := 0) (by omega) hg.1.1 (zcn_I 0) (i32_s (by omega)) (fun M1 k1 f1 => ?_)
      rw [q_solved hq, b01_t (fun _ _ => rfl)] at k1 ⊢
      obtain ⟨I, L, R⟩ := M1
      have hg := lS_call (dep_3 _ _ _ _ _ _ _ _ _ _ _ _) hg k1 hq.2.2.1 f1
      refine zW.gbf [] rfl rfl rfl (by omega) trivial (show ¬ iI 1 = 0 by decide +kernel) ?_
      refine zW.go [831] rfl (by omega) trivial ?_
      exact e9_lp hn hr hal hm hD hF hJ hi htn kk q (k + 1) (by omega) _ _ T _ I L R _ _ _ _ _ _ _ hb (by decide +kernel) (by rw [zcn_I, iI_add]; rfl) hq hg
    · subst e3; subst e17
      have d1 := D_row (i1 := iI (k : Int)) (lS_W hg hg.2.1) hal (show k < al by omega) rfl (hD k km)
      refine zW.go [1153] rfl (by omega) d1.1 ?_
      rw [d1.2]
      refine zW.gbf [] rfl rfl rfl (by omega) trivial (by rw [iI_le (by omega) (by omega) (by omega) (by omega)]; omega) ?_
      refine zW.go [1161] rfl (by omega) d1.1 ?_
      rw [d1.2]
      refine zW.gbt [] rfl rfl rfl (by omega) trivial (by rw [zcn_I, iI_lt (by omega) (by omega) (by omega) (by omega)]; omega) ?_
      refine zW.go [1242] rfl (by omega) d1.1 ?_
      rw [d1.2]
      refine zW.gbt [] rfl rfl rfl (by omega) trivial (by rw [zcn_I, iI_lt (by omega) (by omega) (by omega) (by omega)]; omega) ?_
      refine zW.go [831] rfl (by omega) trivial ?_
      exact e9_lp hn hr hal hm hD hF hJ hi htn kk q (k + 1) (by omega) _ _ T _ I L R _ _ _ _ _ _ _ (bu_le hb (by omega)) (by decide +kernel) (by rw [zcn_I, iI_add]; rfl) hq hg
end SH
