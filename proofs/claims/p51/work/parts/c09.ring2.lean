/-! The law's rings, one by one. -/
section RH
variable {b Ls x n r ta : Nat} {Q : zO → zM → Prop}
theorem sA3 {c s K : Nat} {T : tfT} {I : Nat → Nat → Int32} {L : Nat → Nat → Int64} {R : zRt} {y3 : Int32} (hn : n = 3 ∨ n = 4) (hr : r = 1 ∨ r = 2) (hb : bu c s (K + 1)) (g : lS x (C0 b) (W0 b Ls) T (I, L, R))
    (kk : ∀ c s ta g R y6, bu c s K → y6 = iI 0 → lS x (C1 b ta r) (W1 b Ls ta r n g) T (I, L, R) → zW 298 2048 c s 127 [some (zr (some b)), some (zr (some x)), some (zi (iI (n : Int))), some (zi y3), some (zi (iI (r : Int))), some (zr (some ta)), some (zi y6), none, none, none, none, none, none, none, none, none, none, none, none] [] (I, L, R) Q) : zW 298 2048 c s 113 [some (zr (some b)), some (zr (some x)), some (zi (iI (n : Int))), some (zi y3), some (zi (iI (r : Int))), none, none, none, none, none, none, none, none, none, none, none, none, none, none] [] (I, L, R) Q := by
  have e2 : zcn 2 * iI (r : Int) = iI ((2 * r : Nat) : Int) := by
    rw [zcn_I, iI_mul]
    exact iI_cg (by omega)
  refine zW.go [117] rfl (by omega) trivial ?_
  rw [e2]
  have x1 : (iI ((2 * r : Nat) : Int)).toNatClampNeg = 2 * r := iI_ixN (by omega)
  have x2 : (iI (n : Int)).toNatClampNeg = n := iI_ixN (by omega)
  have x3 : ¬ iI ((2 * r : Nat) : Int) < 0 := by rw [iI_lt0 (by omega) (by omega)]; omega
  have x4 : ¬ iI (n : Int) < 0 := by rw [iI_lt0 (by omega) (by omega)]; omega
  have x5 : (iI ((2 * r : Nat) : Int)).toNatClampNeg ≤ 1000 := by rw [x1]; omega
  have x6 : (iI (n : Int)).toNatClampNeg ≤ 1000 := by rw [x2]; omega
  obtain ⟨hb1, hb⟩ := bu_n (j := 1) (u := 1 + (iI ((2 * r : Nat) : Int)).toNatClampNeg * 1) (v := (iI ((2 * r : Nat) : Int)).toNatClampNeg + (iI ((2 * r : Nat) : Int)).toNatClampNeg * (iI (n : Int)).toNatClampNeg) hb (by rw [x1]; omega) (by
    rw [x1, x2]
    rcases hn with rfl | rfl <;> rcases hr with rfl | rfl <;> decide)
  refine zW.gm [] rfl rfl rfl (by omega) trivial ⟨x3, x5, x4, x6⟩ hb1.1 hb1.2 (fun _ => ?_)
  obtain ⟨R', e, q1, q2, q3⟩ := mk_tb (I := I) (L := L) (R := R) (2 * r) n
  rw [x1, x2, e, zN_mk]
  rw [x1, x2] at hb
  refine zW.go [127] rfl (by omega) trivial ?_
  have hbR : b < R.2.2 := (g.1.2.2 b rfl).1
  refine kk _ _ R.2.2 _ R' _ hb (zcn_I 0) (lS_new g (by omega) q3 (fun a ha => ?_) ⟨((q3 b hbR).2).trans g.2, q2, tbI_ex I _ _ _⟩)
  rcases ha with q | ⟨h1, h2⟩
  · exact Or.inl q
  · exact Or.inr ⟨h1, by omega⟩
theorem r3_lp {K : Nat} (hn : n = 3 ∨ n = 4) (hr : r = 1 ∨ r = 2) (hL : Ls ≤ 260)
    (kk : ∀ (c s : Nat) T tn g I L R y3 y6 v7 v8 v9 v10 v11 v12 v13 v14 v15 v16 v17 v18, bu c s K → y3 = iI 1 → tq T [] (pq n r tn (fun p => p) (fun p => p)) → lS x (C1 b ta r) (W1 b Ls ta r n g) T (I, L, R) → (∀ a p, a < 2 * r → p < n → g a p = (tn a p : Nat)) → (∀ a, a < 2 * r → tn a ≠ fun p => p) → zW 298 2048 c s 356 [some (zr (some b)), some (zr (some x)), some (zi (iI (n : Int))), some (zi y3), some (zi (iI (r : Int))), some (zr (some ta)), some (zi y6), v7, v8, v9, v10, v11, v12, v13, v14, v15, v16, v17, v18] [] (I, L, R) Q) :
    ∀ m k, k + m = r → ∀ (c s : Nat) T tn g I L R y3 y6 v7 v8 v9 v10 v11 v12 v13 v14 v15 v16 v17 v18, bu c s (K + 30 * m) → y3 = iI 1 → y6 = iI (k : Int) → tq T [] (pq n k tn (fun p => p) (fun p => p)) → lS x (C1 b ta r) (W1 b Ls ta r n g) T (I, L, R) → (∀ a p, a < 2 * k → p < n → g a p = (tn a p : Nat)) → (∀ a, a < 2 * k → tn a ≠ fun p => p) → zW 298 2048 c s 127 [some (zr (some b)), some (zr (some x)), some (zi (iI (n : Int))), some (zi y3), some (zi (iI (r : Int))), some (zr (some ta)), some (zi y6), v7, v8, v9, v10, v11, v12, v13, v14, v15, v16, v17, v18] [] (I, L, R) Q
  | 0, k, hk, c, s, T, tn, g, I, L, R, y3, y6, v7, v8, v9, v10, v11, v12, v13, v14, v15, v16, v17, v18, hb, e3, e6, hq, hg, h1, h2 => by
    subst e6
    refine zW.gbt [] rfl rfl rfl (by omega) trivial (by rw [iI_le (by omega) (by omega) (by omega) (by omega)]; omega) ?_
    obtain rfl : k = r := by omega
    exact kk _ _ T tn g I L R _ _ _ _ _ _ _ _ _ _ _ _ _ _ hb e3 hq hg h1 h2
  | m + 1, k, hk, c, s, T, tn, g, I, L, R, y3, y6, v7, v8, v9, v10, v11, v12, v13, v14, v15, v16, v17, v18, hb, e3, e6, hq, hg, h1, h2 => by
    subst e6; subst e3
    have hkr : k < r := by omega
    have adv : ∀ u v : Nat, zcn (u : Int) + iI (v : Int) = iI ((u + v : Nat) : Int) := fun u v => by rw [zcn_I, iI_add]; exact iI_cg (by omega)
    have sb1 : ∀ u : Nat, 1 ≤ u → iI (u : Int) - zcn 1 = iI ((u - 1 : Nat) : Int) := fun u hu => by rw [zcn_I, iI_sub]; exact iI_cg (by omega)
    refine zW.gbf [] rfl rfl rfl (by omega) trivial (by rw [iI_le (by omega) (by omega) (by omega) (by omega)]; omega) ?_
    -- how many places
    obtain ⟨hb1, hb⟩ := bu_y (y := 296) (j := 1) (k := K + 30 * m + 29) (bu_le hb (by omega)) (by decide +kernel) (by decide +kernel)
    refine zW.gc [] rfl rfl rfl (by omega) trivial trivial hb1.1 hb1.2 ?_
    refine h296_ok (i := 2 + k) (n := n - 1) (by omega) hg.2.1 hL (adv 2 k) (by omega) (sb1 n (by omega)) (by omega) (by omega) (fun v hv => ?_)
    refine zW.go [149] rfl (by omega) trivial ?_
    obtain ⟨mn, hmn, hmn2, emn⟩ : ∃ mn : Nat, 2 ≤ mn ∧ mn ≤ n ∧ zcn 2 + iI (v : Int) = iI (mn : Int) := ⟨2 + v, by omega, by omega, adv 2 v⟩
    rw [emn]
    -- the step
    obtain ⟨hb1, hb⟩ := bu_y (y := 296) (j := 1) (k := K + 30 * m + 28) hb (by decide +kernel) (by decide +kernel)
    refine zW.gc [] rfl rfl rfl (by omega) trivial trivial hb1.1 hb1.2 ?_
    refine h296_ok (i := 4 + k) (n := mn - 1) (by omega) hg.2.1 hL (adv 4 k) (by omega) (sb1 mn (by omega)) (by omega) (by omega) (fun v' hv' => ?_)
    refine zW.go [165] rfl (by omega) trivial ?_
    obtain ⟨st, hst1, hst, est⟩ : ∃ st : Nat, 1 ≤ st ∧ st < mn ∧ zcn 1 + iI (v' : Int) = iI (st : Int) := ⟨1 + v', by omega, by omega, adv 1 v'⟩
    rw [est]
    -- from where
    obtain ⟨hb1, hb⟩ := bu_y (y := 296) (j := 1) (k := K + 30 * m + 27) hb (by decide +kernel) (by decide +kernel)
    refine zW.gc [] rfl rfl rfl (by omega) trivial trivial hb1.1 hb1.2 ?_
    refine h296_ok (i := 6 + k) (n := n) (by omega) hg.2.1 hL (adv 6 k) (by omega) rfl (by omega) (by omega) (fun fr hfr => ?_)
    refine zW.go [180] rfl (by omega) trivial ?_
    refine r1_lp (g0 := g) hn hr hkr (fun g1 I1 y10 hg1 p1 p2 => ?_) n 0 (by omega) g I _ (zcn_I 0) hg (fun p hp => absurd hp (Nat.not_lt_zero p)) (fun _ _ _ _ => rfl)
    refine zW.go [221] rfl (by omega) trivial ?_
    refine r2_lp (g0 := g) (K := K + 30 * m + 10) (w := pq n k tn (fun p => p) (fun p => p)) hn hr hkr hmn hmn2 hst hfr (fun c2 s2 T2 g2 I2 L2 R2 y3 y10 v11 v12 hb e3 hq2 hg2 p3 p4 => ?_) mn 0 (by omega) _ _ T g1 I1 L R _ _ _ _ (bu_le hb (by omega)) rfl (zcn_I 0) hq hg1 (fun p hp => p1 p hp) p2
    subst e3
    -- ring(0, many), ring(0, step)
    obtain ⟨hb1, hb⟩ := bu_y (y := 257) (j := 1) (k := K + 30 * m + 9) hb (by decide +kernel) (by decide +kernel)
    refine zW.gc [] rfl rfl rfl (by omega) trivial trivial hb1.1 hb1.2 ?_
    refine h257_ok (v1 := 0) (v2 := (mn : Int)) (by omega) hg2.1.1 (zcn_I 0) rfl (i32_s (by omega)) (i32_s (by omega)) (hR_x (q_ringB hq2 (fun q => by
      have := q.2.2
      rw [tyL_len] at this
      omega)) (fun M3 k3 f3 => ?_))
    obtain ⟨I3, L3, R3⟩ := M3
    have g3 := lS_call (dep_1 _ _ _ _ _ _) hg2 k3 hq2.2.2.1 f3
    refine zW.gbf [] rfl rfl rfl (by omega) trivial (fun q => q (by decide +kernel)) ?_
    have hlt := plF_lt (fr := fr) hn
    have hln := tyL_len (plF n fr) mn
    obtain ⟨eR, hq4⟩ := q_ringG (s := st) hq2 (by rw [hln]; exact hmn) (fun i hi => by
      rw [hln] at hi
      rw [tyL_nth _ hi]
      exact hlt i) hst1 (by rw [hln]; exact hst) (by omega)
    rw [hln] at hq4
    obtain ⟨hb1, hb⟩ := bu_y (y := 257) (j := 1) (k := K + 30 * m) (bu_le hb (by omega)) (by decide +kernel) (by decide +kernel)
    refine zW.gc [] rfl rfl rfl (by omega) trivial trivial hb1.1 hb1.2 ?_
    refine h257_ok (v1 := 0) (v2 := (st : Int)) (by omega) g3.1.1 (zcn_I 0) rfl (i32_s (by omega)) (i32_s (by omega)) (hR_v eR (fun M4 k4 f4 => ?_))
    obtain ⟨I4, L4, R4⟩ := M4
    have g4 := lS_call (dep_1 _ _ _ _ _ _) g3 k4 hq4.2.2.1 f4
    refine zW.gbf [] rfl rfl rfl (by omega) trivial (fun q => q (by rw [zcn_I, iI_add]; exact iI_cg (by omega))) ?_
    refine zW.go [127] rfl (by omega) trivial ?_
    -- the ring's turn is the row
    have hpl : ∀ i j, i < mn → j < mn → plF n fr i = plF n fr j → i = j := fun i j hi hj q => plF_inj (by omega) (by omega) q
    have eT : rgT mn st (nth (tyL (plF n fr) mn)) = rgT mn st (plF n fr) := rgk_cg (by omega) (fun i hi => tyL_nth _ hi) mn (Nat.le_refl _)
    rw [eT] at hq4
    have hT10 := pm_up (rgT_pm (n := n) hpl hst (fun i _ => hlt i)) (show n ≤ 10 by omega)
    have hTne := rgT_ne hpl hst1 hst
    have hiv := ivk_vi (n := n) hpl hst (fun i _ => hlt i) (by omega)
    have hrg : rgk mn st (plF n fr) mn = rgT mn st (plF n fr) := rfl
    rw [hrg] at p3
    generalize rgT mn st (plF n fr) = TT at *
    refine r3_lp hn hr hL kk m (k + 1) (by omega) _ _ _ (tnS k tn TT) g2 I4 L4 R4 _ _ _ _ _ _ _ _ _ _ _ _ _ _ hb (by decide +kernel) (by rw [zcn_I, iI_add]; rfl) hq4 g4 (fun a p ha hp => ?_) (fun a ha => ?_)
    · unfold tnS
      by_cases c1 : a = 2 * k
      · rw [if_pos c1, c1]
        exact (p3 p hp).1
      · rw [if_neg c1]
        by_cases c2 : a = 2 * k + 1
        · rw [if_pos c2, c2, (p3 p hp).2, hiv p]
        · rw [if_neg c2, p4 a p (by omega) hp]
          exact h1 a p (by omega) hp
    · unfold tnS
      by_cases c1 : a = 2 * k
      · rw [if_pos c1]
        exact hTne
      · rw [if_neg c1]
        by_cases c2 : a = 2 * k + 1
        · rw [if_pos c2]
          exact vi_ne (n := 10) hT10 hTne
        · rw [if_neg c2]
          exact h2 a (by omega)
end RH
