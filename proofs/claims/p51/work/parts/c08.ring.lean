/-! The law's rings. -/
section RG
variable {b Ls x n r ta k mn st fr : Nat} {Q : zO → zM → Prop} {g0 : Nat → Nat → Int}
theorem r1_lp {T : tfT} {c s : Nat} {L : Nat → Nat → Int64} {R : zRt} {y3 : Int32} {v11 v12 v13 v14 v15 v16 v17 v18 : Option zV} (hn : n = 3 ∨ n = 4) (hr : r = 1 ∨ r = 2) (hk : k < r)
    (kk : ∀ g I y10, lS x (C1 b ta r) (W1 b Ls ta r n g) T (I, L, R) → (∀ p, p < n → g (2 * k) p = (p : Int) ∧ g (2 * k + 1) p = (p : Int)) → (∀ a p, a < 2 * k → p < n → g a p = g0 a p) → zW 298 2048 c s 218 [some (zr (some b)), some (zr (some x)), some (zi (iI (n : Int))), some (zi y3), some (zi (iI (r : Int))), some (zr (some ta)), some (zi (iI (k : Int))), some (zi (iI (mn : Int))), some (zi (iI (st : Int))), some (zi (iI (fr : Int))), some (zi y10), v11, v12, v13, v14, v15, v16, v17, v18] [] (I, L, R) Q) :
    ∀ m j, j + m = n → ∀ g I y10, y10 = iI (j : Int) → lS x (C1 b ta r) (W1 b Ls ta r n g) T (I, L, R) → (∀ p, p < j → g (2 * k) p = (p : Int) ∧ g (2 * k + 1) p = (p : Int)) → (∀ a p, a < 2 * k → p < n → g a p = g0 a p) → zW 298 2048 c s 180 [some (zr (some b)), some (zr (some x)), some (zi (iI (n : Int))), some (zi y3), some (zi (iI (r : Int))), some (zr (some ta)), some (zi (iI (k : Int))), some (zi (iI (mn : Int))), some (zi (iI (st : Int))), some (zi (iI (fr : Int))), some (zi y10), v11, v12, v13, v14, v15, v16, v17, v18] [] (I, L, R) Q
  | 0, j, hj, g, I, y10, e, hg, h1, h2 => by
    subst e
    refine zW.gbt [] rfl rfl rfl (by omega) trivial (by rw [iI_le (by omega) (by omega) (by omega) (by omega)]; omega) ?_
    exact kk g I _ hg (fun p hp => h1 p (by omega)) h2
  | m + 1, j, hj, g, I, y10, e, hg, h1, h2 => by
    subst e
    refine zW.gbf [] rfl rfl rfl (by omega) trivial (by rw [iI_le (by omega) (by omega) (by omega) (by omega)]; omega) ?_
    have ly := hg.2.2.1
    have ja : j < n := by omega
    have t1 := tb_at (I := I) (L := L) ly (show 2 * k < 2 * r by omega) (by omega) (show zcn 2 * iI (k : Int) = iI ((2 * k : Nat) : Int) from by rw [zcn_I, iI_mul]; exact iI_cg (by omega))
    refine zW.go [193] rfl (by omega) t1.1 ?_
    rw [t1.2]
    have u1 := rw_at (I := I) (L := L) (ly.2 (2 * k) (by omega)).2 ja (by omega) (rfl : iI (j : Int) = iI (j : Int))
    refine zW.go [198] rfl (by omega) u1.1 ?_
    rw [zwI_up, zg_some, u1.2]
    have g1 := W1_up (a := 2 * k) (k := j) (v := (j : Int)) (by omega) hg
    generalize upI I (ta + 1 + 2 * k) j (iI (j : Int)) = I1 at g1 ⊢
    have t2 := tb_at (I := I1) (L := L) ly (show 2 * k + 1 < 2 * r by omega) (by omega) (show zcn 2 * iI (k : Int) + zcn 1 = iI ((2 * k + 1 : Nat) : Int) from by rw [zcn_I, zcn_I, iI_mul, iI_add]; exact iI_cg (by omega))
    refine zW.go [207] rfl (by omega) t2.1 ?_
    rw [t2.2]
    have u2 := rw_at (I := I1) (L := L) (ly.2 (2 * k + 1) (by omega)).2 ja (by omega) (rfl : iI (j : Int) = iI (j : Int))
    refine zW.go [180] rfl (by omega) u2.1 ?_
    rw [zwI_up, zg_some, u2.2]
    have g2 := W1_up (a := 2 * k + 1) (k := j) (v := (j : Int)) (by omega) g1
    refine r1_lp hn hr hk kk m (j + 1) (by omega) _ _ _ (by rw [zcn_I, iI_add]; rfl) g2 (fun p hp => ?_) (fun a p ha hp => ?_)
    · by_cases e : p = j
      · subst e
        exact ⟨by rw [fu2_o (Or.inl (by omega)), fu2_s], fu2_s⟩
      · obtain ⟨a1, a2⟩ := h1 p (by omega)
        exact ⟨by rw [fu2_o (Or.inl (by omega)), fu2_o (Or.inr e)]; exact a1, by rw [fu2_o (Or.inr e), fu2_o (Or.inl (by omega))]; exact a2⟩
    · rw [fu2_o (Or.inl (by omega)), fu2_o (Or.inl (by omega))]
      exact h2 a p ha hp
def plF (n fr i : Nat) : Nat := (fr + i) % n
theorem plF_lt (hn : n = 3 ∨ n = 4) (i : Nat) : plF n fr i < n := Nat.mod_lt _ (by omega)
theorem plF_inj {i j : Nat} (hi : i < n) (hj : j < n) (h : plF n fr i = plF n fr j) : i = j := mod_inj (step := fr) hi hj (by
  rw [Nat.add_comm i fr, Nat.add_comm j fr]
  exact h)
theorem r2_lp {w : zPz} {v13 v14 v15 v16 v17 v18 : Option zV} {K : Nat} (hn : n = 3 ∨ n = 4) (hr : r = 1 ∨ r = 2) (hk : k < r) (hmn : 2 ≤ mn) (hmn2 : mn ≤ n) (hst : st < mn) (hfr : fr < n)
    (kk : ∀ c s T g I L R y3 y10 v11 v12, bu c s K → y3 = iI 1 → tq T (tyL (plF n fr) mn) w → lS x (C1 b ta r) (W1 b Ls ta r n g) T (I, L, R) → (∀ p, p < n → g (2 * k) p = (rgk mn st (plF n fr) mn p : Nat) ∧ g (2 * k + 1) p = (ivk mn st (plF n fr) mn p : Nat)) → (∀ a p, a < 2 * k → p < n → g a p = g0 a p) → zW 298 2048 c s 316 [some (zr (some b)), some (zr (some x)), some (zi (iI (n : Int))), some (zi y3), some (zi (iI (r : Int))), some (zr (some ta)), some (zi (iI (k : Int))), some (zi (iI (mn : Int))), some (zi (iI (st : Int))), some (zi (iI (fr : Int))), some (zi y10), v11, v12, v13, v14, v15, v16, v17, v18] [] (I, L, R) Q) :
    ∀ m j, j + m = mn → ∀ c s T g I L R y3 y10 v11 v12, bu c s (K + 2 * m) → y3 = iI 1 → y10 = iI (j : Int) → tq T (tyL (plF n fr) j) w → lS x (C1 b ta r) (W1 b Ls ta r n g) T (I, L, R) → (∀ p, p < n → g (2 * k) p = (rgk mn st (plF n fr) j p : Nat) ∧ g (2 * k + 1) p = (ivk mn st (plF n fr) j p : Nat)) → (∀ a p, a < 2 * k → p < n → g a p = g0 a p) → zW 298 2048 c s 221 [some (zr (some b)), some (zr (some x)), some (zi (iI (n : Int))), some (zi y3), some (zi (iI (r : Int))), some (zr (some ta)), some (zi (iI (k : Int))), some (zi (iI (mn : Int))), some (zi (iI (st : Int))), some (zi (iI (fr : Int))), some (zi y10), v11, v12, v13, v14, v15, v16, v17, v18] [] (I, L, R) Q
  | 0, j, hj, c, s, T, g, I, L, R, y3, y10, v11, v12, hb, e3, e, hq, hg, h1, h2 => by
    subst e
    refine zW.gbt [] rfl rfl rfl (by omega) trivial (by rw [iI_le (by omega) (by omega) (by omega) (by omega)]; omega) ?_
    obtain rfl : j = mn := by omega
    exact kk _ _ T g I L R _ _ _ _ hb e3 hq hg h1 h2
  | m + 1, j, hj, c, s, T, g, I, L, R, y3, y10, v11, v12, hb, e3, e, hq, hg, h1, h2 => by
    subst e; subst e3
    have hlt := plF_lt (fr := fr) hn
    have nz : ∀ q : Nat, 1 ≤ q → q ≤ 4 → ¬ iI (q : Int) = 0 := fun q h1 h2 => by rw [iI_eq0 (by omega) (by omega)]; omega
    have mdv : ∀ u v : Nat, u ≤ 100 → 1 ≤ v → v ≤ 4 → iI (u : Int) - iI (u : Int) / iI (v : Int) * iI (v : Int) = iI ((u % v : Nat) : Int) := fun u v q1 q2 q3 => by
      rw [iI_mod (by omega) (by omega) (by omega) (by omega)]
      exact iI_cg (by omega)
    have adv : ∀ u v : Nat, iI (u : Int) + iI (v : Int) = iI ((u + v : Nat) : Int) := fun u v => by rw [iI_add]; exact iI_cg (by omega)
    refine zW.gbf [] rfl rfl rfl (by omega) trivial (by rw [iI_le (by omega) (by omega) (by omega) (by omega)]; omega) ?_
    have e11 : (iI (fr : Int) + iI (j : Int)) - (iI (fr : Int) + iI (j : Int)) / iI (n : Int) * iI (n : Int) = iI ((plF n fr j : Nat) : Int) := by
      rw [adv, mdv _ _ (by omega) (by omega) (by omega)]
      rfl
    refine zW.go [237] rfl (by omega) (nz n (by omega) (by omega)) ?_
    rw [e11]
    have hm := Nat.mod_lt (j + st) (show mn > 0 by omega)
    have e12 : (iI (fr : Int) + ((iI (j : Int) + iI (st : Int)) - (iI (j : Int) + iI (st : Int)) / iI (mn : Int) * iI (mn : Int))) - (iI (fr : Int) + ((iI (j : Int) + iI (st : Int)) - (iI (j : Int) + iI (st : Int)) / iI (mn : Int) * iI (mn : Int))) / iI (n : Int) * iI (n : Int) = iI ((plF n fr ((j + st) % mn) : Nat) : Int) := by
      rw [adv j st, mdv _ _ (by omega) (by omega) (by omega), adv, mdv _ _ (by omega) (by omega) (by omega)]
      rfl
    refine zW.go [252] rfl (by omega) ⟨nz n (by omega) (by omega), nz mn (by omega) (by omega)⟩ ?_
    rw [e12]
    obtain ⟨T', ty1, hq', ty2⟩ := q_typ hq (by omega) (Nat.lt_of_lt_of_le (hlt j) (by omega)) (fun i hi q => by have := plF_inj (by omega) (by omega) q; omega)
    have hlj := hlt j
    have hlm := hlt ((j + st) % mn)
    obtain ⟨hb1, hb⟩ := bu_y (y := 255) (j := 1) (k := K + 2 * m + 1) (bu_le hb (by omega)) (by decide +kernel) (by decide +kernel)
    refine zW.gc [] rfl rfl rfl (by omega) trivial trivial hb1.1 hb1.2 ?_
    refine h255_ok (v1 := ((plF n fr j : Nat) : Int)) (by omega) hg.1.1 rfl (i32_s (by omega)) (hR_v ty1 (fun M1 k1 f1 => ?_))
    obtain ⟨I1, L1, R1⟩ := M1
    have g1 := lS_call (dep_1 _ _ _ _ _ _) hg k1 hq'.2.2.1 f1
    refine zW.gbf [] rfl rfl rfl (by omega) trivial (fun q => q (by rw [zcn_I, iI_add]; exact iI_cg (by omega))) ?_
    obtain ⟨hb1, hb⟩ := bu_y (y := 255) (j := 1) (k := K + 2 * m) hb (by decide +kernel) (by decide +kernel)
    refine zW.gc [] rfl rfl rfl (by omega) trivial trivial hb1.1 hb1.2 ?_
    refine h255_ok (v1 := ((plF n fr j : Nat) : Int)) (by omega) g1.1.1 rfl (i32_s (by omega)) (hR_x ty2 (fun M2 k2 f2 => ?_))
    obtain ⟨I2, L2, R2⟩ := M2
    have g2 := lS_call (dep_1 _ _ _ _ _ _) g1 k2 hq'.2.2.1 f2
    refine zW.gbf [] rfl rfl rfl (by omega) trivial (fun q => q (by decide +kernel)) ?_
    have ly := g2.2.2.1
    have t1 := tb_at (I := I2) (L := L2) ly (show 2 * k < 2 * r by omega) (by omega) (show zcn 2 * iI (k : Int) = iI ((2 * k : Nat) : Int) from by rw [zcn_I, iI_mul]; exact iI_cg (by omega))
    refine zW.go [291] rfl (by omega) t1.1 ?_
    rw [t1.2]
    have u1 := rw_at (I := I2) (L := L2) (ly.2 (2 * k) (by omega)).2 hlm (by omega) (rfl : iI ((plF n fr ((j + st) % mn) : Nat) : Int) = iI ((plF n fr ((j + st) % mn) : Nat) : Int))
    refine zW.go [296] rfl (by omega) u1.1 ?_
    rw [zwI_up, zg_some, u1.2]
    have g3 := W1_up (a := 2 * k) (k := plF n fr ((j + st) % mn)) (v := ((plF n fr j : Nat) : Int)) (by omega) g2
    generalize upI I2 (ta + 1 + 2 * k) (plF n fr ((j + st) % mn)) (iI ((plF n fr j : Nat) : Int)) = I3 at g3 ⊢
    have t2 := tb_at (I := I3) (L := L2) ly (show 2 * k + 1 < 2 * r by omega) (by omega) (show zcn 2 * iI (k : Int) + zcn 1 = iI ((2 * k + 1 : Nat) : Int) from by rw [zcn_I, zcn_I, iI_mul, iI_add]; exact iI_cg (by omega))
    refine zW.go [305] rfl (by omega) t2.1 ?_
    rw [t2.2]
    have u2 := rw_at (I := I3) (L := L2) (ly.2 (2 * k + 1) (by omega)).2 hlj (by omega) (rfl : iI ((plF n fr j : Nat) : Int) = iI ((plF n fr j : Nat) : Int))
    refine zW.go [221] rfl (by omega) u2.1 ?_
    rw [zwI_up, zg_some, u2.2]
    have g4 := W1_up (a := 2 * k + 1) (k := plF n fr j) (v := ((plF n fr ((j + st) % mn) : Nat) : Int)) (by omega) g3
    refine r2_lp hn hr hk hmn hmn2 hst hfr kk m (j + 1) (by omega) _ _ T' _ _ _ _ _ _ _ _ hb (by decide +kernel) (by rw [zcn_I, iI_add]; rfl) hq' g4 (fun p hp => ?_) (fun a p ha hp => ?_)
    · obtain ⟨a1, a2⟩ := h1 p hp
      refine ⟨?_, ?_⟩
      · rw [fu2_o (Or.inl (by omega))]
        show _ = (((if p = plF n fr ((j + st) % mn) then plF n fr j else rgk mn st (plF n fr) j p) : Nat) : Int)
        by_cases e : p = plF n fr ((j + st) % mn)
        · rw [if_pos e, e, fu2_s]
        · rw [if_neg e, fu2_o (Or.inr e)]
          exact a1
      · show _ = (((if p = plF n fr j then plF n fr ((j + st) % mn) else ivk mn st (plF n fr) j p) : Nat) : Int)
        by_cases e : p = plF n fr j
        · rw [if_pos e, e, fu2_s]
        · rw [if_neg e, fu2_o (Or.inr e), fu2_o (Or.inl (by omega))]
          exact a2
    · rw [fu2_o (Or.inl (by omega)), fu2_o (Or.inl (by omega))]
      exact h2 a p ha hp
end RG
