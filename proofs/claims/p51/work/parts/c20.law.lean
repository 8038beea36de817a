/-! The law whole. -/
section SK
variable {b Ls N : Nat} {xs : Nat → Int32}
theorem law_ok (hL : Ls ≤ 260) (hN : b < N) : zS 298 2048 [zr (some b)] (zM0 b Ls N xs) lQ := by
  refine sA1 hN (fun c s I L R hb g => ?_)
  refine sA2 hL hb g (fun n r c s T I L R hn hr hb hq g y3 e3 => ?_)
  refine sA3 (K := 19500) hn hr (bu_le hb (by omega)) g (fun c s ta g1 R y6 hb e6 hg => ?_)
  refine r3_lp (K := 19000) hn hr hL (fun c s T tn g1 I L R y3 y6 v7 v8 v9 v10 v11 v12 v13 v14 v15 v16 v17 v18 hb e3 hq hg hrow htn => ?_) r 0 (by omega) c s T (fun _ p => p) g1 I L R y3 y6 none none none none none none none none none none none none (bu_le hb (by omega)) e3 e6 hq hg (fun a p ha _ => absurd ha (by omega)) (fun a ha => absurd ha (by omega))
  have hz := lS_zOK hg hq
  have hT : ∀ a, a < 2 * r → zG r tn (tn a) ∧ pm n (tn a) := fun a ha => ⟨zG_tn hz ha, hz.2.2.2.1 a ha⟩
  refine sB2 (K := 18900) hn (bu_le hb (by omega)) hg (fun c s sa al F Dm I R y9 y10 hb hal e9 e10 hg hF0 hD0 v11 v12 v13 v14 v15 v16 v17 v18 => ?_)
  have hal24 : al ≤ 24 ∧ 1 ≤ al := by
    rw [hal]
    rcases hn with rfl | rfl <;> decide
  refine q5_lp hn hr hal hrow hT (fun f D m F Dm I i y9 y10 v11 v12 v13 v14 v15 v16 v17 v18 e9 hm hi hg hF hD hJ => ?_) al 0 (by omega) (fun _ p => p) (fun _ => 0) 1 F Dm I y9 y10 v11 v12 v13 v14 v15 v16 v17 v18 e9 e10 hal24.2 hg (fun k p hk hp => ?_) (fun k hk => ?_) (lfJ_0 n r tn)
  · subst e9
    refine sC1 (K := 18800) hr hal24.1 hm hD (fun k hk => lfJ_Dk hJ k k (Nat.le_refl k) hk) (bu_le hb (by omega)) hg (fun c s aa A I R y10 y11 y13 v14 v15 v16 v17 v18 hb e10 e11 hg hA => ?_)
    refine sD1 (K := 18700) hn hr hal24.1 hm hq hJ hi (bu_le hb (by omega)) e3 e10 e11 hA hg (fun c s I L R y3 y10 y11 y13 v14 v15 v16 v17 v18 hb e3 e13 hg => ?_)
    refine e9_lp (K := 10000) hn hr hal24.1 hm hD hF hJ hi htn (fun c s T st I L R y3 y13 v14 v15 v16 v17 v18 hb e3 hq hg => ?_) m 0 (by omega) c s T (fun p => p) I L R y3 y13 v14 v15 v16 v17 v18 (bu_le hb (by omega)) e3 e13 hq hg
    refine g1_ok (K := 9000) hn hal24.1 hm hL hJ hi (bu_le hb (by omega)) e3 hq hg (fun c s T I L R y3 y13 y14 y15 v16 v17 v18 hb e3 e14 e15 hq hg => ?_)
    refine f2_lp hn hal24.1 hm hF (fun k hk => (hJ.2.1 k hk).2) hg (fun y14 y15 v16 v17 v18 h14 => ?_) m 0 (by omega) y14 y15 v16 v17 v18 e15 (Or.inr ⟨e14, fun j hj => absurd hj (Nat.not_lt_zero j)⟩)
    exact g2_ok (K := 100) hn hal24.1 hm hJ hi (bu_le hb (by omega)) e3 h14 hq hg
  · obtain rfl : k = 0 := by omega
    exact hF0 p hp
  · obtain rfl : k = 0 := by omega
    exact hD0
end SK
