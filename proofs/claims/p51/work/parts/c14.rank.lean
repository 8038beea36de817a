/-! The law, state by state: how many moved, how many lower. -/
theorem nst_n {n : Nat} {s : Nat → Nat} (hs : pm n s) (hn : n ≤ 10) : nst s = ct (fun q => !(s q == q)) n := by
  unfold nst
  have := ct_more (b := fun q => !(s q == q)) (n := n) (m := 10 - n) (fun k h1 _ => by simp [hs.2.2 k h1])
  rw [show n + (10 - n) = 10 by omega] at this
  exact this
theorem lx_first {s t : Nat → Nat} {q : Nat} (hq : q < 10) (h : ∀ j, j < q → s j = t j) (hne : s q ≠ t q) : lx s t ↔ s q < t q := by
  refine ⟨fun ⟨i, h1, h2, h3⟩ => ?_, fun h' => ⟨q, hq, h, h'⟩⟩
  rcases Nat.lt_trichotomy i q with c | c | c
  · rw [h i c] at h3
    exact absurd h3 (Nat.lt_irrefl _)
  · rw [c] at h3
    exact h3
  · exact absurd (h2 q c) hne
theorem lx_irr (s : Nat → Nat) : ¬ lx s s := fun ⟨_, _, _, h⟩ => Nat.lt_irrefl _ h
section SE
variable {b Ls x n r ta sa al c s m aa : Nat} {Q : zO → zM → Prop} {g F : Nat → Nat → Int} {Dm A : Nat → Int} {T : tfT} {f : Nat → Nat → Nat} {I : Nat → Nat → Int32} {L : Nat → Nat → Int64} {R : zRt} {y3 y10 y11 : Int32} {k : Nat}
theorem e1_lp {y14 : Int32} {v17 v18 : Option zV} (hn : n = 3 ∨ n = 4) (hal : al ≤ 24) (hm : m ≤ al) (hk : k < m) (hF : rF n m F f) (hv : ∀ k, k < m → pm n (f k)) (hg : lS x (C3 b ta r sa al aa) (W3 b Ls ta r n g sa al F Dm aa A) T (I, L, R))
    (kk : ∀ y15 y16, y15 = iI ((ct (fun p => !(f k p == p)) n : Nat) : Int) → zW 298 2048 c s 882 [some (zr (some b)), some (zr (some x)), some (zi (iI (n : Int))), some (zi y3), some (zi (iI (r : Int))), some (zr (some ta)), some (zi (iI (al : Int))), some (zr (some sa)), some (zr (some (sa + 1 + al))), some (zi (iI (m : Int))), some (zi y10), some (zi y11), some (zr (some aa)), some (zi (iI (k : Int))), some (zi y14), some (zi y15), some (zi y16), v17, v18] [] (I, L, R) Q) :
    ∀ q j, j + q = n → ∀ y15 y16, y16 = iI (j : Int) → y15 = iI ((ct (fun p => !(f k p == p)) j : Nat) : Int) → zW 298 2048 c s 847 [some (zr (some b)), some (zr (some x)), some (zi (iI (n : Int))), some (zi y3), some (zi (iI (r : Int))), some (zr (some ta)), some (zi (iI (al : Int))), some (zr (some sa)), some (zr (some (sa + 1 + al))), some (zi (iI (m : Int))), some (zi y10), some (zi y11), some (zr (some aa)), some (zi (iI (k : Int))), some (zi y14), some (zi y15), some (zi y16), v17, v18] [] (I, L, R) Q
  | 0, j, hj, y15, y16, e, e15 => by
    subst e
    refine zW.gbt [] rfl rfl rfl (by omega) trivial (by rw [iI_le (by omega) (by omega) (by omega) (by omega)]; omega) ?_
    obtain rfl : j = n := by omega
    exact kk _ _ e15
  | q + 1, j, hj, y15, y16, e, e15 => by
    subst e
    have ja : j < n := by omega
    have vv := (hv k hk).1 j ja
    refine zW.gbf [] rfl rfl rfl (by omega) trivial (by rw [iI_le (by omega) (by omega) (by omega) (by omega)]; omega) ?_
    have h2 : lS x (C3 b ta r sa al aa) (W2 b Ls ta r n g sa al F Dm) T (I, L, R) := lS_W hg hg.2.1
    have s1 := S_row (i1 := iI (k : Int)) (i2 := iI (j : Int)) h2 hal hn (by omega) ja rfl rfl (hF k j hk ja)
    refine zW.go [860] rfl (by omega) s1.1.1 ?_
    rw [s1.1.2]
    refine zW.go [863] rfl (by omega) s1.2.1 ?_
    rw [s1.2.2]
    have es : ct (fun p => !(f k p == p)) (j + 1) = ct (fun p => !(f k p == p)) j + (if (!(f k j == j)) = true then 1 else 0) := rfl
    refine zW.gb [] rfl rfl rfl (by omega) trivial (fun hh => ?_) (fun hh => ?_)
    · rw [iI_eq (by omega) (by omega) (by omega) (by omega)] at hh
      refine zW.go [847] rfl (by omega) trivial ?_
      refine e1_lp hn hal hm hk hF hv hg kk q (j + 1) (by omega) _ _ (by rw [zcn_I, iI_add]; rfl) ?_
      have : (!(f k j == j)) = true := by
        have : f k j ≠ j := fun e => hh (by omega)
        simp [this]
      rw [es, if_pos this, e15, zcn_I, iI_add]
      exact iI_cg (by omega)
    · rw [iI_eq (by omega) (by omega) (by omega) (by omega)] at hh
      refine zW.go [847] rfl (by omega) trivial ?_
      refine e1_lp hn hal hm hk hF hv hg kk q (j + 1) (by omega) _ _ (by rw [zcn_I, iI_add]; rfl) ?_
      have : ¬ (!(f k j == j)) = true := by
        have : f k j = j := Classical.byContradiction fun e => hh (fun e2 => e (by omega))
        simp [this]
      rw [es, if_neg this, e15, zcn_I, iI_add]
      exact iI_cg (by omega)
theorem e2_lp {y14 y15 : Int32} {j : Nat} (hn : n = 3 ∨ n = 4) (hal : al ≤ 24) (hm : m ≤ al) (hk : k < m) (hj : j < m) (hF : rF n m F f) (hv : ∀ k, k < m → pm n (f k)) (hg : lS x (C3 b ta r sa al aa) (W3 b Ls ta r n g sa al F Dm aa A) T (I, L, R))
    (kk : ∀ (v : Int) y18, -4 ≤ v → v ≤ 4 → (v < 0 ↔ lx (f j) (f k)) → zW 298 2048 c s 934 [some (zr (some b)), some (zr (some x)), some (zi (iI (n : Int))), some (zi y3), some (zi (iI (r : Int))), some (zr (some ta)), some (zi (iI (al : Int))), some (zr (some sa)), some (zr (some (sa + 1 + al))), some (zi (iI (m : Int))), some (zi y10), some (zi y11), some (zr (some aa)), some (zi (iI (k : Int))), some (zi y14), some (zi y15), some (zi (iI (j : Int))), some (zi (iI v)), some (zi y18)] [] (I, L, R) Q) :
    ∀ q p, p + q = n → ∀ y17 y18, y18 = iI (p : Int) → ((y17 = iI 0 ∧ ∀ q, q < p → f j q = f k q) ∨ ∃ (q : Nat) (v : Int), q < n ∧ (∀ u, u < q → f j u = f k u) ∧ v = (f j q : Int) - (f k q : Int) ∧ v ≠ 0 ∧ y17 = iI v) → zW 298 2048 c s 898 [some (zr (some b)), some (zr (some x)), some (zi (iI (n : Int))), some (zi y3), some (zi (iI (r : Int))), some (zr (some ta)), some (zi (iI (al : Int))), some (zr (some sa)), some (zr (some (sa + 1 + al))), some (zi (iI (m : Int))), some (zi y10), some (zi y11), some (zr (some aa)), some (zi (iI (k : Int))), some (zi y14), some (zi y15), some (zi (iI (j : Int))), some (zi y17), some (zi y18)] [] (I, L, R) Q := by
  have fin : ∀ {q : Nat} {v : Int} y18, q < n → (∀ u, u < q → f j u = f k u) → v = (f j q : Int) - (f k q : Int) → v ≠ 0 → zW 298 2048 c s 934 [some (zr (some b)), some (zr (some x)), some (zi (iI (n : Int))), some (zi y3), some (zi (iI (r : Int))), some (zr (some ta)), some (zi (iI (al : Int))), some (zr (some sa)), some (zr (some (sa + 1 + al))), some (zi (iI (m : Int))), some (zi y10), some (zi y11), some (zr (some aa)), some (zi (iI (k : Int))), some (zi y14), some (zi y15), some (zi (iI (j : Int))), some (zi (iI v)), some (zi y18)] [] (I, L, R) Q := fun {q v} y18 h1 h2 h3 h4 => by
    have a1 := (hv j hj).1 q h1
    have a2 := (hv k hk).1 q h1
    refine kk v y18 (by omega) (by omega) ?_
    rw [lx_first (by omega) h2 (fun e => h4 (by omega))]
    omega
  intro q
  induction q with
  | zero =>
    intro p hp y17 y18 e h
    subst e
    refine zW.gbt [] rfl rfl rfl (by omega) trivial (by rw [iI_le (by omega) (by omega) (by omega) (by omega)]; omega) ?_
    rcases h with ⟨rfl, h⟩ | ⟨q, v, h1, h2, h3, h4, rfl⟩
    · refine kk 0 _ (by omega) (by omega) ?_
      have : f j = f k := funext fun u => by
        by_cases hu : u < n
        · exact h u (by omega)
        · rw [(hv j hj).2.2 u (by omega), (hv k hk).2.2 u (by omega)]
      rw [this]
      exact ⟨fun q => absurd q (by omega), fun q => absurd q (lx_irr _)⟩
    · exact fin _ h1 h2 h3 h4
  | succ q ih =>
    intro p hp y17 y18 e h
    subst e
    have ja : p < n := by omega
    refine zW.gbf [] rfl rfl rfl (by omega) trivial (by rw [iI_le (by omega) (by omega) (by omega) (by omega)]; omega) ?_
    rcases h with ⟨rfl, h⟩ | ⟨u, v, h1, h2, h3, h4, rfl⟩
    · refine zW.gbf [] rfl rfl rfl (by omega) trivial (fun q => q iI_0) ?_
      have a1 := (hv j hj).1 p ja
      have a2 := (hv k hk).1 p ja
      have g2 : lS x (C3 b ta r sa al aa) (W2 b Ls ta r n g sa al F Dm) T (I, L, R) := lS_W hg hg.2.1
      have s1 := S_row (i1 := iI (j : Int)) (i2 := iI (p : Int)) g2 hal hn (by omega) ja rfl rfl (hF j p hj ja)
      have s2 := S_row (i1 := iI (k : Int)) (i2 := iI (p : Int)) g2 hal hn (by omega) ja rfl rfl (hF k p hk ja)
      refine zW.go [914] rfl (by omega) s1.1.1 ?_
      rw [s1.1.2]
      refine zW.go [917] rfl (by omega) s1.2.1 ?_
      rw [s1.2.2]
      refine zW.go [922] rfl (by omega) s2.1.1 ?_
      rw [s2.1.2]
      refine zW.go [925] rfl (by omega) s2.2.1 ?_
      rw [s2.2.2]
      refine zW.go [898] rfl (by omega) trivial ?_
      refine ih (p + 1) (by omega) _ _ (by rw [zcn_I, iI_add]; rfl) ?_
      by_cases e : f j p = f k p
      · refine Or.inl ⟨by rw [e, iI_sub]; exact iI_cg (by omega), fun u hu => ?_⟩
        by_cases c : u = p
        · rw [c]
          exact e
        · exact h u (by omega)
      · exact Or.inr ⟨p, _, ja, h, rfl, by omega, iI_sub _ _⟩
    · have a1 := (hv j hj).1 u h1
      have a2 := (hv k hk).1 u h1
      refine zW.gbt [] rfl rfl rfl (by omega) trivial (by rw [iI_eq0 (by omega) (by omega)]; exact h4) ?_
      exact fin _ h1 h2 h3 h4
theorem e3_lp {y15 : Int32} (hn : n = 3 ∨ n = 4) (hal : al ≤ 24) (hm : m ≤ al) (hk : k < m) (hF : rF n m F f) (hv : ∀ k, k < m → pm n (f k)) (hg : lS x (C3 b ta r sa al aa) (W3 b Ls ta r n g sa al F Dm aa A) T (I, L, R))
    (kk : ∀ y14 y16 v17 v18, y14 = iI ((ct (fun j => dc (lx (f j) (f k))) m : Nat) : Int) → zW 298 2048 c s 955 [some (zr (some b)), some (zr (some x)), some (zi (iI (n : Int))), some (zi y3), some (zi (iI (r : Int))), some (zr (some ta)), some (zi (iI (al : Int))), some (zr (some sa)), some (zr (some (sa + 1 + al))), some (zi (iI (m : Int))), some (zi y10), some (zi y11), some (zr (some aa)), some (zi (iI (k : Int))), some (zi y14), some (zi y15), some (zi y16), v17, v18] [] (I, L, R) Q) :
    ∀ q j, j + q = m → ∀ y14 y16 v17 v18, y16 = iI (j : Int) → y14 = iI ((ct (fun j => dc (lx (f j) (f k))) j : Nat) : Int) → zW 298 2048 c s 885 [some (zr (some b)), some (zr (some x)), some (zi (iI (n : Int))), some (zi y3), some (zi (iI (r : Int))), some (zr (some ta)), some (zi (iI (al : Int))), some (zr (some sa)), some (zr (some (sa + 1 + al))), some (zi (iI (m : Int))), some (zi y10), some (zi y11), some (zr (some aa)), some (zi (iI (k : Int))), some (zi y14), some (zi y15), some (zi y16), v17, v18] [] (I, L, R) Q
  | 0, j, hj, y14, y16, v17, v18, e, e14 => by
    subst e
    refine zW.gbt [] rfl rfl rfl (by omega) trivial (by rw [iI_le (by omega) (by omega) (by omega) (by omega)]; omega) ?_
    obtain rfl : j = m := by omega
    exact kk _ _ _ _ e14
  | q + 1, j, hj, y14, y16, v17, v18, e, e14 => by
    subst e
    have ja : j < m := by omega
    refine zW.gbf [] rfl rfl rfl (by omega) trivial (by rw [iI_le (by omega) (by omega) (by omega) (by omega)]; omega) ?_
    refine zW.go [898] rfl (by omega) trivial ?_
    have es : ct (fun j => dc (lx (f j) (f k))) (j + 1) = ct (fun j => dc (lx (f j) (f k))) j + (if dc (lx (f j) (f k)) = true then 1 else 0) := rfl
    refine e2_lp (j := j) hn hal hm hk ja hF hv hg (fun v y18 v1 v2 v3 => ?_) n 0 (by omega) _ _ (zcn_I 0) (Or.inl ⟨zcn_I 0, fun q hq => absurd hq (Nat.not_lt_zero q)⟩)
    refine zW.gb [] rfl rfl rfl (by omega) trivial (fun hh => ?_) (fun hh => ?_)
    · rw [iI_ge0 (by omega) (by omega)] at hh
      refine zW.go [885] rfl (by omega) trivial ?_
      refine e3_lp hn hal hm hk hF hv hg kk q (j + 1) (by omega) _ _ _ _ (by rw [zcn_I, iI_add]; rfl) ?_
      rw [es, dc_f.mpr (fun q => by have := v3.mpr q; omega), e14, zcn_I, iI_add]
      exact iI_cg (by simp)
    · rw [iI_ge0 (by omega) (by omega)] at hh
      refine zW.go [885] rfl (by omega) trivial ?_
      refine e3_lp hn hal hm hk hF hv hg kk q (j + 1) (by omega) _ _ _ _ (by rw [zcn_I, iI_add]; rfl) ?_
      rw [es, dc_t.mpr (v3.mp (by omega)), e14, zcn_I, iI_add]
      exact iI_cg (by simp)
end SE
