/-! The law's walk over its states. -/
/-- the rows hold what is told of the states -/
def rF (n m : Nat) (F : Nat → Nat → Int) (f : Nat → Nat → Nat) : Prop := ∀ k p, k < m → p < n → F k p = (f k p : Int)
def rG (n r : Nat) (g : Nat → Nat → Int) (tn : Nat → Nat → Nat) : Prop := ∀ a p, a < 2 * r → p < n → g a p = (tn a p : Int)
def rD (m : Nat) (Dm : Nat → Int) (D : Nat → Nat) : Prop := ∀ k, k < m → Dm k = (D k : Int)
theorem S_row {b Ls ta r n sa al x k p : Nat} {g F : Nat → Nat → Int} {Dm : Nat → Int} {T : tfT} {I : Nat → Nat → Int32} {L : Nat → Nat → Int64} {R : zRt} {C : Nat → Prop} {i1 i2 : Int32} (hg : lS x C (W2 b Ls ta r n g sa al F Dm) T (I, L, R)) (hal : al ≤ 24) (hn : n = 3 ∨ n = 4) (hk : k < al) (hp : p < n) (e1 : i1 = iI (k : Int)) (e2 : i2 = iI (p : Int)) {v : Int} (hv : F k p = v) :
    ((zar (I, L, R) (some sa) 25 i1 ∨ zar (I, L, R) (some sa) 26 i1 ∨ zar (I, L, R) (some sa) 27 i1 ∨ zar (I, L, R) (some sa) 28 i1 ∨ zar (I, L, R) (some sa) 29 i1) ∧ zP (I, L, R) (zg (some sa)) i1.toNatClampNeg = some (sa + 1 + k)) ∧ (zar (I, L, R) (some (sa + 1 + k)) 20 i2 ∨ zar (I, L, R) (some (sa + 1 + k)) 30 i2) ∧ zI (I, L, R) (zg (some (sa + 1 + k))) i2.toNatClampNeg = iI v := by
  obtain ⟨-, -, ⟨ly, rs⟩, -⟩ := hg.2
  exact ⟨tb_at ly hk (by omega) e1, rw_ld (ly.2 k hk).2 hp (by omega) e2 (by rw [← hv]; exact rs k hk p hp)⟩
theorem T_row {b Ls ta r n sa al x a p : Nat} {g F : Nat → Nat → Int} {Dm : Nat → Int} {T : tfT} {I : Nat → Nat → Int32} {L : Nat → Nat → Int64} {R : zRt} {C : Nat → Prop} {i1 i2 : Int32} (hg : lS x C (W2 b Ls ta r n g sa al F Dm) T (I, L, R)) (hr : r = 1 ∨ r = 2) (hn : n = 3 ∨ n = 4) (ha : a < 2 * r) (hp : p < n) (e1 : i1 = iI (a : Int)) (e2 : i2 = iI (p : Int)) {v : Int} (hv : g a p = v) :
    ((zar (I, L, R) (some ta) 25 i1 ∨ zar (I, L, R) (some ta) 26 i1 ∨ zar (I, L, R) (some ta) 27 i1 ∨ zar (I, L, R) (some ta) 28 i1 ∨ zar (I, L, R) (some ta) 29 i1) ∧ zP (I, L, R) (zg (some ta)) i1.toNatClampNeg = some (ta + 1 + a)) ∧ (zar (I, L, R) (some (ta + 1 + a)) 20 i2 ∨ zar (I, L, R) (some (ta + 1 + a)) 30 i2) ∧ zI (I, L, R) (zg (some (ta + 1 + a))) i2.toNatClampNeg = iI v := by
  obtain ⟨⟨-, ly, rs⟩, -⟩ := hg.2
  exact ⟨tb_at ly ha (by omega) e1, rw_ld (ly.2 a ha).2 hp (by omega) e2 (by rw [← hv]; exact rs a ha p hp)⟩
theorem D_row {b Ls ta r n sa al x k : Nat} {g F : Nat → Nat → Int} {Dm : Nat → Int} {T : tfT} {I : Nat → Nat → Int32} {L : Nat → Nat → Int64} {R : zRt} {C : Nat → Prop} {i1 : Int32} (hg : lS x C (W2 b Ls ta r n g sa al F Dm) T (I, L, R)) (hal : al ≤ 24) (hk : k < al) (e1 : i1 = iI (k : Int)) {v : Int} (hv : Dm k = v) :
    (zar (I, L, R) (some (sa + 1 + al)) 20 i1 ∨ zar (I, L, R) (some (sa + 1 + al)) 30 i1) ∧ zI (I, L, R) (zg (some (sa + 1 + al))) i1.toNatClampNeg = iI v := by
  obtain ⟨-, -, -, kD, rD⟩ := hg.2
  exact rw_ld kD hk (by omega) e1 (by rw [← hv]; exact rD k hk)
section WK
variable {b Ls x n r ta sa al c s : Nat} {Q : zO → zM → Prop} {g : Nat → Nat → Int} {tn : Nat → Nat → Nat} {T : tfT} {L : Nat → Nat → Int64} {R : zRt} {y3 : Int32}
/-- one state against another's neighbour -/
theorem q1_lp {F : Nat → Nat → Int} {Dm : Nat → Int} {f : Nat → Nat → Nat} {I : Nat → Nat → Int32} {m i a k : Nat} {y12 : Int32} {v16 v17 v18 : Option zV} (hn : n = 3 ∨ n = 4) (hr : r = 1 ∨ r = 2) (hal : al ≤ 24) (hm : m ≤ al) (hk : k < m) (hi : i < m) (ha : a < 2 * r) (hg : lS x (C2 b ta r sa (al + 2)) (W2 b Ls ta r n g sa al F Dm) T (I, L, R)) (hF : rF n m F f) (hG : rG n r g tn) (ht : ∀ p, p < n → tn a p < n) (hv : ∀ k p, k < m → p < n → f k p < n)
    (kk : ∀ y14 y15, ((y14 = iI 1 ∧ ∀ p, p < n → f k p = f i (tn a p)) ∨ (y14 = iI 0 ∧ ∃ p, p < n ∧ f k p ≠ f i (tn a p))) → zW 298 2048 c s 500 [some (zr (some b)), some (zr (some x)), some (zi (iI (n : Int))), some (zi y3), some (zi (iI (r : Int))), some (zr (some ta)), some (zi (iI (al : Int))), some (zr (some sa)), some (zr (some (sa + 1 + al))), some (zi (iI (m : Int))), some (zi (iI (i : Int))), some (zi (iI (a : Int))), some (zi y12), some (zi (iI (k : Int))), some (zi y14), some (zi y15), v16, v17, v18] [] (I, L, R) Q) :
    ∀ q j, j + q = n → ∀ y14 y15, y15 = iI (j : Int) → ((y14 = iI 1 ∧ ∀ p, p < j → f k p = f i (tn a p)) ∨ (y14 = iI 0 ∧ ∃ p, p < n ∧ f k p ≠ f i (tn a p))) → zW 298 2048 c s 453 [some (zr (some b)), some (zr (some x)), some (zi (iI (n : Int))), some (zi y3), some (zi (iI (r : Int))), some (zr (some ta)), some (zi (iI (al : Int))), some (zr (some sa)), some (zr (some (sa + 1 + al))), some (zi (iI (m : Int))), some (zi (iI (i : Int))), some (zi (iI (a : Int))), some (zi y12), some (zi (iI (k : Int))), some (zi y14), some (zi y15), v16, v17, v18] [] (I, L, R) Q
  | 0, j, hj, y14, y15, e, h => by
    subst e
    refine zW.gbt [] rfl rfl rfl (by omega) trivial (by rw [iI_le (by omega) (by omega) (by omega) (by omega)]; omega) ?_
    obtain rfl : j = n := by omega
    exact kk _ _ h
  | q + 1, j, hj, y14, y15, e, h => by
    subst e
    have ja : j < n := by omega
    refine zW.gbf [] rfl rfl rfl (by omega) trivial (by rw [iI_le (by omega) (by omega) (by omega) (by omega)]; omega) ?_
    have s1 := S_row (i1 := iI (k : Int)) (i2 := iI (j : Int)) hg hal hn (by omega) ja rfl rfl (hF k j hk ja)
    refine zW.go [466] rfl (by omega) s1.1.1 ?_
    rw [s1.1.2]
    refine zW.go [469] rfl (by omega) s1.2.1 ?_
    rw [s1.2.2]
    have s2 := S_row (i1 := iI (i : Int)) (i2 := iI ((tn a j : Nat) : Int)) hg hal hn (by omega) (ht j ja) rfl rfl (hF i (tn a j) hi (ht j ja))
    refine zW.go [474] rfl (by omega) s2.1.1 ?_
    rw [s2.1.2]
    have s3 := T_row (i1 := iI (a : Int)) (i2 := iI (j : Int)) hg hr hn ha ja rfl rfl (hG a j ha ja)
    refine zW.go [479] rfl (by omega) s3.1.1 ?_
    rw [s3.1.2]
    refine zW.go [482] rfl (by omega) s3.2.1 ?_
    rw [s3.2.2]
    refine zW.go [483] rfl (by omega) s2.2.1 ?_
    rw [s2.2.2]
    have v1 := hv k j hk ja
    have v2 := hv i (tn a j) hi (ht j ja)
    refine zW.gb [] rfl rfl rfl (by omega) trivial (fun hh => ?_) (fun hh => ?_)
    · rw [iI_eq (by omega) (by omega) (by omega) (by omega)] at hh
      refine zW.go [453] rfl (by omega) trivial ?_
      refine q1_lp hn hr hal hm hk hi ha hg hF hG ht hv kk q (j + 1) (by omega) _ _ (by rw [zcn_I, iI_add]; rfl) (Or.inr ⟨?_, j, ja, fun e => hh (by omega)⟩)
      rcases h with ⟨rfl, -⟩ | ⟨rfl, -⟩ <;> decide +kernel
    · rw [iI_eq (by omega) (by omega) (by omega) (by omega)] at hh
      refine zW.go [453] rfl (by omega) trivial ?_
      refine q1_lp hn hr hal hm hk hi ha hg hF hG ht hv kk q (j + 1) (by omega) _ _ (by rw [zcn_I, iI_add]; rfl) ?_
      rcases h with ⟨rfl, h⟩ | ⟨rfl, h⟩
      · refine Or.inl ⟨by decide +kernel, fun p hp => ?_⟩
        by_cases e : p = j
        · rw [e]
          exact Classical.byContradiction fun q => hh (fun e2 => q (by omega))
        · exact h p (by omega)
      · exact Or.inr ⟨by decide +kernel, h⟩
/-- is the neighbour told already -/
theorem q2_lp {F : Nat → Nat → Int} {Dm : Nat → Int} {f : Nat → Nat → Nat} {I : Nat → Nat → Int32} {m i a : Nat} (hn : n = 3 ∨ n = 4) (hr : r = 1 ∨ r = 2) (hal : al ≤ 24) (hm : m ≤ al) (hi : i < m) (ha : a < 2 * r) (hg : lS x (C2 b ta r sa (al + 2)) (W2 b Ls ta r n g sa al F Dm) T (I, L, R)) (hF : rF n m F f) (hG : rG n r g tn) (ht : pm n (tn a)) (hv : ∀ k, k < m → pm n (f k))
    (kk : ∀ y12 y13 v14 v15 v16 v17 v18, ((∃ k0 : Nat, k0 < m ∧ y12 = iI (k0 : Int) ∧ f k0 = fun p => f i (tn a p)) ∨ (y12 = iI (-1) ∧ ∀ k0, k0 < m → f k0 ≠ fun p => f i (tn a p))) → zW 298 2048 c s 520 [some (zr (some b)), some (zr (some x)), some (zi (iI (n : Int))), some (zi y3), some (zi (iI (r : Int))), some (zr (some ta)), some (zi (iI (al : Int))), some (zr (some sa)), some (zr (some (sa + 1 + al))), some (zi (iI (m : Int))), some (zi (iI (i : Int))), some (zi (iI (a : Int))), some (zi y12), some (zi y13), v14, v15, v16, v17, v18] [] (I, L, R) Q) :
    ∀ q k, k + q = m → ∀ y12 y13 v14 v15 v16 v17 v18, y13 = iI (k : Int) → ((∃ k0 : Nat, k0 < m ∧ y12 = iI (k0 : Int) ∧ f k0 = fun p => f i (tn a p)) ∨ (y12 = iI (-1) ∧ ∀ k0, k0 < k → f k0 ≠ fun p => f i (tn a p))) → zW 298 2048 c s 440 [some (zr (some b)), some (zr (some x)), some (zi (iI (n : Int))), some (zi y3), some (zi (iI (r : Int))), some (zr (some ta)), some (zi (iI (al : Int))), some (zr (some sa)), some (zr (some (sa + 1 + al))), some (zi (iI (m : Int))), some (zi (iI (i : Int))), some (zi (iI (a : Int))), some (zi y12), some (zi y13), v14, v15, v16, v17, v18] [] (I, L, R) Q
  | 0, k, hk, y12, y13, v14, v15, v16, v17, v18, e, h => by
    subst e
    refine zW.gbt [] rfl rfl rfl (by omega) trivial (by rw [iI_le (by omega) (by omega) (by omega) (by omega)]; omega) ?_
    obtain rfl : k = m := by omega
    exact kk _ _ _ _ _ _ _ h
  | q + 1, k, hk, y12, y13, v14, v15, v16, v17, v18, e, h => by
    subst e
    refine zW.gbf [] rfl rfl rfl (by omega) trivial (by rw [iI_le (by omega) (by omega) (by omega) (by omega)]; omega) ?_
    refine zW.go [453] rfl (by omega) trivial ?_
    refine q1_lp (k := k) hn hr hal hm (by omega) hi ha hg hF hG ht.1 (fun k p hk hp => (hv k hk).1 p hp) (fun y14 y15 h2 => ?_) n 0 (by omega) _ _ (zcn_I 0) (Or.inl ⟨zcn_I 1, fun p hp => absurd hp (Nat.not_lt_zero p)⟩)
    have pt := pm_comp (hv i hi) ht
    rcases h2 with ⟨rfl, h2⟩ | ⟨rfl, p, hp, h2⟩
    · refine zW.gbf [] rfl rfl rfl (by omega) trivial (by decide +kernel) ?_
      refine zW.go [440] rfl (by omega) trivial ?_
      refine q2_lp hn hr hal hm hi ha hg hF hG ht hv kk q (k + 1) (by omega) _ _ _ _ _ _ _ (by rw [zcn_I, iI_add]; rfl) (Or.inl ⟨k, by omega, rfl, funext fun p => ?_⟩)
      by_cases hp : p < n
      · exact h2 p hp
      · rw [(hv k (by omega)).2.2 p (by omega)]
        exact (pt.2.2 p (by omega)).symm
    · refine zW.gbt [] rfl rfl rfl (by omega) trivial iI_0 ?_
      refine zW.go [440] rfl (by omega) trivial ?_
      refine q2_lp hn hr hal hm hi ha hg hF hG ht hv kk q (k + 1) (by omega) _ _ _ _ _ _ _ (by rw [zcn_I, iI_add]; rfl) ?_
      rcases h with h | ⟨h, h'⟩
      · exact Or.inl h
      · refine Or.inr ⟨h, fun k0 hk0 => ?_⟩
        by_cases e : k0 = k
        · rw [e]
          exact fun e => h2 (congrFun e p)
        · exact h' k0 (by omega)
/-- a new state's row is written -/
theorem q3_lp {Dm : Nat → Int} {f : Nat → Nat → Nat} {m i a : Nat} {y12 : Int32} {v14 v15 v16 v17 v18 : Option zV} (hn : n = 3 ∨ n = 4) (hr : r = 1 ∨ r = 2) (hal : al ≤ 24) (hm : m < al) (hi : i < m) (ha : a < 2 * r) (hG : rG n r g tn) (ht : pm n (tn a))
    (kk : ∀ F I y13, lS x (C2 b ta r sa (al + 2)) (W2 b Ls ta r n g sa al F Dm) T (I, L, R) → rF n m F f → (∀ p, p < n → F m p = (f i (tn a p) : Nat)) → zW 298 2048 c s 562 [some (zr (some b)), some (zr (some x)), some (zi (iI (n : Int))), some (zi y3), some (zi (iI (r : Int))), some (zr (some ta)), some (zi (iI (al : Int))), some (zr (some sa)), some (zr (some (sa + 1 + al))), some (zi (iI (m : Int))), some (zi (iI (i : Int))), some (zi (iI (a : Int))), some (zi y12), some (zi y13), v14, v15, v16, v17, v18] [] (I, L, R) Q) :
    ∀ q j, j + q = n → ∀ F I y13, y13 = iI (j : Int) → lS x (C2 b ta r sa (al + 2)) (W2 b Ls ta r n g sa al F Dm) T (I, L, R) → rF n m F f → (∀ p, p < j → F m p = (f i (tn a p) : Nat)) → zW 298 2048 c s 528 [some (zr (some b)), some (zr (some x)), some (zi (iI (n : Int))), some (zi y3), some (zi (iI (r : Int))), some (zr (some ta)), some (zi (iI (al : Int))), some (zr (some sa)), some (zr (some (sa + 1 + al))), some (zi (iI (m : Int))), some (zi (iI (i : Int))), some (zi (iI (a : Int))), some (zi y12), some (zi y13), v14, v15, v16, v17, v18] [] (I, L, R) Q
  | 0, j, hj, F, I, y13, e, hg, hF, h => by
    subst e
    refine zW.gbt [] rfl rfl rfl (by omega) trivial (by rw [iI_le (by omega) (by omega) (by omega) (by omega)]; omega) ?_
    obtain rfl : j = n := by omega
    exact kk F I _ hg hF h
  | q + 1, j, hj, F, I, y13, e, hg, hF, h => by
    subst e
    have ja : j < n := by omega
    have hta := ht.1 j ja
    refine zW.gbf [] rfl rfl rfl (by omega) trivial (by rw [iI_le (by omega) (by omega) (by omega) (by omega)]; omega) ?_
    have s0 := S_row (k := m) (i1 := iI (m : Int)) (i2 := iI (j : Int)) hg hal hn hm ja rfl rfl rfl
    refine zW.go [539] rfl (by omega) s0.1.1 ?_
    rw [s0.1.2]
    have s2 := S_row (i1 := iI (i : Int)) (i2 := iI ((tn a j : Nat) : Int)) hg hal hn (by omega) hta rfl rfl (hF i (tn a j) hi hta)
    refine zW.go [546] rfl (by omega) s2.1.1 ?_
    rw [s2.1.2]
    have s3 := T_row (i1 := iI (a : Int)) (i2 := iI (j : Int)) hg hr hn ha ja rfl rfl (hG a j ha ja)
    refine zW.go [551] rfl (by omega) s3.1.1 ?_
    rw [s3.1.2]
    refine zW.go [554] rfl (by omega) s3.2.1 ?_
    rw [s3.2.2]
    refine zW.go [555] rfl (by omega) s2.2.1 ?_
    rw [s2.2.2]
    have u1 := rw_at (I := I) (L := L) (hg.2.2.2.1.1.2 m hm).2 ja (by omega) (rfl : iI (j : Int) = iI (j : Int))
    refine zW.go [528] rfl (by omega) u1.1 ?_
    rw [zwI_up, zg_some, u1.2]
    have g1 := W2_upS (k := m) (p := j) (v := ((f i (tn a j) : Nat) : Int)) (Nat.le_refl _) hm hg
    refine q3_lp hn hr hal hm hi ha hG ht kk q (j + 1) (by omega) _ _ _ (by rw [zcn_I, iI_add]; rfl) g1 (fun k p hk hp => ?_) (fun p hp => ?_)
    · rw [fu2_o (Or.inl (by omega))]
      exact hF k p hk hp
    · by_cases e : p = j
      · rw [e]
        exact fu2_s
      · rw [fu2_o (Or.inr e)]
        exact h p (by omega)
/-- all turns of a state -/
theorem q4_lp {i : Nat} (hn : n = 3 ∨ n = 4) (hr : r = 1 ∨ r = 2) (hal : al = allN n) (hG : rG n r g tn) (hT : ∀ a, a < 2 * r → zG r tn (tn a) ∧ pm n (tn a))
    (kk : ∀ f D m F Dm I y9 y11 v12 v13 v14 v15 v16 v17 v18, y9 = iI ((m : Nat) : Int) → m ≤ al → i < m → lS x (C2 b ta r sa (al + 2)) (W2 b Ls ta r n g sa al F Dm) T (I, L, R) → rF n m F f → rD m Dm D → lfJ n r tn f D m i (2 * r) → zW 298 2048 c s 583 [some (zr (some b)), some (zr (some x)), some (zi (iI (n : Int))), some (zi y3), some (zi (iI (r : Int))), some (zr (some ta)), some (zi (iI (al : Int))), some (zr (some sa)), some (zr (some (sa + 1 + al))), some (zi y9), some (zi (iI (i : Int))), some (zi y11), v12, v13, v14, v15, v16, v17, v18] [] (I, L, R) Q) :
    ∀ q a, a + q = 2 * r → ∀ f D m F Dm I y9 y11 v12 v13 v14 v15 v16 v17 v18, y9 = iI ((m : Nat) : Int) → y11 = iI (a : Int) → m ≤ al → i < m → lS x (C2 b ta r sa (al + 2)) (W2 b Ls ta r n g sa al F Dm) T (I, L, R) → rF n m F f → rD m Dm D → lfJ n r tn f D m i a → zW 298 2048 c s 425 [some (zr (some b)), some (zr (some x)), some (zi (iI (n : Int))), some (zi y3), some (zi (iI (r : Int))), some (zr (some ta)), some (zi (iI (al : Int))), some (zr (some sa)), some (zr (some (sa + 1 + al))), some (zi y9), some (zi (iI (i : Int))), some (zi y11), v12, v13, v14, v15, v16, v17, v18] [] (I, L, R) Q
  | 0, a, hq, f, D, m, F, Dm, I, y9, y11, v12, v13, v14, v15, v16, v17, v18, e9, e11, hm, hi, hg, hF, hD, hJ => by
    have hal2 : al ≤ 24 := by rw [hal]; rcases hn with rfl | rfl <;> decide
    subst e9; subst e11
    refine zW.gbt [] rfl rfl rfl (by omega) trivial (by rw [zcn_I, iI_mul, iI_le (by omega) (by omega) (by omega) (by omega)]; omega) ?_
    obtain rfl : a = 2 * r := by omega
    exact kk f D m F Dm I _ _ _ _ _ _ _ _ _ rfl hm hi hg hF hD hJ
  | q + 1, a, hq, f, D, m, F, Dm, I, y9, y11, v12, v13, v14, v15, v16, v17, v18, e9, e11, hm, hi, hg, hF, hD, hJ => by
    have hal2 : al ≤ 24 := by rw [hal]; rcases hn with rfl | rfl <;> decide
    subst e9; subst e11
    have ha : a < 2 * r := by omega
    have hv : ∀ k, k < m → pm n (f k) := fun k hk => (hJ.2.1 k hk).2
    refine zW.gbf [] rfl rfl rfl (by omega) trivial (by rw [zcn_I, iI_mul, iI_le (by omega) (by omega) (by omega) (by omega)]; omega) ?_
    refine zW.go [440] rfl (by omega) trivial ?_
    refine q2_lp hn hr hal2 hm hi ha hg hF hG (hT a ha).2 hv (fun y12 y13 v14 v15 v16 v17 v18 h => ?_) m 0 (by omega) _ _ _ _ _ _ _ (zcn_I 0) (Or.inr ⟨zcn_I (-1), fun k0 hk0 => absurd hk0 (Nat.not_lt_zero k0)⟩)
    rcases h with ⟨k0, h1, rfl, h2⟩ | ⟨rfl, h⟩
    · refine zW.gbt [] rfl rfl rfl (by omega) trivial (by rw [iI_ge0 (by omega) (by omega)]; omega) ?_
      refine zW.go [425] rfl (by omega) trivial ?_
      exact q4_lp hn hr hal hG hT kk q (a + 1) (by omega) f D m F Dm I _ _ _ _ _ _ _ _ _ rfl (by rw [zcn_I, iI_add]; rfl) hm hi hg hF hD (lfJ_found hJ hi ⟨k0, h1, h2⟩)
    · refine zW.gbf [] rfl rfl rfl (by omega) trivial (by decide +kernel) ?_
      have hJ' := lfJ_new hT hJ hi ha h
      have hcap : m + 1 ≤ al := by
        rw [hal]
        exact cap_ok hn (fun k hk => (hJ'.2.1 k hk).2) hJ'.2.2.1
      refine zW.go [528] rfl (by omega) trivial ?_
      refine q3_lp (f := f) hn hr hal2 (by omega) hi ha hG (hT a ha).2 (fun F2 I2 y13 hg2 hF2 hF3 => ?_) n 0 (by omega) F I _ (zcn_I 0) hg hF (fun p hp => absurd hp (Nat.not_lt_zero p))
      have d1 := D_row (i1 := iI (i : Int)) hg2 hal2 (show i < al by omega) rfl (hD i hi)
      refine zW.go [571] rfl (by omega) d1.1 ?_
      rw [d1.2]
      have u1 := rw_at (I := I2) (L := L) (p := m) hg2.2.2.2.2.1 (by omega) (by omega) (rfl : iI (m : Int) = iI (m : Int))
      have ed : iI ((D i : Nat) : Int) + zcn 1 = iI ((D i + 1 : Nat) : Int) := by
        rw [zcn_I, iI_add]
        rfl
      refine zW.go [573] rfl (by omega) trivial ?_
      rw [ed]
      refine zW.go [425] rfl (by omega) u1.1 ?_
      rw [zwI_up, zg_some, u1.2]
      have g3 := W2_upD (p := m) (v := ((D i + 1 : Nat) : Int)) (Nat.le_refl _) hg2
      refine q4_lp hn hr hal hG hT kk q (a + 1) (by omega) _ _ (m + 1) F2 (fuI Dm m ((D i + 1 : Nat) : Int)) _ _ _ _ _ _ _ _ _ _ (by rw [zcn_I, iI_add]; rfl) (by rw [zcn_I, iI_add]; rfl) hcap (by omega) g3 (fun k p hk hp => ?_) (fun k hk => ?_) hJ'
      · unfold upf
        by_cases e : k = m
        · rw [if_pos e, e]
          exact hF3 p hp
        · rw [if_neg e]
          exact hF2 k p (by omega) hp
      · unfold fuI upD
        by_cases e : k = m
        · rw [if_pos e, if_pos e]
        · rw [if_neg e, if_neg e]
          exact hD k (by omega)
/-- all states -/
theorem q5_lp (hn : n = 3 ∨ n = 4) (hr : r = 1 ∨ r = 2) (hal : al = allN n) (hG : rG n r g tn) (hT : ∀ a, a < 2 * r → zG r tn (tn a) ∧ pm n (tn a))
    (kk : ∀ f D m F Dm I i y9 y10 v11 v12 v13 v14 v15 v16 v17 v18, y9 = iI ((m : Nat) : Int) → m ≤ al → m ≤ i → lS x (C2 b ta r sa (al + 2)) (W2 b Ls ta r n g sa al F Dm) T (I, L, R) → rF n m F f → rD m Dm D → lfJ n r tn f D m i 0 → zW 298 2048 c s 589 [some (zr (some b)), some (zr (some x)), some (zi (iI (n : Int))), some (zi y3), some (zi (iI (r : Int))), some (zr (some ta)), some (zi (iI (al : Int))), some (zr (some sa)), some (zr (some (sa + 1 + al))), some (zi y9), some (zi y10), v11, v12, v13, v14, v15, v16, v17, v18] [] (I, L, R) Q) :
    ∀ q i, i + q = al → ∀ f D m F Dm I y9 y10 v11 v12 v13 v14 v15 v16 v17 v18, y9 = iI ((m : Nat) : Int) → y10 = iI (i : Int) → m ≤ al → lS x (C2 b ta r sa (al + 2)) (W2 b Ls ta r n g sa al F Dm) T (I, L, R) → rF n m F f → rD m Dm D → lfJ n r tn f D m i 0 → zW 298 2048 c s 415 [some (zr (some b)), some (zr (some x)), some (zi (iI (n : Int))), some (zi y3), some (zi (iI (r : Int))), some (zr (some ta)), some (zi (iI (al : Int))), some (zr (some sa)), some (zr (some (sa + 1 + al))), some (zi y9), some (zi y10), v11, v12, v13, v14, v15, v16, v17, v18] [] (I, L, R) Q
  | 0, i, hq, f, D, m, F, Dm, I, y9, y10, v11, v12, v13, v14, v15, v16, v17, v18, e9, e10, hm, hg, hF, hD, hJ => by
    have hal2 : al ≤ 24 := by rw [hal]; rcases hn with rfl | rfl <;> decide
    subst e9; subst e10
    refine zW.gbt [] rfl rfl rfl (by omega) trivial (by rw [iI_le (by omega) (by omega) (by omega) (by omega)]; omega) ?_
    exact kk f D m F Dm I i _ _ _ _ _ _ _ _ _ _ rfl hm (by omega) hg hF hD hJ
  | q + 1, i, hq, f, D, m, F, Dm, I, y9, y10, v11, v12, v13, v14, v15, v16, v17, v18, e9, e10, hm, hg, hF, hD, hJ => by
    have hal2 : al ≤ 24 := by rw [hal]; rcases hn with rfl | rfl <;> decide
    subst e9; subst e10
    by_cases hi : i < m
    · refine zW.gbf [] rfl rfl rfl (by omega) trivial (by rw [iI_le (by omega) (by omega) (by omega) (by omega)]; omega) ?_
      refine zW.go [425] rfl (by omega) trivial ?_
      refine q4_lp hn hr hal hG hT (fun f D m F Dm I y9 y11 v12 v13 v14 v15 v16 v17 v18 e9 hm hi hg hF hD hJ => ?_) (2 * r) 0 (by omega) f D m F Dm I _ _ _ _ _ _ _ _ _ rfl (zcn_I 0) hm hi hg hF hD hJ
      refine zW.go [415] rfl (by omega) trivial ?_
      exact q5_lp hn hr hal hG hT kk q (i + 1) (by omega) f D m F Dm I _ _ _ _ _ _ _ _ _ _ e9 (by rw [zcn_I, iI_add]; rfl) hm hg hF hD (lfJ_next hJ)
    · refine zW.gbt [] rfl rfl rfl (by omega) trivial (by rw [iI_le (by omega) (by omega) (by omega) (by omega)]; omega) ?_
      exact kk f D m F Dm I i _ _ _ _ _ _ _ _ _ _ rfl hm (by omega) hg hF hD hJ
end WK
