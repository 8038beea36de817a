/-! The law's end: a state drawn, two pieces exchanged, two colours made alike. -/
def lQ : zO → zM → Prop := fun o _ => o = .inl (some (zi 1))
def swp : Nat → Nat := swf (fun p => p) 0 1
theorem swp_at : swp 0 = 1 ∧ swp 1 = 0 ∧ ∀ p, 2 ≤ p → swp p = p := ⟨rfl, rfl, fun p hp => by
  show (if p = 0 then 1 else if p = 1 then 0 else p) = p
  rw [if_neg (by omega), if_neg (by omega)]⟩
theorem swp_nst : nst swp = 2 := sw01_nst
theorem swp_perd : perd swp = 2 := sw01_perd
/-- a search of nothing, where it is solved -/
theorem q_sea0 {T : tfT} {ty : List Nat} {n r : Nat} {tn : Nat → Nat → Nat} {col st : Nat → Nat} (h : tq T ty (pq n r tn col st)) (hs : ∀ q, q < 10 → col (st q) = col q) : oSearch T 0 0 = (0, 0, T) := by
  unfold oSearch
  rw [onP_0 h.2.1, h.2.2.2, if_neg (fun q => q ⟨by omega, by omega⟩)]
  show (match skF (fun i => srch tn col (2 * r) i (fun p => col (st p))) 1 0 with | some w => (0, ((w.1 : Nat) : Int), T) | none => (0, -1, T)) = _
  have e : skF (fun i => srch tn col (2 * r) i (fun p => col (st p))) 1 0 = some (0, []) := by
    show (match srch tn col (2 * r) 0 (fun p => col (st p)) with | some w => some (0, w) | none => skF _ 0 1) = _
    have : srch tn col (2 * r) 0 (fun p => col (st p)) = some [] := by
      show (if dc (∀ p, p < 10 → col (st p) = col p) then some [] else none) = some []
      rw [if_pos (dc_t.mpr hs)]
    rw [this]
  rw [e]
  rfl
section SI
variable {b Ls x n r ta sa al m aa i a : Nat} {g F : Nat → Nat → Int} {Dm A : Nat → Int} {D : Nat → Nat} {tn f : Nat → Nat → Nat} {y10 y11 : Int32} {Q : zO → zM → Prop}
theorem f1_lp {T : tfT} {c s : Nat} {I : Nat → Nat → Int32} {L : Nat → Nat → Int64} {R : zRt} {y3 y13 y14 : Int32} {k : Nat} {v18 : Option zV} (hn : n = 3 ∨ n = 4) (hal : al ≤ 24) (hm : m ≤ al) (hk : k < m) (hF : rF n m F f) (hv : ∀ k, k < m → pm n (f k)) (hg : lS x (C3 b ta r sa al aa) (W3 b Ls ta r n g sa al F Dm aa A) T (I, L, R))
    (kk : ∀ y16 y17, ((y16 = iI 1 ∧ f k = swp) ∨ (y16 = iI 0 ∧ f k ≠ swp)) → zW 298 2048 c s 1446 [some (zr (some b)), some (zr (some x)), some (zi (iI (n : Int))), some (zi y3), some (zi (iI (r : Int))), some (zr (some ta)), some (zi (iI (al : Int))), some (zr (some sa)), some (zr (some (sa + 1 + al))), some (zi (iI (m : Int))), some (zi y10), some (zi y11), some (zr (some aa)), some (zi y13), some (zi y14), some (zi (iI (k : Int))), some (zi y16), some (zi y17), v18] [] (I, L, R) Q) :
    ∀ q j, j + q = n → 2 ≤ j → ∀ y16 y17, y17 = iI (j : Int) → ((y16 = iI 1 ∧ f k 0 = 1 ∧ f k 1 = 0 ∧ ∀ p, 2 ≤ p → p < j → f k p = p) ∨ (y16 = iI 0 ∧ f k ≠ swp)) → zW 298 2048 c s 1411 [some (zr (some b)), some (zr (some x)), some (zi (iI (n : Int))), some (zi y3), some (zi (iI (r : Int))), some (zr (some ta)), some (zi (iI (al : Int))), some (zr (some sa)), some (zr (some (sa + 1 + al))), some (zi (iI (m : Int))), some (zi y10), some (zi y11), some (zr (some aa)), some (zi y13), some (zi y14), some (zi (iI (k : Int))), some (zi y16), some (zi y17), v18] [] (I, L, R) Q
  | 0, j, hj, h2j, y16, y17, e, h => by
    subst e
    refine zW.gbt [] rfl rfl rfl (by omega) trivial (by rw [iI_le (by omega) (by omega) (by omega) (by omega)]; omega) ?_
    refine kk _ _ (h.imp (fun ⟨h1, h2, h3, h4⟩ => ⟨h1, funext fun p => ?_⟩) id)
    obtain ⟨s0, s1, s2⟩ := swp_at
    by_cases c0 : p = 0
    · rw [c0, h2, s0]
    · by_cases c1 : p = 1
      · rw [c1, h3, s1]
      · rw [s2 p (by omega)]
        by_cases hp : p < n
        · exact h4 p (by omega) (by omega)
        · exact (hv k hk).2.2 p (by omega)
  | q + 1, j, hj, h2j, y16, y17, e, h => by
    subst e
    have ja : j < n := by omega
    have vv := (hv k hk).1 j ja
    refine zW.gbf [] rfl rfl rfl (by omega) trivial (by rw [iI_le (by omega) (by omega) (by omega) (by omega)]; omega) ?_
    have s1 := S_row (i1 := iI (k : Int)) (i2 := iI (j : Int)) (lS_W hg hg.2.1) hal hn (by omega) ja rfl rfl (hF k j hk ja)
    refine zW.go [1424] rfl (by omega) s1.1.1 ?_
    rw [s1.1.2]
    refine zW.go [1427] rfl (by omega) s1.2.1 ?_
    rw [s1.2.2]
    refine zW.gb [] rfl rfl rfl (by omega) trivial (fun hh => ?_) (fun hh => ?_)
    · rw [iI_eq (by omega) (by omega) (by omega) (by omega)] at hh
      refine zW.go [1411] rfl (by omega) trivial ?_
      refine f1_lp hn hal hm hk hF hv hg kk q (j + 1) (by omega) (by omega) _ _ (by rw [zcn_I, iI_add]; rfl) (Or.inr ⟨?_, fun e => ?_⟩)
      · rcases h with ⟨rfl, -⟩ | ⟨rfl, -⟩ <;> decide +kernel
      · have := congrFun e j
        rw [swp_at.2.2 j h2j] at this
        omega
    · rw [iI_eq (by omega) (by omega) (by omega) (by omega)] at hh
      refine zW.go [1411] rfl (by omega) trivial ?_
      refine f1_lp hn hal hm hk hF hv hg kk q (j + 1) (by omega) (by omega) _ _ (by rw [zcn_I, iI_add]; rfl) ?_
      rcases h with ⟨rfl, h1, h2, h3⟩ | ⟨rfl, h⟩
      · refine Or.inl ⟨by decide +kernel, h1, h2, fun p q1 q2 => ?_⟩
        by_cases e : p = j
        · rw [e]
          exact Classical.byContradiction fun q => hh (fun e2 => q (by omega))
        · exact h3 p q1 (by omega)
      · exact Or.inr ⟨by decide +kernel, h⟩
theorem f2_lp {T : tfT} {c s : Nat} {I : Nat → Nat → Int32} {L : Nat → Nat → Int64} {R : zRt} {y3 y13 : Int32} (hn : n = 3 ∨ n = 4) (hal : al ≤ 24) (hm : m ≤ al) (hF : rF n m F f) (hv : ∀ k, k < m → pm n (f k)) (hg : lS x (C3 b ta r sa al aa) (W3 b Ls ta r n g sa al F Dm aa A) T (I, L, R))
    (kk : ∀ y14 y15 v16 v17 v18, ((y14 = iI 1 ∧ ∃ j, j < m ∧ f j = swp) ∨ (y14 = iI 0 ∧ ∀ j, j < m → f j ≠ swp)) → zW 298 2048 c s 1459 [some (zr (some b)), some (zr (some x)), some (zi (iI (n : Int))), some (zi y3), some (zi (iI (r : Int))), some (zr (some ta)), some (zi (iI (al : Int))), some (zr (some sa)), some (zr (some (sa + 1 + al))), some (zi (iI (m : Int))), some (zi y10), some (zi y11), some (zr (some aa)), some (zi y13), some (zi y14), some (zi y15), v16, v17, v18] [] (I, L, R) Q) :
    ∀ q k, k + q = m → ∀ y14 y15 v16 v17 v18, y15 = iI (k : Int) → ((y14 = iI 1 ∧ ∃ j, j < m ∧ f j = swp) ∨ (y14 = iI 0 ∧ ∀ j, j < k → f j ≠ swp)) → zW 298 2048 c s 1373 [some (zr (some b)), some (zr (some x)), some (zi (iI (n : Int))), some (zi y3), some (zi (iI (r : Int))), some (zr (some ta)), some (zi (iI (al : Int))), some (zr (some sa)), some (zr (some (sa + 1 + al))), some (zi (iI (m : Int))), some (zi y10), some (zi y11), some (zr (some aa)), some (zi y13), some (zi y14), some (zi y15), v16, v17, v18] [] (I, L, R) Q
  | 0, k, hk, y14, y15, v16, v17, v18, e, h => by
    subst e
    refine zW.gbt [] rfl rfl rfl (by omega) trivial (by rw [iI_le (by omega) (by omega) (by omega) (by omega)]; omega) ?_
    obtain rfl : k = m := by omega
    exact kk _ _ _ _ _ h
  | q + 1, k, hk, y14, y15, v16, v17, v18, e, h => by
    subst e
    have km : k < m := by omega
    have vv0 := (hv k km).1 0 (by omega)
    have vv1 := (hv k km).1 1 (by omega)
    refine zW.gbf [] rfl rfl rfl (by omega) trivial (by rw [iI_le (by omega) (by omega) (by omega) (by omega)]; omega) ?_
    have s0 := S_row (i1 := iI (k : Int)) (i2 := zcn 0) (p := 0) (lS_W hg hg.2.1) hal hn (by omega) (by omega) rfl (zcn_I 0) (hF k 0 km (by omega))
    have s1 := S_row (i1 := iI (k : Int)) (i2 := zcn 1) (p := 1) (lS_W hg hg.2.1) hal hn (by omega) (by omega) rfl (zcn_I 1) (hF k 1 km (by omega))
    refine zW.go [1385] rfl (by omega) s0.1.1 ?_
    rw [s0.1.2]
    refine zW.go [1387] rfl (by omega) s0.2.1 ?_
    rw [s0.2.2]
    -- behind the two first
    have key : ∀ y, ((y = iI 1 ∧ f k 0 = 1 ∧ f k 1 = 0) ∨ (y = iI 0 ∧ f k ≠ swp)) → zW 298 2048 c s 1406 [some (zr (some b)), some (zr (some x)), some (zi (iI (n : Int))), some (zi y3), some (zi (iI (r : Int))), some (zr (some ta)), some (zi (iI (al : Int))), some (zr (some sa)), some (zr (some (sa + 1 + al))), some (zi (iI (m : Int))), some (zi y10), some (zi y11), some (zr (some aa)), some (zi y13), some (zi y14), some (zi (iI (k : Int))), v16, v17, v18] [zi y] (I, L, R) Q := fun y hy => by
      refine zW.go [1411] rfl (by omega) trivial ?_
      refine f1_lp (k := k) hn hal hm km hF hv hg (fun y16 y17 h16 => ?_) (n - 2) 2 (by omega) (Nat.le_refl 2) _ _ (zcn_I 2) (hy.imp (fun ⟨h1, h2, h3⟩ => ⟨h1, h2, h3, fun p q1 q2 => by omega⟩) id)
      refine zW.go [1373] rfl (by omega) trivial ?_
      refine f2_lp hn hal hm hF hv hg kk q (k + 1) (by omega) _ _ _ _ _ (by rw [zcn_I, iI_add]; rfl) ?_
      rcases h with ⟨rfl, h⟩ | ⟨rfl, h⟩
      · refine Or.inl ⟨?_, h⟩
        rcases h16 with ⟨rfl, -⟩ | ⟨rfl, -⟩ <;> decide +kernel
      · rcases h16 with ⟨rfl, h16⟩ | ⟨rfl, h16⟩
        · exact Or.inl ⟨by decide +kernel, k, km, h16⟩
        · refine Or.inr ⟨by decide +kernel, fun j hj => ?_⟩
          by_cases e : j = k
          · rw [e]
            exact h16
          · exact h j (by omega)
    refine zW.gb [] rfl rfl rfl (by omega) trivial (fun hh => ?_) (fun hh => ?_)
    · rw [zcn_I, iI_eq (by omega) (by omega) (by omega) (by omega)] at hh
      refine zW.go [1406] rfl (by omega) trivial ?_
      refine key _ (Or.inr ⟨zcn_I 0, fun e => hh ?_⟩)
      rw [e, swp_at.1]
      rfl
    · rw [zcn_I, iI_eq (by omega) (by omega) (by omega) (by omega)] at hh
      have h0 : f k 0 = 1 := Classical.byContradiction fun q => hh (fun e2 => q (by omega))
      refine zW.go [1396] rfl (by omega) s1.1.1 ?_
      rw [s1.1.2]
      refine zW.go [1398] rfl (by omega) s1.2.1 ?_
      rw [s1.2.2]
      refine zW.gb [] rfl rfl rfl (by omega) trivial (fun hh => ?_) (fun hh => ?_)
      · rw [iI_eq0 (by omega) (by omega)] at hh
        refine zW.go [1406] rfl (by omega) trivial ?_
        refine key _ (Or.inr ⟨zcn_I 0, fun e => hh ?_⟩)
        rw [e, swp_at.2.1]
        rfl
      · rw [iI_eq0 (by omega) (by omega)] at hh
        have h1 : f k 1 = 0 := Classical.byContradiction fun q => hh (fun e2 => q (by omega))
        refine zW.go [1406] rfl (by omega) trivial ?_
        exact key _ (Or.inl ⟨zcn_I 1, h0, h1⟩)
end SI
