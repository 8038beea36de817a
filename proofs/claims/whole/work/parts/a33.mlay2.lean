/-! The model's groups: products added until none is new. -/
theorem div_I {a b : Nat} (h1 : a < 2147483648) (h2 : 0 < b) (h3 : b < 2147483648) : iI (a : Int) / iI (b : Int) = iI ((a / b : Nat) : Int) := by
  rw [iI_div (by omega) (by omega) (by omega) (by omega)]
  exact iI_cg (by omega)
theorem mod_I2 {a b : Nat} (h1 : a < 2147483648) (h2 : 0 < b) (h3 : b < 2147483648) : iI (a : Int) - iI ((a / b : Nat) : Int) * iI (b : Int) = iI ((a % b : Nat) : Int) := by
  rw [← div_I h1 h2 h3]
  exact mod_I h1 h2 h3
def pDone (tb : zTb) (n a b : Nat) : Prop := ∀ a' b', (a' < a ∨ (a' = a ∧ b' < b)) → b' < n * n → ∀ u v, tb (a' / n) (a' % n) = some u → tb (b' / n) (b' % n) = some v → Fl tb 10 (fun p => u (v p))
theorem nn_lt {n k j : Nat} (hk : k < n) (hj : j < n) : k * n + j < n * n := by
  have h1 : (k + 1) * n ≤ n * n := Nat.mul_le_mul_right _ hk
  rw [Nat.succ_mul] at h1
  omega
theorem nn_d {n k j : Nat} (hj : j < n) : (k * n + j) / n = k ∧ (k * n + j) % n = j := by
  rw [Nat.mul_comm]
  exact ⟨by rw [Nat.mul_add_div (by omega), Nat.div_eq_of_lt hj]; omega, by rw [Nat.mul_add_mod, Nat.mod_eq_of_lt hj]⟩
theorem pDone_all {tb : zTb} {n : Nat} (hn : n ≤ 10) (hW : tW tb) (hN : tN n tb) (h : pDone tb n (n * n) 0) : tPairs tb := by
  have idn : ∀ k j u, tb k j = some u → ¬ (k < n ∧ j < n) → u = fun p => p := fun k j u hu q => by
    obtain ⟨b1, b2, b3, b4, b5⟩ := hW.1 _ _ _ hu
    have hm := hN _ _ _ hu
    have hk : n ≤ k := by
      apply Classical.byContradiction
      intro c
      have := hm.1 k (by omega)
      exact q ⟨by omega, by omega⟩
    funext p
    by_cases c : p < n
    · exact b4 p (by omega)
    · exact hm.2.2 p (by omega)
  intro k j u k' j' v hu hv
  by_cases q : k < n ∧ j < n
  · by_cases q' : k' < n ∧ j' < n
    · obtain ⟨e1, e2⟩ := nn_d (k := k) q.2
      obtain ⟨e3, e4⟩ := nn_d (k := k') q'.2
      exact h (k * n + j) (k' * n + j') (Or.inl (nn_lt q.1 q.2)) (nn_lt q'.1 q'.2) u v (by rw [e1, e2]; exact hu) (by rw [e3, e4]; exact hv)
    · rw [idn _ _ _ hv q']
      exact Fl_ent hW hu
  · rw [idn _ _ _ hu q]
    exact Fl_ent hW hv
/-- a pass under way -/
def mPw (tbS tb : zTb) (n a b : Nat) (x3 : Int32) : Prop := (x3 = iI 0 ∧ tb = tbS ∧ pDone tbS n a b) ∨ (x3 = iI 1 ∧ nT tbS < nT tb)
section MLYW
variable {d y : Nat} {I : Nat → Nat → Int32} {L : Nat → Nat → Int64} {R : zRt} {Q : zO → zM → Prop}
theorem lay_b {i n a : Nat} {A : (Nat → Nat) → Prop} {tbS : zTb} (hd : 3 ≤ d) (hM : ML y R) (hi : i < 4) (hn : n ≤ 10) (hn1 : 1 ≤ n) (hA : ∀ g, A g → pm 10 g) (vn : I (y + 2) i = iI (n : Int)) (ha : a < n * n)
    (hQ : ∀ I' tb x3 x5, mGw y n I I' A tb → tLe tbS tb → mPw tbS tb n a (n * n) x3 → zW 180 d 0 0 255 [some (zr (some y)), some (zi (iI (i : Int))), some (zi (iI (n : Int))), some (zi x3), some (zi (iI (a : Int))), some (zi x5), none] [] (I', L, R) Q) :
    ∀ m b, b + m = n * n → ∀ (I1 : Nat → Nat → Int32) (tb : zTb) (x3 x5 : Int32), mGw y n I I1 A tb → tLe tbS tb → mPw tbS tb n a b x3 → x5 = iI (b : Int) → zW 180 d 0 0 163 [some (zr (some y)), some (zi (iI (i : Int))), some (zi (iI (n : Int))), some (zi x3), some (zi (iI (a : Int))), some (zi x5), none] [] (I1, L, R) Q
  | 0, b, hb, I1, tb, x3, x5, g, le, hp, e => by
    subst e
    have nn : n * n ≤ 100 := Nat.mul_le_mul hn hn
    have en : (n : Int) * (n : Int) = ((n * n : Nat) : Int) := (Int.natCast_mul n n).symm
    obtain rfl : b = n * n := by omega
    refine zW.gbt [] rfl rfl rfl (by omega) trivial ?_ (hQ I1 tb x3 _ g le hp)
    simp (disch := omega) only [zcn_I, iI_add, iI_sub, iI_mul, iI_neg, iI_lt, iI_le, iI_eq, iI_lt0, iI_le0, iI_gt0, iI_ge0, iI_eq0, en]
    omega
  | m + 1, b, hb, I1, tb, x3, x5, g, le, hp, e => by
    subst e
    have k0 : R.2.1 y = some (7, 0) := hM.1
    have nn : n * n ≤ 100 := Nat.mul_le_mul hn hn
    have en : (n : Int) * (n : Int) = ((n * n : Nat) : Int) := (Int.natCast_mul n n).symm
    have g' := g
    obtain ⟨g1, g2, g3, g4, g5, g6⟩ := g'
    have da : a / n < n := Nat.div_lt_of_lt_mul ha
    have db : b / n < n := Nat.div_lt_of_lt_mul (show b < n * n by omega)
    have ma : a % n < n := Nat.mod_lt _ (by omega)
    have mb : b % n < n := Nat.mod_lt _ (by omega)
    have ia1 : (0 : Int) ≤ ((a / n : Nat) : Int) := Int.natCast_nonneg _
    have ia2 : (0 : Int) ≤ ((a % n : Nat) : Int) := Int.natCast_nonneg _
    have ib1 : (0 : Int) ≤ ((b / n : Nat) : Int) := Int.natCast_nonneg _
    have ib2 : (0 : Int) ≤ ((b % n : Nat) : Int) := Int.natCast_nonneg _
    have n0 : ¬ iI (n : Int) = 0 := fun q => by
      rw [iI_eq0 (by omega) (by omega)] at q
      omega
    have ed := div_I (a := a) (b := n) (by omega) (by omega) (by omega)
    have em := mod_I2 (a := a) (b := n) (by omega) (by omega) (by omega)
    have fd := div_I (a := b) (b := n) (by omega) (by omega) (by omega)
    have fm := mod_I2 (a := b) (b := n) (by omega) (by omega) (by omega)
    obtain ⟨t1, t2⟩ := g3 (a / n) (a % n) (by omega) (by omega)
    obtain ⟨u1, u2⟩ := g3 (b / n) (b % n) (by omega) (by omega)
    have vn1 : I1 (y + 2) i = iI (n : Int) := by rw [g6 _ (by omega) (by omega) (by omega)]; exact vn
    have NX : ∀ (I2 : Nat → Nat → Int32) (tb2 : zTb) (w3 : Int32), mGw y n I I2 A tb2 → tLe tbS tb2 → mPw tbS tb2 n a (b + 1) w3 → zW 180 d 0 0 249 [some (zr (some y)), some (zi (iI (i : Int))), some (zi (iI (n : Int))), some (zi w3), some (zi (iI (a : Int))), some (zi (iI (b : Int))), none] [] (I2, L, R) Q := fun I2 tb2 w3 q1 q2 q3 => by
      refine zW.go [163] rfl (by omega) trivial ?_
      exact lay_b hd hM hi hn hn1 hA vn ha hQ m (b + 1) (by omega) I2 tb2 w3 _ q1 q2 q3 (by rw [zcn_I, iI_add]; rfl)
    -- a pair of which one isn't there
    have SK : (tb (a / n) (a % n) = none ∨ tb (b / n) (b % n) = none) → zW 180 d 0 0 249 [some (zr (some y)), some (zi (iI (i : Int))), some (zi (iI (n : Int))), some (zi x3), some (zi (iI (a : Int))), some (zi (iI (b : Int))), none] [] (I1, L, R) Q := fun hno => by
      refine NX I1 tb x3 g le ?_
      rcases hp with ⟨p1, p2, p3⟩ | p1
      · subst p2
        refine Or.inl ⟨p1, rfl, fun a' b' q1 q2 u v hu hv => ?_⟩
        by_cases q : a' = a ∧ b' = b
        · obtain ⟨rfl, rfl⟩ := q
          rcases hno with c | c
          · rw [c] at hu
            cases hu
          · rw [c] at hv
            cases hv
        · exact p3 a' b' (by omega) q2 u v hu hv
      · exact Or.inr p1
    have p6 : R.1 y 6 = some (y + 51) := (hM.2.1 6 (by decide)).1; have k6 : R.2.1 (y + 51) = some (29, 10) := (hM.2.1 6 (by decide)).2
    refine zW.gbf [] rfl rfl rfl (by omega) trivial ?_ ?_
    · simp (disch := omega) only [zcn_I, iI_add, iI_sub, iI_mul, iI_neg, iI_lt, iI_le, iI_eq, iI_lt0, iI_le0, iI_gt0, iI_ge0, iI_eq0, en]
      omega
    have ha6 : R.1 (y + 51) (a / n) = some (y + 52 + a / n) ∧ R.2.1 (y + 52 + a / n) = some (22, 10) := by
      have q6 : R.1 (y + 51) ((a / n)) = some (y + 52 + (a / n)) := (hM.2.2.2.2.2.1 ((a / n)) (by omega)).1.trans (congrArg some (by omega)); have j6 : R.2.1 (y + 52 + (a / n)) = some (22, 10) := (congrArg R.2.1 (by omega)).trans (hM.2.2.2.2.2.1 ((a / n)) (by omega)).2
      exact ⟨q6, j6⟩
    obtain ⟨qa, ja⟩ := ha6
    have hb6 : R.1 (y + 51) (b / n) = some (y + 52 + b / n) ∧ R.2.1 (y + 52 + b / n) = some (22, 10) := by
      have q6 : R.1 (y + 51) ((b / n)) = some (y + 52 + (b / n)) := (hM.2.2.2.2.2.1 ((b / n)) (by omega)).1.trans (congrArg some (by omega)); have j6 : R.2.1 (y + 52 + (b / n)) = some (22, 10) := (congrArg R.2.1 (by omega)).trans (hM.2.2.2.2.2.1 ((b / n)) (by omega)).2
      exact ⟨q6, j6⟩
    obtain ⟨qb, jb⟩ := hb6
    cases hta : tb (a / n) (a % n) with
    | none =>
      rw [hta] at t1
      refine zW.gbt [] rfl rfl rfl (by omega) ?_ ?_ (SK (Or.inl hta))
      · simp (disch := omega) only [true_or, or_true, eq_self, Option.some.injEq, Prod.mk.injEq, zall_0, zall_1, zall_2, zob_iff, zar_iff, zis_iff, zkIs_some, zkHas_some, iI_vp, z01_I, z01_bz, zch_I, true_and, and_true, or_false, false_or, and_self, upI_same, upL_same, upI_ne, upL_ne, iI_ixN, zI_mk, zL_mk, zP_mk, zK_mk, zN_mk, zwI_up, zwL_up, zg_some, Nat.reduceMod, Nat.reduceDiv, k0, p6, k6, qa, ja, ed, em, n0, not_false_eq_true]
        omega
      · simp (disch := omega) only [upI_same, upL_same, upI_ne, upL_ne, iI_ixN, zI_mk, zL_mk, zP_mk, zK_mk, zN_mk, zwI_up, zwL_up, zg_some, Nat.reduceMod, Nat.reduceDiv, p6, qa, ed, em, t1]
        decide +kernel
    | some u =>
      rw [hta] at t1
      have t2 := t2 u hta
      have hun := g2 _ _ _ hta
      refine zW.gbf [] rfl rfl rfl (by omega) ?_ ?_ ?_
      · simp (disch := omega) only [true_or, or_true, eq_self, Option.some.injEq, Prod.mk.injEq, zall_0, zall_1, zall_2, zob_iff, zar_iff, zis_iff, zkIs_some, zkHas_some, iI_vp, z01_I, z01_bz, zch_I, true_and, and_true, or_false, false_or, and_self, upI_same, upL_same, upI_ne, upL_ne, iI_ixN, zI_mk, zL_mk, zP_mk, zK_mk, zN_mk, zwI_up, zwL_up, zg_some, Nat.reduceMod, Nat.reduceDiv, k0, p6, k6, qa, ja, ed, em, n0, not_false_eq_true]
        omega
      · simp (disch := omega) only [upI_same, upL_same, upI_ne, upL_ne, iI_ixN, zI_mk, zL_mk, zP_mk, zK_mk, zN_mk, zwI_up, zwL_up, zg_some, Nat.reduceMod, Nat.reduceDiv, p6, qa, ed, em, t1]
        show ¬ bz true = 0
        decide +kernel
      cases htb : tb (b / n) (b % n) with
      | none =>
        rw [htb] at u1
        refine zW.gbt [] rfl rfl rfl (by omega) ?_ ?_ (SK (Or.inr htb))
        · simp (disch := omega) only [true_or, or_true, eq_self, Option.some.injEq, Prod.mk.injEq, zall_0, zall_1, zall_2, zob_iff, zar_iff, zis_iff, zkIs_some, zkHas_some, iI_vp, z01_I, z01_bz, zch_I, true_and, and_true, or_false, false_or, and_self, upI_same, upL_same, upI_ne, upL_ne, iI_ixN, zI_mk, zL_mk, zP_mk, zK_mk, zN_mk, zwI_up, zwL_up, zg_some, Nat.reduceMod, Nat.reduceDiv, k0, p6, k6, qb, jb, fd, fm, n0, not_false_eq_true]
          omega
        · simp (disch := omega) only [upI_same, upL_same, upI_ne, upL_ne, iI_ixN, zI_mk, zL_mk, zP_mk, zK_mk, zN_mk, zwI_up, zwL_up, zg_some, Nat.reduceMod, Nat.reduceDiv, p6, qb, fd, fm, u1]
          decide +kernel
      | some v =>
        rw [htb] at u1
        have u2 := u2 v htb
        have hvn := g2 _ _ _ htb
        refine zW.gbf [] rfl rfl rfl (by omega) ?_ ?_ ?_
        · simp (disch := omega) only [true_or, or_true, eq_self, Option.some.injEq, Prod.mk.injEq, zall_0, zall_1, zall_2, zob_iff, zar_iff, zis_iff, zkIs_some, zkHas_some, iI_vp, z01_I, z01_bz, zch_I, true_and, and_true, or_false, false_or, and_self, upI_same, upL_same, upI_ne, upL_ne, iI_ixN, zI_mk, zL_mk, zP_mk, zK_mk, zN_mk, zwI_up, zwL_up, zg_some, Nat.reduceMod, Nat.reduceDiv, k0, p6, k6, qb, jb, fd, fm, n0, not_false_eq_true]
          omega
        · simp (disch := omega) only [upI_same, upL_same, upI_ne, upL_ne, iI_ixN, zI_mk, zL_mk, zP_mk, zK_mk, zN_mk, zwI_up, zwL_up, zg_some, Nat.reduceMod, Nat.reduceDiv, p6, qb, fd, fm, u1]
          show ¬ bz true = 0
          decide +kernel
        have p7 : R.1 y 7 = some (y + 62) := (hM.2.1 7 (by decide)).1; have k7 : R.2.1 (y + 62) = some (26, 10) := (hM.2.1 7 (by decide)).2; have p9 : R.1 y 9 = some (y + 174) := (hM.2.1 9 (by decide)).1; have k9 : R.2.1 (y + 174) = some (20, 10) := (hM.2.1 9 (by decide)).2
        have ha7 : (R.1 (y + 62) (a / n) = some (y + 63 + 11 * (a / n)) ∧ R.2.1 (y + 63 + 11 * (a / n)) = some (25, 10)) ∧ R.1 (y + 63 + 11 * (a / n)) (a % n) = some (y + 64 + 11 * (a / n) + a % n) ∧ R.2.1 (y + 64 + 11 * (a / n) + a % n) = some (20, 10) := by
          have q7 : R.1 (y + 62) ((a / n)) = some (y + 63 + 11 * (a / n)) := (hM.2.2.2.2.2.2.1 ((a / n)) (by omega)).1.trans (congrArg some (by omega)); have j7 : R.2.1 (y + 63 + 11 * (a / n)) = some (25, 10) := (congrArg R.2.1 (by omega)).trans (hM.2.2.2.2.2.2.1 ((a / n)) (by omega)).2.1
          have r7 : R.1 (y + 63 + 11 * (a / n)) ((a % n)) = some (y + 64 + 11 * (a / n) + (a % n)) := (congrFun (congrArg R.1 (show y + 63 + 11 * (a / n) = y + 62 + 1 + 11 * (a / n) by omega)) ((a % n))).trans ((((hM.2.2.2.2.2.2.1 ((a / n)) (by omega)).2.2 ((a % n)) (by omega)).1).trans (congrArg some (by omega))); have s7 : R.2.1 (y + 64 + 11 * (a / n) + (a % n)) = some (20, 10) := (congrArg R.2.1 (by omega)).trans ((hM.2.2.2.2.2.2.1 ((a / n)) (by omega)).2.2 ((a % n)) (by omega)).2
          exact ⟨⟨q7, j7⟩, r7, s7⟩
        obtain ⟨⟨qa7, ja7⟩, ra7, sa7⟩ := ha7
        have hb7 : (R.1 (y + 62) (b / n) = some (y + 63 + 11 * (b / n)) ∧ R.2.1 (y + 63 + 11 * (b / n)) = some (25, 10)) ∧ R.1 (y + 63 + 11 * (b / n)) (b % n) = some (y + 64 + 11 * (b / n) + b % n) ∧ R.2.1 (y + 64 + 11 * (b / n) + b % n) = some (20, 10) := by
          have q7 : R.1 (y + 62) ((b / n)) = some (y + 63 + 11 * (b / n)) := (hM.2.2.2.2.2.2.1 ((b / n)) (by omega)).1.trans (congrArg some (by omega)); have j7 : R.2.1 (y + 63 + 11 * (b / n)) = some (25, 10) := (congrArg R.2.1 (by omega)).trans (hM.2.2.2.2.2.2.1 ((b / n)) (by omega)).2.1
          have r7 : R.1 (y + 63 + 11 * (b / n)) ((b % n)) = some (y + 64 + 11 * (b / n) + (b % n)) := (congrFun (congrArg R.1 (show y + 63 + 11 * (b / n) = y + 62 + 1 + 11 * (b / n) by omega)) ((b % n))).trans ((((hM.2.2.2.2.2.2.1 ((b / n)) (by omega)).2.2 ((b % n)) (by omega)).1).trans (congrArg some (by omega))); have s7 : R.2.1 (y + 64 + 11 * (b / n) + (b % n)) = some (20, 10) := (congrArg R.2.1 (by omega)).trans ((hM.2.2.2.2.2.2.1 ((b / n)) (by omega)).2.2 ((b % n)) (by omega)).2
          exact ⟨⟨q7, j7⟩, r7, s7⟩
        obtain ⟨⟨qb7, jb7⟩, rb7, sb7⟩ := hb7
        refine zW.gz [] rfl rfl rfl (by omega) ?_ trivial rfl rfl (by decide +kernel) (by decide +kernel) ?_
        · simp (disch := omega) only [true_or, or_true, eq_self, Option.some.injEq, Prod.mk.injEq, zall_0, zall_1, zall_2, zob_iff, zar_iff, zis_iff, zkIs_some, zkHas_some, iI_vp, z01_I, z01_bz, zch_I, true_and, and_true, or_false, false_or, and_self, upI_same, upL_same, upI_ne, upL_ne, iI_ixN, zI_mk, zL_mk, zP_mk, zK_mk, zN_mk, zwI_up, zwL_up, zg_some, Nat.reduceMod, Nat.reduceDiv, k0, p7, k7, p9, qa7, ja7, ra7, sa7, qb7, jb7, rb7, sb7, ed, em, fd, fm, n0, not_false_eq_true]
          omega
        simp (disch := omega) only [upI_same, upL_same, upI_ne, upL_ne, iI_ixN, zI_mk, zL_mk, zP_mk, zK_mk, zN_mk, zwI_up, zwL_up, zg_some, Nat.reduceMod, Nat.reduceDiv, p7, p9, qa7, ra7, qb7, rb7, ed, em, fd, fm]
        refine behind_ok (f := u) (g := v) (by omega) rfl k9 sa7 sb7 (by omega) (by omega) hn (by omega) (by omega) (by omega) t2 (fun p hp => u2 p (by omega)) (fun p hp => by have := hvn.1 p hp; omega) (fun I2 f1 f2 f3 => ?_)
        have gc : mGw y n I I2 A tb := ⟨g1, g2, mTb_fr g3 (fun c q1 q2 => f1 c (by omega)), g4, fun p q1 q2 => (f3 p q1).trans (g5 p q1 q2), fun c q1 q2 q3 => (f1 c q2).trans (g6 c q1 q2 q3)⟩
        have hGa : Gm A (fun p => u (v p)) := Gm_mul (g4 _ _ _ hta) (g4 _ _ _ htb)
        refine zW.gz [] rfl rfl rfl (by omega) trivial ⟨_, rfl, k0⟩ rfl rfl (by decide +kernel) (by decide +kernel) ?_
        refine madds_ok (r := fun p => u (v p)) (by omega) hM rfl hi hn g1 g2 gc.2.2.1 ?_ (pm_comp hun hvn) (fun p q => ?_) (fun I3 tb' q s hq => ?_)
        · rw [f1 _ (by omega)]
          exact vn1
        · by_cases c : p < n
          · exact f2 p c
          · rw [f3 p (by omega), g5 p (by omega) q]
            show iI (p : Int) = iI (u (v p) : Int)
            rw [hvn.2.2 p (by omega), hun.2.2 p (by omega)]
        have gn := mGw_add gc hA hGa s
        refine zW.go [249] rfl (by omega) trivial ?_
        refine NX I3 tb' _ gn (tLe_tr le s.1) ?_
        rcases hp with ⟨rfl, e2, e3⟩ | ⟨rfl, e2⟩
        · rcases hq with ⟨rfl, e4⟩ | ⟨rfl, e4⟩
          · subst e2; subst e4
            refine Or.inl ⟨by decide +kernel, rfl, fun a' b' q1 q2 u' v' hu hv => ?_⟩
            by_cases q : a' = a ∧ b' = b
            · obtain ⟨rfl, rfl⟩ := q
              rw [hta] at hu
              rw [htb] at hv
              cases hu
              cases hv
              exact s.2.2.2.2.1
            · exact e3 a' b' (by omega) q2 u' v' hu hv
          · subst e2
            exact Or.inr ⟨by decide +kernel, e4⟩
        · rcases hq with ⟨rfl, e4⟩ | ⟨rfl, e4⟩
          · subst e4
            exact Or.inr ⟨by decide +kernel, e2⟩
          · exact Or.inr ⟨by decide +kernel, by omega⟩
theorem lay_a {i n : Nat} {A : (Nat → Nat) → Prop} {tbS : zTb} (hd : 3 ≤ d) (hM : ML y R) (hi : i < 4) (hn : n ≤ 10) (hn1 : 1 ≤ n) (hA : ∀ g, A g → pm 10 g) (vn : I (y + 2) i = iI (n : Int))
    (hQ : ∀ I' tb x3 x4 x5, mGw y n I I' A tb → tLe tbS tb → mPw tbS tb n (n * n) 0 x3 → zW 180 d 0 0 143 [some (zr (some y)), some (zi (iI (i : Int))), some (zi (iI (n : Int))), some (zi x3), some (zi x4), x5, none] [] (I', L, R) Q) :
    ∀ m a, a + m = n * n → ∀ (I1 : Nat → Nat → Int32) (tb : zTb) (x3 x4 : Int32) (x5 : Option zV), mGw y n I I1 A tb → tLe tbS tb → mPw tbS tb n a 0 x3 → x4 = iI (a : Int) → zW 180 d 0 0 152 [some (zr (some y)), some (zi (iI (i : Int))), some (zi (iI (n : Int))), some (zi x3), some (zi x4), x5, none] [] (I1, L, R) Q
  | 0, a, ha, I1, tb, x3, x4, x5, g, le, hp, e => by
    subst e
    have nn : n * n ≤ 100 := Nat.mul_le_mul hn hn
    have en : (n : Int) * (n : Int) = ((n * n : Nat) : Int) := (Int.natCast_mul n n).symm
    obtain rfl : a = n * n := by omega
    refine zW.gbt [] rfl rfl rfl (by omega) trivial ?_ ?_
    · simp (disch := omega) only [zcn_I, iI_add, iI_sub, iI_mul, iI_neg, iI_lt, iI_le, iI_eq, iI_lt0, iI_le0, iI_gt0, iI_ge0, iI_eq0, en]
      omega
    · exact zW.go [143] rfl (by omega) trivial (hQ I1 tb x3 _ _ g le hp)
  | m + 1, a, ha, I1, tb, x3, x4, x5, g, le, hp, e => by
    subst e
    have nn : n * n ≤ 100 := Nat.mul_le_mul hn hn
    have en : (n : Int) * (n : Int) = ((n * n : Nat) : Int) := (Int.natCast_mul n n).symm
    refine zW.gbf [] rfl rfl rfl (by omega) trivial ?_ ?_
    · simp (disch := omega) only [zcn_I, iI_add, iI_sub, iI_mul, iI_neg, iI_lt, iI_le, iI_eq, iI_lt0, iI_le0, iI_gt0, iI_ge0, iI_eq0, en]
      omega
    refine zW.go [163] rfl (by omega) trivial ?_
    refine lay_b hd hM hi hn hn1 hA vn (by omega) (fun I2 tb2 w3 w5 q1 q2 q3 => ?_) (n * n) 0 (by omega) I1 tb x3 _ g le hp (zcn_I _)
    refine zW.go [152] rfl (by omega) trivial ?_
    refine lay_a hd hM hi hn hn1 hA vn hQ m (a + 1) (by omega) I2 tb2 w3 _ _ q1 q2 ?_ (by rw [zcn_I, iI_add]; rfl)
    rcases q3 with ⟨e1, e2, e3⟩ | q3
    · refine Or.inl ⟨e1, e2, fun a' b' q1 q2 => e3 a' b' ?_ q2⟩
      omega
    · exact Or.inr q3
theorem nT_le (tb : zTb) : nT tb ≤ 100 := ct_le _ _
theorem lay_w {i n : Nat} {A : (Nat → Nat) → Prop} {B : (Nat → Nat) → Prop} (hd : 3 ≤ d) (hM : ML y R) (hi : i < 4) (hn : n ≤ 10) (hn1 : 1 ≤ n) (hA : ∀ g, A g → pm 10 g) (vn : I (y + 2) i = iI (n : Int))
    (hQ : ∀ I' tb x4 x5, mGw y n I I' A tb → tPairs tb → (∀ g, B g → Fl tb 10 g) → zW 180 d 0 0 264 [some (zr (some y)), some (zi (iI (i : Int))), some (zi (iI (n : Int))), some (zi (iI 0)), some (zi x4), x5, none] [] (I', L, R) Q) :
    ∀ f (I1 : Nat → Nat → Int32) (tb : zTb) (x3 x4 : Int32) (x5 : Option zV), 101 ≤ f + nT tb → mGw y n I I1 A tb → (∀ g, B g → Fl tb 10 g) → (x3 = iI 0 ∧ tPairs tb ∨ x3 = iI 1) → zW 180 d 0 0 143 [some (zr (some y)), some (zi (iI (i : Int))), some (zi (iI (n : Int))), some (zi x3), some (zi x4), x5, none] [] (I1, L, R) Q
  | 0, I1, tb, x3, x4, x5, hf, g, hB, h3 => absurd hf (by
    have h1 := nT_le tb
    generalize nT tb = z at h1
    omega)
  | f + 1, I1, tb, x3, x4, x5, hf, g, hB, h3 => by
    rcases h3 with ⟨rfl, hp⟩ | rfl
    · exact zW.gbt [] rfl rfl rfl (by omega) trivial (by simp (disch := omega) only [eq_self, not_true_eq_false, not_false_eq_true, upI_same, upL_same, upI_ne, upL_ne, iI_ixN, zI_mk, zL_mk, zP_mk, zK_mk, zN_mk, zwI_up, zwL_up, zg_some, Nat.reduceMod, Nat.reduceDiv, zcn_I, iI_add, iI_sub, iI_mul, iI_neg, iI_lt, iI_le, iI_eq, iI_lt0, iI_le0, iI_gt0, iI_ge0, iI_eq0] <;> omega) (hQ I1 tb _ _ g hp hB)
    · refine zW.gbf [] rfl rfl rfl (by omega) trivial (by simp (disch := omega) only [eq_self, not_true_eq_false, not_false_eq_true, upI_same, upL_same, upI_ne, upL_ne, iI_ixN, zI_mk, zL_mk, zP_mk, zK_mk, zN_mk, zwI_up, zwL_up, zg_some, Nat.reduceMod, Nat.reduceDiv, zcn_I, iI_add, iI_sub, iI_mul, iI_neg, iI_lt, iI_le, iI_eq, iI_lt0, iI_le0, iI_gt0, iI_ge0, iI_eq0] <;> omega) ?_
      refine zW.go [152] rfl (by omega) trivial ?_
      refine lay_a (tbS := tb) hd hM hi hn hn1 hA vn (fun I2 tb2 w3 w4 w5 q1 q2 q3 => ?_) (n * n) 0 (by omega) I1 tb _ _ _ g (fun _ _ _ h => h) (Or.inl ⟨zcn_I _, rfl, fun a' b' q1 q2 => ?_⟩) (zcn_I _)
      · have hB2 : ∀ g, B g → Fl tb2 10 g := fun g hg => Fl_le q2 (hB g hg)
        rcases q3 with ⟨rfl, e2, e3⟩ | ⟨rfl, e2⟩
        · subst e2
          exact zW.gbt [] rfl rfl rfl (by omega) trivial (by simp (disch := omega) only [eq_self, not_true_eq_false, not_false_eq_true, upI_same, upL_same, upI_ne, upL_ne, iI_ixN, zI_mk, zL_mk, zP_mk, zK_mk, zN_mk, zwI_up, zwL_up, zg_some, Nat.reduceMod, Nat.reduceDiv, zcn_I, iI_add, iI_sub, iI_mul, iI_neg, iI_lt, iI_le, iI_eq, iI_lt0, iI_le0, iI_gt0, iI_ge0, iI_eq0] <;> omega) (hQ I2 _ _ _ q1 (pDone_all hn q1.1 q1.2.1 e3) hB2)
        · exact lay_w hd hM hi hn hn1 hA vn hQ f I2 tb2 _ _ _ (by have := nT_le tb2; omega) q1 hB2 (Or.inr rfl)
      · omega
end MLYW
