/-! The model's object is made. -/
theorem zmaR3_R {I : Nat → Nat → Int32} {L : Nat → Nat → Int64} {R : zRt} (n m k : Nat) : ∀ i, i ≤ n → ∃ R' : zRt, zmaR (zma2 5 0 m k) (I, L, R) 26 n i = (I, L, R') ∧ R'.2.2 = R.2.2 + 1 + (m + 1) * i ∧ R'.2.1 R.2.2 = some (26, n) ∧ mR3 (R'.1, R'.2.1, 0) R.2.2 i m k ∧ (∀ b, b < R.2.2 → R'.1 b = R.1 b ∧ R'.2.1 b = R.2.1 b)
  | 0, _ => ⟨nwR R R.2.2 26 n, rfl, rfl, nwR_Ks rfl, fun j h => absurd h (Nat.not_lt_zero j), fun b h => ⟨rfl, nwR_Ko (by omega)⟩⟩
  | i + 1, h => by
    obtain ⟨R1, e1, e2, e3, e4, e5⟩ := zmaR3_R (I := I) (L := L) (R := R) n m k i (by omega)
    obtain ⟨R2, u1, u2, u3, u4, u5, u6⟩ := zma2_R I L R1 5 0 m k
    have hs : (m + 1) * (i + 1) = (m + 1) * i + (m + 1) := Nat.mul_succ _ _
    refine ⟨pwR R2 R.2.2 i (some R1.2.2), ?_, ?_, ?_, fun j hj => ?_, fun b hb => ⟨?_, ?_⟩⟩
    · show zwP (zma2 5 0 m k (zmaR (zma2 5 0 m k) (I, L, R) 26 n i)) (zN (I, L, R)) i (some (zN (zmaR (zma2 5 0 m k) (I, L, R) 26 n i))) = _
      rw [e1, u1]
      rfl
    · show R2.2.2 = _
      rw [u2, e2]
      omega
    · rw [pwR_R, u6 _ (by omega)]
      exact e3
    · have q1 := mR3_lt (m := m) (j := 0) (n := i + 1) hj (by omega)
      by_cases c : j = i
      · subst c
        refine ⟨?_, ?_, fun q hq => ⟨?_, ?_⟩⟩
        · show (pwR R2 R.2.2 j (some R1.2.2)).1 R.2.2 j = _
          rw [pwR_s, e2]
        · show R2.2.1 _ = _
          rw [← e2]
          exact u3
        · show (pwR R2 R.2.2 j (some R1.2.2)).1 _ q = _
          rw [pwR_o (by omega), ← e2]
          exact (u4 q hq).2
        · show R2.2.1 _ = _
          rw [← e2]
          exact (u4 q hq).1
      · have q0 := mR3_lt (m := m) (j := 0) (n := i) (show j < i by omega) (by omega)
        obtain ⟨k1, k2, k3⟩ := e4 j (by omega)
        refine ⟨?_, ?_, fun q hq => ⟨?_, ?_⟩⟩
        · show (pwR R2 R.2.2 i (some R1.2.2)).1 R.2.2 j = _
          rw [pwR_o (by omega), u5 _ (by omega)]
          exact k1
        · show R2.2.1 _ = _
          rw [u6 _ (by omega)]
          exact k2
        · have q2 := mR3_lt (m := m) (j := q + 1) (n := i) (show j < i by omega) (by omega)
          show (pwR R2 R.2.2 i (some R1.2.2)).1 _ q = _
          rw [pwR_o (by omega), u5 _ (by omega)]
          exact (k3 q hq).1
        · have q2 := mR3_lt (m := m) (j := q + 1) (n := i) (show j < i by omega) (by omega)
          show R2.2.1 _ = _
          rw [u6 _ (by omega)]
          exact (k3 q hq).2
    · rw [pwR_row (by omega), u5 b (by omega)]
      exact (e5 b hb).1
    · rw [pwR_R, u6 b (by omega)]
      exact (e5 b hb).2
theorem zma3_R (I : Nat → Nat → Int32) (L : Nat → Nat → Int64) (R : zRt) (n m k : Nat) : ∃ R' : zRt, zma3 n m k (I, L, R) = (I, L, R') ∧ R'.2.2 = R.2.2 + 1 + (m + 1) * n ∧ R'.2.1 R.2.2 = some (26, n) ∧ mR3 R' R.2.2 n m k ∧ (∀ b, b < R.2.2 → R'.1 b = R.1 b ∧ R'.2.1 b = R.2.1 b) := zmaR3_R n m k n (Nat.le_refl _)
def mE : Nat → Nat
  | 0 => 2
  | 1 => 3
  | 2 => 4
  | 3 => 41
  | 4 => 46
  | 5 => 51
  | 6 => 62
  | 7 => 173
  | 8 => 174
  | 9 => 175
  | 10 => 176
  | 11 => 177
  | 12 => 978
  | 13 => 1779
  | 14 => 1780
  | 15 => 1781
  | 16 => 1782
  | 17 => 1783
  | 18 => 1784
  | 19 => 1785
  | 20 => 1786
  | 21 => 1787
  | 22 => 1788
  | 23 => 1789
  | 24 => 1790
  | 25 => 1791
  | 26 => 1800
  | 27 => 1905
  | 28 => 1914
  | 29 => 1923
  | 30 => 1932
  | 31 => 1941
  | _ => 0
def mW (j y : Nat) (R : zRt) : Prop := match j with
  | 3 => mR3 R (y + 4) 4 8 10
  | 4 => mR2 R (y + 41) 4 20 10
  | 5 => mR2 R (y + 46) 4 20 10
  | 6 => mR2 R (y + 51) 10 22 10
  | 7 => mR3 R (y + 62) 10 10 10
  | 12 => mR2 R (y + 177) 800 20 10
  | 13 => mR2 R (y + 978) 800 20 8
  | 26 => mR2 R (y + 1791) 8 20 12
  | 27 => mR3 R (y + 1800) 8 12 5
  | 28 => mR2 R (y + 1905) 8 20 12
  | 29 => mR2 R (y + 1914) 8 22 12
  | 30 => mR2 R (y + 1923) 8 20 12
  | 31 => mR2 R (y + 1932) 8 20 12
  | _ => True
theorem mE_1 : ∀ k, k < 31 → mo (k + 1) = mE k := by decide +kernel
theorem mE_2 : ∀ j, j < 32 → mo j < mE j := by decide +kernel
theorem mE_3 : ∀ j, j < 32 → ∀ k, k < 32 → j ≤ k → mE j ≤ mE k := by decide +kernel
theorem mW_cg {j y : Nat} {R R' : zRt} (h : ∀ b, y + mo j ≤ b → b < y + mE j → R'.2.1 b = R.2.1 b ∧ R'.1 b = R.1 b) (k : mW j y R) : mW j y R' := by
  unfold mW at k ⊢
  split
  · exact mR3_cg (fun b q1 q2 => h b (show y + 4 ≤ b by omega) (show b < y + 41 by omega)) k
  · exact mR2_cg (fun b q1 q2 => h b (show y + 41 ≤ b by omega) (show b < y + 46 by omega)) k
  · exact mR2_cg (fun b q1 q2 => h b (show y + 46 ≤ b by omega) (show b < y + 51 by omega)) k
  · exact mR2_cg (fun b q1 q2 => h b (show y + 51 ≤ b by omega) (show b < y + 62 by omega)) k
  · exact mR3_cg (fun b q1 q2 => h b (show y + 62 ≤ b by omega) (show b < y + 173 by omega)) k
  · exact mR2_cg (fun b q1 q2 => h b (show y + 177 ≤ b by omega) (show b < y + 978 by omega)) k
  · exact mR2_cg (fun b q1 q2 => h b (show y + 978 ≤ b by omega) (show b < y + 1779 by omega)) k
  · exact mR2_cg (fun b q1 q2 => h b (show y + 1791 ≤ b by omega) (show b < y + 1800 by omega)) k
  · exact mR3_cg (fun b q1 q2 => h b (show y + 1800 ≤ b by omega) (show b < y + 1905 by omega)) k
  · exact mR2_cg (fun b q1 q2 => h b (show y + 1905 ≤ b by omega) (show b < y + 1914 by omega)) k
  · exact mR2_cg (fun b q1 q2 => h b (show y + 1914 ≤ b by omega) (show b < y + 1923 by omega)) k
  · exact mR2_cg (fun b q1 q2 => h b (show y + 1923 ≤ b by omega) (show b < y + 1932 by omega)) k
  · exact mR2_cg (fun b q1 q2 => h b (show y + 1932 ≤ b by omega) (show b < y + 1941 by omega)) k
  · trivial
def mB (k y : Nat) (R0 R : zRt) : Prop := zol y R0 R ∧ R.2.1 y = some (7, 0) ∧ R.2.2 = y + mE k ∧ (∀ j, j < k → R.1 y j = some (y + mo j)) ∧ (∀ j, j < k + 1 → R.2.1 (y + mo j) = some (mt j, mn j)) ∧ ∀ j, j < k + 1 → mW j y R
theorem mB_s {k y : Nat} {R0 R R' : zRt} (hk : k < 31) (h : mB k y R0 R) (h1 : ∀ b, b < R.2.2 → R'.1 b = (pwR R y k (some (y + mo k))).1 b) (h2 : ∀ b, b < R.2.2 → R'.2.1 b = R.2.1 b) (h3 : R'.2.1 (y + mo (k + 1)) = some (mt (k + 1), mn (k + 1))) (h4 : R'.2.2 = y + mE (k + 1)) (h5 : mW (k + 1) y R') : mB (k + 1) y R0 R' := by
  obtain ⟨a1, a2, a3, a4, a5, a6⟩ := h
  have e0 := mE_3 0 (by omega) k (by omega) (Nat.zero_le _)
  have e1 : mE 0 = 2 := rfl
  refine ⟨fun b hb => ⟨?_, ?_⟩, ?_, h4, fun j hj => ?_, fun j hj => ?_, fun j hj => ?_⟩
  · rw [h1 b (by omega), pwR_row (by omega)]
    exact (a1 b hb).1
  · rw [h2 b (by omega)]
    exact (a1 b hb).2
  · rw [h2 y (by omega)]
    exact a2
  · rw [h1 y (by omega)]
    by_cases c : j = k
    · rw [c, pwR_s]
    · rw [pwR_o (by omega)]
      exact a4 j (by omega)
  · by_cases c : j = k + 1
    · rw [c]
      exact h3
    · have := mE_2 j (by omega)
      have := mE_3 j (by omega) k (by omega) (by omega)
      rw [h2 _ (by omega)]
      exact a5 j (by omega)
  · by_cases c : j = k + 1
    · rw [c]
      exact h5
    · have := mE_3 j (by omega) k (by omega) (by omega)
      have g := (mo_lt j (by omega)).1
      refine mW_cg (fun b q1 q2 => ⟨h2 b (by omega), ?_⟩) (a6 j (by omega))
      rw [h1 b (by omega), pwR_row (by omega)]
theorem mB_1 {k y N t n : Nat} {R0 R : zRt} (hk : k < 31) (h : mB k y R0 R) (e1 : N = y + mE k) (e2 : t = mt (k + 1)) (e3 : n = mn (k + 1)) (e4 : mE (k + 1) = mE k + 1) (h5 : ∀ R' : zRt, mW (k + 1) y R') : mB (k + 1) y R0 (nwR (pwR R y k (some (y + mo k))) N t n) := by
  subst e1; subst e2; subst e3
  have a3 := h.2.2.1
  refine mB_s hk h (fun b hb => rfl) (fun b hb => ?_) ?_ ?_ (h5 _)
  · exact nwR_Ko (by omega)
  · exact nwR_Ks (by rw [mE_1 k hk])
  · rw [e4]
    rfl
theorem mB_2 {k y o t n m : Nat} {R0 R R' : zRt} (hk : k < 31) (h : mB k y R0 R) (e1 : R'.2.2 = R.2.2 + 1 + n) (e2 : R'.2.1 R.2.2 = some (20 + o, n)) (e3 : ∀ j, j < n → R'.2.1 (R.2.2 + 1 + j) = some (20 + t, m) ∧ R'.1 R.2.2 j = some (R.2.2 + 1 + j)) (e4 : ∀ b, b ≠ R.2.2 → R'.1 b = (pwR R y k (some (y + mo k))).1 b) (e5 : ∀ b, b < R.2.2 → R'.2.1 b = R.2.1 b) (f1 : 20 + o = mt (k + 1)) (f2 : n = mn (k + 1)) (f3 : mE (k + 1) = mE k + 1 + n) (h5 : mR2 R' (y + mo (k + 1)) n (20 + t) m → mW (k + 1) y R') : mB (k + 1) y R0 R' := by
  have a3 := h.2.2.1
  have e := mE_1 k hk
  refine mB_s hk h (fun b hb => e4 b (by omega)) e5 ?_ ?_ (h5 ?_)
  · rw [e, ← a3, ← f1, ← f2]
    exact e2
  · rw [e1, f3, a3]
    omega
  · rw [e, ← a3]
    exact fun j hj => ⟨(e3 j hj).2, (e3 j hj).1⟩
theorem mB_3 {k y n m w : Nat} {R0 R R' : zRt} (hk : k < 31) (h : mB k y R0 R) (e1 : R'.2.2 = R.2.2 + 1 + (m + 1) * n) (e2 : R'.2.1 R.2.2 = some (26, n)) (e3 : mR3 R' R.2.2 n m w) (e4 : ∀ b, b < R.2.2 → R'.1 b = (pwR R y k (some (y + mo k))).1 b ∧ R'.2.1 b = R.2.1 b) (f1 : 26 = mt (k + 1)) (f2 : n = mn (k + 1)) (f3 : mE (k + 1) = mE k + 1 + (m + 1) * n) (h5 : mR3 R' (y + mo (k + 1)) n m w → mW (k + 1) y R') : mB (k + 1) y R0 R' := by
  have a3 := h.2.2.1
  have e := mE_1 k hk
  refine mB_s hk h (fun b hb => (e4 b hb).1) (fun b hb => (e4 b hb).2) ?_ ?_ (h5 ?_)
  · rw [e, ← a3, ← f1, ← f2]
    exact e2
  · rw [e1, f3, a3]
    omega
  · rw [e, ← a3]
    exact e3
theorem mB_z {y : Nat} {R0 R : zRt} (h : mB 31 y R0 R) : ML y (pwR R y 31 (some (y + 1932))) := by
  obtain ⟨a1, a2, a3, a4, a5, a6⟩ := h
  have hc : ∀ j, j < 32 → mW j y (pwR R y 31 (some (y + 1932))) := fun j hj => by
    have g := (mo_lt j (by omega)).1
    exact mW_cg (R := R) (fun b q1 q2 => ⟨rfl, pwR_row (by omega)⟩) (a6 j hj)
  refine ⟨a2, fun k hk => ⟨?_, a5 k hk⟩, hc 3 (by decide), hc 4 (by decide), hc 5 (by decide), hc 6 (by decide), hc 7 (by decide), hc 12 (by decide), hc 13 (by decide), hc 26 (by decide), hc 27 (by decide), hc 28 (by decide), hc 29 (by decide), hc 30 (by decide), hc 31 (by decide)⟩
  by_cases c : k = 31
  · rw [c, pwR_s]
    rfl
  · rw [pwR_o (by omega)]
    exact a4 k (by omega)
section MINI
variable {d y : Nat} {I : Nat → Nat → Int32} {L : Nat → Nat → Int64} {R : zRt} {Q : zO → zM → Prop}
theorem minit_ok (hd : 2 ≤ d) (hN : R.2.2 = y + 1) (hK : R.2.1 y = some (7, 0)) (hQ : ∀ R', zol y R R' → R'.2.2 = y + 1941 → ML y R' → Q (.inl none) (upI I y 34 (iI (-1)), L, R')) : zS 159 d [zr (some y)] (I, L, R) Q := by
  refine zW.go [4] rfl (by omega) ?_ ?_
  · exact ⟨_, rfl⟩
  refine zW.gm [] rfl rfl rfl (by omega) trivial ⟨show ¬ zcn 8 < 0 by decide, show (zcn 8).toNatClampNeg < 1000000 by decide⟩ (by decide +kernel) (by decide +kernel) (fun _ => ?_)
  simp (disch := omega) only [Nat.add_assoc, iI_ix, Int.toNat_natCast, Int.reduceToNat, Nat.reduceAdd, znew_up, zwP_up, nwR_P, nwR_N, nwR_Ks, nwR_Ko, pwR_R, pwR_s, pwR_o, upI_same, upL_same, upI_ne, upL_ne, iI_ixN, zI_mk, zL_mk, zP_mk, zK_mk, zN_mk, zwI_up, zwL_up, zg_some, Nat.reduceMod, Nat.reduceDiv, zcn_I, hN]
  have B0 : mB 0 y R (nwR R (y + 1) 20 8) := by
    refine ⟨fun b hb => ⟨rfl, nwR_Ko (by omega)⟩, ?_, rfl, fun j hj => absurd hj (Nat.not_lt_zero j), fun j hj => ?_, fun j hj => ?_⟩
    · rw [nwR_Ko (by omega)]
      exact hK
    · rw [show j = 0 by omega]
      exact nwR_Ks rfl
    · rw [show j = 0 by omega]
      trivial
  generalize nwR R (y + 1) 20 8 = S0 at B0 ⊢
  have K0 := B0.2.1
  have N0 : S0.2.2 = y + 2 := B0.2.2.1
  refine zW.gm [] rfl rfl rfl (by omega) ?_ ⟨show ¬ zcn 4 < 0 by decide, show (zcn 4).toNatClampNeg < 1000000 by decide⟩ (by decide +kernel) (by decide +kernel) (fun _ => ?_)
  · exact ⟨⟨_, rfl, by simp (disch := omega) only [Nat.add_assoc, iI_ix, Int.toNat_natCast, Int.reduceToNat, Nat.reduceAdd, znew_up, zwP_up, nwR_P, nwR_N, nwR_Ks, nwR_Ko, pwR_R, pwR_s, pwR_o, upI_same, upL_same, upI_ne, upL_ne, iI_ixN, zI_mk, zL_mk, zP_mk, zK_mk, zN_mk, zwI_up, zwL_up, zg_some, Nat.reduceMod, Nat.reduceDiv, zcn_I, K0]⟩, Or.inr ⟨_, rfl⟩⟩
  simp (disch := omega) only [Nat.add_assoc, iI_ix, Int.toNat_natCast, Int.reduceToNat, Nat.reduceAdd, znew_up, zwP_up, nwR_P, nwR_N, nwR_Ks, nwR_Ko, pwR_R, pwR_s, pwR_o, upI_same, upL_same, upI_ne, upL_ne, iI_ixN, zI_mk, zL_mk, zP_mk, zK_mk, zN_mk, zwI_up, zwL_up, zg_some, Nat.reduceMod, Nat.reduceDiv, zcn_I, N0]
  have B1 := mB_1 (by decide) B0 (N := y + 2) (t := 20) (n := 4) rfl rfl rfl rfl (fun _ => trivial)
  generalize hS : nwR (pwR S0 y 0 (some (y + mo 0))) (y + 2) 20 4 = S1 at B1
  have hS : nwR (pwR S0 y 0 (some (y + 1))) (y + 2) 20 4 = S1 := hS
  rw [hS]
  clear hS
  clear B0 K0 N0
  have K1 := B1.2.1
  have N1 : S1.2.2 = y + 3 := B1.2.2.1
  refine zW.gm [] rfl rfl rfl (by omega) ?_ ⟨show ¬ zcn 4 < 0 by decide, show (zcn 4).toNatClampNeg < 1000000 by decide⟩ (by decide +kernel) (by decide +kernel) (fun _ => ?_)
  · exact ⟨⟨_, rfl, by simp (disch := omega) only [Nat.add_assoc, iI_ix, Int.toNat_natCast, Int.reduceToNat, Nat.reduceAdd, znew_up, zwP_up, nwR_P, nwR_N, nwR_Ks, nwR_Ko, pwR_R, pwR_s, pwR_o, upI_same, upL_same, upI_ne, upL_ne, iI_ixN, zI_mk, zL_mk, zP_mk, zK_mk, zN_mk, zwI_up, zwL_up, zg_some, Nat.reduceMod, Nat.reduceDiv, zcn_I, K1]⟩, Or.inr ⟨_, rfl⟩⟩
  simp (disch := omega) only [Nat.add_assoc, iI_ix, Int.toNat_natCast, Int.reduceToNat, Nat.reduceAdd, znew_up, zwP_up, nwR_P, nwR_N, nwR_Ks, nwR_Ko, pwR_R, pwR_s, pwR_o, upI_same, upL_same, upI_ne, upL_ne, iI_ixN, zI_mk, zL_mk, zP_mk, zK_mk, zN_mk, zwI_up, zwL_up, zg_some, Nat.reduceMod, Nat.reduceDiv, zcn_I, N1]
  have B2 := mB_1 (by decide) B1 (N := y + 3) (t := 20) (n := 4) rfl rfl rfl rfl (fun _ => trivial)
  generalize hS : nwR (pwR S1 y 1 (some (y + mo 1))) (y + 3) 20 4 = S2 at B2
  have hS : nwR (pwR S1 y 1 (some (y + 2))) (y + 3) 20 4 = S2 := hS
  rw [hS]
  clear hS
  clear B1 K1 N1
  have K2 := B2.2.1
  have N2 : S2.2.2 = y + 4 := B2.2.2.1
  refine zW.gm [] rfl rfl rfl (by omega) ?_ ?_ (by decide +kernel) (by decide +kernel) (fun _ => ?_)
  · exact ⟨⟨_, rfl, by simp (disch := omega) only [Nat.add_assoc, iI_ix, Int.toNat_natCast, Int.reduceToNat, Nat.reduceAdd, znew_up, zwP_up, nwR_P, nwR_N, nwR_Ks, nwR_Ko, pwR_R, pwR_s, pwR_o, upI_same, upL_same, upI_ne, upL_ne, iI_ixN, zI_mk, zL_mk, zP_mk, zK_mk, zN_mk, zwI_up, zwL_up, zg_some, Nat.reduceMod, Nat.reduceDiv, zcn_I, K2]⟩, Or.inr ⟨_, rfl⟩⟩
  · exact ⟨show ¬ zcn 4 < 0 by decide, show (zcn 4).toNatClampNeg ≤ 1000 by decide, show ¬ zcn 8 < 0 by decide, show (zcn 8).toNatClampNeg ≤ 1000 by decide, show ¬ zcn 10 < 0 by decide, show (zcn 10).toNatClampNeg ≤ 1000 by decide⟩
  simp (disch := omega) only [Nat.add_assoc, iI_ix, Int.toNat_natCast, Int.reduceToNat, Nat.reduceAdd, znew_up, zwP_up, nwR_P, nwR_N, nwR_Ks, nwR_Ko, pwR_R, pwR_s, pwR_o, upI_same, upL_same, upI_ne, upL_ne, iI_ixN, zI_mk, zL_mk, zP_mk, zK_mk, zN_mk, zwI_up, zwL_up, zg_some, Nat.reduceMod, Nat.reduceDiv, zcn_I, N2]
  obtain ⟨S3, e1, e2, e3, e4, e5⟩ := zma3_R I L (pwR S2 y 2 (some (y + 3))) 4 8 10
  rw [e1]
  have B3 : mB 3 y R S3 := mB_3 (by decide) B2 e2 e3 e4 e5 rfl rfl rfl (fun q => q)
  clear e1 e2 e3 e4 e5
  clear B2 K2 N2
  have K3 := B3.2.1
  have N3 : S3.2.2 = y + 41 := B3.2.2.1
  refine zW.gm [] rfl rfl rfl (by omega) ?_ ?_ (by decide +kernel) (by decide +kernel) (fun _ => ?_)
  · exact ⟨⟨_, rfl, by simp (disch := omega) only [Nat.add_assoc, iI_ix, Int.toNat_natCast, Int.reduceToNat, Nat.reduceAdd, znew_up, zwP_up, nwR_P, nwR_N, nwR_Ks, nwR_Ko, pwR_R, pwR_s, pwR_o, upI_same, upL_same, upI_ne, upL_ne, iI_ixN, zI_mk, zL_mk, zP_mk, zK_mk, zN_mk, zwI_up, zwL_up, zg_some, Nat.reduceMod, Nat.reduceDiv, zcn_I, K3]⟩, Or.inr ⟨_, rfl⟩⟩
  · exact ⟨show ¬ zcn 4 < 0 by decide, show (zcn 4).toNatClampNeg ≤ 1000 by decide, show ¬ zcn 10 < 0 by decide, show (zcn 10).toNatClampNeg ≤ 1000 by decide⟩
  simp (disch := omega) only [Nat.add_assoc, iI_ix, Int.toNat_natCast, Int.reduceToNat, Nat.reduceAdd, znew_up, zwP_up, nwR_P, nwR_N, nwR_Ks, nwR_Ko, pwR_R, pwR_s, pwR_o, upI_same, upL_same, upI_ne, upL_ne, iI_ixN, zI_mk, zL_mk, zP_mk, zK_mk, zN_mk, zwI_up, zwL_up, zg_some, Nat.reduceMod, Nat.reduceDiv, zcn_I, N3]
  obtain ⟨S4, e1, e2, e3, e4, e5, e6⟩ := zma2_R I L (pwR S3 y 3 (some (y + 4))) 5 0 4 10
  rw [e1]
  have B4 : mB 4 y R S4 := mB_2 (by decide) B3 e2 e3 e4 e5 e6 rfl rfl rfl (fun q => q)
  clear e1 e2 e3 e4 e5 e6
  clear B3 K3 N3
  have K4 := B4.2.1
  have N4 : S4.2.2 = y + 46 := B4.2.2.1
  refine zW.gm [] rfl rfl rfl (by omega) ?_ ?_ (by decide +kernel) (by decide +kernel) (fun _ => ?_)
  · exact ⟨⟨_, rfl, by simp (disch := omega) only [Nat.add_assoc, iI_ix, Int.toNat_natCast, Int.reduceToNat, Nat.reduceAdd, znew_up, zwP_up, nwR_P, nwR_N, nwR_Ks, nwR_Ko, pwR_R, pwR_s, pwR_o, upI_same, upL_same, upI_ne, upL_ne, iI_ixN, zI_mk, zL_mk, zP_mk, zK_mk, zN_mk, zwI_up, zwL_up, zg_some, Nat.reduceMod, Nat.reduceDiv, zcn_I, K4]⟩, Or.inr ⟨_, rfl⟩⟩
  · exact ⟨show ¬ zcn 4 < 0 by decide, show (zcn 4).toNatClampNeg ≤ 1000 by decide, show ¬ zcn 10 < 0 by decide, show (zcn 10).toNatClampNeg ≤ 1000 by decide⟩
  simp (disch := omega) only [Nat.add_assoc, iI_ix, Int.toNat_natCast, Int.reduceToNat, Nat.reduceAdd, znew_up, zwP_up, nwR_P, nwR_N, nwR_Ks, nwR_Ko, pwR_R, pwR_s, pwR_o, upI_same, upL_same, upI_ne, upL_ne, iI_ixN, zI_mk, zL_mk, zP_mk, zK_mk, zN_mk, zwI_up, zwL_up, zg_some, Nat.reduceMod, Nat.reduceDiv, zcn_I, N4]
  obtain ⟨S5, e1, e2, e3, e4, e5, e6⟩ := zma2_R I L (pwR S4 y 4 (some (y + 41))) 5 0 4 10
  rw [e1]
  have B5 : mB 5 y R S5 := mB_2 (by decide) B4 e2 e3 e4 e5 e6 rfl rfl rfl (fun q => q)
  clear e1 e2 e3 e4 e5 e6
  clear B4 K4 N4
  have K5 := B5.2.1
  have N5 : S5.2.2 = y + 51 := B5.2.2.1
  refine zW.gm [] rfl rfl rfl (by omega) ?_ ?_ (by decide +kernel) (by decide +kernel) (fun _ => ?_)
  · exact ⟨⟨_, rfl, by simp (disch := omega) only [Nat.add_assoc, iI_ix, Int.toNat_natCast, Int.reduceToNat, Nat.reduceAdd, znew_up, zwP_up, nwR_P, nwR_N, nwR_Ks, nwR_Ko, pwR_R, pwR_s, pwR_o, upI_same, upL_same, upI_ne, upL_ne, iI_ixN, zI_mk, zL_mk, zP_mk, zK_mk, zN_mk, zwI_up, zwL_up, zg_some, Nat.reduceMod, Nat.reduceDiv, zcn_I, K5]⟩, Or.inr ⟨_, rfl⟩⟩
  · exact ⟨show ¬ zcn 10 < 0 by decide, show (zcn 10).toNatClampNeg ≤ 1000 by decide, show ¬ zcn 10 < 0 by decide, show (zcn 10).toNatClampNeg ≤ 1000 by decide⟩
  simp (disch := omega) only [Nat.add_assoc, iI_ix, Int.toNat_natCast, Int.reduceToNat, Nat.reduceAdd, znew_up, zwP_up, nwR_P, nwR_N, nwR_Ks, nwR_Ko, pwR_R, pwR_s, pwR_o, upI_same, upL_same, upI_ne, upL_ne, iI_ixN, zI_mk, zL_mk, zP_mk, zK_mk, zN_mk, zwI_up, zwL_up, zg_some, Nat.reduceMod, Nat.reduceDiv, zcn_I, N5]
  obtain ⟨S6, e1, e2, e3, e4, e5, e6⟩ := zma2_R I L (pwR S5 y 5 (some (y + 46))) 9 2 10 10
  rw [e1]
  have B6 : mB 6 y R S6 := mB_2 (by decide) B5 e2 e3 e4 e5 e6 rfl rfl rfl (fun q => q)
  clear e1 e2 e3 e4 e5 e6
  clear B5 K5 N5
  have K6 := B6.2.1
  have N6 : S6.2.2 = y + 62 := B6.2.2.1
  refine zW.gm [] rfl rfl rfl (by omega) ?_ ?_ (by decide +kernel) (by decide +kernel) (fun _ => ?_)
  · exact ⟨⟨_, rfl, by simp (disch := omega) only [Nat.add_assoc, iI_ix, Int.toNat_natCast, Int.reduceToNat, Nat.reduceAdd, znew_up, zwP_up, nwR_P, nwR_N, nwR_Ks, nwR_Ko, pwR_R, pwR_s, pwR_o, upI_same, upL_same, upI_ne, upL_ne, iI_ixN, zI_mk, zL_mk, zP_mk, zK_mk, zN_mk, zwI_up, zwL_up, zg_some, Nat.reduceMod, Nat.reduceDiv, zcn_I, K6]⟩, Or.inr ⟨_, rfl⟩⟩
  · exact ⟨show ¬ zcn 10 < 0 by decide, show (zcn 10).toNatClampNeg ≤ 1000 by decide, show ¬ zcn 10 < 0 by decide, show (zcn 10).toNatClampNeg ≤ 1000 by decide, show ¬ zcn 10 < 0 by decide, show (zcn 10).toNatClampNeg ≤ 1000 by decide⟩
  simp (disch := omega) only [Nat.add_assoc, iI_ix, Int.toNat_natCast, Int.reduceToNat, Nat.reduceAdd, znew_up, zwP_up, nwR_P, nwR_N, nwR_Ks, nwR_Ko, pwR_R, pwR_s, pwR_o, upI_same, upL_same, upI_ne, upL_ne, iI_ixN, zI_mk, zL_mk, zP_mk, zK_mk, zN_mk, zwI_up, zwL_up, zg_some, Nat.reduceMod, Nat.reduceDiv, zcn_I, N6]
  obtain ⟨S7, e1, e2, e3, e4, e5⟩ := zma3_R I L (pwR S6 y 6 (some (y + 51))) 10 10 10
  rw [e1]
  have B7 : mB 7 y R S7 := mB_3 (by decide) B6 e2 e3 e4 e5 rfl rfl rfl (fun q => q)
  clear e1 e2 e3 e4 e5
  clear B6 K6 N6
  have K7 := B7.2.1
  have N7 : S7.2.2 = y + 173 := B7.2.2.1
  refine zW.gm [] rfl rfl rfl (by omega) ?_ ⟨show ¬ zcn 11 < 0 by decide, show (zcn 11).toNatClampNeg < 1000000 by decide⟩ (by decide +kernel) (by decide +kernel) (fun _ => ?_)
  · exact ⟨⟨_, rfl, by simp (disch := omega) only [Nat.add_assoc, iI_ix, Int.toNat_natCast, Int.reduceToNat, Nat.reduceAdd, znew_up, zwP_up, nwR_P, nwR_N, nwR_Ks, nwR_Ko, pwR_R, pwR_s, pwR_o, upI_same, upL_same, upI_ne, upL_ne, iI_ixN, zI_mk, zL_mk, zP_mk, zK_mk, zN_mk, zwI_up, zwL_up, zg_some, Nat.reduceMod, Nat.reduceDiv, zcn_I, K7]⟩, Or.inr ⟨_, rfl⟩⟩
  simp (disch := omega) only [Nat.add_assoc, iI_ix, Int.toNat_natCast, Int.reduceToNat, Nat.reduceAdd, znew_up, zwP_up, nwR_P, nwR_N, nwR_Ks, nwR_Ko, pwR_R, pwR_s, pwR_o, upI_same, upL_same, upI_ne, upL_ne, iI_ixN, zI_mk, zL_mk, zP_mk, zK_mk, zN_mk, zwI_up, zwL_up, zg_some, Nat.reduceMod, Nat.reduceDiv, zcn_I, N7]
  have B8 := mB_1 (by decide) B7 (N := y + 173) (t := 21) (n := 11) rfl rfl rfl rfl (fun _ => trivial)
  generalize hS : nwR (pwR S7 y 7 (some (y + mo 7))) (y + 173) 21 11 = S8 at B8
  have hS : nwR (pwR S7 y 7 (some (y + 62))) (y + 173) 21 11 = S8 := hS
  rw [hS]
  clear hS
  clear B7 K7 N7
  have K8 := B8.2.1
  have N8 : S8.2.2 = y + 174 := B8.2.2.1
  refine zW.gm [] rfl rfl rfl (by omega) ?_ ⟨show ¬ zcn 10 < 0 by decide, show (zcn 10).toNatClampNeg < 1000000 by decide⟩ (by decide +kernel) (by decide +kernel) (fun _ => ?_)
  · exact ⟨⟨_, rfl, by simp (disch := omega) only [Nat.add_assoc, iI_ix, Int.toNat_natCast, Int.reduceToNat, Nat.reduceAdd, znew_up, zwP_up, nwR_P, nwR_N, nwR_Ks, nwR_Ko, pwR_R, pwR_s, pwR_o, upI_same, upL_same, upI_ne, upL_ne, iI_ixN, zI_mk, zL_mk, zP_mk, zK_mk, zN_mk, zwI_up, zwL_up, zg_some, Nat.reduceMod, Nat.reduceDiv, zcn_I, K8]⟩, Or.inr ⟨_, rfl⟩⟩
  simp (disch := omega) only [Nat.add_assoc, iI_ix, Int.toNat_natCast, Int.reduceToNat, Nat.reduceAdd, znew_up, zwP_up, nwR_P, nwR_N, nwR_Ks, nwR_Ko, pwR_R, pwR_s, pwR_o, upI_same, upL_same, upI_ne, upL_ne, iI_ixN, zI_mk, zL_mk, zP_mk, zK_mk, zN_mk, zwI_up, zwL_up, zg_some, Nat.reduceMod, Nat.reduceDiv, zcn_I, N8]
  have B9 := mB_1 (by decide) B8 (N := y + 174) (t := 20) (n := 10) rfl rfl rfl rfl (fun _ => trivial)
  generalize hS : nwR (pwR S8 y 8 (some (y + mo 8))) (y + 174) 20 10 = S9 at B9
  have hS : nwR (pwR S8 y 8 (some (y + 173))) (y + 174) 20 10 = S9 := hS
  rw [hS]
  clear hS
  clear B8 K8 N8
  have K9 := B9.2.1
  have N9 : S9.2.2 = y + 175 := B9.2.2.1
  refine zW.gm [] rfl rfl rfl (by omega) ?_ ⟨show ¬ zcn 10 < 0 by decide, show (zcn 10).toNatClampNeg < 1000000 by decide⟩ (by decide +kernel) (by decide +kernel) (fun _ => ?_)
  · exact ⟨⟨_, rfl, by simp (disch := omega) only [Nat.add_assoc, iI_ix, Int.toNat_natCast, Int.reduceToNat, Nat.reduceAdd, znew_up, zwP_up, nwR_P, nwR_N, nwR_Ks, nwR_Ko, pwR_R, pwR_s, pwR_o, upI_same, upL_same, upI_ne, upL_ne, iI_ixN, zI_mk, zL_mk, zP_mk, zK_mk, zN_mk, zwI_up, zwL_up, zg_some, Nat.reduceMod, Nat.reduceDiv, zcn_I, K9]⟩, Or.inr ⟨_, rfl⟩⟩
  simp (disch := omega) only [Nat.add_assoc, iI_ix, Int.toNat_natCast, Int.reduceToNat, Nat.reduceAdd, znew_up, zwP_up, nwR_P, nwR_N, nwR_Ks, nwR_Ko, pwR_R, pwR_s, pwR_o, upI_same, upL_same, upI_ne, upL_ne, iI_ixN, zI_mk, zL_mk, zP_mk, zK_mk, zN_mk, zwI_up, zwL_up, zg_some, Nat.reduceMod, Nat.reduceDiv, zcn_I, N9]
  have B10 := mB_1 (by decide) B9 (N := y + 175) (t := 20) (n := 10) rfl rfl rfl rfl (fun _ => trivial)
  generalize hS : nwR (pwR S9 y 9 (some (y + mo 9))) (y + 175) 20 10 = S10 at B10
  have hS : nwR (pwR S9 y 9 (some (y + 174))) (y + 175) 20 10 = S10 := hS
  rw [hS]
  clear hS
  clear B9 K9 N9
  have K10 := B10.2.1
  have N10 : S10.2.2 = y + 176 := B10.2.2.1
  refine zW.gm [] rfl rfl rfl (by omega) ?_ ⟨show ¬ zcn 10 < 0 by decide, show (zcn 10).toNatClampNeg < 1000000 by decide⟩ (by decide +kernel) (by decide +kernel) (fun _ => ?_)
  · exact ⟨⟨_, rfl, by simp (disch := omega) only [Nat.add_assoc, iI_ix, Int.toNat_natCast, Int.reduceToNat, Nat.reduceAdd, znew_up, zwP_up, nwR_P, nwR_N, nwR_Ks, nwR_Ko, pwR_R, pwR_s, pwR_o, upI_same, upL_same, upI_ne, upL_ne, iI_ixN, zI_mk, zL_mk, zP_mk, zK_mk, zN_mk, zwI_up, zwL_up, zg_some, Nat.reduceMod, Nat.reduceDiv, zcn_I, K10]⟩, Or.inr ⟨_, rfl⟩⟩
  simp (disch := omega) only [Nat.add_assoc, iI_ix, Int.toNat_natCast, Int.reduceToNat, Nat.reduceAdd, znew_up, zwP_up, nwR_P, nwR_N, nwR_Ks, nwR_Ko, pwR_R, pwR_s, pwR_o, upI_same, upL_same, upI_ne, upL_ne, iI_ixN, zI_mk, zL_mk, zP_mk, zK_mk, zN_mk, zwI_up, zwL_up, zg_some, Nat.reduceMod, Nat.reduceDiv, zcn_I, N10]
  have B11 := mB_1 (by decide) B10 (N := y + 176) (t := 20) (n := 10) rfl rfl rfl rfl (fun _ => trivial)
  generalize hS : nwR (pwR S10 y 10 (some (y + mo 10))) (y + 176) 20 10 = S11 at B11
  have hS : nwR (pwR S10 y 10 (some (y + 175))) (y + 176) 20 10 = S11 := hS
  rw [hS]
  clear hS
  clear B10 K10 N10
  have K11 := B11.2.1
  have N11 : S11.2.2 = y + 177 := B11.2.2.1
  refine zW.gm [] rfl rfl rfl (by omega) ?_ ?_ (by decide +kernel) (by decide +kernel) (fun _ => ?_)
  · exact ⟨⟨_, rfl, by simp (disch := omega) only [Nat.add_assoc, iI_ix, Int.toNat_natCast, Int.reduceToNat, Nat.reduceAdd, znew_up, zwP_up, nwR_P, nwR_N, nwR_Ks, nwR_Ko, pwR_R, pwR_s, pwR_o, upI_same, upL_same, upI_ne, upL_ne, iI_ixN, zI_mk, zL_mk, zP_mk, zK_mk, zN_mk, zwI_up, zwL_up, zg_some, Nat.reduceMod, Nat.reduceDiv, zcn_I, K11]⟩, Or.inr ⟨_, rfl⟩⟩
  · exact ⟨show ¬ zcn 800 < 0 by decide, show (zcn 800).toNatClampNeg ≤ 1000 by decide, show ¬ zcn 10 < 0 by decide, show (zcn 10).toNatClampNeg ≤ 1000 by decide⟩
  simp (disch := omega) only [Nat.add_assoc, iI_ix, Int.toNat_natCast, Int.reduceToNat, Nat.reduceAdd, znew_up, zwP_up, nwR_P, nwR_N, nwR_Ks, nwR_Ko, pwR_R, pwR_s, pwR_o, upI_same, upL_same, upI_ne, upL_ne, iI_ixN, zI_mk, zL_mk, zP_mk, zK_mk, zN_mk, zwI_up, zwL_up, zg_some, Nat.reduceMod, Nat.reduceDiv, zcn_I, N11]
  obtain ⟨S12, e1, e2, e3, e4, e5, e6⟩ := zma2_R I L (pwR S11 y 11 (some (y + 176))) 5 0 800 10
  rw [e1]
  have B12 : mB 12 y R S12 := mB_2 (by decide) B11 e2 e3 e4 e5 e6 rfl rfl rfl (fun q => q)
  clear e1 e2 e3 e4 e5 e6
  clear B11 K11 N11
  have K12 := B12.2.1
  have N12 : S12.2.2 = y + 978 := B12.2.2.1
  refine zW.gm [] rfl rfl rfl (by omega) ?_ ?_ (by decide +kernel) (by decide +kernel) (fun _ => ?_)
  · exact ⟨⟨_, rfl, by simp (disch := omega) only [Nat.add_assoc, iI_ix, Int.toNat_natCast, Int.reduceToNat, Nat.reduceAdd, znew_up, zwP_up, nwR_P, nwR_N, nwR_Ks, nwR_Ko, pwR_R, pwR_s, pwR_o, upI_same, upL_same, upI_ne, upL_ne, iI_ixN, zI_mk, zL_mk, zP_mk, zK_mk, zN_mk, zwI_up, zwL_up, zg_some, Nat.reduceMod, Nat.reduceDiv, zcn_I, K12]⟩, Or.inr ⟨_, rfl⟩⟩
  · exact ⟨show ¬ zcn 800 < 0 by decide, show (zcn 800).toNatClampNeg ≤ 1000 by decide, show ¬ zcn 8 < 0 by decide, show (zcn 8).toNatClampNeg ≤ 1000 by decide⟩
  simp (disch := omega) only [Nat.add_assoc, iI_ix, Int.toNat_natCast, Int.reduceToNat, Nat.reduceAdd, znew_up, zwP_up, nwR_P, nwR_N, nwR_Ks, nwR_Ko, pwR_R, pwR_s, pwR_o, upI_same, upL_same, upI_ne, upL_ne, iI_ixN, zI_mk, zL_mk, zP_mk, zK_mk, zN_mk, zwI_up, zwL_up, zg_some, Nat.reduceMod, Nat.reduceDiv, zcn_I, N12]
  obtain ⟨S13, e1, e2, e3, e4, e5, e6⟩ := zma2_R I L (pwR S12 y 12 (some (y + 177))) 5 0 800 8
  rw [e1]
  have B13 : mB 13 y R S13 := mB_2 (by decide) B12 e2 e3 e4 e5 e6 rfl rfl rfl (fun q => q)
  clear e1 e2 e3 e4 e5 e6
  clear B12 K12 N12
  have K13 := B13.2.1
  have N13 : S13.2.2 = y + 1779 := B13.2.2.1
  refine zW.gm [] rfl rfl rfl (by omega) ?_ ⟨show ¬ zcn 800 < 0 by decide, show (zcn 800).toNatClampNeg < 1000000 by decide⟩ (by decide +kernel) (by decide +kernel) (fun _ => ?_)
  · exact ⟨⟨_, rfl, by simp (disch := omega) only [Nat.add_assoc, iI_ix, Int.toNat_natCast, Int.reduceToNat, Nat.reduceAdd, znew_up, zwP_up, nwR_P, nwR_N, nwR_Ks, nwR_Ko, pwR_R, pwR_s, pwR_o, upI_same, upL_same, upI_ne, upL_ne, iI_ixN, zI_mk, zL_mk, zP_mk, zK_mk, zN_mk, zwI_up, zwL_up, zg_some, Nat.reduceMod, Nat.reduceDiv, zcn_I, K13]⟩, Or.inr ⟨_, rfl⟩⟩
  simp (disch := omega) only [Nat.add_assoc, iI_ix, Int.toNat_natCast, Int.reduceToNat, Nat.reduceAdd, znew_up, zwP_up, nwR_P, nwR_N, nwR_Ks, nwR_Ko, pwR_R, pwR_s, pwR_o, upI_same, upL_same, upI_ne, upL_ne, iI_ixN, zI_mk, zL_mk, zP_mk, zK_mk, zN_mk, zwI_up, zwL_up, zg_some, Nat.reduceMod, Nat.reduceDiv, zcn_I, N13]
  have B14 := mB_1 (by decide) B13 (N := y + 1779) (t := 20) (n := 800) rfl rfl rfl rfl (fun _ => trivial)
  generalize hS : nwR (pwR S13 y 13 (some (y + mo 13))) (y + 1779) 20 800 = S14 at B14
  have hS : nwR (pwR S13 y 13 (some (y + 978))) (y + 1779) 20 800 = S14 := hS
  rw [hS]
  clear hS
  clear B13 K13 N13
  have K14 := B14.2.1
  have N14 : S14.2.2 = y + 1780 := B14.2.2.1
  refine zW.gm [] rfl rfl rfl (by omega) ?_ ⟨show ¬ zcn 800 < 0 by decide, show (zcn 800).toNatClampNeg < 1000000 by decide⟩ (by decide +kernel) (by decide +kernel) (fun _ => ?_)
  · exact ⟨⟨_, rfl, by simp (disch := omega) only [Nat.add_assoc, iI_ix, Int.toNat_natCast, Int.reduceToNat, Nat.reduceAdd, znew_up, zwP_up, nwR_P, nwR_N, nwR_Ks, nwR_Ko, pwR_R, pwR_s, pwR_o, upI_same, upL_same, upI_ne, upL_ne, iI_ixN, zI_mk, zL_mk, zP_mk, zK_mk, zN_mk, zwI_up, zwL_up, zg_some, Nat.reduceMod, Nat.reduceDiv, zcn_I, K14]⟩, Or.inr ⟨_, rfl⟩⟩
  simp (disch := omega) only [Nat.add_assoc, iI_ix, Int.toNat_natCast, Int.reduceToNat, Nat.reduceAdd, znew_up, zwP_up, nwR_P, nwR_N, nwR_Ks, nwR_Ko, pwR_R, pwR_s, pwR_o, upI_same, upL_same, upI_ne, upL_ne, iI_ixN, zI_mk, zL_mk, zP_mk, zK_mk, zN_mk, zwI_up, zwL_up, zg_some, Nat.reduceMod, Nat.reduceDiv, zcn_I, N14]
  have B15 := mB_1 (by decide) B14 (N := y + 1780) (t := 20) (n := 800) rfl rfl rfl rfl (fun _ => trivial)
  generalize hS : nwR (pwR S14 y 14 (some (y + mo 14))) (y + 1780) 20 800 = S15 at B15
  have hS : nwR (pwR S14 y 14 (some (y + 1779))) (y + 1780) 20 800 = S15 := hS
  rw [hS]
  clear hS
  clear B14 K14 N14
  have K15 := B15.2.1
  have N15 : S15.2.2 = y + 1781 := B15.2.2.1
  refine zW.gm [] rfl rfl rfl (by omega) ?_ ⟨show ¬ zcn 6 < 0 by decide, show (zcn 6).toNatClampNeg < 1000000 by decide⟩ (by decide +kernel) (by decide +kernel) (fun _ => ?_)
  · exact ⟨⟨_, rfl, by simp (disch := omega) only [Nat.add_assoc, iI_ix, Int.toNat_natCast, Int.reduceToNat, Nat.reduceAdd, znew_up, zwP_up, nwR_P, nwR_N, nwR_Ks, nwR_Ko, pwR_R, pwR_s, pwR_o, upI_same, upL_same, upI_ne, upL_ne, iI_ixN, zI_mk, zL_mk, zP_mk, zK_mk, zN_mk, zwI_up, zwL_up, zg_some, Nat.reduceMod, Nat.reduceDiv, zcn_I, K15]⟩, Or.inr ⟨_, rfl⟩⟩
  simp (disch := omega) only [Nat.add_assoc, iI_ix, Int.toNat_natCast, Int.reduceToNat, Nat.reduceAdd, znew_up, zwP_up, nwR_P, nwR_N, nwR_Ks, nwR_Ko, pwR_R, pwR_s, pwR_o, upI_same, upL_same, upI_ne, upL_ne, iI_ixN, zI_mk, zL_mk, zP_mk, zK_mk, zN_mk, zwI_up, zwL_up, zg_some, Nat.reduceMod, Nat.reduceDiv, zcn_I, N15]
  have B16 := mB_1 (by decide) B15 (N := y + 1781) (t := 20) (n := 6) rfl rfl rfl rfl (fun _ => trivial)
  generalize hS : nwR (pwR S15 y 15 (some (y + mo 15))) (y + 1781) 20 6 = S16 at B16
  have hS : nwR (pwR S15 y 15 (some (y + 1780))) (y + 1781) 20 6 = S16 := hS
  rw [hS]
  clear hS
  clear B15 K15 N15
  have K16 := B16.2.1
  have N16 : S16.2.2 = y + 1782 := B16.2.2.1
  refine zW.gm [] rfl rfl rfl (by omega) ?_ ⟨show ¬ zcn 30 < 0 by decide, show (zcn 30).toNatClampNeg < 1000000 by decide⟩ (by decide +kernel) (by decide +kernel) (fun _ => ?_)
  · exact ⟨⟨_, rfl, by simp (disch := omega) only [Nat.add_assoc, iI_ix, Int.toNat_natCast, Int.reduceToNat, Nat.reduceAdd, znew_up, zwP_up, nwR_P, nwR_N, nwR_Ks, nwR_Ko, pwR_R, pwR_s, pwR_o, upI_same, upL_same, upI_ne, upL_ne, iI_ixN, zI_mk, zL_mk, zP_mk, zK_mk, zN_mk, zwI_up, zwL_up, zg_some, Nat.reduceMod, Nat.reduceDiv, zcn_I, K16]⟩, Or.inr ⟨_, rfl⟩⟩
  simp (disch := omega) only [Nat.add_assoc, iI_ix, Int.toNat_natCast, Int.reduceToNat, Nat.reduceAdd, znew_up, zwP_up, nwR_P, nwR_N, nwR_Ks, nwR_Ko, pwR_R, pwR_s, pwR_o, upI_same, upL_same, upI_ne, upL_ne, iI_ixN, zI_mk, zL_mk, zP_mk, zK_mk, zN_mk, zwI_up, zwL_up, zg_some, Nat.reduceMod, Nat.reduceDiv, zcn_I, N16]
  have B17 := mB_1 (by decide) B16 (N := y + 1782) (t := 23) (n := 30) rfl rfl rfl rfl (fun _ => trivial)
  generalize hS : nwR (pwR S16 y 16 (some (y + mo 16))) (y + 1782) 23 30 = S17 at B17
  have hS : nwR (pwR S16 y 16 (some (y + 1781))) (y + 1782) 23 30 = S17 := hS
  rw [hS]
  clear hS
  clear B16 K16 N16
  have K17 := B17.2.1
  have N17 : S17.2.2 = y + 1783 := B17.2.2.1
  refine zW.gm [] rfl rfl rfl (by omega) ?_ ⟨show ¬ zcn 120 < 0 by decide, show (zcn 120).toNatClampNeg < 1000000 by decide⟩ (by decide +kernel) (by decide +kernel) (fun _ => ?_)
  · exact ⟨⟨_, rfl, by simp (disch := omega) only [Nat.add_assoc, iI_ix, Int.toNat_natCast, Int.reduceToNat, Nat.reduceAdd, znew_up, zwP_up, nwR_P, nwR_N, nwR_Ks, nwR_Ko, pwR_R, pwR_s, pwR_o, upI_same, upL_same, upI_ne, upL_ne, iI_ixN, zI_mk, zL_mk, zP_mk, zK_mk, zN_mk, zwI_up, zwL_up, zg_some, Nat.reduceMod, Nat.reduceDiv, zcn_I, K17]⟩, Or.inr ⟨_, rfl⟩⟩
  simp (disch := omega) only [Nat.add_assoc, iI_ix, Int.toNat_natCast, Int.reduceToNat, Nat.reduceAdd, znew_up, zwP_up, nwR_P, nwR_N, nwR_Ks, nwR_Ko, pwR_R, pwR_s, pwR_o, upI_same, upL_same, upI_ne, upL_ne, iI_ixN, zI_mk, zL_mk, zP_mk, zK_mk, zN_mk, zwI_up, zwL_up, zg_some, Nat.reduceMod, Nat.reduceDiv, zcn_I, N17]
  have B18 := mB_1 (by decide) B17 (N := y + 1783) (t := 20) (n := 120) rfl rfl rfl rfl (fun _ => trivial)
  generalize hS : nwR (pwR S17 y 17 (some (y + mo 17))) (y + 1783) 20 120 = S18 at B18
  have hS : nwR (pwR S17 y 17 (some (y + 1782))) (y + 1783) 20 120 = S18 := hS
  rw [hS]
  clear hS
  clear B17 K17 N17
  have K18 := B18.2.1
  have N18 : S18.2.2 = y + 1784 := B18.2.2.1
  refine zW.gm [] rfl rfl rfl (by omega) ?_ ⟨show ¬ zcn 12 < 0 by decide, show (zcn 12).toNatClampNeg < 1000000 by decide⟩ (by decide +kernel) (by decide +kernel) (fun _ => ?_)
  · exact ⟨⟨_, rfl, by simp (disch := omega) only [Nat.add_assoc, iI_ix, Int.toNat_natCast, Int.reduceToNat, Nat.reduceAdd, znew_up, zwP_up, nwR_P, nwR_N, nwR_Ks, nwR_Ko, pwR_R, pwR_s, pwR_o, upI_same, upL_same, upI_ne, upL_ne, iI_ixN, zI_mk, zL_mk, zP_mk, zK_mk, zN_mk, zwI_up, zwL_up, zg_some, Nat.reduceMod, Nat.reduceDiv, zcn_I, K18]⟩, Or.inr ⟨_, rfl⟩⟩
  simp (disch := omega) only [Nat.add_assoc, iI_ix, Int.toNat_natCast, Int.reduceToNat, Nat.reduceAdd, znew_up, zwP_up, nwR_P, nwR_N, nwR_Ks, nwR_Ko, pwR_R, pwR_s, pwR_o, upI_same, upL_same, upI_ne, upL_ne, iI_ixN, zI_mk, zL_mk, zP_mk, zK_mk, zN_mk, zwI_up, zwL_up, zg_some, Nat.reduceMod, Nat.reduceDiv, zcn_I, N18]
  have B19 := mB_1 (by decide) B18 (N := y + 1784) (t := 20) (n := 12) rfl rfl rfl rfl (fun _ => trivial)
  generalize hS : nwR (pwR S18 y 18 (some (y + mo 18))) (y + 1784) 20 12 = S19 at B19
  have hS : nwR (pwR S18 y 18 (some (y + 1783))) (y + 1784) 20 12 = S19 := hS
  rw [hS]
  clear hS
  clear B18 K18 N18
  have K19 := B19.2.1
  have N19 : S19.2.2 = y + 1785 := B19.2.2.1
  refine zW.gm [] rfl rfl rfl (by omega) ?_ ⟨show ¬ zcn 8 < 0 by decide, show (zcn 8).toNatClampNeg < 1000000 by decide⟩ (by decide +kernel) (by decide +kernel) (fun _ => ?_)
  · exact ⟨⟨_, rfl, by simp (disch := omega) only [Nat.add_assoc, iI_ix, Int.toNat_natCast, Int.reduceToNat, Nat.reduceAdd, znew_up, zwP_up, nwR_P, nwR_N, nwR_Ks, nwR_Ko, pwR_R, pwR_s, pwR_o, upI_same, upL_same, upI_ne, upL_ne, iI_ixN, zI_mk, zL_mk, zP_mk, zK_mk, zN_mk, zwI_up, zwL_up, zg_some, Nat.reduceMod, Nat.reduceDiv, zcn_I, K19]⟩, Or.inr ⟨_, rfl⟩⟩
  simp (disch := omega) only [Nat.add_assoc, iI_ix, Int.toNat_natCast, Int.reduceToNat, Nat.reduceAdd, znew_up, zwP_up, nwR_P, nwR_N, nwR_Ks, nwR_Ko, pwR_R, pwR_s, pwR_o, upI_same, upL_same, upI_ne, upL_ne, iI_ixN, zI_mk, zL_mk, zP_mk, zK_mk, zN_mk, zwI_up, zwL_up, zg_some, Nat.reduceMod, Nat.reduceDiv, zcn_I, N19]
  have B20 := mB_1 (by decide) B19 (N := y + 1785) (t := 23) (n := 8) rfl rfl rfl rfl (fun _ => trivial)
  generalize hS : nwR (pwR S19 y 19 (some (y + mo 19))) (y + 1785) 23 8 = S20 at B20
  have hS : nwR (pwR S19 y 19 (some (y + 1784))) (y + 1785) 23 8 = S20 := hS
  rw [hS]
  clear hS
  clear B19 K19 N19
  have K20 := B20.2.1
  have N20 : S20.2.2 = y + 1786 := B20.2.2.1
  refine zW.gm [] rfl rfl rfl (by omega) ?_ ⟨show ¬ zcn 8 < 0 by decide, show (zcn 8).toNatClampNeg < 1000000 by decide⟩ (by decide +kernel) (by decide +kernel) (fun _ => ?_)
  · exact ⟨⟨_, rfl, by simp (disch := omega) only [Nat.add_assoc, iI_ix, Int.toNat_natCast, Int.reduceToNat, Nat.reduceAdd, znew_up, zwP_up, nwR_P, nwR_N, nwR_Ks, nwR_Ko, pwR_R, pwR_s, pwR_o, upI_same, upL_same, upI_ne, upL_ne, iI_ixN, zI_mk, zL_mk, zP_mk, zK_mk, zN_mk, zwI_up, zwL_up, zg_some, Nat.reduceMod, Nat.reduceDiv, zcn_I, K20]⟩, Or.inr ⟨_, rfl⟩⟩
  simp (disch := omega) only [Nat.add_assoc, iI_ix, Int.toNat_natCast, Int.reduceToNat, Nat.reduceAdd, znew_up, zwP_up, nwR_P, nwR_N, nwR_Ks, nwR_Ko, pwR_R, pwR_s, pwR_o, upI_same, upL_same, upI_ne, upL_ne, iI_ixN, zI_mk, zL_mk, zP_mk, zK_mk, zN_mk, zwI_up, zwL_up, zg_some, Nat.reduceMod, Nat.reduceDiv, zcn_I, N20]
  have B21 := mB_1 (by decide) B20 (N := y + 1786) (t := 20) (n := 8) rfl rfl rfl rfl (fun _ => trivial)
  generalize hS : nwR (pwR S20 y 20 (some (y + mo 20))) (y + 1786) 20 8 = S21 at B21
  have hS : nwR (pwR S20 y 20 (some (y + 1785))) (y + 1786) 20 8 = S21 := hS
  rw [hS]
  clear hS
  clear B20 K20 N20
  have K21 := B21.2.1
  have N21 : S21.2.2 = y + 1787 := B21.2.2.1
  refine zW.gm [] rfl rfl rfl (by omega) ?_ ⟨show ¬ zcn 8 < 0 by decide, show (zcn 8).toNatClampNeg < 1000000 by decide⟩ (by decide +kernel) (by decide +kernel) (fun _ => ?_)
  · exact ⟨⟨_, rfl, by simp (disch := omega) only [Nat.add_assoc, iI_ix, Int.toNat_natCast, Int.reduceToNat, Nat.reduceAdd, znew_up, zwP_up, nwR_P, nwR_N, nwR_Ks, nwR_Ko, pwR_R, pwR_s, pwR_o, upI_same, upL_same, upI_ne, upL_ne, iI_ixN, zI_mk, zL_mk, zP_mk, zK_mk, zN_mk, zwI_up, zwL_up, zg_some, Nat.reduceMod, Nat.reduceDiv, zcn_I, K21]⟩, Or.inr ⟨_, rfl⟩⟩
  simp (disch := omega) only [Nat.add_assoc, iI_ix, Int.toNat_natCast, Int.reduceToNat, Nat.reduceAdd, znew_up, zwP_up, nwR_P, nwR_N, nwR_Ks, nwR_Ko, pwR_R, pwR_s, pwR_o, upI_same, upL_same, upI_ne, upL_ne, iI_ixN, zI_mk, zL_mk, zP_mk, zK_mk, zN_mk, zwI_up, zwL_up, zg_some, Nat.reduceMod, Nat.reduceDiv, zcn_I, N21]
  have B22 := mB_1 (by decide) B21 (N := y + 1787) (t := 20) (n := 8) rfl rfl rfl rfl (fun _ => trivial)
  generalize hS : nwR (pwR S21 y 21 (some (y + mo 21))) (y + 1787) 20 8 = S22 at B22
  have hS : nwR (pwR S21 y 21 (some (y + 1786))) (y + 1787) 20 8 = S22 := hS
  rw [hS]
  clear hS
  clear B21 K21 N21
  have K22 := B22.2.1
  have N22 : S22.2.2 = y + 1788 := B22.2.2.1
  refine zW.gm [] rfl rfl rfl (by omega) ?_ ⟨show ¬ zcn 8 < 0 by decide, show (zcn 8).toNatClampNeg < 1000000 by decide⟩ (by decide +kernel) (by decide +kernel) (fun _ => ?_)
  · exact ⟨⟨_, rfl, by simp (disch := omega) only [Nat.add_assoc, iI_ix, Int.toNat_natCast, Int.reduceToNat, Nat.reduceAdd, znew_up, zwP_up, nwR_P, nwR_N, nwR_Ks, nwR_Ko, pwR_R, pwR_s, pwR_o, upI_same, upL_same, upI_ne, upL_ne, iI_ixN, zI_mk, zL_mk, zP_mk, zK_mk, zN_mk, zwI_up, zwL_up, zg_some, Nat.reduceMod, Nat.reduceDiv, zcn_I, K22]⟩, Or.inr ⟨_, rfl⟩⟩
  simp (disch := omega) only [Nat.add_assoc, iI_ix, Int.toNat_natCast, Int.reduceToNat, Nat.reduceAdd, znew_up, zwP_up, nwR_P, nwR_N, nwR_Ks, nwR_Ko, pwR_R, pwR_s, pwR_o, upI_same, upL_same, upI_ne, upL_ne, iI_ixN, zI_mk, zL_mk, zP_mk, zK_mk, zN_mk, zwI_up, zwL_up, zg_some, Nat.reduceMod, Nat.reduceDiv, zcn_I, N22]
  have B23 := mB_1 (by decide) B22 (N := y + 1788) (t := 20) (n := 8) rfl rfl rfl rfl (fun _ => trivial)
  generalize hS : nwR (pwR S22 y 22 (some (y + mo 22))) (y + 1788) 20 8 = S23 at B23
  have hS : nwR (pwR S22 y 22 (some (y + 1787))) (y + 1788) 20 8 = S23 := hS
  rw [hS]
  clear hS
  clear B22 K22 N22
  have K23 := B23.2.1
  have N23 : S23.2.2 = y + 1789 := B23.2.2.1
  refine zW.gm [] rfl rfl rfl (by omega) ?_ ⟨show ¬ zcn 8 < 0 by decide, show (zcn 8).toNatClampNeg < 1000000 by decide⟩ (by decide +kernel) (by decide +kernel) (fun _ => ?_)
  · exact ⟨⟨_, rfl, by simp (disch := omega) only [Nat.add_assoc, iI_ix, Int.toNat_natCast, Int.reduceToNat, Nat.reduceAdd, znew_up, zwP_up, nwR_P, nwR_N, nwR_Ks, nwR_Ko, pwR_R, pwR_s, pwR_o, upI_same, upL_same, upI_ne, upL_ne, iI_ixN, zI_mk, zL_mk, zP_mk, zK_mk, zN_mk, zwI_up, zwL_up, zg_some, Nat.reduceMod, Nat.reduceDiv, zcn_I, K23]⟩, Or.inr ⟨_, rfl⟩⟩
  simp (disch := omega) only [Nat.add_assoc, iI_ix, Int.toNat_natCast, Int.reduceToNat, Nat.reduceAdd, znew_up, zwP_up, nwR_P, nwR_N, nwR_Ks, nwR_Ko, pwR_R, pwR_s, pwR_o, upI_same, upL_same, upI_ne, upL_ne, iI_ixN, zI_mk, zL_mk, zP_mk, zK_mk, zN_mk, zwI_up, zwL_up, zg_some, Nat.reduceMod, Nat.reduceDiv, zcn_I, N23]
  have B24 := mB_1 (by decide) B23 (N := y + 1789) (t := 22) (n := 8) rfl rfl rfl rfl (fun _ => trivial)
  generalize hS : nwR (pwR S23 y 23 (some (y + mo 23))) (y + 1789) 22 8 = S24 at B24
  have hS : nwR (pwR S23 y 23 (some (y + 1788))) (y + 1789) 22 8 = S24 := hS
  rw [hS]
  clear hS
  clear B23 K23 N23
  have K24 := B24.2.1
  have N24 : S24.2.2 = y + 1790 := B24.2.2.1
  refine zW.gm [] rfl rfl rfl (by omega) ?_ ⟨show ¬ zcn 8 < 0 by decide, show (zcn 8).toNatClampNeg < 1000000 by decide⟩ (by decide +kernel) (by decide +kernel) (fun _ => ?_)
  · exact ⟨⟨_, rfl, by simp (disch := omega) only [Nat.add_assoc, iI_ix, Int.toNat_natCast, Int.reduceToNat, Nat.reduceAdd, znew_up, zwP_up, nwR_P, nwR_N, nwR_Ks, nwR_Ko, pwR_R, pwR_s, pwR_o, upI_same, upL_same, upI_ne, upL_ne, iI_ixN, zI_mk, zL_mk, zP_mk, zK_mk, zN_mk, zwI_up, zwL_up, zg_some, Nat.reduceMod, Nat.reduceDiv, zcn_I, K24]⟩, Or.inr ⟨_, rfl⟩⟩
  simp (disch := omega) only [Nat.add_assoc, iI_ix, Int.toNat_natCast, Int.reduceToNat, Nat.reduceAdd, znew_up, zwP_up, nwR_P, nwR_N, nwR_Ks, nwR_Ko, pwR_R, pwR_s, pwR_o, upI_same, upL_same, upI_ne, upL_ne, iI_ixN, zI_mk, zL_mk, zP_mk, zK_mk, zN_mk, zwI_up, zwL_up, zg_some, Nat.reduceMod, Nat.reduceDiv, zcn_I, N24]
  have B25 := mB_1 (by decide) B24 (N := y + 1790) (t := 22) (n := 8) rfl rfl rfl rfl (fun _ => trivial)
  generalize hS : nwR (pwR S24 y 24 (some (y + mo 24))) (y + 1790) 22 8 = S25 at B25
  have hS : nwR (pwR S24 y 24 (some (y + 1789))) (y + 1790) 22 8 = S25 := hS
  rw [hS]
  clear hS
  clear B24 K24 N24
  have K25 := B25.2.1
  have N25 : S25.2.2 = y + 1791 := B25.2.2.1
  refine zW.gm [] rfl rfl rfl (by omega) ?_ ?_ (by decide +kernel) (by decide +kernel) (fun _ => ?_)
  · exact ⟨⟨_, rfl, by simp (disch := omega) only [Nat.add_assoc, iI_ix, Int.toNat_natCast, Int.reduceToNat, Nat.reduceAdd, znew_up, zwP_up, nwR_P, nwR_N, nwR_Ks, nwR_Ko, pwR_R, pwR_s, pwR_o, upI_same, upL_same, upI_ne, upL_ne, iI_ixN, zI_mk, zL_mk, zP_mk, zK_mk, zN_mk, zwI_up, zwL_up, zg_some, Nat.reduceMod, Nat.reduceDiv, zcn_I, K25]⟩, Or.inr ⟨_, rfl⟩⟩
  · exact ⟨show ¬ zcn 8 < 0 by decide, show (zcn 8).toNatClampNeg ≤ 1000 by decide, show ¬ zcn 12 < 0 by decide, show (zcn 12).toNatClampNeg ≤ 1000 by decide⟩
  simp (disch := omega) only [Nat.add_assoc, iI_ix, Int.toNat_natCast, Int.reduceToNat, Nat.reduceAdd, znew_up, zwP_up, nwR_P, nwR_N, nwR_Ks, nwR_Ko, pwR_R, pwR_s, pwR_o, upI_same, upL_same, upI_ne, upL_ne, iI_ixN, zI_mk, zL_mk, zP_mk, zK_mk, zN_mk, zwI_up, zwL_up, zg_some, Nat.reduceMod, Nat.reduceDiv, zcn_I, N25]
  obtain ⟨S26, e1, e2, e3, e4, e5, e6⟩ := zma2_R I L (pwR S25 y 25 (some (y + 1790))) 5 0 8 12
  rw [e1]
  have B26 : mB 26 y R S26 := mB_2 (by decide) B25 e2 e3 e4 e5 e6 rfl rfl rfl (fun q => q)
  clear e1 e2 e3 e4 e5 e6
  clear B25 K25 N25
  have K26 := B26.2.1
  have N26 : S26.2.2 = y + 1800 := B26.2.2.1
  refine zW.gm [] rfl rfl rfl (by omega) ?_ ?_ (by decide +kernel) (by decide +kernel) (fun _ => ?_)
  · exact ⟨⟨_, rfl, by simp (disch := omega) only [Nat.add_assoc, iI_ix, Int.toNat_natCast, Int.reduceToNat, Nat.reduceAdd, znew_up, zwP_up, nwR_P, nwR_N, nwR_Ks, nwR_Ko, pwR_R, pwR_s, pwR_o, upI_same, upL_same, upI_ne, upL_ne, iI_ixN, zI_mk, zL_mk, zP_mk, zK_mk, zN_mk, zwI_up, zwL_up, zg_some, Nat.reduceMod, Nat.reduceDiv, zcn_I, K26]⟩, Or.inr ⟨_, rfl⟩⟩
  · exact ⟨show ¬ zcn 8 < 0 by decide, show (zcn 8).toNatClampNeg ≤ 1000 by decide, show ¬ zcn 12 < 0 by decide, show (zcn 12).toNatClampNeg ≤ 1000 by decide, show ¬ zcn 5 < 0 by decide, show (zcn 5).toNatClampNeg ≤ 1000 by decide⟩
  simp (disch := omega) only [Nat.add_assoc, iI_ix, Int.toNat_natCast, Int.reduceToNat, Nat.reduceAdd, znew_up, zwP_up, nwR_P, nwR_N, nwR_Ks, nwR_Ko, pwR_R, pwR_s, pwR_o, upI_same, upL_same, upI_ne, upL_ne, iI_ixN, zI_mk, zL_mk, zP_mk, zK_mk, zN_mk, zwI_up, zwL_up, zg_some, Nat.reduceMod, Nat.reduceDiv, zcn_I, N26]
  obtain ⟨S27, e1, e2, e3, e4, e5⟩ := zma3_R I L (pwR S26 y 26 (some (y + 1791))) 8 12 5
  rw [e1]
  have B27 : mB 27 y R S27 := mB_3 (by decide) B26 e2 e3 e4 e5 rfl rfl rfl (fun q => q)
  clear e1 e2 e3 e4 e5
  clear B26 K26 N26
  have K27 := B27.2.1
  have N27 : S27.2.2 = y + 1905 := B27.2.2.1
  refine zW.gm [] rfl rfl rfl (by omega) ?_ ?_ (by decide +kernel) (by decide +kernel) (fun _ => ?_)
  · exact ⟨⟨_, rfl, by simp (disch := omega) only [Nat.add_assoc, iI_ix, Int.toNat_natCast, Int.reduceToNat, Nat.reduceAdd, znew_up, zwP_up, nwR_P, nwR_N, nwR_Ks, nwR_Ko, pwR_R, pwR_s, pwR_o, upI_same, upL_same, upI_ne, upL_ne, iI_ixN, zI_mk, zL_mk, zP_mk, zK_mk, zN_mk, zwI_up, zwL_up, zg_some, Nat.reduceMod, Nat.reduceDiv, zcn_I, K27]⟩, Or.inr ⟨_, rfl⟩⟩
  · exact ⟨show ¬ zcn 8 < 0 by decide, show (zcn 8).toNatClampNeg ≤ 1000 by decide, show ¬ zcn 12 < 0 by decide, show (zcn 12).toNatClampNeg ≤ 1000 by decide⟩
  simp (disch := omega) only [Nat.add_assoc, iI_ix, Int.toNat_natCast, Int.reduceToNat, Nat.reduceAdd, znew_up, zwP_up, nwR_P, nwR_N, nwR_Ks, nwR_Ko, pwR_R, pwR_s, pwR_o, upI_same, upL_same, upI_ne, upL_ne, iI_ixN, zI_mk, zL_mk, zP_mk, zK_mk, zN_mk, zwI_up, zwL_up, zg_some, Nat.reduceMod, Nat.reduceDiv, zcn_I, N27]
  obtain ⟨S28, e1, e2, e3, e4, e5, e6⟩ := zma2_R I L (pwR S27 y 27 (some (y + 1800))) 5 0 8 12
  rw [e1]
  have B28 : mB 28 y R S28 := mB_2 (by decide) B27 e2 e3 e4 e5 e6 rfl rfl rfl (fun q => q)
  clear e1 e2 e3 e4 e5 e6
  clear B27 K27 N27
  have K28 := B28.2.1
  have N28 : S28.2.2 = y + 1914 := B28.2.2.1
  refine zW.gm [] rfl rfl rfl (by omega) ?_ ?_ (by decide +kernel) (by decide +kernel) (fun _ => ?_)
  · exact ⟨⟨_, rfl, by simp (disch := omega) only [Nat.add_assoc, iI_ix, Int.toNat_natCast, Int.reduceToNat, Nat.reduceAdd, znew_up, zwP_up, nwR_P, nwR_N, nwR_Ks, nwR_Ko, pwR_R, pwR_s, pwR_o, upI_same, upL_same, upI_ne, upL_ne, iI_ixN, zI_mk, zL_mk, zP_mk, zK_mk, zN_mk, zwI_up, zwL_up, zg_some, Nat.reduceMod, Nat.reduceDiv, zcn_I, K28]⟩, Or.inr ⟨_, rfl⟩⟩
  · exact ⟨show ¬ zcn 8 < 0 by decide, show (zcn 8).toNatClampNeg ≤ 1000 by decide, show ¬ zcn 12 < 0 by decide, show (zcn 12).toNatClampNeg ≤ 1000 by decide⟩
  simp (disch := omega) only [Nat.add_assoc, iI_ix, Int.toNat_natCast, Int.reduceToNat, Nat.reduceAdd, znew_up, zwP_up, nwR_P, nwR_N, nwR_Ks, nwR_Ko, pwR_R, pwR_s, pwR_o, upI_same, upL_same, upI_ne, upL_ne, iI_ixN, zI_mk, zL_mk, zP_mk, zK_mk, zN_mk, zwI_up, zwL_up, zg_some, Nat.reduceMod, Nat.reduceDiv, zcn_I, N28]
  obtain ⟨S29, e1, e2, e3, e4, e5, e6⟩ := zma2_R I L (pwR S28 y 28 (some (y + 1905))) 9 2 8 12
  rw [e1]
  have B29 : mB 29 y R S29 := mB_2 (by decide) B28 e2 e3 e4 e5 e6 rfl rfl rfl (fun q => q)
  clear e1 e2 e3 e4 e5 e6
  clear B28 K28 N28
  have K29 := B29.2.1
  have N29 : S29.2.2 = y + 1923 := B29.2.2.1
  refine zW.gm [] rfl rfl rfl (by omega) ?_ ?_ (by decide +kernel) (by decide +kernel) (fun _ => ?_)
  · exact ⟨⟨_, rfl, by simp (disch := omega) only [Nat.add_assoc, iI_ix, Int.toNat_natCast, Int.reduceToNat, Nat.reduceAdd, znew_up, zwP_up, nwR_P, nwR_N, nwR_Ks, nwR_Ko, pwR_R, pwR_s, pwR_o, upI_same, upL_same, upI_ne, upL_ne, iI_ixN, zI_mk, zL_mk, zP_mk, zK_mk, zN_mk, zwI_up, zwL_up, zg_some, Nat.reduceMod, Nat.reduceDiv, zcn_I, K29]⟩, Or.inr ⟨_, rfl⟩⟩
  · exact ⟨show ¬ zcn 8 < 0 by decide, show (zcn 8).toNatClampNeg ≤ 1000 by decide, show ¬ zcn 12 < 0 by decide, show (zcn 12).toNatClampNeg ≤ 1000 by decide⟩
  simp (disch := omega) only [Nat.add_assoc, iI_ix, Int.toNat_natCast, Int.reduceToNat, Nat.reduceAdd, znew_up, zwP_up, nwR_P, nwR_N, nwR_Ks, nwR_Ko, pwR_R, pwR_s, pwR_o, upI_same, upL_same, upI_ne, upL_ne, iI_ixN, zI_mk, zL_mk, zP_mk, zK_mk, zN_mk, zwI_up, zwL_up, zg_some, Nat.reduceMod, Nat.reduceDiv, zcn_I, N29]
  obtain ⟨S30, e1, e2, e3, e4, e5, e6⟩ := zma2_R I L (pwR S29 y 29 (some (y + 1914))) 5 0 8 12
  rw [e1]
  have B30 : mB 30 y R S30 := mB_2 (by decide) B29 e2 e3 e4 e5 e6 rfl rfl rfl (fun q => q)
  clear e1 e2 e3 e4 e5 e6
  clear B29 K29 N29
  have K30 := B30.2.1
  have N30 : S30.2.2 = y + 1932 := B30.2.2.1
  refine zW.gm [] rfl rfl rfl (by omega) ?_ ?_ (by decide +kernel) (by decide +kernel) (fun _ => ?_)
  · exact ⟨⟨_, rfl, by simp (disch := omega) only [Nat.add_assoc, iI_ix, Int.toNat_natCast, Int.reduceToNat, Nat.reduceAdd, znew_up, zwP_up, nwR_P, nwR_N, nwR_Ks, nwR_Ko, pwR_R, pwR_s, pwR_o, upI_same, upL_same, upI_ne, upL_ne, iI_ixN, zI_mk, zL_mk, zP_mk, zK_mk, zN_mk, zwI_up, zwL_up, zg_some, Nat.reduceMod, Nat.reduceDiv, zcn_I, K30]⟩, Or.inr ⟨_, rfl⟩⟩
  · exact ⟨show ¬ zcn 8 < 0 by decide, show (zcn 8).toNatClampNeg ≤ 1000 by decide, show ¬ zcn 12 < 0 by decide, show (zcn 12).toNatClampNeg ≤ 1000 by decide⟩
  simp (disch := omega) only [Nat.add_assoc, iI_ix, Int.toNat_natCast, Int.reduceToNat, Nat.reduceAdd, znew_up, zwP_up, nwR_P, nwR_N, nwR_Ks, nwR_Ko, pwR_R, pwR_s, pwR_o, upI_same, upL_same, upI_ne, upL_ne, iI_ixN, zI_mk, zL_mk, zP_mk, zK_mk, zN_mk, zwI_up, zwL_up, zg_some, Nat.reduceMod, Nat.reduceDiv, zcn_I, N30]
  obtain ⟨S31, e1, e2, e3, e4, e5, e6⟩ := zma2_R I L (pwR S30 y 30 (some (y + 1923))) 5 0 8 12
  rw [e1]
  have B31 : mB 31 y R S31 := mB_2 (by decide) B30 e2 e3 e4 e5 e6 rfl rfl rfl (fun q => q)
  clear e1 e2 e3 e4 e5 e6
  clear B30 K30 N30
  have K31 := B31.2.1
  refine zW.gr [] rfl rfl rfl (by omega) ?_ trivial ?_
  · exact ⟨⟨_, rfl, by simp (disch := omega) only [Nat.add_assoc, iI_ix, Int.toNat_natCast, Int.reduceToNat, Nat.reduceAdd, znew_up, zwP_up, nwR_P, nwR_N, nwR_Ks, nwR_Ko, pwR_R, pwR_s, pwR_o, upI_same, upL_same, upI_ne, upL_ne, iI_ixN, zI_mk, zL_mk, zP_mk, zK_mk, zN_mk, zwI_up, zwL_up, zg_some, Nat.reduceMod, Nat.reduceDiv, zcn_I, K31]⟩, ⟨_, rfl, by simp (disch := omega) only [Nat.add_assoc, iI_ix, Int.toNat_natCast, Int.reduceToNat, Nat.reduceAdd, znew_up, zwP_up, nwR_P, nwR_N, nwR_Ks, nwR_Ko, pwR_R, pwR_s, pwR_o, upI_same, upL_same, upI_ne, upL_ne, iI_ixN, zI_mk, zL_mk, zP_mk, zK_mk, zN_mk, zwI_up, zwL_up, zg_some, Nat.reduceMod, Nat.reduceDiv, zcn_I, K31]⟩, Or.inr ⟨_, rfl⟩⟩
  simp (disch := omega) only [Nat.add_assoc, iI_ix, Int.toNat_natCast, Int.reduceToNat, Nat.reduceAdd, znew_up, zwP_up, nwR_P, nwR_N, nwR_Ks, nwR_Ko, pwR_R, pwR_s, pwR_o, upI_same, upL_same, upI_ne, upL_ne, iI_ixN, zI_mk, zL_mk, zP_mk, zK_mk, zN_mk, zwI_up, zwL_up, zg_some, Nat.reduceMod, Nat.reduceDiv, zcn_I]
  refine hQ _ (fun b hb => ⟨?_, ?_⟩) ?_ (mB_z B31)
  · rw [pwR_row (by omega)]
    exact (B31.1 b hb).1
  · exact (B31.1 b hb).2
  · exact B31.2.2.1
theorem mf_0 {R' : zRt} (h : ML y R') (hN : R'.2.2 = y + 1941) (h0 : ∀ a, y ≤ a → I a = fun _ => 0) : mf y T0 (upI I y 34 (iI (-1)), L, R') := by
  have n0 : ∀ {p : Nat → Prop} (i : Nat), i < 0 → p i := fun i q => absurd q (Nat.not_lt_zero i)
  have z : ∀ a k, y ≤ a → ¬ (a = y ∧ k = 34) → upI I y 34 (iI (-1)) a k = iI 0 := fun a k q q2 => by
    rw [upI_ne q2, h0 a q]
    exact iI_0.symm
  refine ⟨⟨⟨Nat.zero_le _, n0, fun i j _ q => absurd q (Nat.not_lt_zero j)⟩, ⟨Nat.zero_le _, n0⟩, ⟨Nat.zero_le _, fun c q => by cases q⟩, ⟨Nat.zero_le _, n0⟩, ⟨Nat.zero_le _, n0⟩, Nat.zero_le _⟩, h, by show y + 1941 ≤ R'.2.2; omega, ⟨z _ _ (by omega) (by omega), fun i hi => absurd hi (Nat.not_lt_zero i)⟩, ⟨z _ _ (by omega) (by omega), n0, fun i _ _ => z _ _ (by omega) (by omega)⟩, ⟨z _ _ (by omega) (by omega), fun i hi => absurd hi (Nat.not_lt_zero i)⟩, ⟨z _ _ (by omega) (by omega), n0⟩, ⟨z _ _ (by omega) (by omega), n0, fun j _ hj => ⟨z _ _ (by omega) (by omega), z _ _ (by omega) (by omega), z _ _ (by omega) (by omega), fun c hc => ⟨z _ _ (by omega) (by omega), z _ _ (by omega) (by omega), z _ _ (by omega) (by omega), z _ _ (by omega) (by omega), z _ _ (by omega) (by omega)⟩⟩⟩, z _ _ (by omega) (by omega), Or.inl ?_⟩
  exact upI_same _ _ _ _
end MINI
