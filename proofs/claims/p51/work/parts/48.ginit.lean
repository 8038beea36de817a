/-! Rows of rows; the graph's making. -/
theorem zmaR_R {I : Nat → Nat → Int32} {L : Nat → Nat → Int64} {R : zRt} (T t n m : Nat) : ∀ i, i ≤ n → ∃ R' : zRt, zmaR (zma1 t m) (I, L, R) T n i = (I, L, R') ∧ R'.2.2 = R.2.2 + 1 + i ∧ R'.2.1 R.2.2 = some (T, n) ∧ (∀ j, j < i → R'.2.1 (R.2.2 + 1 + j) = some (20 + t, m) ∧ R'.1 R.2.2 j = some (R.2.2 + 1 + j)) ∧ (∀ b, b ≠ R.2.2 → R'.1 b = R.1 b) ∧ ∀ b, b < R.2.2 → R'.2.1 b = R.2.1 b
  | 0, _ => ⟨nwR R R.2.2 T n, rfl, rfl, nwR_Ks rfl, fun j h => absurd h (Nat.not_lt_zero j), fun _ _ => rfl, fun b h => nwR_Ko (by omega)⟩
  | i + 1, h => by
    obtain ⟨R1, e1, e2, e3, e4, e5, e6⟩ := zmaR_R (I := I) (L := L) (R := R) T t n m i (by omega)
    refine ⟨pwR (nwR R1 R1.2.2 (20 + t) m) R.2.2 i (some R1.2.2), ?_, ?_, ?_, fun j hj => ⟨?_, ?_⟩, fun b hb => ?_, fun b hb => ?_⟩
    · show zwP (zma1 t m (zmaR (zma1 t m) (I, L, R) T n i)) (zN (I, L, R)) i (some (zN (zmaR (zma1 t m) (I, L, R) T n i))) = _
      rw [e1]
      rfl
    · show R1.2.2 + 1 = _
      rw [e2]
      omega
    · rw [pwR_R, nwR_Ko (by omega)]
      exact e3
    · rw [pwR_R]
      by_cases c : j = i
      · rw [nwR_Ks (by omega)]
      · rw [nwR_Ko (by omega)]
        exact (e4 j (by omega)).1
    · by_cases c : j = i
      · rw [c, pwR_s, e2]
      · rw [pwR_o (by omega), nwR_P]
        exact (e4 j (by omega)).2
    · rw [pwR_row hb, nwR_P]
      exact e5 b hb
    · rw [pwR_R, nwR_Ko (by omega)]
      exact e6 b hb
theorem zma2_R (I : Nat → Nat → Int32) (L : Nat → Nat → Int64) (R : zRt) (o t n m : Nat) : ∃ R' : zRt, zma2 o t n m (I, L, R) = (I, L, R') ∧ R'.2.2 = R.2.2 + 1 + n ∧ R'.2.1 R.2.2 = some (20 + o, n) ∧ (∀ j, j < n → R'.2.1 (R.2.2 + 1 + j) = some (20 + t, m) ∧ R'.1 R.2.2 j = some (R.2.2 + 1 + j)) ∧ (∀ b, b ≠ R.2.2 → R'.1 b = R.1 b) ∧ ∀ b, b < R.2.2 → R'.2.1 b = R.2.1 b := zmaR_R (20 + o) t n m n (Nat.le_refl _)
section GINIT
variable {d g : Nat} {I : Nat → Nat → Int32} {L : Nat → Nat → Int64} {R : zRt} {Q : zO → zM → Prop}
theorem ginit_ok (hd : 2 ≤ d) (hN : R.2.2 = g + 1) (hK : R.2.1 g = some (1, 0)) 
    (hQ : ∀ R', zol g R R' → R'.2.1 g = R.2.1 g → R'.2.2 = g + 17 → GL g R' → I (g + 15) = (fun _ => 0) → Q (.inl none) (I, L, R')) : zS 9 d [zr (some g)] (I, L, R) Q := by
  refine zW.go [4] rfl (by omega) ?_ ?_
  · exact ⟨_, rfl⟩
  refine zW.gm [] rfl rfl rfl (by omega) trivial ⟨show ¬ zcn 800 < 0 by decide, show (zcn 800).toNatClampNeg < 1000000 by decide⟩ (by decide +kernel) (by decide +kernel) (fun f1 => ?_)
  simp (disch := omega) only [Nat.add_assoc, iI_ix, Int.toNat_natCast, Int.reduceToNat, Nat.reduceAdd, znew_up, zwP_up, nwR_P, nwR_N, nwR_Ks, nwR_Ko, pwR_R, pwR_s, pwR_o, upI_same, upL_same, upI_ne, upL_ne, iI_ixN, zI_mk, zL_mk, zP_mk, zK_mk, zN_mk, zwI_up, zwL_up, zg_some, Nat.reduceMod, Nat.reduceDiv, zcn_I, hN]
  refine zW.gm [] rfl rfl rfl (by omega) ?_ ?_ (by decide +kernel) (by decide +kernel) (fun f2 => ?_)
  · exact ⟨⟨_, rfl, by simp (disch := omega) only [Nat.add_assoc, iI_ix, Int.toNat_natCast, Int.reduceToNat, Nat.reduceAdd, znew_up, zwP_up, nwR_P, nwR_N, nwR_Ks, nwR_Ko, pwR_R, pwR_s, pwR_o, upI_same, upL_same, upI_ne, upL_ne, iI_ixN, zI_mk, zL_mk, zP_mk, zK_mk, zN_mk, zwI_up, zwL_up, zg_some, Nat.reduceMod, Nat.reduceDiv, zcn_I, hK]⟩, Or.inr ⟨_, rfl⟩⟩
  · exact ⟨show ¬ zcn 8 < 0 by decide, show (zcn 8).toNatClampNeg ≤ 1000 by decide, show ¬ zcn 800 < 0 by decide, show (zcn 800).toNatClampNeg ≤ 1000 by decide⟩
  have l8 : (zcn 8).toNatClampNeg = 8 := by decide
  have l3 : (zcn 3).toNatClampNeg = 3 := by decide
  have l800 : (zcn 800).toNatClampNeg = 800 := by decide
  simp (disch := omega) only [Nat.add_assoc, iI_ix, Int.toNat_natCast, Int.reduceToNat, Nat.reduceAdd, znew_up, zwP_up, nwR_P, nwR_N, nwR_Ks, nwR_Ko, pwR_R, pwR_s, pwR_o, upI_same, upL_same, upI_ne, upL_ne, iI_ixN, zI_mk, zL_mk, zP_mk, zK_mk, zN_mk, zwI_up, zwL_up, zg_some, Nat.reduceMod, Nat.reduceDiv, zcn_I, hN]
  obtain ⟨R2, e1, e2, e3, e4, e5, e6⟩ := zma2_R I L (pwR (nwR R (g + 1) 21 800) g 0 (some (g + 1))) 5 0 8 800
  rw [e1]
  simp only [Nat.add_assoc, iI_ix, Int.toNat_natCast, Int.reduceToNat, Nat.reduceAdd, znew_up, zwP_up, nwR_P, nwR_N, nwR_Ks, nwR_Ko, pwR_R, pwR_s, pwR_o] at e2 e3 e4 e5 e6
  have hK2 : R2.2.1 g = some (1, 0) := by
    rw [e6 g (by omega)]
    simp (disch := omega) only [Nat.add_assoc, iI_ix, Int.toNat_natCast, Int.reduceToNat, Nat.reduceAdd, znew_up, zwP_up, nwR_P, nwR_N, nwR_Ks, nwR_Ko, pwR_R, pwR_s, pwR_o, upI_same, upL_same, upI_ne, upL_ne, iI_ixN, zI_mk, zL_mk, zP_mk, zK_mk, zN_mk, zwI_up, zwL_up, zg_some, Nat.reduceMod, Nat.reduceDiv, zcn_I, hK]
  refine zW.gm [] rfl rfl rfl (by omega) ?_ ?_ (by decide +kernel) (by decide +kernel) (fun f3 => ?_)
  · exact ⟨⟨_, rfl, by simp (disch := omega) only [Nat.add_assoc, iI_ix, Int.toNat_natCast, Int.reduceToNat, Nat.reduceAdd, znew_up, zwP_up, nwR_P, nwR_N, nwR_Ks, nwR_Ko, pwR_R, pwR_s, pwR_o, upI_same, upL_same, upI_ne, upL_ne, iI_ixN, zI_mk, zL_mk, zP_mk, zK_mk, zN_mk, zwI_up, zwL_up, zg_some, Nat.reduceMod, Nat.reduceDiv, zcn_I, hK2]⟩, Or.inr ⟨_, rfl⟩⟩
  · exact ⟨show ¬ zcn 3 < 0 by decide, show (zcn 3).toNatClampNeg ≤ 1000 by decide, show ¬ zcn 800 < 0 by decide, show (zcn 800).toNatClampNeg ≤ 1000 by decide⟩
  simp (disch := omega) only [Nat.add_assoc, iI_ix, Int.toNat_natCast, Int.reduceToNat, Nat.reduceAdd, znew_up, zwP_up, nwR_P, nwR_N, nwR_Ks, nwR_Ko, pwR_R, pwR_s, pwR_o, upI_same, upL_same, upI_ne, upL_ne, iI_ixN, zI_mk, zL_mk, zP_mk, zK_mk, zN_mk, zwI_up, zwL_up, zg_some, Nat.reduceMod, Nat.reduceDiv, zcn_I, hN, e2]
  obtain ⟨R3, u1, u2, u3, u4, u5, u6⟩ := zma2_R I L (pwR R2 g 1 (some (g + 2))) 5 0 3 800
  rw [u1]
  simp only [Nat.add_assoc, iI_ix, Int.toNat_natCast, Int.reduceToNat, Nat.reduceAdd, znew_up, zwP_up, nwR_P, nwR_N, nwR_Ks, nwR_Ko, pwR_R, pwR_s, pwR_o, e2] at u2 u3 u4 u5 u6
  have hK3 : R3.2.1 g = some (1, 0) := by
    rw [u6 g (by omega)]
    exact hK2
  refine zW.gm [] rfl rfl rfl (by omega) ?_ ⟨show ¬ zcn 3 < 0 by decide, show (zcn 3).toNatClampNeg < 1000000 by decide⟩ (by decide +kernel) (by decide +kernel) (fun f4 => ?_)
  · exact ⟨⟨_, rfl, by simp (disch := omega) only [Nat.add_assoc, iI_ix, Int.toNat_natCast, Int.reduceToNat, Nat.reduceAdd, znew_up, zwP_up, nwR_P, nwR_N, nwR_Ks, nwR_Ko, pwR_R, pwR_s, pwR_o, upI_same, upL_same, upI_ne, upL_ne, iI_ixN, zI_mk, zL_mk, zP_mk, zK_mk, zN_mk, zwI_up, zwL_up, zg_some, Nat.reduceMod, Nat.reduceDiv, zcn_I, hK3]⟩, Or.inr ⟨_, rfl⟩⟩
  simp (disch := omega) only [Nat.add_assoc, iI_ix, Int.toNat_natCast, Int.reduceToNat, Nat.reduceAdd, znew_up, zwP_up, nwR_P, nwR_N, nwR_Ks, nwR_Ko, pwR_R, pwR_s, pwR_o, upI_same, upL_same, upI_ne, upL_ne, iI_ixN, zI_mk, zL_mk, zP_mk, zK_mk, zN_mk, zwI_up, zwL_up, zg_some, Nat.reduceMod, Nat.reduceDiv, zcn_I, u2] at f4
  simp (disch := omega) only [Nat.add_assoc, iI_ix, Int.toNat_natCast, Int.reduceToNat, Nat.reduceAdd, znew_up, zwP_up, nwR_P, nwR_N, nwR_Ks, nwR_Ko, pwR_R, pwR_s, pwR_o, upI_same, upL_same, upI_ne, upL_ne, iI_ixN, zI_mk, zL_mk, zP_mk, zK_mk, zN_mk, zwI_up, zwL_up, zg_some, Nat.reduceMod, Nat.reduceDiv, zcn_I, u2]
  refine zW.gm [] rfl rfl rfl (by omega) ?_ ⟨show ¬ zcn 800 < 0 by decide, show (zcn 800).toNatClampNeg < 1000000 by decide⟩ (by decide +kernel) (by decide +kernel) (fun f5 => ?_)
  · exact ⟨⟨_, rfl, by simp (disch := omega) only [Nat.add_assoc, iI_ix, Int.toNat_natCast, Int.reduceToNat, Nat.reduceAdd, znew_up, zwP_up, nwR_P, nwR_N, nwR_Ks, nwR_Ko, pwR_R, pwR_s, pwR_o, upI_same, upL_same, upI_ne, upL_ne, iI_ixN, zI_mk, zL_mk, zP_mk, zK_mk, zN_mk, zwI_up, zwL_up, zg_some, Nat.reduceMod, Nat.reduceDiv, zcn_I, hK3]⟩, Or.inr ⟨_, rfl⟩⟩
  simp (disch := omega) only [Nat.add_assoc, iI_ix, Int.toNat_natCast, Int.reduceToNat, Nat.reduceAdd, znew_up, zwP_up, nwR_P, nwR_N, nwR_Ks, nwR_Ko, pwR_R, pwR_s, pwR_o, upI_same, upL_same, upI_ne, upL_ne, iI_ixN, zI_mk, zL_mk, zP_mk, zK_mk, zN_mk, zwI_up, zwL_up, zg_some, Nat.reduceMod, Nat.reduceDiv, zcn_I, u2]
  refine zW.gr [] rfl rfl rfl (by omega) ?_ trivial ?_
  · exact ⟨⟨_, rfl, by simp (disch := omega) only [Nat.add_assoc, iI_ix, Int.toNat_natCast, Int.reduceToNat, Nat.reduceAdd, znew_up, zwP_up, nwR_P, nwR_N, nwR_Ks, nwR_Ko, pwR_R, pwR_s, pwR_o, upI_same, upL_same, upI_ne, upL_ne, iI_ixN, zI_mk, zL_mk, zP_mk, zK_mk, zN_mk, zwI_up, zwL_up, zg_some, Nat.reduceMod, Nat.reduceDiv, zcn_I, hK3]⟩, Or.inr ⟨_, rfl⟩⟩
  simp (disch := omega) only [Nat.add_assoc, iI_ix, Int.toNat_natCast, Int.reduceToNat, Nat.reduceAdd, znew_up, zwP_up, nwR_P, nwR_N, nwR_Ks, nwR_Ko, pwR_R, pwR_s, pwR_o, upI_same, upL_same, upI_ne, upL_ne, iI_ixN, zI_mk, zL_mk, zP_mk, zK_mk, zN_mk, zwI_up, zwL_up, zg_some, Nat.reduceMod, Nat.reduceDiv, zcn_I, u2]
  have P3 : R3.1 g = (pwR R2 g 1 (some (g + 2))).1 g := u5 g (by omega)
  have P2 : R2.1 g = (pwR (nwR R (g + 1) 21 800) g 0 (some (g + 1))).1 g := e5 g (by omega)
  have K1 : R3.2.1 (g + 1) = some (21, 800) := by
    rw [u6 _ (by omega), e6 _ (by omega)]
    simp (disch := omega) only [Nat.add_assoc, iI_ix, Int.toNat_natCast, Int.reduceToNat, Nat.reduceAdd, znew_up, zwP_up, nwR_P, nwR_N, nwR_Ks, nwR_Ko, pwR_R, pwR_s, pwR_o, upI_same, upL_same, upI_ne, upL_ne, iI_ixN, zI_mk, zL_mk, zP_mk, zK_mk, zN_mk, zwI_up, zwL_up, zg_some, Nat.reduceMod, Nat.reduceDiv, zcn_I]
  have K2 : R3.2.1 (g + 2) = some (25, 8) := by
    rw [u6 _ (by omega)]
    exact e3
  have P20 : R2.1 g 0 = some (g + 1) := by rw [P2, pwR_s]
  refine hQ _ (fun b hb => ⟨?_, ?_⟩) ?_ ?_ ⟨?_, ?_, ?_, ?_, ?_, ?_, ?_, ?_, ?_, ?_, ?_, fun i hi => ⟨?_, ?_⟩, fun i hi => ⟨?_, ?_⟩⟩ ?_
  · rw [pwR_row (by omega), nwR_P, pwR_row (by omega), nwR_P, pwR_row (by omega), u5 b (by omega), pwR_row (by omega), e5 b (by omega), pwR_row (by omega), nwR_P]
  · simp (disch := omega) only [Nat.add_assoc, iI_ix, Int.toNat_natCast, Int.reduceToNat, Nat.reduceAdd, znew_up, zwP_up, nwR_P, nwR_N, nwR_Ks, nwR_Ko, pwR_R, pwR_s, pwR_o, upI_same, upL_same, upI_ne, upL_ne, iI_ixN, zI_mk, zL_mk, zP_mk, zK_mk, zN_mk, zwI_up, zwL_up, zg_some, Nat.reduceMod, Nat.reduceDiv, zcn_I]
    rw [u6 b (by omega), e6 b (by omega)]
    simp (disch := omega) only [Nat.add_assoc, iI_ix, Int.toNat_natCast, Int.reduceToNat, Nat.reduceAdd, znew_up, zwP_up, nwR_P, nwR_N, nwR_Ks, nwR_Ko, pwR_R, pwR_s, pwR_o, upI_same, upL_same, upI_ne, upL_ne, iI_ixN, zI_mk, zL_mk, zP_mk, zK_mk, zN_mk, zwI_up, zwL_up, zg_some, Nat.reduceMod, Nat.reduceDiv, zcn_I]
  · simp (disch := omega) only [Nat.add_assoc, iI_ix, Int.toNat_natCast, Int.reduceToNat, Nat.reduceAdd, znew_up, zwP_up, nwR_P, nwR_N, nwR_Ks, nwR_Ko, pwR_R, pwR_s, pwR_o, upI_same, upL_same, upI_ne, upL_ne, iI_ixN, zI_mk, zL_mk, zP_mk, zK_mk, zN_mk, zwI_up, zwL_up, zg_some, Nat.reduceMod, Nat.reduceDiv, zcn_I]
    rw [hK3, hK]
  · simp (disch := omega) only [Nat.add_assoc, iI_ix, Int.toNat_natCast, Int.reduceToNat, Nat.reduceAdd, znew_up, zwP_up, nwR_P, nwR_N, nwR_Ks, nwR_Ko, pwR_R, pwR_s, pwR_o, upI_same, upL_same, upI_ne, upL_ne, iI_ixN, zI_mk, zL_mk, zP_mk, zK_mk, zN_mk, zwI_up, zwL_up, zg_some, Nat.reduceMod, Nat.reduceDiv, zcn_I]
  · simp (disch := omega) only [Nat.add_assoc, iI_ix, Int.toNat_natCast, Int.reduceToNat, Nat.reduceAdd, znew_up, zwP_up, nwR_P, nwR_N, nwR_Ks, nwR_Ko, pwR_R, pwR_s, pwR_o, upI_same, upL_same, upI_ne, upL_ne, iI_ixN, zI_mk, zL_mk, zP_mk, zK_mk, zN_mk, zwI_up, zwL_up, zg_some, Nat.reduceMod, Nat.reduceDiv, zcn_I]
    exact hK3
  · simp (disch := omega) only [Nat.add_assoc, iI_ix, Int.toNat_natCast, Int.reduceToNat, Nat.reduceAdd, znew_up, zwP_up, nwR_P, nwR_N, nwR_Ks, nwR_Ko, pwR_R, pwR_s, pwR_o, upI_same, upL_same, upI_ne, upL_ne, iI_ixN, zI_mk, zL_mk, zP_mk, zK_mk, zN_mk, zwI_up, zwL_up, zg_some, Nat.reduceMod, Nat.reduceDiv, zcn_I]
    rw [P3, pwR_o (by omega), P20]
  · simp (disch := omega) only [Nat.add_assoc, iI_ix, Int.toNat_natCast, Int.reduceToNat, Nat.reduceAdd, znew_up, zwP_up, nwR_P, nwR_N, nwR_Ks, nwR_Ko, pwR_R, pwR_s, pwR_o, upI_same, upL_same, upI_ne, upL_ne, iI_ixN, zI_mk, zL_mk, zP_mk, zK_mk, zN_mk, zwI_up, zwL_up, zg_some, Nat.reduceMod, Nat.reduceDiv, zcn_I]
    rw [P3, pwR_s]
  · simp (disch := omega) only [Nat.add_assoc, iI_ix, Int.toNat_natCast, Int.reduceToNat, Nat.reduceAdd, znew_up, zwP_up, nwR_P, nwR_N, nwR_Ks, nwR_Ko, pwR_R, pwR_s, pwR_o, upI_same, upL_same, upI_ne, upL_ne, iI_ixN, zI_mk, zL_mk, zP_mk, zK_mk, zN_mk, zwI_up, zwL_up, zg_some, Nat.reduceMod, Nat.reduceDiv, zcn_I]
  · simp (disch := omega) only [Nat.add_assoc, iI_ix, Int.toNat_natCast, Int.reduceToNat, Nat.reduceAdd, znew_up, zwP_up, nwR_P, nwR_N, nwR_Ks, nwR_Ko, pwR_R, pwR_s, pwR_o, upI_same, upL_same, upI_ne, upL_ne, iI_ixN, zI_mk, zL_mk, zP_mk, zK_mk, zN_mk, zwI_up, zwL_up, zg_some, Nat.reduceMod, Nat.reduceDiv, zcn_I]
  · simp (disch := omega) only [Nat.add_assoc, iI_ix, Int.toNat_natCast, Int.reduceToNat, Nat.reduceAdd, znew_up, zwP_up, nwR_P, nwR_N, nwR_Ks, nwR_Ko, pwR_R, pwR_s, pwR_o, upI_same, upL_same, upI_ne, upL_ne, iI_ixN, zI_mk, zL_mk, zP_mk, zK_mk, zN_mk, zwI_up, zwL_up, zg_some, Nat.reduceMod, Nat.reduceDiv, zcn_I]
  · simp (disch := omega) only [Nat.add_assoc, iI_ix, Int.toNat_natCast, Int.reduceToNat, Nat.reduceAdd, znew_up, zwP_up, nwR_P, nwR_N, nwR_Ks, nwR_Ko, pwR_R, pwR_s, pwR_o, upI_same, upL_same, upI_ne, upL_ne, iI_ixN, zI_mk, zL_mk, zP_mk, zK_mk, zN_mk, zwI_up, zwL_up, zg_some, Nat.reduceMod, Nat.reduceDiv, zcn_I]
    exact K1
  · simp (disch := omega) only [Nat.add_assoc, iI_ix, Int.toNat_natCast, Int.reduceToNat, Nat.reduceAdd, znew_up, zwP_up, nwR_P, nwR_N, nwR_Ks, nwR_Ko, pwR_R, pwR_s, pwR_o, upI_same, upL_same, upI_ne, upL_ne, iI_ixN, zI_mk, zL_mk, zP_mk, zK_mk, zN_mk, zwI_up, zwL_up, zg_some, Nat.reduceMod, Nat.reduceDiv, zcn_I]
    exact K2
  · simp (disch := omega) only [Nat.add_assoc, iI_ix, Int.toNat_natCast, Int.reduceToNat, Nat.reduceAdd, znew_up, zwP_up, nwR_P, nwR_N, nwR_Ks, nwR_Ko, pwR_R, pwR_s, pwR_o, upI_same, upL_same, upI_ne, upL_ne, iI_ixN, zI_mk, zL_mk, zP_mk, zK_mk, zN_mk, zwI_up, zwL_up, zg_some, Nat.reduceMod, Nat.reduceDiv, zcn_I]
    exact u3
  · simp (disch := omega) only [Nat.add_assoc, iI_ix, Int.toNat_natCast, Int.reduceToNat, Nat.reduceAdd, znew_up, zwP_up, nwR_P, nwR_N, nwR_Ks, nwR_Ko, pwR_R, pwR_s, pwR_o, upI_same, upL_same, upI_ne, upL_ne, iI_ixN, zI_mk, zL_mk, zP_mk, zK_mk, zN_mk, zwI_up, zwL_up, zg_some, Nat.reduceMod, Nat.reduceDiv, zcn_I]
  · simp (disch := omega) only [Nat.add_assoc, iI_ix, Int.toNat_natCast, Int.reduceToNat, Nat.reduceAdd, znew_up, zwP_up, nwR_P, nwR_N, nwR_Ks, nwR_Ko, pwR_R, pwR_s, pwR_o, upI_same, upL_same, upI_ne, upL_ne, iI_ixN, zI_mk, zL_mk, zP_mk, zK_mk, zN_mk, zwI_up, zwL_up, zg_some, Nat.reduceMod, Nat.reduceDiv, zcn_I]
  · rw [pwR_row (by omega), nwR_P, pwR_row (by omega), nwR_P, pwR_row (by omega), u5 _ (by omega), pwR_row (by omega)]
    rw [(e4 i hi).2]
    congr 1
    omega
  · simp (disch := omega) only [Nat.add_assoc, iI_ix, Int.toNat_natCast, Int.reduceToNat, Nat.reduceAdd, znew_up, zwP_up, nwR_P, nwR_N, nwR_Ks, nwR_Ko, pwR_R, pwR_s, pwR_o, upI_same, upL_same, upI_ne, upL_ne, iI_ixN, zI_mk, zL_mk, zP_mk, zK_mk, zN_mk, zwI_up, zwL_up, zg_some, Nat.reduceMod, Nat.reduceDiv, zcn_I]
    rw [u6 _ (by omega)]
    exact (e4 i hi).1
  · rw [pwR_row (by omega), nwR_P, pwR_row (by omega), nwR_P, pwR_row (by omega)]
    rw [(u4 i hi).2]
    congr 1
    omega
  · simp (disch := omega) only [Nat.add_assoc, iI_ix, Int.toNat_natCast, Int.reduceToNat, Nat.reduceAdd, znew_up, zwP_up, nwR_P, nwR_N, nwR_Ks, nwR_Ko, pwR_R, pwR_s, pwR_o, upI_same, upL_same, upI_ne, upL_ne, iI_ixN, zI_mk, zL_mk, zP_mk, zK_mk, zN_mk, zwI_up, zwL_up, zg_some, Nat.reduceMod, Nat.reduceDiv, zcn_I]
    exact (u4 i hi).1
  · exact fresh_I f4
end GINIT
