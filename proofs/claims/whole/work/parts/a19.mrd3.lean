/-! The model's ranks. -/
section MRD3
variable {d y : Nat} {T : tfT} {I : Nat → Nat → Int32} {L : Nat → Nat → Int64} {R : zRt} {Q : zO → zM → Prop}
theorem rAv_no {w : zRd} {c : Nat} (h : ¬ (rFm w = 53 ∨ rFm w = 51)) : rAv w c = 0 := by
  unfold rAv avg
  exact if_neg (fun q => h q.1)
theorem mBet_ok {j u v : Nat} {a b e : Int32} (hd : 3 ≤ d) (h : mf y T (I, L, R)) (hj : j < tRn T) (e1 : a = iI (j : Int)) (e2 : b = iI (u : Int)) (e3 : e = iI (v : Int)) (hu : u < 12) (hv : v < 12) (hQ : ∀ q, tru (rkey (tRd T j) u < rkey (tRd T j) v) q → Q (.inl (some (zi q))) (I, L, R)) : zS 239 d [zr (some y), zi a, zi b, zi e] (I, L, R) Q := by
  subst e1; subst e2; subst e3
  have hM := h.2.1
  have k0 : R.2.1 y = some (7, 0) := hM.1
  obtain ⟨j8, ho, hz, r1, r2, r3, r4, r5, r6, r7⟩ := m_rd h hj
  have hfm := fm_lt ho
  have lb1 := rBs_le ho hu
  have lb2 := rBs_le ho hv
  obtain ⟨-, -, -, t1, n1, -⟩ := ho.2.2.2.2 u hu
  obtain ⟨-, -, -, t2, n2, -⟩ := ho.2.2.2.2 v hv
  have p20 : R.1 y 20 = some (y + 1785) := (hM.2.1 20 (by decide)).1; have k20 : R.2.1 (y + 1785) = some (23, 8) := (hM.2.1 20 (by decide)).2; have p30 : R.1 y 30 = some (y + 1923) := (hM.2.1 30 (by decide)).1; have k30 : R.2.1 (y + 1923) = some (25, 8) := (hM.2.1 30 (by decide)).2; have q30 : R.1 (y + 1923) (j) = some (y + 1924 + j) := (hM.2.2.2.2.2.2.2.2.2.2.2.2.2.1 (j) (by omega)).1.trans (congrArg some (by omega)); have j30 : R.2.1 (y + 1924 + j) = some (20, 12) := (congrArg R.2.1 (by omega)).trans (hM.2.2.2.2.2.2.2.2.2.2.2.2.2.1 (j) (by omega)).2; have p31 : R.1 y 31 = some (y + 1932) := (hM.2.1 31 (by decide)).1; have k31 : R.2.1 (y + 1932) = some (25, 8) := (hM.2.1 31 (by decide)).2; have q31 : R.1 (y + 1932) (j) = some (y + 1933 + j) := (hM.2.2.2.2.2.2.2.2.2.2.2.2.2.2 (j) (by omega)).1.trans (congrArg some (by omega)); have j31 : R.2.1 (y + 1933 + j) = some (20, 12) := (congrArg R.2.1 (by omega)).trans (hM.2.2.2.2.2.2.2.2.2.2.2.2.2.2 (j) (by omega)).2
  by_cases c109 : rFm (tRd T j) = 109
  · have ek : ∀ c, rkey (tRd T j) c = (60399 - (rBs (tRd T j) c : Int)) * 1099511627776 + (if rBs (tRd T j) c = 0 then 0 else (rTi (tRd T j) c : Int) * 64 + rUn (tRd T j) c) := fun c => if_pos c109
    rw [ek, ek] at hQ
    refine zW.gbf [] rfl rfl rfl (by omega) (by simp (disch := omega) only [true_or, or_true, eq_self, Option.some.injEq, Prod.mk.injEq, zall_0, zall_1, zall_2, zob_iff, zar_iff, zis_iff, zkIs_some, zkHas_some, iI_vp, z01_I, z01_bz, zch_I, true_and, and_true, or_false, false_or, and_self, upI_same, upL_same, upI_ne, upL_ne, iI_ixN, zI_mk, zL_mk, zP_mk, zK_mk, zN_mk, zwI_up, zwL_up, zg_some, Nat.reduceMod, Nat.reduceDiv, zcn_I, iI_add, iI_sub, iI_mul, iI_neg, iI_lt, iI_le, iI_eq, iI_lt0, iI_le0, iI_gt0, iI_ge0, iI_eq0, k0, p20, k20] <;> omega) ?_ ?_
    · simp (disch := omega) only [upI_same, upL_same, upI_ne, upL_ne, iI_ixN, zI_mk, zL_mk, zP_mk, zK_mk, zN_mk, zwI_up, zwL_up, zg_some, Nat.reduceMod, Nat.reduceDiv, p20, r1]
      rw [c109]
      exact fun n => n (zcn_I _).symm
    refine zW.gz [] rfl rfl rfl (by omega) trivial ⟨_, rfl, k0⟩ rfl rfl (by decide +kernel) (by decide +kernel) ?_
    refine mBest_ok (by omega) h hj rfl rfl hv ?_
    refine zW.gz [] rfl rfl rfl (by omega) trivial ⟨_, rfl, k0⟩ rfl rfl (by decide +kernel) (by decide +kernel) ?_
    refine mBest_ok (by omega) h hj rfl rfl hu ?_
    refine zW.gz [] rfl rfl rfl (by omega) trivial ⟨_, rfl, k0⟩ rfl rfl (by decide +kernel) (by decide +kernel) ?_
    refine mBest_ok (by omega) h hj rfl rfl hu ?_
    -- the last question, of a number
    have E : ∀ (w : Int) (v4 : Option zV) (x5 : Int32), -1000000 ≤ w → w ≤ 1000000 → (w < 0 ↔ rkey (tRd T j) u < rkey (tRd T j) v) → zW 239 d 0 0 108 [some (zr (some y)), some (zi (iI (j : Int))), some (zi (iI (u : Int))), some (zi (iI (v : Int))), v4, some (zi x5)] [zi (iI w)] (I, L, R) Q := fun w v4 x5 w1 w2 hw => by
      rw [ek, ek] at hw
      refine zW.gb [] rfl rfl rfl (by omega) trivial (fun h' => ?_) (fun h' => ?_) <;> simp (disch := omega) only [zcn_I, iI_add, iI_sub, iI_mul, iI_neg, iI_lt, iI_le, iI_eq, iI_lt0, iI_le0, iI_gt0, iI_ge0, iI_eq0] at h'
      · exact zW.gr [] rfl rfl rfl (by omega) trivial z01c0 (hQ _ (tru_f (fun q => by have := hw.mpr q; omega)))
      · exact zW.gr [] rfl rfl rfl (by omega) trivial z01c1 (hQ _ (tru_t (hw.mp (by omega))))
    have F : ∀ q5, tru (0 < rBs (tRd T j) u) q5 → zW 239 d 0 0 40 [some (zr (some y)), some (zi (iI (j : Int))), some (zi (iI (u : Int))), some (zi (iI (v : Int))), some (zi (iI ((rBs (tRd T j) v : Int) - (rBs (tRd T j) u : Int)))), none] [zi q5] (I, L, R) Q := fun q5 hq5 => by
      -- second
      have G : ∀ (w : Int) (v4 : Option zV), -1000000 ≤ w → w ≤ 1000000 → ((w ≠ 0 ∨ rBs (tRd T j) u = 0) → (w < 0 ↔ rkey (tRd T j) u < rkey (tRd T j) v)) → (w = 0 → 0 < rBs (tRd T j) u → rBs (tRd T j) u = rBs (tRd T j) v ∧ rTi (tRd T j) u = rTi (tRd T j) v) → zW 239 d 0 0 74 [some (zr (some y)), some (zi (iI (j : Int))), some (zi (iI (u : Int))), some (zi (iI (v : Int))), v4, some (zi q5)] [zi (iI w)] (I, L, R) Q := fun w v4 w1 w2 hw1 hw2 => by
        have X : (w ≠ 0 ∨ rBs (tRd T j) u = 0) → zW 239 d 0 0 86 [some (zr (some y)), some (zi (iI (j : Int))), some (zi (iI (u : Int))), some (zi (iI (v : Int))), some (zi (iI w)), some (zi q5)] [] (I, L, R) Q := fun hx => by
          refine zW.go [108] rfl (by omega) trivial ?_
          exact E w _ q5 w1 w2 (hw1 hx)
        refine zW.gb [] rfl rfl rfl (by omega) trivial (fun h' => ?_) (fun h' => ?_) <;> simp (disch := omega) only [zcn_I, iI_add, iI_sub, iI_mul, iI_neg, iI_lt, iI_le, iI_eq, iI_lt0, iI_le0, iI_gt0, iI_ge0, iI_eq0] at h'
        · exact X (Or.inl h')
        · rcases hq5 with ⟨g, rfl⟩ | ⟨g, rfl⟩
          · refine zW.gbt [] rfl rfl rfl (by omega) trivial (by simp (disch := omega) only [eq_self, not_true_eq_false, not_false_eq_true, upI_same, upL_same, upI_ne, upL_ne, iI_ixN, zI_mk, zL_mk, zP_mk, zK_mk, zN_mk, zwI_up, zwL_up, zg_some, Nat.reduceMod, Nat.reduceDiv, zcn_I, iI_add, iI_sub, iI_mul, iI_neg, iI_lt, iI_le, iI_eq, iI_lt0, iI_le0, iI_gt0, iI_ge0, iI_eq0] <;> omega) ?_
            refine zW.go [108] rfl (by omega) (by simp (disch := omega) only [true_or, or_true, eq_self, Option.some.injEq, Prod.mk.injEq, zall_0, zall_1, zall_2, zob_iff, zar_iff, zis_iff, zkIs_some, zkHas_some, iI_vp, z01_I, z01_bz, zch_I, true_and, and_true, or_false, false_or, and_self, upI_same, upL_same, upI_ne, upL_ne, iI_ixN, zI_mk, zL_mk, zP_mk, zK_mk, zN_mk, zwI_up, zwL_up, zg_some, Nat.reduceMod, Nat.reduceDiv, zcn_I, iI_add, iI_sub, iI_mul, iI_neg, iI_lt, iI_le, iI_eq, iI_lt0, iI_le0, iI_gt0, iI_ge0, iI_eq0, k0, p31, k31, q31, j31] <;> omega) ?_
            have vu := (r7 u hu).2.2.2.2.1
            have vv := (r7 v hv).2.2.2.2.1
            simp (disch := omega) only [upI_same, upL_same, upI_ne, upL_ne, iI_ixN, zI_mk, zL_mk, zP_mk, zK_mk, zN_mk, zwI_up, zwL_up, zg_some, Nat.reduceMod, Nat.reduceDiv, p31, q31, vu, vv, iI_sub]
            obtain ⟨b1, b2⟩ := hw2 (by omega) g
            refine E _ _ (iI 1) (by omega) (by omega) ?_
            rw [ek, ek, ← b1, ← b2, if_neg (by omega)]
            omega
          · refine zW.gbf [] rfl rfl rfl (by omega) trivial (by simp (disch := omega) only [eq_self, not_true_eq_false, not_false_eq_true, upI_same, upL_same, upI_ne, upL_ne, iI_ixN, zI_mk, zL_mk, zP_mk, zK_mk, zN_mk, zwI_up, zwL_up, zg_some, Nat.reduceMod, Nat.reduceDiv, zcn_I, iI_add, iI_sub, iI_mul, iI_neg, iI_lt, iI_le, iI_eq, iI_lt0, iI_le0, iI_gt0, iI_ge0, iI_eq0] <;> omega) ?_
            exact X (Or.inr (by omega))
      have Y : (rBs (tRd T j) u ≠ rBs (tRd T j) v ∨ rBs (tRd T j) u = 0) → zW 239 d 0 0 52 [some (zr (some y)), some (zi (iI (j : Int))), some (zi (iI (u : Int))), some (zi (iI (v : Int))), some (zi (iI ((rBs (tRd T j) v : Int) - (rBs (tRd T j) u : Int)))), some (zi q5)] [] (I, L, R) Q := fun hx => by
        refine zW.go [74] rfl (by omega) trivial ?_
        refine G _ _ (by omega) (by omega) (fun _ => ?_) (fun e1 e2 => by omega)
        rw [ek, ek]
        by_cases z1 : rBs (tRd T j) u = 0
        · rw [if_pos z1]
          by_cases z2 : rBs (tRd T j) v = 0
          · rw [if_pos z2]
            omega
          · rw [if_neg z2]
            omega
        · rw [if_neg z1]
          by_cases z2 : rBs (tRd T j) v = 0
          · rw [if_pos z2]
            omega
          · rw [if_neg z2]
            omega
      refine zW.gb [] rfl rfl rfl (by omega) trivial (fun h' => ?_) (fun h' => ?_) <;> simp (disch := omega) only [zcn_I, iI_add, iI_sub, iI_mul, iI_neg, iI_lt, iI_le, iI_eq, iI_lt0, iI_le0, iI_gt0, iI_ge0, iI_eq0] at h'
      · exact Y (Or.inl (by omega))
      · have hq5' := hq5
        rcases hq5' with ⟨g, rfl⟩ | ⟨g, rfl⟩
        · refine zW.gbt [] rfl rfl rfl (by omega) trivial (by simp (disch := omega) only [eq_self, not_true_eq_false, not_false_eq_true, upI_same, upL_same, upI_ne, upL_ne, iI_ixN, zI_mk, zL_mk, zP_mk, zK_mk, zN_mk, zwI_up, zwL_up, zg_some, Nat.reduceMod, Nat.reduceDiv, zcn_I, iI_add, iI_sub, iI_mul, iI_neg, iI_lt, iI_le, iI_eq, iI_lt0, iI_le0, iI_gt0, iI_ge0, iI_eq0] <;> omega) ?_
          refine zW.go [74] rfl (by omega) (by simp (disch := omega) only [true_or, or_true, eq_self, Option.some.injEq, Prod.mk.injEq, zall_0, zall_1, zall_2, zob_iff, zar_iff, zis_iff, zkIs_some, zkHas_some, iI_vp, z01_I, z01_bz, zch_I, true_and, and_true, or_false, false_or, and_self, upI_same, upL_same, upI_ne, upL_ne, iI_ixN, zI_mk, zL_mk, zP_mk, zK_mk, zN_mk, zwI_up, zwL_up, zg_some, Nat.reduceMod, Nat.reduceDiv, zcn_I, iI_add, iI_sub, iI_mul, iI_neg, iI_lt, iI_le, iI_eq, iI_lt0, iI_le0, iI_gt0, iI_ge0, iI_eq0, k0, p30, k30, q30, j30] <;> omega) ?_
          have vu := (r7 u hu).2.2.2.1
          have vv := (r7 v hv).2.2.2.1
          simp (disch := omega) only [upI_same, upL_same, upI_ne, upL_ne, iI_ixN, zI_mk, zL_mk, zP_mk, zK_mk, zN_mk, zwI_up, zwL_up, zg_some, Nat.reduceMod, Nat.reduceDiv, p30, q30, vu, vv, iI_sub]
          refine G _ _ (by omega) (by omega) (fun hx => ?_) (fun e1 e2 => by omega)
          rw [ek, ek, if_neg (by omega), if_neg (by omega)]
          omega
        · refine zW.gbf [] rfl rfl rfl (by omega) trivial (by simp (disch := omega) only [eq_self, not_true_eq_false, not_false_eq_true, upI_same, upL_same, upI_ne, upL_ne, iI_ixN, zI_mk, zL_mk, zP_mk, zK_mk, zN_mk, zwI_up, zwL_up, zg_some, Nat.reduceMod, Nat.reduceDiv, zcn_I, iI_add, iI_sub, iI_mul, iI_neg, iI_lt, iI_le, iI_eq, iI_lt0, iI_le0, iI_gt0, iI_ge0, iI_eq0] <;> omega) ?_
          exact Y (Or.inr (by omega))
    rw [iI_sub]
    refine zW.gb [] rfl rfl rfl (by omega) trivial (fun h' => ?_) (fun h' => ?_) <;> simp (disch := omega) only [zcn_I, iI_add, iI_sub, iI_mul, iI_neg, iI_lt, iI_le, iI_eq, iI_lt0, iI_le0, iI_gt0, iI_ge0, iI_eq0] at h'
    · exact zW.go [40] rfl (by omega) trivial (F _ (tru_f (by omega)))
    · exact zW.go [40] rfl (by omega) trivial (F _ (tru_t (by omega)))
  · have ek : ∀ c, rkey (tRd T j) c = (if rFm (tRd T j) = 53 ∨ rFm (tRd T j) = 51 then fK (rAv (tRd T j) c) else 0) * 2147483648 + fK (rBs (tRd T j) c) := fun c => if_neg c109
    have la1 := rAv_le ho hu
    have la2 := rAv_le ho hv
    have fK_rg : ∀ x : Nat, x ≤ 100666 → 0 ≤ fK x ∧ fK x ≤ 2147483647 := fun x hx => by
      unfold fK
      split <;> omega
    have g1 := fK_rg _ la1
    have g2 := fK_rg _ la2
    have g3 := fK_rg (rBs (tRd T j) u) (by omega)
    have g4 := fK_rg (rBs (tRd T j) v) (by omega)
    rw [ek, ek] at hQ
    refine zW.gbt [] rfl rfl rfl (by omega) (by simp (disch := omega) only [true_or, or_true, eq_self, Option.some.injEq, Prod.mk.injEq, zall_0, zall_1, zall_2, zob_iff, zar_iff, zis_iff, zkIs_some, zkHas_some, iI_vp, z01_I, z01_bz, zch_I, true_and, and_true, or_false, false_or, and_self, upI_same, upL_same, upI_ne, upL_ne, iI_ixN, zI_mk, zL_mk, zP_mk, zK_mk, zN_mk, zwI_up, zwL_up, zg_some, Nat.reduceMod, Nat.reduceDiv, zcn_I, iI_add, iI_sub, iI_mul, iI_neg, iI_lt, iI_le, iI_eq, iI_lt0, iI_le0, iI_gt0, iI_ge0, iI_eq0, k0, p20, k20] <;> omega) ?_ ?_
    · simp (disch := omega) only [upI_same, upL_same, upI_ne, upL_ne, iI_ixN, zI_mk, zL_mk, zP_mk, zK_mk, zN_mk, zwI_up, zwL_up, zg_some, Nat.reduceMod, Nat.reduceDiv, p20, r1]
      rw [zcn_I, iI_eq (by omega) (by omega) (by omega) (by omega)]
      omega
    refine zW.gz [] rfl rfl rfl (by omega) trivial ⟨_, rfl, k0⟩ rfl rfl (by decide +kernel) (by decide +kernel) ?_
    refine mAvg_ok (by omega) h hj rfl rfl hu ?_
    refine zW.gz [] rfl rfl rfl (by omega) trivial ⟨_, rfl, k0⟩ rfl rfl (by decide +kernel) (by decide +kernel) ?_
    refine mAvg_ok (by omega) h hj rfl rfl hv ?_
    refine zW.gz [] rfl rfl rfl (by omega) trivial trivial rfl rfl (by decide +kernel) (by decide +kernel) ?_
    refine vers_ok (by omega) rfl rfl la1 la2 (fun w w1 w2 w3 w4 => ?_)
    have E : ∀ (w : Int) (v4 : Option zV), -1000000 ≤ w → w ≤ 1000000 → (w < 0 ↔ rkey (tRd T j) u < rkey (tRd T j) v) → zW 239 d 0 0 163 [some (zr (some y)), some (zi (iI (j : Int))), some (zi (iI (u : Int))), some (zi (iI (v : Int))), v4, none] [zi (iI w)] (I, L, R) Q := fun w v4 w1 w2 hw => by
      rw [ek, ek] at hw
      refine zW.gb [] rfl rfl rfl (by omega) trivial (fun h' => ?_) (fun h' => ?_) <;> simp (disch := omega) only [zcn_I, iI_add, iI_sub, iI_mul, iI_neg, iI_lt, iI_le, iI_eq, iI_lt0, iI_le0, iI_gt0, iI_ge0, iI_eq0] at h'
      · exact zW.gr [] rfl rfl rfl (by omega) trivial z01c0 (hQ _ (tru_f (fun q => by have := hw.mpr q; omega)))
      · exact zW.gr [] rfl rfl rfl (by omega) trivial z01c1 (hQ _ (tru_t (hw.mp (by omega))))
    refine zW.gb [] rfl rfl rfl (by omega) trivial (fun h' => ?_) (fun h' => ?_) <;> simp (disch := omega) only [zcn_I, iI_add, iI_sub, iI_mul, iI_neg, iI_lt, iI_le, iI_eq, iI_lt0, iI_le0, iI_gt0, iI_ge0, iI_eq0] at h'
    · refine zW.gz [] rfl rfl rfl (by omega) trivial ⟨_, rfl, k0⟩ rfl rfl (by decide +kernel) (by decide +kernel) ?_
      refine mBest_ok (by omega) h hj rfl rfl hu ?_
      refine zW.gz [] rfl rfl rfl (by omega) trivial ⟨_, rfl, k0⟩ rfl rfl (by decide +kernel) (by decide +kernel) ?_
      refine mBest_ok (by omega) h hj rfl rfl hv ?_
      refine zW.gz [] rfl rfl rfl (by omega) trivial trivial rfl rfl (by decide +kernel) (by decide +kernel) ?_
      refine vers_ok (by omega) rfl rfl (by omega) (by omega) (fun w' x1 x2 x3 x4 => ?_)
      refine E w' _ x3 x4 ?_
      have ea := w2.mp (by omega)
      rw [ek, ek, ea, x1]
      split <;> omega
    · refine zW.go [163] rfl (by omega) trivial ?_
      refine E w _ w3 w4 ?_
      rw [ek, ek, w1]
      by_cases ca : rFm (tRd T j) = 53 ∨ rFm (tRd T j) = 51
      · rw [if_pos ca]
        have hne : fK (rAv (tRd T j) u) ≠ fK (rAv (tRd T j) v) := fun e => by
          have hne2 : ¬ rAv (tRd T j) u = rAv (tRd T j) v := fun q => h' (w2.mpr q)
          unfold fK at e
          split at e <;> split at e <;> omega
        omega
      · exfalso
        rw [rAv_no ca, rAv_no ca] at w2
        exact h' (w2.mpr rfl)
theorem nBet_n {w : zRd} (hz : ∀ c, tCn T ≤ c → c < 12 → rMa w c = 0) (h12 : tCn T ≤ 12) (c : Nat) : ct (fun i => decide (0 < rMa w i ∧ rkey w i < rkey w c)) (tCn T) = nBet w c := by
  have := ct_more (b := fun i => decide (0 < rMa w i ∧ rkey w i < rkey w c)) (n := tCn T) (m := 12 - tCn T) (fun k q1 q2 => decide_eq_false (fun q => by rw [hz k q1 (by omega)] at q; omega))
  rw [show tCn T + (12 - tCn T) = 12 by omega] at this
  exact this.symm
theorem rankO_lp {j c : Nat} (hd : 4 ≤ d) (h : mf y T (I, L, R)) (hj : j < tRn T) (hc : c < 12) (hQ : Q (.inl (some (zi (iI ((nBet (tRd T j) c + 1 : Nat) : Int))))) (I, L, R)) :
    ∀ n k, k + n = tCn T → ∀ (x z : Int32), x = iI ((ct (fun i => decide (0 < rMa (tRd T j) i ∧ rkey (tRd T j) i < rkey (tRd T j) c)) k + 1 : Nat) : Int) → z = iI (k : Int) → zW 240 d 0 0 5 [some (zr (some y)), some (zi (iI (j : Int))), some (zi (iI (c : Int))), some (zi x), some (zi z)] [] (I, L, R) Q
  | 0, k, hk, x, z, e1, e2 => by
    subst e1; subst e2
    have k0 : R.2.1 y = some (7, 0) := h.2.1.1
    obtain ⟨-, -, ⟨b1, b2⟩, -⟩ := m_own h
    obtain ⟨j8, ho, hz, -⟩ := m_rd h hj
    have h12 := h.1.2.2.2.1.1
    obtain rfl : k = tCn T := by omega
    refine zW.gbt [] rfl rfl rfl (by omega) (by simp (disch := omega) only [true_or, or_true, eq_self, Option.some.injEq, Prod.mk.injEq, zall_0, zall_1, zall_2, zob_iff, zar_iff, zis_iff, zkIs_some, zkHas_some, iI_vp, z01_I, z01_bz, zch_I, true_and, and_true, or_false, false_or, and_self, upI_same, upL_same, upI_ne, upL_ne, iI_ixN, zI_mk, zL_mk, zP_mk, zK_mk, zN_mk, zwI_up, zwL_up, zg_some, Nat.reduceMod, Nat.reduceDiv, zcn_I, iI_add, iI_sub, iI_mul, iI_neg, iI_lt, iI_le, iI_eq, iI_lt0, iI_le0, iI_gt0, iI_ge0, iI_eq0, k0] <;> omega) (by simp (disch := omega) only [eq_self, not_true_eq_false, not_false_eq_true, upI_same, upL_same, upI_ne, upL_ne, iI_ixN, zI_mk, zL_mk, zP_mk, zK_mk, zN_mk, zwI_up, zwL_up, zg_some, Nat.reduceMod, Nat.reduceDiv, zcn_I, iI_add, iI_sub, iI_mul, iI_neg, iI_lt, iI_le, iI_eq, iI_lt0, iI_le0, iI_gt0, iI_ge0, iI_eq0, b1] <;> omega) ?_
    refine zW.gr [] rfl rfl rfl (by omega) trivial trivial ?_
    rw [nBet_n hz h12 c]
    exact hQ
  | n + 1, k, hk, x, z, e1, e2 => by
    subst e1; subst e2
    have hM := h.2.1
    have k0 : R.2.1 y = some (7, 0) := hM.1
    obtain ⟨-, -, ⟨b1, b2⟩, -⟩ := m_own h
    obtain ⟨j8, ho, hz, r1, r2, r3, r4, r5, r6, r7⟩ := m_rd h hj
    have h12 := h.1.2.2.2.1.1
    have ma := (r7 k (by omega)).1
    have hm5 := (ho.2.2.2.2 k (by omega)).1
    have hx5 := mxA_le (rFm (tRd T j))
    have p26 : R.1 y 26 = some (y + 1791) := (hM.2.1 26 (by decide)).1; have k26 : R.2.1 (y + 1791) = some (25, 8) := (hM.2.1 26 (by decide)).2; have q26 : R.1 (y + 1791) (j) = some (y + 1792 + j) := (hM.2.2.2.2.2.2.2.2.2.1 (j) (by omega)).1.trans (congrArg some (by omega)); have j26 : R.2.1 (y + 1792 + j) = some (20, 12) := (congrArg R.2.1 (by omega)).trans (hM.2.2.2.2.2.2.2.2.2.1 (j) (by omega)).2
    have NX : ∀ (u : Int32) (e : Nat), u = iI (e : Int) → ct (fun i => decide (0 < rMa (tRd T j) i ∧ rkey (tRd T j) i < rkey (tRd T j) c)) (k + 1) = ct (fun i => decide (0 < rMa (tRd T j) i ∧ rkey (tRd T j) i < rkey (tRd T j) c)) k + e → zW 240 d 0 0 43 [some (zr (some y)), some (zi (iI (j : Int))), some (zi (iI (c : Int))), some (zi (iI ((ct (fun i => decide (0 < rMa (tRd T j) i ∧ rkey (tRd T j) i < rkey (tRd T j) c)) k + 1 : Nat) : Int))), some (zi (iI (k : Int)))] [zi u, zi (iI ((ct (fun i => decide (0 < rMa (tRd T j) i ∧ rkey (tRd T j) i < rkey (tRd T j) c)) k + 1 : Nat) : Int))] (I, L, R) Q := fun u e hu he => by
      subst hu
      refine zW.go [5] rfl (by omega) trivial ?_
      exact rankO_lp hd h hj hc hQ n (k + 1) (by omega) _ _ (by rw [iI_add, he]; exact iI_cg (by omega)) (by rw [zcn_I, iI_add]; rfl)
    refine zW.gbf [] rfl rfl rfl (by omega) (by simp (disch := omega) only [true_or, or_true, eq_self, Option.some.injEq, Prod.mk.injEq, zall_0, zall_1, zall_2, zob_iff, zar_iff, zis_iff, zkIs_some, zkHas_some, iI_vp, z01_I, z01_bz, zch_I, true_and, and_true, or_false, false_or, and_self, upI_same, upL_same, upI_ne, upL_ne, iI_ixN, zI_mk, zL_mk, zP_mk, zK_mk, zN_mk, zwI_up, zwL_up, zg_some, Nat.reduceMod, Nat.reduceDiv, zcn_I, iI_add, iI_sub, iI_mul, iI_neg, iI_lt, iI_le, iI_eq, iI_lt0, iI_le0, iI_gt0, iI_ge0, iI_eq0, k0] <;> omega) (by simp (disch := omega) only [eq_self, not_true_eq_false, not_false_eq_true, upI_same, upL_same, upI_ne, upL_ne, iI_ixN, zI_mk, zL_mk, zP_mk, zK_mk, zN_mk, zwI_up, zwL_up, zg_some, Nat.reduceMod, Nat.reduceDiv, zcn_I, iI_add, iI_sub, iI_mul, iI_neg, iI_lt, iI_le, iI_eq, iI_lt0, iI_le0, iI_gt0, iI_ge0, iI_eq0, b1] <;> omega) ?_
    refine zW.gb [] rfl rfl rfl (by omega) (by simp (disch := omega) only [true_or, or_true, eq_self, Option.some.injEq, Prod.mk.injEq, zall_0, zall_1, zall_2, zob_iff, zar_iff, zis_iff, zkIs_some, zkHas_some, iI_vp, z01_I, z01_bz, zch_I, true_and, and_true, or_false, false_or, and_self, upI_same, upL_same, upI_ne, upL_ne, iI_ixN, zI_mk, zL_mk, zP_mk, zK_mk, zN_mk, zwI_up, zwL_up, zg_some, Nat.reduceMod, Nat.reduceDiv, zcn_I, iI_add, iI_sub, iI_mul, iI_neg, iI_lt, iI_le, iI_eq, iI_lt0, iI_le0, iI_gt0, iI_ge0, iI_eq0, k0, p26, k26, q26, j26] <;> omega) (fun h' => ?_) (fun h' => ?_) <;> simp (disch := omega) only [zcn_I, iI_add, iI_sub, iI_mul, iI_neg, iI_lt, iI_le, iI_eq, iI_lt0, iI_le0, iI_gt0, iI_ge0, iI_eq0, upI_same, upL_same, upI_ne, upL_ne, iI_ixN, zI_mk, zL_mk, zP_mk, zK_mk, zN_mk, zwI_up, zwL_up, zg_some, Nat.reduceMod, Nat.reduceDiv, p26, q26, ma] at h'
    · refine zW.go [43] rfl (by omega) trivial (NX _ 0 (zcn_I _) ?_)
      exact congrArg (fun b : Bool => ct (fun i => decide (0 < rMa (tRd T j) i ∧ rkey (tRd T j) i < rkey (tRd T j) c)) k + (if b then 1 else 0)) (decide_eq_false (fun q => by omega))
    · refine zW.gz [] rfl rfl rfl (by omega) trivial ⟨_, rfl, k0⟩ rfl rfl (by decide +kernel) (by decide +kernel) ?_
      refine mBet_ok (by omega) h hj rfl rfl rfl (by omega) hc (fun q hq => ?_)
      rcases hq with ⟨g, rfl⟩ | ⟨g, rfl⟩
      · refine zW.gbf [] rfl rfl rfl (by omega) trivial (by simp (disch := omega) only [eq_self, not_true_eq_false, not_false_eq_true, upI_same, upL_same, upI_ne, upL_ne, iI_ixN, zI_mk, zL_mk, zP_mk, zK_mk, zN_mk, zwI_up, zwL_up, zg_some, Nat.reduceMod, Nat.reduceDiv, zcn_I, iI_add, iI_sub, iI_mul, iI_neg, iI_lt, iI_le, iI_eq, iI_lt0, iI_le0, iI_gt0, iI_ge0, iI_eq0] <;> omega) ?_
        refine zW.go [43] rfl (by omega) trivial (NX _ 1 (zcn_I _) ?_)
        exact congrArg (fun b : Bool => ct (fun i => decide (0 < rMa (tRd T j) i ∧ rkey (tRd T j) i < rkey (tRd T j) c)) k + (if b then 1 else 0)) (decide_eq_true ⟨by omega, g⟩)
      · refine zW.gbt [] rfl rfl rfl (by omega) trivial (by simp (disch := omega) only [eq_self, not_true_eq_false, not_false_eq_true, upI_same, upL_same, upI_ne, upL_ne, iI_ixN, zI_mk, zL_mk, zP_mk, zK_mk, zN_mk, zwI_up, zwL_up, zg_some, Nat.reduceMod, Nat.reduceDiv, zcn_I, iI_add, iI_sub, iI_mul, iI_neg, iI_lt, iI_le, iI_eq, iI_lt0, iI_le0, iI_gt0, iI_ge0, iI_eq0] <;> omega) ?_
        refine zW.go [43] rfl (by omega) trivial (NX _ 0 (zcn_I _) ?_)
        exact congrArg (fun b : Bool => ct (fun i => decide (0 < rMa (tRd T j) i ∧ rkey (tRd T j) i < rkey (tRd T j) c)) k + (if b then 1 else 0)) (decide_eq_false (fun q => g q.2))
theorem rankO_ok {j c : Nat} {a b : Int32} (hd : 4 ≤ d) (h : mf y T (I, L, R)) (hj : j < tRn T) (e1 : a = iI (j : Int)) (e2 : b = iI (c : Int)) (hc : c < 12) (hQ : Q (.inl (some (zi (iI ((nBet (tRd T j) c + 1 : Nat) : Int))))) (I, L, R)) : zS 240 d [zr (some y), zi a, zi b] (I, L, R) Q := by
  subst e1; subst e2
  refine zW.go [5] rfl (by omega) trivial ?_
  exact rankO_lp hd h hj hc hQ (tCn T) 0 (by omega) _ _ (zcn_I _) (zcn_I _)
theorem mRank_ok {r c : Int} {a b : Int32} (hd : 7 ≤ d) (h : mf y T (I, L, R)) (e1 : a = iI r) (e2 : b = iI c) (h1 : i32 r) (h2 : i32 c) (hQ : mP y (I, L, R) (oRank T r c) eI Q) : zS 241 d [zr (some y), zi a, zi b] (I, L, R) Q := by
  subst e1; subst e2
  have hM := h.2.1
  have k0 : R.2.1 y = some (7, 0) := hM.1
  refine zW.gz [] rfl rfl rfl (by omega) trivial ⟨_, rfl, k0⟩ rfl rfl (by decide +kernel) (by decide +kernel) ?_
  refine nobody_ok (by omega) h rfl rfl h1 h2 (fun q hq => ?_)
  refine zW.gz [] rfl rfl rfl (by omega) trivial ⟨_, rfl, k0⟩ rfl rfl (by decide +kernel) (by decide +kernel) ?_
  refine mThr_ok (k := 1) (by omega) k0 hq (zcn_I _) (fun hb => ?_) (fun hg => ?_)
  · refine zW.gbt [] rfl rfl rfl (by omega) trivial (by simp (disch := omega) only [eq_self, not_true_eq_false, not_false_eq_true, upI_same, upL_same, upI_ne, upL_ne, iI_ixN, zI_mk, zL_mk, zP_mk, zK_mk, zN_mk, zwI_up, zwL_up, zg_some, Nat.reduceMod, Nat.reduceDiv, zcn_I, iI_add, iI_sub, iI_mul, iI_neg, iI_lt, iI_le, iI_eq, iI_lt0, iI_le0, iI_gt0, iI_ge0, iI_eq0] <;> omega) ?_
    refine zW.gr [] rfl rfl rfl (by omega) trivial trivial ?_; rw [zcn_I]
    refine mP_t hQ (c := 0) (v := 0) ?_ (mf_scr h th_scr) (mgr_o (scr_o th_scr)) (upI_same _ _ _ _) 0
    exact onC_no hb
  · obtain ⟨j, k, rfl, rfl, hj, hk, e⟩ := onC_yes hg
    unfold oRank at hQ
    rw [e] at hQ
    obtain ⟨j8, ho, hz, r1, r2, r3, r4, r5, r6, r7⟩ := m_rd h hj
    have h12 := h.1.2.2.2.1.1
    have ma := (r7 k (by omega)).1
    have hm5 := (ho.2.2.2.2 k (by omega)).1
    have hx5 := mxA_le (rFm (tRd T j))
    have p26 : R.1 y 26 = some (y + 1791) := (hM.2.1 26 (by decide)).1; have k26 : R.2.1 (y + 1791) = some (25, 8) := (hM.2.1 26 (by decide)).2; have q26 : R.1 (y + 1791) (j) = some (y + 1792 + j) := (hM.2.2.2.2.2.2.2.2.2.1 (j) (by omega)).1.trans (congrArg some (by omega)); have j26 : R.2.1 (y + 1792 + j) = some (20, 12) := (congrArg R.2.1 (by omega)).trans (hM.2.2.2.2.2.2.2.2.2.1 (j) (by omega)).2
    refine zW.gbf [] rfl rfl rfl (by omega) trivial (by simp (disch := omega) only [eq_self, not_true_eq_false, not_false_eq_true, upI_same, upL_same, upI_ne, upL_ne, iI_ixN, zI_mk, zL_mk, zP_mk, zK_mk, zN_mk, zwI_up, zwL_up, zg_some, Nat.reduceMod, Nat.reduceDiv, zcn_I, iI_add, iI_sub, iI_mul, iI_neg, iI_lt, iI_le, iI_eq, iI_lt0, iI_le0, iI_gt0, iI_ge0, iI_eq0] <;> omega) ?_
    have G : ∀ q, tru (rMa (tRd T j) k = 0) q → zW 241 d 0 0 31 [some (zr (some y)), some (zi (iI (j : Int))), some (zi (iI (k : Int)))] [zi q, zr (some y)] (upI I y 41 (iI 0), L, R) Q := fun q hq => by
      refine zW.gz [] rfl rfl rfl (by omega) trivial ⟨_, rfl, k0⟩ rfl rfl (by decide +kernel) (by decide +kernel) ?_
      refine mThr_ok (k := 2) (by omega) k0 hq (zcn_I _) (fun hb => ?_) (fun hb => ?_)
      · refine zW.gbf [] rfl rfl rfl (by omega) trivial (by simp (disch := omega) only [eq_self, not_true_eq_false, not_false_eq_true, upI_same, upL_same, upI_ne, upL_ne, iI_ixN, zI_mk, zL_mk, zP_mk, zK_mk, zN_mk, zwI_up, zwL_up, zg_some, Nat.reduceMod, Nat.reduceDiv, zcn_I, iI_add, iI_sub, iI_mul, iI_neg, iI_lt, iI_le, iI_eq, iI_lt0, iI_le0, iI_gt0, iI_ge0, iI_eq0] <;> omega) ?_
        refine zW.gr [] rfl rfl rfl (by omega) trivial trivial ?_; rw [zcn_I]
        exact mP_t hQ (c := 1) (v := 0) (if_pos hb) (mf_scr h th2_scr) (mgr_o (scr_o th2_scr)) (upI_same _ _ _ _) 0
      · rw [if_neg hb] at hQ
        refine zW.gbt [] rfl rfl rfl (by omega) trivial (by simp (disch := omega) only [eq_self, not_true_eq_false, not_false_eq_true, upI_same, upL_same, upI_ne, upL_ne, iI_ixN, zI_mk, zL_mk, zP_mk, zK_mk, zN_mk, zwI_up, zwL_up, zg_some, Nat.reduceMod, Nat.reduceDiv, zcn_I, iI_add, iI_sub, iI_mul, iI_neg, iI_lt, iI_le, iI_eq, iI_lt0, iI_le0, iI_gt0, iI_ge0, iI_eq0] <;> omega) ?_
        refine zW.gz [] rfl rfl rfl (by omega) trivial ⟨_, rfl, k0⟩ rfl rfl (by decide +kernel) (by decide +kernel) ?_
        refine rankO_ok (by omega) (mf_scr h th2_scr) hj rfl rfl (by omega) ?_
        refine zW.gr [] rfl rfl rfl (by omega) trivial trivial ?_
        exact mP_0 hQ rfl (mf_scr h th2_scr) (mgr_o (scr_o th2_scr)) (upI_same _ _ _ _)
    refine zW.gb [] rfl rfl rfl (by omega) (by simp (disch := omega) only [true_or, or_true, eq_self, Option.some.injEq, Prod.mk.injEq, zall_0, zall_1, zall_2, zob_iff, zar_iff, zis_iff, zkIs_some, zkHas_some, iI_vp, z01_I, z01_bz, zch_I, true_and, and_true, or_false, false_or, and_self, upI_same, upL_same, upI_ne, upL_ne, iI_ixN, zI_mk, zL_mk, zP_mk, zK_mk, zN_mk, zwI_up, zwL_up, zg_some, Nat.reduceMod, Nat.reduceDiv, zcn_I, iI_add, iI_sub, iI_mul, iI_neg, iI_lt, iI_le, iI_eq, iI_lt0, iI_le0, iI_gt0, iI_ge0, iI_eq0, k0, p26, k26, q26, j26] <;> omega) (fun h' => ?_) (fun h' => ?_) <;> simp (disch := omega) only [zcn_I, iI_add, iI_sub, iI_mul, iI_neg, iI_lt, iI_le, iI_eq, iI_lt0, iI_le0, iI_gt0, iI_ge0, iI_eq0, upI_same, upL_same, upI_ne, upL_ne, iI_ixN, zI_mk, zL_mk, zP_mk, zK_mk, zN_mk, zwI_up, zwL_up, zg_some, Nat.reduceMod, Nat.reduceDiv, p26, q26, ma] at h'
    · exact zW.go [31] rfl (by omega) trivial (G _ (tru_f (by omega)))
    · exact zW.go [31] rfl (by omega) trivial (G _ (tru_t (by omega)))
end MRD3
