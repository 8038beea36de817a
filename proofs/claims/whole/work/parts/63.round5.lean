/-! A round of the class: averages, comparing, counting. -/
def rAv (w : zRd) (c : Nat) : Nat := avg (rFm w) (rRs w c) (rMa w c)
def rBs (w : zRd) (c : Nat) : Nat := bst (rRs w c) (rMa w c)
def cmpI (a b : Int) : Int := if a < b then -1 else if a = b then 0 else 1
def fK (a : Nat) : Int := if a = 0 then 2147483647 else a
/-- below 0 if one ranks ahead of another, 0 if they are alike -/
noncomputable def cmpR (w : zRd) (i j : Nat) : Int :=
  if rFm w = 109 then (if rBs w i ≠ rBs w j then cmpI (rBs w j) (rBs w i) else if rBs w i = 0 then 0 else if cmpI (rTi w i) (rTi w j) ≠ 0 then cmpI (rTi w i) (rTi w j) else cmpI (rUn w i) (rUn w j))
  else (if (if rFm w = 53 ∨ rFm w = 51 then cmpI (fK (rAv w i)) (fK (rAv w j)) else 0) ≠ 0 then cmpI (fK (rAv w i)) (fK (rAv w j)) else cmpI (fK (rBs w i)) (fK (rBs w j)))
/-- what ranks go by, in one number -/
def rkey (w : zRd) (c : Nat) : Int :=
  if rFm w = 109 then (60399 - (rBs w c : Int)) * 1099511627776 + (if rBs w c = 0 then 0 else (rTi w c : Int) * 64 + rUn w c)
  else (if rFm w = 53 ∨ rFm w = 51 then fK (rAv w c) else 0) * 2147483648 + fK (rBs w c)
theorem rBs_le {w : zRd} (hk : rOK w) {c : Nat} (hc : c < 12) : rBs w c ≤ 60399 := bst_le fun i hi => (hk.2.2.2.2 c hc).2.1 i hi
theorem avgC_le {w : zRd} (hk : rOK w) {c : Nat} (hc : c < 12) : smN (rRs w c) (rMa w c) ≤ 301995 := by
  have h1 := smN_le (l := rRs w c) (k := rMa w c) fun i hi => (hk.2.2.2.2 c hc).2.1 i hi
  have h2 := (hk.2.2.2.2 c hc).1
  have h3 := mxA_le (rFm w)
  have h4 : rMa w c * 60399 ≤ 5 * 60399 := Nat.mul_le_mul_right _ (by omega)
  omega
theorem rAv_le {w : zRd} (hk : rOK w) {c : Nat} (hc : c < 12) : rAv w c ≤ 100666 := by
  have := avgC_le hk hc
  have h2 : avgC (rFm w) (rRs w c) (rMa w c) ≤ smN (rRs w c) (rMa w c) := by
    unfold avgC
    split <;> omega
  unfold rAv avg
  by_cases h : (rFm w = 53 ∨ rFm w = 51) ∧ rMa w c = mxA (rFm w) ∧ msN (rRs w c) (rMa w c) ≤ (if rFm w = 53 then 1 else 0)
  · rw [if_pos h]
    omega
  · rw [if_neg h]
    exact Nat.zero_le _
theorem cmpI_1 (a b : Int) : (cmpI a b < 0 ↔ a < b) ∧ (cmpI a b = 0 ↔ a = b) ∧ -1 ≤ cmpI a b ∧ cmpI a b ≤ 1 := by
  unfold cmpI
  split
  · omega
  · split <;> omega
theorem cmpI_lt {a b : Int} (h : a < b) : cmpI a b = -1 := if_pos h
theorem cmpI_eq (a : Int) : cmpI a a = 0 := by
  unfold cmpI
  rw [if_neg (by omega), if_pos rfl]
theorem cmpI_gt {a b : Int} (h : b < a) : cmpI a b = 1 := by
  unfold cmpI
  rw [if_neg (by omega), if_neg (by omega)]
theorem cmpR_key {w : zRd} (hk : rOK w) {i j : Nat} (hi : i < 12) (hj : j < 12) : (cmpR w i j < 0 ↔ rkey w i < rkey w j) ∧ (cmpR w i j = 0 ↔ rkey w i = rkey w j) ∧ -1 ≤ cmpR w i j ∧ cmpR w i j ≤ 1 := by
  have b1 := rBs_le hk hi
  have b2 := rBs_le hk hj
  have a1 := rAv_le hk hi
  have a2 := rAv_le hk hj
  obtain ⟨-, -, -, t1, u1, -⟩ := hk.2.2.2.2 i hi
  obtain ⟨-, -, -, t2, u2, -⟩ := hk.2.2.2.2 j hj
  unfold cmpR rkey
  by_cases c : rFm w = 109
  · simp only [if_pos c]
    generalize rBs w i = B1 at *
    generalize rBs w j = B2 at *
    generalize rTi w i = T1 at *
    generalize rTi w j = T2 at *
    generalize rUn w i = U1 at *
    generalize rUn w j = U2 at *
    by_cases e : B1 = B2
    · subst e
      rw [if_neg (by simp)]
      by_cases z : B1 = 0
      · simp [z]
      · simp only [if_neg z]
        rcases Int.lt_trichotomy (T1 : Int) T2 with t | t | t
        · rw [cmpI_lt t, if_pos (by decide)]
          omega
        · rw [t, cmpI_eq, if_neg (by decide)]
          rcases Int.lt_trichotomy (U1 : Int) U2 with u | u | u
          · rw [cmpI_lt u]
            omega
          · rw [u, cmpI_eq]
            omega
          · rw [cmpI_gt u]
            omega
        · rw [cmpI_gt t, if_pos (by decide)]
          omega
    · rw [if_pos e]
      have t1' : 0 ≤ (if B1 = 0 then 0 else (T1 : Int) * 64 + U1) ∧ (if B1 = 0 then 0 else (T1 : Int) * 64 + U1) ≤ 23040000 := by split <;> omega
      have t2' : 0 ≤ (if B2 = 0 then 0 else (T2 : Int) * 64 + U2) ∧ (if B2 = 0 then 0 else (T2 : Int) * 64 + U2) ≤ 23040000 := by split <;> omega
      generalize (if B1 = 0 then 0 else (T1 : Int) * 64 + U1) = X1 at *
      generalize (if B2 = 0 then 0 else (T2 : Int) * 64 + U2) = X2 at *
      rcases Int.lt_trichotomy (B2 : Int) B1 with t | t | t
      · rw [cmpI_lt t]
        omega
      · omega
      · rw [cmpI_gt t]
        omega
  · simp only [if_neg c]
    have f1 : ∀ a : Nat, a ≤ 100666 → 0 ≤ fK a ∧ fK a ≤ 2147483647 := fun a h => by unfold fK; split <;> omega
    have g1 := f1 _ a1
    have g2 := f1 _ a2
    have g3 := f1 _ (show rBs w i ≤ 100666 by omega)
    have g4 := f1 _ (show rBs w j ≤ 100666 by omega)
    generalize fK (rAv w i) = A1 at *
    generalize fK (rAv w j) = A2 at *
    generalize fK (rBs w i) = B1 at *
    generalize fK (rBs w j) = B2 at *
    have hB : (cmpI B1 B2 < 0 ↔ B1 < B2) ∧ (cmpI B1 B2 = 0 ↔ B1 = B2) ∧ -1 ≤ cmpI B1 B2 ∧ cmpI B1 B2 ≤ 1 := cmpI_1 B1 B2
    generalize cmpI B1 B2 = CB at *
    by_cases f : rFm w = 53 ∨ rFm w = 51
    · simp only [if_pos f]
      rcases Int.lt_trichotomy A1 A2 with t | t | t
      · rw [cmpI_lt t, if_pos (by decide)]
        omega
      · rw [t, cmpI_eq, if_neg (by decide)]
        omega
      · rw [cmpI_gt t, if_pos (by decide)]
        omega
    · simp only [if_neg f]
      rw [if_neg (by simp)]
      omega
section ROUND5
variable {d b : Nat} {w : zRd} {I : Nat → Nat → Int32} {L : Nat → Nat → Int64} {R : zRt} {Q : zO → zM → Prop}
theorem avg_lp {c : Nat} (hd : 3 ≤ d) (hL : RLy b R) (hk : rOK w) (hR : rPR b I w) (hc : c < 12) (hav : avF (rFm w)) (hma : rMa w c = mxA (rFm w)) (hQ : Q (.inl (some (zi (iI (aI1 (rAv w c)))))) (I, L, R)) :
    ∀ n k, k + n = rMa w c → ∀ (x y z u : Int32) (v : Option zV), x = iI (smN (rRs w c) k : Int) → y = iI (mxN (rRs w c) k : Int) → z = iI (msN (rRs w c) k : Int) → u = iI (k : Int) → zW 56 d 0 0 32 [some (zr (some b)), some (zi (iI (c : Int))), some (zi x), some (zi y), some (zi z), some (zi u), v] [] (I, L, R) Q
  | 0, k, hkn, x, y, z, u, v, e1, e2, e3, e4 => by
    subst e1; subst e2; subst e3; subst e4
    obtain rfl : k = rMa w c := by omega
    have k0 := hL.1
    have r0 := hR.1
    have hlt := fm_lt hk
    have hm5 := mxA_le (rFm w)
    have hms := msN_le (rRs w c) (rMa w c)
    have hsm := avgC_le hk hc
    have hmx := mxN_le (l := rRs w c) (m := 60399) (k := rMa w c) fun i hi => (hk.2.2.2.2 c hc).2.1 i hi
    have hbs := rBs_le hk hc
    unfold avF at hav
    refine zW.gz [] rfl rfl rfl (by omega) trivial ⟨_, rfl, k0⟩ rfl rfl (Nat.le_refl _) (Nat.le_refl _) ?_
    refine inAll_ok (by omega) hL hk hR ?_
    refine zW.gbt [] rfl rfl rfl (by omega) trivial ?_ ?_
    · exact (by simp (disch := omega) only [eq_self, not_true_eq_false, not_false_eq_true, upI_same, upL_same, upI_ne, upL_ne, iI_ixN, zI_mk, zL_mk, zP_mk, zK_mk, zN_mk, zwI_up, zwL_up, zg_some, Nat.reduceMod, Nat.reduceDiv, zcn_I, iI_add, iI_sub, iI_mul, iI_neg, iI_lt, iI_le, iI_eq, iI_lt0, iI_le0, iI_gt0, iI_ge0, iI_eq0] <;> omega)
    · by_cases c53 : rFm w = 53
      · refine zW.gbf [] rfl rfl rfl (by omega) ?_ ?_ (zW.gb [] rfl rfl rfl (by omega) trivial (fun h => ?_) (fun h => ?_))
        · exact (by simp (disch := omega) only [true_or, or_true, eq_self, Option.some.injEq, Prod.mk.injEq, zall_0, zall_1, zall_2, zob_iff, zar_iff, zis_iff, zkIs_some, zkHas_some, iI_vp, z01_I, z01_bz, zch_I, true_and, and_true, or_false, false_or, and_self, upI_same, upL_same, upI_ne, upL_ne, iI_ixN, zI_mk, zL_mk, zP_mk, zK_mk, zN_mk, zwI_up, zwL_up, zg_some, Nat.reduceMod, Nat.reduceDiv, zcn_I, iI_add, iI_sub, iI_mul, iI_neg, iI_lt, iI_le, iI_eq, iI_lt0, iI_le0, iI_gt0, iI_ge0, iI_eq0, k0] <;> omega)
        · exact (by simp (disch := omega) only [eq_self, not_true_eq_false, not_false_eq_true, upI_same, upL_same, upI_ne, upL_ne, iI_ixN, zI_mk, zL_mk, zP_mk, zK_mk, zN_mk, zwI_up, zwL_up, zg_some, Nat.reduceMod, Nat.reduceDiv, zcn_I, iI_add, iI_sub, iI_mul, iI_neg, iI_lt, iI_le, iI_eq, iI_lt0, iI_le0, iI_gt0, iI_ge0, iI_eq0, r0] <;> omega)
        · simp (disch := omega) only [upI_same, upL_same, upI_ne, upL_ne, iI_ixN, zI_mk, zL_mk, zP_mk, zK_mk, zN_mk, zwI_up, zwL_up, zg_some, Nat.reduceMod, Nat.reduceDiv, zcn_I, iI_add, iI_sub, iI_mul, iI_neg, iI_lt, iI_le, iI_eq, iI_lt0, iI_le0, iI_gt0, iI_ge0, iI_eq0] at h
          have hcond : (rFm w = 53 ∨ rFm w = 51) ∧ rMa w c = mxA (rFm w) ∧ msN (rRs w c) (rMa w c) ≤ (if rFm w = 53 then 1 else 0) := ⟨hav, hma, by rw [if_pos c53]; omega⟩
          have hpos := avg_pos hcond
          have hav2 : rAv w c = (2 * avgC (rFm w) (rRs w c) (rMa w c) + 3) / 6 := if_pos hcond
          have haC : avgC (rFm w) (rRs w c) (rMa w c) = smN (rRs w c) (rMa w c) - rBs w c - (if msN (rRs w c) (rMa w c) = 0 then mxN (rRs w c) (rMa w c) else 0) := if_pos c53
          have hbpos : 0 < rBs w c := ((avg_a (l := rRs w c) (rMa w c)).1 (by
            have : mxA (rFm w) = 5 := by unfold mxA; rw [if_pos c53]
            omega)).1
          have hb1 : bI1 (rFm w) (bst (rRs w c) (rMa w c)) = (rBs w c : Int) := by
            show (if rBs w c = 0 then -1 else cv (rFm w) (rBs w c)) = _
            rw [if_neg (by omega)]
            unfold cv
            rw [if_neg (by omega)]
          have fin : ∀ (o : Int32), o = iI (avgC (rFm w) (rRs w c) (rMa w c) : Int) → zW 56 d 0 0 140 [some (zr (some b)), some (zi (iI (c : Int))), some (zi o), some (zi (iI (mxN (rRs w c) (rMa w c) : Int))), some (zi (iI (msN (rRs w c) (rMa w c) : Int))), some (zi (iI (rMa w c : Int))), v] [] (I, L, R) Q := by
            intro o eo
            subst eo
            have hle : avgC (rFm w) (rRs w c) (rMa w c) ≤ 301995 := by omega
            refine zW.gr [] rfl rfl rfl (by omega) ?_ trivial ?_
            · show ¬ zcn 6 = 0
              decide
            · simp (disch := omega) only [zcn_I, iI_mul, iI_add, iI_div]
              have : (2 * (avgC (rFm w) (rRs w c) (rMa w c) : Int) + 3) / 6 = aI1 (rAv w c) := by
                unfold aI1
                rw [hav2, if_neg (by omega)]
                omega
              rw [this]
              exact hQ
          refine zW.gbf [] rfl rfl rfl (by omega) ?_ ?_ (zW.gz [] rfl rfl rfl (by omega) trivial ⟨_, rfl, k0⟩ rfl rfl (Nat.le_refl _) (Nat.le_refl _) ?_)
          · exact (by simp (disch := omega) only [true_or, or_true, eq_self, Option.some.injEq, Prod.mk.injEq, zall_0, zall_1, zall_2, zob_iff, zar_iff, zis_iff, zkIs_some, zkHas_some, iI_vp, z01_I, z01_bz, zch_I, true_and, and_true, or_false, false_or, and_self, upI_same, upL_same, upI_ne, upL_ne, iI_ixN, zI_mk, zL_mk, zP_mk, zK_mk, zN_mk, zwI_up, zwL_up, zg_some, Nat.reduceMod, Nat.reduceDiv, zcn_I, iI_add, iI_sub, iI_mul, iI_neg, iI_lt, iI_le, iI_eq, iI_lt0, iI_le0, iI_gt0, iI_ge0, iI_eq0, k0] <;> omega)
          · exact (by simp (disch := omega) only [eq_self, not_true_eq_false, not_false_eq_true, upI_same, upL_same, upI_ne, upL_ne, iI_ixN, zI_mk, zL_mk, zP_mk, zK_mk, zN_mk, zwI_up, zwL_up, zg_some, Nat.reduceMod, Nat.reduceDiv, zcn_I, iI_add, iI_sub, iI_mul, iI_neg, iI_lt, iI_le, iI_eq, iI_lt0, iI_le0, iI_gt0, iI_ge0, iI_eq0, r0] <;> omega)
          · refine best_ok (by omega) hL hk hR rfl hc ?_
            rw [hb1]
            by_cases hz : msN (rRs w c) (rMa w c) = 0
            · rw [if_pos hz] at haC
              refine zW.gbt [] rfl rfl rfl (by omega) trivial ?_ (zW.go [140] rfl (by omega) trivial (fin _ ?_))
              · exact (by simp (disch := omega) only [eq_self, not_true_eq_false, not_false_eq_true, upI_same, upL_same, upI_ne, upL_ne, iI_ixN, zI_mk, zL_mk, zP_mk, zK_mk, zN_mk, zwI_up, zwL_up, zg_some, Nat.reduceMod, Nat.reduceDiv, zcn_I, iI_add, iI_sub, iI_mul, iI_neg, iI_lt, iI_le, iI_eq, iI_lt0, iI_le0, iI_gt0, iI_ge0, iI_eq0] <;> omega)
              · simp only [iI_add, iI_sub]
                exact iI_cg (by omega)
            · rw [if_neg hz] at haC
              refine zW.gbf [] rfl rfl rfl (by omega) trivial ?_ (zW.go [140] rfl (by omega) trivial (fin _ ?_))
              · exact (by simp (disch := omega) only [eq_self, not_true_eq_false, not_false_eq_true, upI_same, upL_same, upI_ne, upL_ne, iI_ixN, zI_mk, zL_mk, zP_mk, zK_mk, zN_mk, zwI_up, zwL_up, zg_some, Nat.reduceMod, Nat.reduceDiv, zcn_I, iI_add, iI_sub, iI_mul, iI_neg, iI_lt, iI_le, iI_eq, iI_lt0, iI_le0, iI_gt0, iI_ge0, iI_eq0] <;> omega)
              · simp only [zcn_I, iI_add, iI_sub]
                exact iI_cg (by omega)
        · simp (disch := omega) only [upI_same, upL_same, upI_ne, upL_ne, iI_ixN, zI_mk, zL_mk, zP_mk, zK_mk, zN_mk, zwI_up, zwL_up, zg_some, Nat.reduceMod, Nat.reduceDiv, zcn_I, iI_add, iI_sub, iI_mul, iI_neg, iI_lt, iI_le, iI_eq, iI_lt0, iI_le0, iI_gt0, iI_ge0, iI_eq0] at h
          refine zW.gr [] rfl rfl rfl (by omega) trivial trivial ?_
          rw [zcn_I]
          have : rAv w c = 0 := if_neg fun q => by
            have := q.2.2
            rw [if_pos c53] at this
            omega
          unfold aI1 at hQ
          rw [if_pos this] at hQ
          exact hQ
      · have c51 : rFm w = 51 := by omega
        refine zW.gbt [] rfl rfl rfl (by omega) ?_ ?_ (zW.gb [] rfl rfl rfl (by omega) trivial (fun h => ?_) (fun h => ?_))
        · exact (by simp (disch := omega) only [true_or, or_true, eq_self, Option.some.injEq, Prod.mk.injEq, zall_0, zall_1, zall_2, zob_iff, zar_iff, zis_iff, zkIs_some, zkHas_some, iI_vp, z01_I, z01_bz, zch_I, true_and, and_true, or_false, false_or, and_self, upI_same, upL_same, upI_ne, upL_ne, iI_ixN, zI_mk, zL_mk, zP_mk, zK_mk, zN_mk, zwI_up, zwL_up, zg_some, Nat.reduceMod, Nat.reduceDiv, zcn_I, iI_add, iI_sub, iI_mul, iI_neg, iI_lt, iI_le, iI_eq, iI_lt0, iI_le0, iI_gt0, iI_ge0, iI_eq0, k0] <;> omega)
        · exact (by simp (disch := omega) only [eq_self, not_true_eq_false, not_false_eq_true, upI_same, upL_same, upI_ne, upL_ne, iI_ixN, zI_mk, zL_mk, zP_mk, zK_mk, zN_mk, zwI_up, zwL_up, zg_some, Nat.reduceMod, Nat.reduceDiv, zcn_I, iI_add, iI_sub, iI_mul, iI_neg, iI_lt, iI_le, iI_eq, iI_lt0, iI_le0, iI_gt0, iI_ge0, iI_eq0, r0] <;> omega)
        · simp (disch := omega) only [upI_same, upL_same, upI_ne, upL_ne, iI_ixN, zI_mk, zL_mk, zP_mk, zK_mk, zN_mk, zwI_up, zwL_up, zg_some, Nat.reduceMod, Nat.reduceDiv, zcn_I, iI_add, iI_sub, iI_mul, iI_neg, iI_lt, iI_le, iI_eq, iI_lt0, iI_le0, iI_gt0, iI_ge0, iI_eq0] at h
          have hcond : (rFm w = 53 ∨ rFm w = 51) ∧ rMa w c = mxA (rFm w) ∧ msN (rRs w c) (rMa w c) ≤ (if rFm w = 53 then 1 else 0) := ⟨hav, hma, by rw [if_neg c53]; omega⟩
          have hpos := avg_pos hcond
          have hav2 : rAv w c = (2 * avgC (rFm w) (rRs w c) (rMa w c) + 3) / 6 := if_pos hcond
          have haC : avgC (rFm w) (rRs w c) (rMa w c) = smN (rRs w c) (rMa w c) := if_neg c53
          refine zW.gbt [] rfl rfl rfl (by omega) ?_ ?_ (zW.gr [] rfl rfl rfl (by omega) ?_ trivial ?_)
          · exact (by simp (disch := omega) only [true_or, or_true, eq_self, Option.some.injEq, Prod.mk.injEq, zall_0, zall_1, zall_2, zob_iff, zar_iff, zis_iff, zkIs_some, zkHas_some, iI_vp, z01_I, z01_bz, zch_I, true_and, and_true, or_false, false_or, and_self, upI_same, upL_same, upI_ne, upL_ne, iI_ixN, zI_mk, zL_mk, zP_mk, zK_mk, zN_mk, zwI_up, zwL_up, zg_some, Nat.reduceMod, Nat.reduceDiv, zcn_I, iI_add, iI_sub, iI_mul, iI_neg, iI_lt, iI_le, iI_eq, iI_lt0, iI_le0, iI_gt0, iI_ge0, iI_eq0, k0] <;> omega)
          · exact (by simp (disch := omega) only [eq_self, not_true_eq_false, not_false_eq_true, upI_same, upL_same, upI_ne, upL_ne, iI_ixN, zI_mk, zL_mk, zP_mk, zK_mk, zN_mk, zwI_up, zwL_up, zg_some, Nat.reduceMod, Nat.reduceDiv, zcn_I, iI_add, iI_sub, iI_mul, iI_neg, iI_lt, iI_le, iI_eq, iI_lt0, iI_le0, iI_gt0, iI_ge0, iI_eq0, r0] <;> omega)
          · show ¬ zcn 6 = 0
            decide
          · simp (disch := omega) only [zcn_I, iI_mul, iI_add, iI_div]
            have : (2 * (smN (rRs w c) (rMa w c) : Int) + 3) / 6 = aI1 (rAv w c) := by
              unfold aI1
              rw [hav2, if_neg (by omega)]
              omega
            rw [this]
            exact hQ
        · simp (disch := omega) only [upI_same, upL_same, upI_ne, upL_ne, iI_ixN, zI_mk, zL_mk, zP_mk, zK_mk, zN_mk, zwI_up, zwL_up, zg_some, Nat.reduceMod, Nat.reduceDiv, zcn_I, iI_add, iI_sub, iI_mul, iI_neg, iI_lt, iI_le, iI_eq, iI_lt0, iI_le0, iI_gt0, iI_ge0, iI_eq0] at h
          refine zW.gr [] rfl rfl rfl (by omega) trivial trivial ?_
          rw [zcn_I]
          have : rAv w c = 0 := if_neg fun q => by
            have := q.2.2
            rw [if_neg c53] at this
            omega
          unfold aI1 at hQ
          rw [if_pos this] at hQ
          exact hQ
  | n + 1, k, hkn, x, y, z, u, v, e1, e2, e3, e4 => by
    subst e1; subst e2; subst e3; subst e4
    have hL' := hL
    obtain ⟨k0, p3, p4, p5, p6, p7, p8, k1, k14, k15, k16, k17, k18, krow⟩ := hL'
    obtain ⟨q1, q2⟩ := krow c hc
    obtain ⟨m1, -, -, -, -, m6⟩ := hR.2.2.2.2.2.2 c hc
    have hm5 := mxA_le (rFm w)
    have mk6 := m6 k (by omega)
    rw [cv_av hav] at mk6
    have hv := (hk.2.2.2.2 c hc).2.1 k (by omega)
    have hmx := mxN_le (l := rRs w c) (m := 60399) (k := k) fun i hi => (hk.2.2.2.2 c hc).2.1 i (by omega)
    refine zW.gz [] rfl rfl rfl (by omega) trivial ⟨_, rfl, k0⟩ rfl rfl (Nat.le_refl _) (Nat.le_refl _) ?_
    refine inAll_ok (by omega) hL hk hR ?_
    have nx : ∀ (t : Int32) (o : Option zV), t = iI (msN (rRs w c) (k + 1) : Int) → zW 56 d 0 0 82 [some (zr (some b)), some (zi (iI (c : Int))), some (zi (iI (smN (rRs w c) k + rRs w c k : Int))), some (zi (iI (if (mxN (rRs w c) k : Int) < rRs w c k then (rRs w c k : Int) else mxN (rRs w c) k))), some (zi (iI (msN (rRs w c) k : Int))), some (zi (iI (k : Int))), o] [zi t, zi 0] (I, L, R) Q → True := fun _ _ _ _ => trivial
    refine zW.gbf [] rfl rfl rfl (by omega) trivial ?_ (zW.gbf [] rfl rfl rfl (by omega) trivial ?_ (zW.gb [] rfl rfl rfl (by omega) ?_ (fun h => ?_) (fun h => ?_)))
    · exact (by simp (disch := omega) only [eq_self, not_true_eq_false, not_false_eq_true, upI_same, upL_same, upI_ne, upL_ne, iI_ixN, zI_mk, zL_mk, zP_mk, zK_mk, zN_mk, zwI_up, zwL_up, zg_some, Nat.reduceMod, Nat.reduceDiv, zcn_I, iI_add, iI_sub, iI_mul, iI_neg, iI_lt, iI_le, iI_eq, iI_lt0, iI_le0, iI_gt0, iI_ge0, iI_eq0] <;> omega)
    · exact (by simp (disch := omega) only [eq_self, not_true_eq_false, not_false_eq_true, upI_same, upL_same, upI_ne, upL_ne, iI_ixN, zI_mk, zL_mk, zP_mk, zK_mk, zN_mk, zwI_up, zwL_up, zg_some, Nat.reduceMod, Nat.reduceDiv, zcn_I, iI_add, iI_sub, iI_mul, iI_neg, iI_lt, iI_le, iI_eq, iI_lt0, iI_le0, iI_gt0, iI_ge0, iI_eq0] <;> omega)
    · simp (disch := omega) only [upI_same, upL_same, upI_ne, upL_ne, iI_ixN, zI_mk, zL_mk, zP_mk, zK_mk, zN_mk, zwI_up, zwL_up, zg_some, Nat.reduceMod, Nat.reduceDiv, zcn_I, iI_add, iI_sub, iI_mul, iI_neg, iI_lt, iI_le, iI_eq, iI_lt0, iI_le0, iI_gt0, iI_ge0, iI_eq0, p3, q1]
      exact (by simp (disch := omega) only [true_or, or_true, eq_self, Option.some.injEq, Prod.mk.injEq, zall_0, zall_1, zall_2, zob_iff, zar_iff, zis_iff, zkIs_some, zkHas_some, iI_vp, z01_I, z01_bz, zch_I, true_and, and_true, or_false, false_or, and_self, upI_same, upL_same, upI_ne, upL_ne, iI_ixN, zI_mk, zL_mk, zP_mk, zK_mk, zN_mk, zwI_up, zwL_up, zg_some, Nat.reduceMod, Nat.reduceDiv, zcn_I, iI_add, iI_sub, iI_mul, iI_neg, iI_lt, iI_le, iI_eq, iI_lt0, iI_le0, iI_gt0, iI_ge0, iI_eq0, k0, p3, k1, q1, q2] <;> omega)
    · simp (disch := omega) only [upI_same, upL_same, upI_ne, upL_ne, iI_ixN, zI_mk, zL_mk, zP_mk, zK_mk, zN_mk, zwI_up, zwL_up, zg_some, Nat.reduceMod, Nat.reduceDiv, zcn_I, iI_add, iI_sub, iI_mul, iI_neg, iI_lt, iI_le, iI_eq, iI_lt0, iI_le0, iI_gt0, iI_ge0, iI_eq0, p3, q1, mk6] at h
      refine zW.go [32] rfl (by omega) trivial ?_
      simp (disch := omega) only [upI_same, upL_same, upI_ne, upL_ne, iI_ixN, zI_mk, zL_mk, zP_mk, zK_mk, zN_mk, zwI_up, zwL_up, zg_some, Nat.reduceMod, Nat.reduceDiv, zcn_I, iI_add, p3, q1, mk6, iI_max]
      refine avg_lp hd hL hk hR hc hav hma hQ n (k + 1) (by omega) _ _ _ _ _ ?_ ?_ ?_ ?_
      · rfl
      · refine iI_cg ?_
        show _ = ((if mxN (rRs w c) k < rRs w c k then rRs w c k else mxN (rRs w c) k : Nat) : Int)
        split <;> split <;> omega
      · refine iI_cg ?_
        show _ = ((msN (rRs w c) k + (if rRs w c k = 0 then 1 else 0) : Nat) : Int)
        rw [if_pos (by omega)]
        omega
      · exact iI_cg (by omega)
    · simp (disch := omega) only [upI_same, upL_same, upI_ne, upL_ne, iI_ixN, zI_mk, zL_mk, zP_mk, zK_mk, zN_mk, zwI_up, zwL_up, zg_some, Nat.reduceMod, Nat.reduceDiv, zcn_I, iI_add, iI_sub, iI_mul, iI_neg, iI_lt, iI_le, iI_eq, iI_lt0, iI_le0, iI_gt0, iI_ge0, iI_eq0, p3, q1, mk6] at h
      refine zW.go [32] rfl (by omega) trivial ?_
      simp (disch := omega) only [upI_same, upL_same, upI_ne, upL_ne, iI_ixN, zI_mk, zL_mk, zP_mk, zK_mk, zN_mk, zwI_up, zwL_up, zg_some, Nat.reduceMod, Nat.reduceDiv, zcn_I, iI_add, p3, q1, mk6, iI_max]
      refine avg_lp hd hL hk hR hc hav hma hQ n (k + 1) (by omega) _ _ _ _ _ ?_ ?_ ?_ ?_
      · rfl
      · refine iI_cg ?_
        show _ = ((if mxN (rRs w c) k < rRs w c k then rRs w c k else mxN (rRs w c) k : Nat) : Int)
        split <;> split <;> omega
      · refine iI_cg ?_
        show _ = ((msN (rRs w c) k + (if rRs w c k = 0 then 1 else 0) : Nat) : Int)
        rw [if_neg (by omega)]
        omega
      · exact iI_cg (by omega)
theorem avg_ok {c : Nat} {x : Int32} (hd : 3 ≤ d) (hL : RLy b R) (hk : rOK w) (hR : rPR b I w) (e : x = iI (c : Int)) (hc : c < 12) (hQ : Q (.inl (some (zi (iI (aI1 (rAv w c)))))) (I, L, R)) : zS 56 d [zr (some b), zi x] (I, L, R) Q := by
  subst e
  have hL' := hL
  obtain ⟨k0, p3, p4, p5, p6, p7, p8, k1, k14, k15, k16, k17, k18, krow⟩ := hL'
  obtain ⟨m1, -⟩ := hR.2.2.2.2.2.2 c hc
  have hm := (hk.2.2.2.2 c hc).1
  have hm5 := mxA_le (rFm w)
  have none : ¬ (avF (rFm w) ∧ rMa w c = mxA (rFm w)) → zW 56 d 0 0 20 [some (zr (some b)), some (zi (iI (c : Int))), none, none, none, none, none] [] (I, L, R) Q := by
    intro h
    refine zW.gr [] rfl rfl rfl (by omega) trivial trivial ?_
    rw [zcn_I]
    have : rAv w c = 0 := if_neg fun q => h ⟨q.1, q.2.1⟩
    unfold aI1 at hQ
    rw [if_pos this] at hQ
    exact hQ
  refine zW.gz [] rfl rfl rfl (by omega) trivial ⟨_, rfl, k0⟩ rfl rfl (Nat.le_refl _) (Nat.le_refl _) ?_
  refine isAvg_ok (by omega) hL hk hR (fun h => ?_) (fun h => ?_)
  · refine zW.gbf [] rfl rfl rfl (by omega) trivial ?_ (zW.gz [] rfl rfl rfl (by omega) ?_ ⟨_, rfl, k0⟩ rfl rfl (Nat.le_refl _) (Nat.le_refl _) ?_)
    · exact (by simp (disch := omega) only [eq_self, not_true_eq_false, not_false_eq_true, upI_same, upL_same, upI_ne, upL_ne, iI_ixN, zI_mk, zL_mk, zP_mk, zK_mk, zN_mk, zwI_up, zwL_up, zg_some, Nat.reduceMod, Nat.reduceDiv, zcn_I, iI_add, iI_sub, iI_mul, iI_neg, iI_lt, iI_le, iI_eq, iI_lt0, iI_le0, iI_gt0, iI_ge0, iI_eq0] <;> omega)
    · simp (disch := omega) only [upI_same, upL_same, upI_ne, upL_ne, iI_ixN, zI_mk, zL_mk, zP_mk, zK_mk, zN_mk, zwI_up, zwL_up, zg_some, Nat.reduceMod, Nat.reduceDiv, zcn_I, iI_add, iI_sub, iI_mul, iI_neg, iI_lt, iI_le, iI_eq, iI_lt0, iI_le0, iI_gt0, iI_ge0, iI_eq0, p4]
      exact (by simp (disch := omega) only [true_or, or_true, eq_self, Option.some.injEq, Prod.mk.injEq, zall_0, zall_1, zall_2, zob_iff, zar_iff, zis_iff, zkIs_some, zkHas_some, iI_vp, z01_I, z01_bz, zch_I, true_and, and_true, or_false, false_or, and_self, upI_same, upL_same, upI_ne, upL_ne, iI_ixN, zI_mk, zL_mk, zP_mk, zK_mk, zN_mk, zwI_up, zwL_up, zg_some, Nat.reduceMod, Nat.reduceDiv, zcn_I, iI_add, iI_sub, iI_mul, iI_neg, iI_lt, iI_le, iI_eq, iI_lt0, iI_le0, iI_gt0, iI_ge0, iI_eq0, k0, p4, k14] <;> omega)
    · simp (disch := omega) only [upI_same, upL_same, upI_ne, upL_ne, iI_ixN, zI_mk, zL_mk, zP_mk, zK_mk, zN_mk, zwI_up, zwL_up, zg_some, Nat.reduceMod, Nat.reduceDiv, zcn_I, iI_add, iI_sub, iI_mul, iI_neg, iI_lt, iI_le, iI_eq, iI_lt0, iI_le0, iI_gt0, iI_ge0, iI_eq0, p4, m1]
      refine inAll_ok (by omega) hL hk hR ?_
      refine zW.gb [] rfl rfl rfl (by omega) trivial (fun g => ?_) (fun g => ?_)
      · simp (disch := omega) only [zcn_I, iI_add, iI_sub, iI_mul, iI_neg, iI_lt, iI_le, iI_eq, iI_lt0, iI_le0, iI_gt0, iI_ge0, iI_eq0] at g
        refine zW.go [32] rfl (by omega) trivial ?_
        exact avg_lp hd hL hk hR hc h (by omega) hQ (rMa w c) 0 (by omega) _ _ _ _ _ rfl rfl rfl rfl
      · simp (disch := omega) only [zcn_I, iI_add, iI_sub, iI_mul, iI_neg, iI_lt, iI_le, iI_eq, iI_lt0, iI_le0, iI_gt0, iI_ge0, iI_eq0] at g
        exact none fun q => by have := q.2; omega
  · refine zW.gbt [] rfl rfl rfl (by omega) trivial ?_ (none fun q => h q.1)
    exact (by simp (disch := omega) only [eq_self, not_true_eq_false, not_false_eq_true, upI_same, upL_same, upI_ne, upL_ne, iI_ixN, zI_mk, zL_mk, zP_mk, zK_mk, zN_mk, zwI_up, zwL_up, zg_some, Nat.reduceMod, Nat.reduceDiv, zcn_I, iI_add, iI_sub, iI_mul, iI_neg, iI_lt, iI_le, iI_eq, iI_lt0, iI_le0, iI_gt0, iI_ge0, iI_eq0] <;> omega)
theorem figure_ok {c : Nat} {pp : Int} {x y : Int32} (hd : 4 ≤ d) (hL : RLy b R) (hk : rOK w) (hR : rPR b I w) (e : x = iI (c : Int)) (e2 : y = iI pp) (h1 : -2147483648 ≤ pp) (h2 : pp < 2147483648) (hc : c < 12) (hQ : Q (.inl (some (zi (iI (if pp ≠ 0 then aI1 (rAv w c) else bI1 (rFm w) (rBs w c)))))) (I, L, R)) : zS 57 d [zr (some b), zi x, zi y] (I, L, R) Q := by
  subst e; subst e2
  have k0 := hL.1
  refine zW.gb [] rfl rfl rfl (by omega) trivial (fun h => ?_) (fun h => ?_) <;> simp (disch := omega) only [zcn_I, iI_add, iI_sub, iI_mul, iI_neg, iI_lt, iI_le, iI_eq, iI_lt0, iI_le0, iI_gt0, iI_ge0, iI_eq0] at h
  · rw [if_neg (by omega)] at hQ
    refine zW.gz [] rfl rfl rfl (by omega) trivial ⟨_, rfl, k0⟩ rfl rfl (Nat.le_refl _) (Nat.le_refl _) ?_
    refine best_ok (by omega) hL hk hR rfl hc ?_
    exact zW.gr [] rfl rfl rfl (by omega) trivial trivial hQ
  · rw [if_pos h] at hQ
    refine zW.gz [] rfl rfl rfl (by omega) trivial ⟨_, rfl, k0⟩ rfl rfl (Nat.le_refl _) (Nat.le_refl _) ?_
    refine avg_ok (by omega) hL hk hR rfl hc ?_
    exact zW.gr [] rfl rfl rfl (by omega) trivial trivial hQ
end ROUND5
