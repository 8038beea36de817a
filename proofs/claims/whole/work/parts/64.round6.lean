/-! A round of the class: comparing, counting, who goes on. -/
theorem zld_max : zldI 2127 = 2147483647 := by decide +kernel
def nBet (w : zRd) (c : Nat) : Nat := ct (fun i => decide (0 < rMa w i ∧ rkey w i < rkey w c)) 12
def nAlk (w : zRd) (c : Nat) : Nat := ct (fun i => decide (0 < rMa w i ∧ rkey w i = rkey w c)) 12
def nSta (w : zRd) : Nat := ct (fun i => decide (0 < rMa w i)) 12
def rGo (w : zRd) (c many : Nat) : Prop := 0 < rMa w c ∧ nBet w c < (if nSta w * 3 / 4 < many then nSta w * 3 / 4 else many) ∧ nBet w c + nAlk w c ≤ nSta w * 3 / 4
/-- at most three quarters go on -/
theorem rGo_few (w : zRd) (m : Nat) : 4 * ct (fun i => dc (rGo w i m)) 12 ≤ 3 * nSta w := by
  by_cases h : ∃ i, i < 12 ∧ rGo w i m
  · -- one with the greatest key
    have big : ∀ n, n ≤ 12 → (∃ i, i < n ∧ rGo w i m) → ∃ i, i < n ∧ rGo w i m ∧ ∀ j, j < n → rGo w j m → rkey w j ≤ rkey w i := by
      intro n
      induction n with
      | zero =>
        rintro _ ⟨i, hi, -⟩
        exact absurd hi (Nat.not_lt_zero i)
      | succ n ih =>
        rintro hn ⟨i, hi, hg⟩
        by_cases hx : ∃ i, i < n ∧ rGo w i m
        · obtain ⟨k, k1, k2, k3⟩ := ih (by omega) hx
          by_cases hgn : rGo w n m ∧ rkey w k < rkey w n
          · refine ⟨n, by omega, hgn.1, fun j hj hgj => ?_⟩
            by_cases e : j = n
            · rw [e]
              exact Int.le_refl _
            · have := k3 j (by omega) hgj
              omega
          · refine ⟨k, by omega, k2, fun j hj hgj => ?_⟩
            by_cases e : j = n
            · rw [e] at hgj ⊢
              exact Int.not_lt.mp fun q => hgn ⟨hgj, q⟩
            · exact k3 j (by omega) hgj
        · have e : i = n := Classical.byContradiction fun q => hx ⟨i, by omega, hg⟩
          refine ⟨n, by omega, by rw [← e]; exact hg, fun j hj hgj => ?_⟩
          by_cases e2 : j = n
          · rw [e2]
            exact Int.le_refl _
          · exact absurd ⟨j, by omega, hgj⟩ hx
    obtain ⟨i, h1, h2, h3⟩ := big 12 (Nat.le_refl _) h
    have hsum : ∀ n, ct (fun j => decide (0 < rMa w j ∧ rkey w j < rkey w i)) n + ct (fun j => decide (0 < rMa w j ∧ rkey w j = rkey w i)) n = ct (fun j => decide (0 < rMa w j ∧ rkey w j ≤ rkey w i)) n := by
      intro n
      induction n with
      | zero => rfl
      | succ n ih =>
        show _ + (if decide (0 < rMa w n ∧ rkey w n < rkey w i) then 1 else 0) + (_ + (if decide (0 < rMa w n ∧ rkey w n = rkey w i) then 1 else 0)) = _ + (if decide (0 < rMa w n ∧ rkey w n ≤ rkey w i) then 1 else 0)
        rw [← ih]
        simp only [decide_eq_true_eq]
        by_cases a : 0 < rMa w n
        · rcases Int.lt_trichotomy (rkey w n) (rkey w i) with t | t | t
          · rw [if_pos ⟨a, t⟩, if_neg (by omega), if_pos (by omega)]
            omega
          · rw [if_neg (by omega), if_pos ⟨a, t⟩, if_pos (by omega)]
            omega
          · rw [if_neg (by omega), if_neg (by omega), if_neg (by omega)]
            omega
        · rw [if_neg (by omega), if_neg (by omega), if_neg (by omega)]
          omega
    have hle : ct (fun i => dc (rGo w i m)) 12 ≤ ct (fun j => decide (0 < rMa w j ∧ rkey w j ≤ rkey w i)) 12 := ct_mono fun j hj q => by
      have q := dc_t.mp q
      exact decide_eq_true ⟨q.1, h3 j hj q⟩
    have h4 := h2.2.2
    unfold nBet nAlk at h4
    have := hsum 12
    omega
  · have : ct (fun i => dc (rGo w i m)) 12 = 0 := ct_z fun i hi => dc_f.mpr fun q => h ⟨i, hi, q⟩
    omega
section ROUND6
variable {d b : Nat} {w : zRd} {I : Nat → Nat → Int32} {L : Nat → Nat → Int64} {R : zRt} {Q : zO → zM → Prop}
theorem cmp_ok {a c : Int} {x y : Int32} {M : zM} (hd : 1 ≤ d) (e1 : x = iI a) (e2 : y = iI c) (h1 : -2147483648 ≤ a) (h2 : a < 2147483648) (h3 : -2147483648 ≤ c) (h4 : c < 2147483648) (hQ : Q (.inl (some (zi (iI (cmpI a c))))) M) : zS 252 d [zi x, zi y] M Q := by
  subst e1; subst e2
  rcases Int.lt_trichotomy a c with t | t | t
  · rw [cmpI_lt t] at hQ
    refine zW.gbf [] rfl rfl rfl hd trivial ?_ (zW.gr [] rfl rfl rfl hd trivial trivial ?_)
    · exact (by simp (disch := omega) only [eq_self, not_true_eq_false, not_false_eq_true, upI_same, upL_same, upI_ne, upL_ne, iI_ixN, zI_mk, zL_mk, zP_mk, zK_mk, zN_mk, zwI_up, zwL_up, zg_some, Nat.reduceMod, Nat.reduceDiv, zcn_I, iI_add, iI_sub, iI_mul, iI_neg, iI_lt, iI_le, iI_eq, iI_lt0, iI_le0, iI_gt0, iI_ge0, iI_eq0] <;> omega)
    · rw [zcn_I]
      exact hQ
  · subst t
    rw [cmpI_eq] at hQ
    refine zW.gbt [] rfl rfl rfl hd trivial ?_ (zW.gbf [] rfl rfl rfl hd trivial ?_ (zW.gr [] rfl rfl rfl hd trivial trivial ?_))
    · exact (by simp (disch := omega) only [eq_self, not_true_eq_false, not_false_eq_true, upI_same, upL_same, upI_ne, upL_ne, iI_ixN, zI_mk, zL_mk, zP_mk, zK_mk, zN_mk, zwI_up, zwL_up, zg_some, Nat.reduceMod, Nat.reduceDiv, zcn_I, iI_add, iI_sub, iI_mul, iI_neg, iI_lt, iI_le, iI_eq, iI_lt0, iI_le0, iI_gt0, iI_ge0, iI_eq0] <;> omega)
    · exact (by simp (disch := omega) only [eq_self, not_true_eq_false, not_false_eq_true, upI_same, upL_same, upI_ne, upL_ne, iI_ixN, zI_mk, zL_mk, zP_mk, zK_mk, zN_mk, zwI_up, zwL_up, zg_some, Nat.reduceMod, Nat.reduceDiv, zcn_I, iI_add, iI_sub, iI_mul, iI_neg, iI_lt, iI_le, iI_eq, iI_lt0, iI_le0, iI_gt0, iI_ge0, iI_eq0] <;> omega)
    · rw [zcn_I]
      exact hQ
  · rw [cmpI_gt t] at hQ
    refine zW.gbt [] rfl rfl rfl hd trivial ?_ (zW.gbt [] rfl rfl rfl hd trivial ?_ (zW.gr [] rfl rfl rfl hd trivial trivial ?_))
    · exact (by simp (disch := omega) only [eq_self, not_true_eq_false, not_false_eq_true, upI_same, upL_same, upI_ne, upL_ne, iI_ixN, zI_mk, zL_mk, zP_mk, zK_mk, zN_mk, zwI_up, zwL_up, zg_some, Nat.reduceMod, Nat.reduceDiv, zcn_I, iI_add, iI_sub, iI_mul, iI_neg, iI_lt, iI_le, iI_eq, iI_lt0, iI_le0, iI_gt0, iI_ge0, iI_eq0] <;> omega)
    · exact (by simp (disch := omega) only [eq_self, not_true_eq_false, not_false_eq_true, upI_same, upL_same, upI_ne, upL_ne, iI_ixN, zI_mk, zL_mk, zP_mk, zK_mk, zN_mk, zwI_up, zwL_up, zg_some, Nat.reduceMod, Nat.reduceDiv, zcn_I, iI_add, iI_sub, iI_mul, iI_neg, iI_lt, iI_le, iI_eq, iI_lt0, iI_le0, iI_gt0, iI_ge0, iI_eq0] <;> omega)
    · rw [zcn_I]
      exact hQ
theorem cmpF_ok {a c : Nat} {x y : Int32} {M : zM} (hd : 2 ≤ d) (e1 : x = iI (aI1 a)) (e2 : y = iI (aI1 c)) (h1 : a ≤ 100666) (h2 : c ≤ 100666) (hQ : Q (.inl (some (zi (iI (cmpI (fK a) (fK c)))))) M) : zS 59 d [zi x, zi y] M Q := by
  subst e1; subst e2
  have f1 : ∀ a : Nat, a ≤ 100666 → 0 ≤ fK a ∧ fK a ≤ 2147483647 := fun a h => by unfold fK; split <;> omega
  have g1 := f1 a h1
  have g2 := f1 c h2
  have last : ∀ (p q : Int32) , p = iI (fK a) → q = iI (fK c) → zW 59 d 0 0 20 [some (zi (iI (aI1 a))), some (zi (iI (aI1 c)))] [zi q, zi p] M Q := by
    intro p q ep eq
    subst ep; subst eq
    refine zW.gz [] rfl rfl rfl hd trivial trivial rfl rfl (Nat.le_refl _) (Nat.le_refl _) ?_
    refine cmp_ok (by omega) rfl rfl (by omega) (by omega) (by omega) (by omega) ?_
    exact zW.gr [] rfl rfl rfl (by omega) trivial trivial hQ
  have second : ∀ (p : Int32), p = iI (fK a) → zW 59 d 0 0 10 [some (zi (iI (aI1 a))), some (zi (iI (aI1 c)))] [zi p] M Q := by
    intro p ep
    by_cases z : c = 0
    · have e : aI1 c = -1 := if_pos z
      refine zW.gbf [] rfl rfl rfl (by omega) trivial ?_ (zW.go [20] rfl (by omega) trivial (last _ _ ep ?_))
      · rw [e]
        exact (by simp (disch := omega) only [eq_self, not_true_eq_false, not_false_eq_true, upI_same, upL_same, upI_ne, upL_ne, iI_ixN, zI_mk, zL_mk, zP_mk, zK_mk, zN_mk, zwI_up, zwL_up, zg_some, Nat.reduceMod, Nat.reduceDiv, zcn_I, iI_add, iI_sub, iI_mul, iI_neg, iI_lt, iI_le, iI_eq, iI_lt0, iI_le0, iI_gt0, iI_ge0, iI_eq0] <;> omega)
      · rw [zld_max, zcn_I]
        unfold fK
        rw [if_pos z]
    · have e : aI1 c = c := if_neg z
      refine zW.gbt [] rfl rfl rfl (by omega) trivial ?_ (zW.go [20] rfl (by omega) trivial (last _ _ ep ?_))
      · rw [e]
        exact (by simp (disch := omega) only [eq_self, not_true_eq_false, not_false_eq_true, upI_same, upL_same, upI_ne, upL_ne, iI_ixN, zI_mk, zL_mk, zP_mk, zK_mk, zN_mk, zwI_up, zwL_up, zg_some, Nat.reduceMod, Nat.reduceDiv, zcn_I, iI_add, iI_sub, iI_mul, iI_neg, iI_lt, iI_le, iI_eq, iI_lt0, iI_le0, iI_gt0, iI_ge0, iI_eq0] <;> omega)
      · rw [e]
        unfold fK
        rw [if_neg z]
  by_cases z : a = 0
  · have e : aI1 a = -1 := if_pos z
    refine zW.gbf [] rfl rfl rfl (by omega) trivial ?_ (zW.go [10] rfl (by omega) trivial (second _ ?_))
    · rw [e]
      exact (by simp (disch := omega) only [eq_self, not_true_eq_false, not_false_eq_true, upI_same, upL_same, upI_ne, upL_ne, iI_ixN, zI_mk, zL_mk, zP_mk, zK_mk, zN_mk, zwI_up, zwL_up, zg_some, Nat.reduceMod, Nat.reduceDiv, zcn_I, iI_add, iI_sub, iI_mul, iI_neg, iI_lt, iI_le, iI_eq, iI_lt0, iI_le0, iI_gt0, iI_ge0, iI_eq0] <;> omega)
    · rw [zld_max, zcn_I]
      unfold fK
      rw [if_pos z]
  · have e : aI1 a = a := if_neg z
    refine zW.gbt [] rfl rfl rfl (by omega) trivial ?_ (zW.go [10] rfl (by omega) trivial (second _ ?_))
    · rw [e]
      exact (by simp (disch := omega) only [eq_self, not_true_eq_false, not_false_eq_true, upI_same, upL_same, upI_ne, upL_ne, iI_ixN, zI_mk, zL_mk, zP_mk, zK_mk, zN_mk, zwI_up, zwL_up, zg_some, Nat.reduceMod, Nat.reduceDiv, zcn_I, iI_add, iI_sub, iI_mul, iI_neg, iI_lt, iI_le, iI_eq, iI_lt0, iI_le0, iI_gt0, iI_ge0, iI_eq0] <;> omega)
    · rw [e]
      unfold fK
      rw [if_neg z]
theorem bI_m (x : Nat) : bI1 109 x = (x : Int) - 1 := by
  unfold bI1 cv
  split
  · rename_i h
    rw [h]
    rfl
  · exact if_pos rfl
theorem bI_o {fm : Nat} (h : fm ≠ 109) (x : Nat) : bI1 fm x = aI1 x := by
  unfold bI1 aI1 cv
  rw [if_neg h]
theorem cmpSub (a c : Nat) : cmpI ((a : Int) - 1) ((c : Int) - 1) = cmpI a c := by
  rcases Int.lt_trichotomy (a : Int) c with t | t | t
  · rw [cmpI_lt t, cmpI_lt (by omega)]
  · rw [t, cmpI_eq, cmpI_eq]
  · rw [cmpI_gt t, cmpI_gt (by omega)]
theorem cmpS_ok {i j : Nat} {x y : Int32} (hd : 3 ≤ d) (hL : RLy b R) (hk : rOK w) (hR : rPR b I w) (h109 : rFm w = 109) (e1 : x = iI (i : Int)) (e2 : y = iI (j : Int)) (hi : i < 12) (hj : j < 12) (hQ : Q (.inl (some (zi (iI (cmpR w i j))))) (I, L, R)) : zS 60 d [zr (some b), zi x, zi y] (I, L, R) Q := by
  subst e1; subst e2
  have hL' := hL
  obtain ⟨k0, p3, p4, p5, p6, p7, p8, k1, k14, k15, k16, k17, k18, krow⟩ := hL'
  have b1 := rBs_le hk hi
  have b2 := rBs_le hk hj
  obtain ⟨-, -, -, t1, u1, -⟩ := hk.2.2.2.2 i hi
  obtain ⟨-, -, -, t2, u2, -⟩ := hk.2.2.2.2 j hj
  obtain ⟨-, -, -, mt1, mu1, -⟩ := hR.2.2.2.2.2.2 i hi
  obtain ⟨-, -, -, mt2, mu2, -⟩ := hR.2.2.2.2.2.2 j hj
  have eb : ∀ c, bI1 (rFm w) (bst (rRs w c) (rMa w c)) = (rBs w c : Int) - 1 := fun c => by rw [h109]; exact bI_m _
  unfold cmpR at hQ
  rw [if_pos h109] at hQ
  refine zW.gz [] rfl rfl rfl (by omega) trivial ⟨_, rfl, k0⟩ rfl rfl (Nat.le_refl _) (Nat.le_refl _) ?_
  refine best_ok (by omega) hL hk hR rfl hi ?_
  rw [eb]
  refine zW.gz [] rfl rfl rfl (by omega) trivial ⟨_, rfl, k0⟩ rfl rfl (Nat.le_refl _) (Nat.le_refl _) ?_
  refine best_ok (by omega) hL hk hR rfl hj ?_
  rw [eb]
  by_cases e : rBs w i = rBs w j
  · rw [if_neg (by simp [e])] at hQ
    refine zW.gbt [] rfl rfl rfl (by omega) trivial ?_ ?_
    · exact (by simp (disch := omega) only [eq_self, not_true_eq_false, not_false_eq_true, upI_same, upL_same, upI_ne, upL_ne, iI_ixN, zI_mk, zL_mk, zP_mk, zK_mk, zN_mk, zwI_up, zwL_up, zg_some, Nat.reduceMod, Nat.reduceDiv, zcn_I, iI_add, iI_sub, iI_mul, iI_neg, iI_lt, iI_le, iI_eq, iI_lt0, iI_le0, iI_gt0, iI_ge0, iI_eq0] <;> omega)
    · by_cases z : rBs w i = 0
      · rw [if_pos z] at hQ
        refine zW.gbf [] rfl rfl rfl (by omega) trivial ?_ (zW.gr [] rfl rfl rfl (by omega) trivial trivial ?_)
        · exact (by simp (disch := omega) only [eq_self, not_true_eq_false, not_false_eq_true, upI_same, upL_same, upI_ne, upL_ne, iI_ixN, zI_mk, zL_mk, zP_mk, zK_mk, zN_mk, zwI_up, zwL_up, zg_some, Nat.reduceMod, Nat.reduceDiv, zcn_I, iI_add, iI_sub, iI_mul, iI_neg, iI_lt, iI_le, iI_eq, iI_lt0, iI_le0, iI_gt0, iI_ge0, iI_eq0] <;> omega)
        · rw [zcn_I]
          exact hQ
      · rw [if_neg z] at hQ
        refine zW.gbt [] rfl rfl rfl (by omega) trivial ?_ (zW.gz [] rfl rfl rfl (by omega) ?_ trivial rfl rfl (Nat.le_refl _) (Nat.le_refl _) ?_)
        · exact (by simp (disch := omega) only [eq_self, not_true_eq_false, not_false_eq_true, upI_same, upL_same, upI_ne, upL_ne, iI_ixN, zI_mk, zL_mk, zP_mk, zK_mk, zN_mk, zwI_up, zwL_up, zg_some, Nat.reduceMod, Nat.reduceDiv, zcn_I, iI_add, iI_sub, iI_mul, iI_neg, iI_lt, iI_le, iI_eq, iI_lt0, iI_le0, iI_gt0, iI_ge0, iI_eq0] <;> omega)
        · simp (disch := omega) only [upI_same, upL_same, upI_ne, upL_ne, iI_ixN, zI_mk, zL_mk, zP_mk, zK_mk, zN_mk, zwI_up, zwL_up, zg_some, Nat.reduceMod, Nat.reduceDiv, zcn_I, iI_add, iI_sub, iI_mul, iI_neg, iI_lt, iI_le, iI_eq, iI_lt0, iI_le0, iI_gt0, iI_ge0, iI_eq0, p7]
          exact (by simp (disch := omega) only [true_or, or_true, eq_self, Option.some.injEq, Prod.mk.injEq, zall_0, zall_1, zall_2, zob_iff, zar_iff, zis_iff, zkIs_some, zkHas_some, iI_vp, z01_I, z01_bz, zch_I, true_and, and_true, or_false, false_or, and_self, upI_same, upL_same, upI_ne, upL_ne, iI_ixN, zI_mk, zL_mk, zP_mk, zK_mk, zN_mk, zwI_up, zwL_up, zg_some, Nat.reduceMod, Nat.reduceDiv, zcn_I, iI_add, iI_sub, iI_mul, iI_neg, iI_lt, iI_le, iI_eq, iI_lt0, iI_le0, iI_gt0, iI_ge0, iI_eq0, k0, p7, k17] <;> omega)
        · simp (disch := omega) only [upI_same, upL_same, upI_ne, upL_ne, iI_ixN, zI_mk, zL_mk, zP_mk, zK_mk, zN_mk, zwI_up, zwL_up, zg_some, Nat.reduceMod, Nat.reduceDiv, zcn_I, iI_add, iI_sub, iI_mul, iI_neg, iI_lt, iI_le, iI_eq, iI_lt0, iI_le0, iI_gt0, iI_ge0, iI_eq0, p7, mt1, mt2]
          refine cmp_ok (by omega) rfl rfl (by omega) (by omega) (by omega) (by omega) ?_
          have hc := cmpI_1 (rTi w i) (rTi w j)
          by_cases q : cmpI (rTi w i) (rTi w j) = 0
          · rw [if_neg (by simp [q])] at hQ
            refine zW.gbt [] rfl rfl rfl (by omega) trivial ?_ (zW.gz [] rfl rfl rfl (by omega) ?_ trivial rfl rfl (Nat.le_refl _) (Nat.le_refl _) ?_)
            · exact (by simp (disch := omega) only [eq_self, not_true_eq_false, not_false_eq_true, upI_same, upL_same, upI_ne, upL_ne, iI_ixN, zI_mk, zL_mk, zP_mk, zK_mk, zN_mk, zwI_up, zwL_up, zg_some, Nat.reduceMod, Nat.reduceDiv, zcn_I, iI_add, iI_sub, iI_mul, iI_neg, iI_lt, iI_le, iI_eq, iI_lt0, iI_le0, iI_gt0, iI_ge0, iI_eq0] <;> omega)
            · simp (disch := omega) only [upI_same, upL_same, upI_ne, upL_ne, iI_ixN, zI_mk, zL_mk, zP_mk, zK_mk, zN_mk, zwI_up, zwL_up, zg_some, Nat.reduceMod, Nat.reduceDiv, zcn_I, iI_add, iI_sub, iI_mul, iI_neg, iI_lt, iI_le, iI_eq, iI_lt0, iI_le0, iI_gt0, iI_ge0, iI_eq0, p8]
              exact (by simp (disch := omega) only [true_or, or_true, eq_self, Option.some.injEq, Prod.mk.injEq, zall_0, zall_1, zall_2, zob_iff, zar_iff, zis_iff, zkIs_some, zkHas_some, iI_vp, z01_I, z01_bz, zch_I, true_and, and_true, or_false, false_or, and_self, upI_same, upL_same, upI_ne, upL_ne, iI_ixN, zI_mk, zL_mk, zP_mk, zK_mk, zN_mk, zwI_up, zwL_up, zg_some, Nat.reduceMod, Nat.reduceDiv, zcn_I, iI_add, iI_sub, iI_mul, iI_neg, iI_lt, iI_le, iI_eq, iI_lt0, iI_le0, iI_gt0, iI_ge0, iI_eq0, k0, p8, k18] <;> omega)
            · simp (disch := omega) only [upI_same, upL_same, upI_ne, upL_ne, iI_ixN, zI_mk, zL_mk, zP_mk, zK_mk, zN_mk, zwI_up, zwL_up, zg_some, Nat.reduceMod, Nat.reduceDiv, zcn_I, iI_add, iI_sub, iI_mul, iI_neg, iI_lt, iI_le, iI_eq, iI_lt0, iI_le0, iI_gt0, iI_ge0, iI_eq0, p8, mu1, mu2]
              refine cmp_ok (by omega) rfl rfl (by omega) (by omega) (by omega) (by omega) ?_
              exact zW.gr [] rfl rfl rfl (by omega) trivial trivial hQ
          · rw [if_pos q] at hQ
            refine zW.gbf [] rfl rfl rfl (by omega) trivial ?_ (zW.gr [] rfl rfl rfl (by omega) trivial trivial hQ)
            exact (by simp (disch := omega) only [eq_self, not_true_eq_false, not_false_eq_true, upI_same, upL_same, upI_ne, upL_ne, iI_ixN, zI_mk, zL_mk, zP_mk, zK_mk, zN_mk, zwI_up, zwL_up, zg_some, Nat.reduceMod, Nat.reduceDiv, zcn_I, iI_add, iI_sub, iI_mul, iI_neg, iI_lt, iI_le, iI_eq, iI_lt0, iI_le0, iI_gt0, iI_ge0, iI_eq0] <;> omega)
  · rw [if_pos e] at hQ
    refine zW.gbf [] rfl rfl rfl (by omega) trivial ?_ (zW.gz [] rfl rfl rfl (by omega) trivial ⟨_, rfl, k0⟩ rfl rfl (Nat.le_refl _) (Nat.le_refl _) ?_)
    · exact (by simp (disch := omega) only [eq_self, not_true_eq_false, not_false_eq_true, upI_same, upL_same, upI_ne, upL_ne, iI_ixN, zI_mk, zL_mk, zP_mk, zK_mk, zN_mk, zwI_up, zwL_up, zg_some, Nat.reduceMod, Nat.reduceDiv, zcn_I, iI_add, iI_sub, iI_mul, iI_neg, iI_lt, iI_le, iI_eq, iI_lt0, iI_le0, iI_gt0, iI_ge0, iI_eq0] <;> omega)
    · refine best_ok (by omega) hL hk hR rfl hj ?_
      rw [eb]
      refine zW.gz [] rfl rfl rfl (by omega) trivial trivial rfl rfl (Nat.le_refl _) (Nat.le_refl _) ?_
      refine cmp_ok (by omega) rfl rfl (by omega) (by omega) (by omega) (by omega) ?_
      rw [cmpSub]
      exact zW.gr [] rfl rfl rfl (by omega) trivial trivial hQ
theorem cmpR_ok {i j : Nat} {x y : Int32} (hd : 4 ≤ d) (hL : RLy b R) (hk : rOK w) (hR : rPR b I w) (e1 : x = iI (i : Int)) (e2 : y = iI (j : Int)) (hi : i < 12) (hj : j < 12) (hQ : Q (.inl (some (zi (iI (cmpR w i j))))) (I, L, R)) : zS 58 d [zr (some b), zi x, zi y] (I, L, R) Q := by
  subst e1; subst e2
  have k0 := hL.1
  have r0 := hR.1
  have hlt := fm_lt hk
  have b1 := rBs_le hk hi
  have b2 := rBs_le hk hj
  by_cases c : rFm w = 109
  · refine zW.gbf [] rfl rfl rfl (by omega) ?_ ?_ (zW.gz [] rfl rfl rfl (by omega) trivial ⟨_, rfl, k0⟩ rfl rfl (Nat.le_refl _) (Nat.le_refl _) ?_)
    · exact (by simp (disch := omega) only [true_or, or_true, eq_self, Option.some.injEq, Prod.mk.injEq, zall_0, zall_1, zall_2, zob_iff, zar_iff, zis_iff, zkIs_some, zkHas_some, iI_vp, z01_I, z01_bz, zch_I, true_and, and_true, or_false, false_or, and_self, upI_same, upL_same, upI_ne, upL_ne, iI_ixN, zI_mk, zL_mk, zP_mk, zK_mk, zN_mk, zwI_up, zwL_up, zg_some, Nat.reduceMod, Nat.reduceDiv, zcn_I, iI_add, iI_sub, iI_mul, iI_neg, iI_lt, iI_le, iI_eq, iI_lt0, iI_le0, iI_gt0, iI_ge0, iI_eq0, k0] <;> omega)
    · exact (by simp (disch := omega) only [eq_self, not_true_eq_false, not_false_eq_true, upI_same, upL_same, upI_ne, upL_ne, iI_ixN, zI_mk, zL_mk, zP_mk, zK_mk, zN_mk, zwI_up, zwL_up, zg_some, Nat.reduceMod, Nat.reduceDiv, zcn_I, iI_add, iI_sub, iI_mul, iI_neg, iI_lt, iI_le, iI_eq, iI_lt0, iI_le0, iI_gt0, iI_ge0, iI_eq0, r0] <;> omega)
    · refine cmpS_ok (by omega) hL hk hR c rfl rfl hi hj ?_
      exact zW.gr [] rfl rfl rfl (by omega) trivial trivial hQ
  · unfold cmpR at hQ
    rw [if_neg c] at hQ
    have eb : ∀ k, bI1 (rFm w) (bst (rRs w k) (rMa w k)) = aI1 (rBs w k) := fun k => bI_o c _
    have tail : ∀ (v : Int32) , v = iI 0 → (Q (.inl (some (zi (iI (cmpI (fK (rBs w i)) (fK (rBs w j))))))) (I, L, R)) → zW 58 d 0 0 40 [some (zr (some b)), some (zi (iI (i : Int))), some (zi (iI (j : Int))), none] [zi v] (I, L, R) Q := by
      intro v ev hq
      subst ev
      refine zW.gbt [] rfl rfl rfl (by omega) trivial ?_ (zW.gz [] rfl rfl rfl (by omega) trivial ⟨_, rfl, k0⟩ rfl rfl (Nat.le_refl _) (Nat.le_refl _) ?_)
      · exact (by simp (disch := omega) only [eq_self, not_true_eq_false, not_false_eq_true, upI_same, upL_same, upI_ne, upL_ne, iI_ixN, zI_mk, zL_mk, zP_mk, zK_mk, zN_mk, zwI_up, zwL_up, zg_some, Nat.reduceMod, Nat.reduceDiv, zcn_I, iI_add, iI_sub, iI_mul, iI_neg, iI_lt, iI_le, iI_eq, iI_lt0, iI_le0, iI_gt0, iI_ge0, iI_eq0] <;> omega)
      · refine best_ok (by omega) hL hk hR rfl hi ?_
        rw [eb]
        refine zW.gz [] rfl rfl rfl (by omega) trivial ⟨_, rfl, k0⟩ rfl rfl (Nat.le_refl _) (Nat.le_refl _) ?_
        refine best_ok (by omega) hL hk hR rfl hj ?_
        rw [eb]
        refine zW.gz [] rfl rfl rfl (by omega) trivial trivial rfl rfl (Nat.le_refl _) (Nat.le_refl _) ?_
        refine cmpF_ok (a := rBs w i) (c := rBs w j) (by omega) rfl rfl (by omega) (by omega) ?_
        exact zW.gr [] rfl rfl rfl (by omega) trivial trivial hq
    refine zW.gbt [] rfl rfl rfl (by omega) ?_ ?_ (zW.gz [] rfl rfl rfl (by omega) trivial ⟨_, rfl, k0⟩ rfl rfl (Nat.le_refl _) (Nat.le_refl _) ?_)
    · exact (by simp (disch := omega) only [true_or, or_true, eq_self, Option.some.injEq, Prod.mk.injEq, zall_0, zall_1, zall_2, zob_iff, zar_iff, zis_iff, zkIs_some, zkHas_some, iI_vp, z01_I, z01_bz, zch_I, true_and, and_true, or_false, false_or, and_self, upI_same, upL_same, upI_ne, upL_ne, iI_ixN, zI_mk, zL_mk, zP_mk, zK_mk, zN_mk, zwI_up, zwL_up, zg_some, Nat.reduceMod, Nat.reduceDiv, zcn_I, iI_add, iI_sub, iI_mul, iI_neg, iI_lt, iI_le, iI_eq, iI_lt0, iI_le0, iI_gt0, iI_ge0, iI_eq0, k0] <;> omega)
    · exact (by simp (disch := omega) only [eq_self, not_true_eq_false, not_false_eq_true, upI_same, upL_same, upI_ne, upL_ne, iI_ixN, zI_mk, zL_mk, zP_mk, zK_mk, zN_mk, zwI_up, zwL_up, zg_some, Nat.reduceMod, Nat.reduceDiv, zcn_I, iI_add, iI_sub, iI_mul, iI_neg, iI_lt, iI_le, iI_eq, iI_lt0, iI_le0, iI_gt0, iI_ge0, iI_eq0, r0] <;> omega)
    · refine isAvg_ok (by omega) hL hk hR (fun hav => ?_) (fun hav => ?_)
      · unfold avF at hav
        rw [if_pos hav] at hQ
        refine zW.gbf [] rfl rfl rfl (by omega) trivial ?_ (zW.gz [] rfl rfl rfl (by omega) trivial ⟨_, rfl, k0⟩ rfl rfl (Nat.le_refl _) (Nat.le_refl _) ?_)
        · exact (by simp (disch := omega) only [eq_self, not_true_eq_false, not_false_eq_true, upI_same, upL_same, upI_ne, upL_ne, iI_ixN, zI_mk, zL_mk, zP_mk, zK_mk, zN_mk, zwI_up, zwL_up, zg_some, Nat.reduceMod, Nat.reduceDiv, zcn_I, iI_add, iI_sub, iI_mul, iI_neg, iI_lt, iI_le, iI_eq, iI_lt0, iI_le0, iI_gt0, iI_ge0, iI_eq0] <;> omega)
        · refine avg_ok (by omega) hL hk hR rfl hi ?_
          refine zW.gz [] rfl rfl rfl (by omega) trivial ⟨_, rfl, k0⟩ rfl rfl (Nat.le_refl _) (Nat.le_refl _) ?_
          refine avg_ok (by omega) hL hk hR rfl hj ?_
          refine zW.gz [] rfl rfl rfl (by omega) trivial trivial rfl rfl (Nat.le_refl _) (Nat.le_refl _) ?_
          refine cmpF_ok (a := rAv w i) (c := rAv w j) (by omega) rfl rfl (rAv_le hk hi) (rAv_le hk hj) ?_
          have hc := cmpI_1 (fK (rAv w i)) (fK (rAv w j))
          by_cases q : cmpI (fK (rAv w i)) (fK (rAv w j)) = 0
          · rw [if_neg (by simp [q])] at hQ
            refine zW.go [40] rfl (by omega) trivial (tail _ (by rw [q]) hQ)
          · rw [if_pos q] at hQ
            refine zW.gbf [] rfl rfl rfl (by omega) trivial ?_ (zW.gr [] rfl rfl rfl (by omega) trivial trivial hQ)
            exact (by simp (disch := omega) only [eq_self, not_true_eq_false, not_false_eq_true, upI_same, upL_same, upI_ne, upL_ne, iI_ixN, zI_mk, zL_mk, zP_mk, zK_mk, zN_mk, zwI_up, zwL_up, zg_some, Nat.reduceMod, Nat.reduceDiv, zcn_I, iI_add, iI_sub, iI_mul, iI_neg, iI_lt, iI_le, iI_eq, iI_lt0, iI_le0, iI_gt0, iI_ge0, iI_eq0] <;> omega)
      · unfold avF at hav
        rw [if_neg hav, if_neg (by simp)] at hQ
        refine zW.gbt [] rfl rfl rfl (by omega) trivial ?_ (zW.go [40] rfl (by omega) trivial (tail _ (zcn_I 0) hQ))
        exact (by simp (disch := omega) only [eq_self, not_true_eq_false, not_false_eq_true, upI_same, upL_same, upI_ne, upL_ne, iI_ixN, zI_mk, zL_mk, zP_mk, zK_mk, zN_mk, zwI_up, zwL_up, zg_some, Nat.reduceMod, Nat.reduceDiv, zcn_I, iI_add, iI_sub, iI_mul, iI_neg, iI_lt, iI_le, iI_eq, iI_lt0, iI_le0, iI_gt0, iI_ge0, iI_eq0] <;> omega)
end ROUND6
