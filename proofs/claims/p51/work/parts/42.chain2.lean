/-! The chain over the memory: stateFor, its making. -/
theorem iL_tdiv {a b : Int} (h1 : -9223372036854775808 < a) (h2 : a < 9223372036854775808) (h3 : -9223372036854775808 ≤ b) (h4 : b < 9223372036854775808) : iL a / iL b = iL (a.tdiv b) := by
  have m1 : Int64.minValue.toInt = -9223372036854775808 := by decide
  have m2 : Int64.maxValue.toInt = 9223372036854775807 := by decide
  unfold iL
  rw [Int64.ofInt_tdiv (by omega) (by omega) (by omega) (by omega)]
theorem iL_div {a b : Int} (h1 : 0 ≤ a) (h2 : a < 9223372036854775808) (h3 : 0 < b) (h4 : b < 9223372036854775808) : iL a / iL b = iL (a / b) := by
  rw [iL_tdiv (by omega) h2 (by omega) h4, Int.tdiv_eq_ediv_of_nonneg h1]
theorem iL_mod {a b : Int} (h1 : 0 ≤ a) (h2 : a < 9223372036854775808) (h3 : 0 < b) (h4 : b < 9223372036854775808) : iL a - iL a / iL b * iL b = iL (a % b) := by
  rw [iL_div h1 h2 h3 h4, iL_mul, iL_sub]
  have := Int.mul_ediv_add_emod a b
  exact iL_cg (by rw [Int.mul_comm (a / b) b]; omega)
/-! makings -/
def nwR (R : zRt) (a t n : Nat) : zRt := (R.1, (fun b => if b = a then some (t, n) else R.2.1 b), a + 1)
def pwR (R : zRt) (a k : Nat) (x : Option Nat) : zRt := ((fun b j => if b = a ∧ j = k then x else R.1 b j), R.2)
theorem znew_up (I : Nat → Nat → Int32) (L : Nat → Nat → Int64) (R : zRt) (t n : Nat) : znew (I, L, R) t n = (I, L, nwR R R.2.2 t n) := rfl
theorem zwP_up (I : Nat → Nat → Int32) (L : Nat → Nat → Int64) (R : zRt) (a k : Nat) (x : Option Nat) : zwP (I, L, R) a k x = (I, L, pwR R a k x) := rfl
theorem nwR_P (R : zRt) (a t n : Nat) : (nwR R a t n).1 = R.1 := rfl
theorem nwR_N (R : zRt) (a t n : Nat) : (nwR R a t n).2.2 = a + 1 := rfl
theorem nwR_Ks {R : zRt} {a t n b : Nat} (h : b = a) : (nwR R a t n).2.1 b = some (t, n) := if_pos h
theorem nwR_Ko {R : zRt} {a t n b : Nat} (h : b ≠ a) : (nwR R a t n).2.1 b = R.2.1 b := if_neg h
theorem pwR_R (R : zRt) (a k : Nat) (x : Option Nat) : (pwR R a k x).2 = R.2 := rfl
theorem pwR_s (R : zRt) (a k : Nat) (x : Option Nat) : (pwR R a k x).1 a k = x := if_pos ⟨rfl, rfl⟩
theorem pwR_o {R : zRt} {a k b j : Nat} {x : Option Nat} (h : ¬ (b = a ∧ j = k)) : (pwR R a k x).1 b j = R.1 b j := if_neg h
theorem pwR_row {R : zRt} {a k b : Nat} {x : Option Nat} (h : b ≠ a) : (pwR R a k x).1 b = R.1 b := funext fun _ => if_neg fun q => h q.1
theorem fresh_I {I : Nat → Nat → Int32} {L : Nat → Nat → Int64} {R : zRt} {a : Nat} (h : zfresh (I, L, R) a) : I a = fun _ => 0 := funext h.2.1
theorem fresh_L {I : Nat → Nat → Int32} {L : Nat → Nat → Int64} {R : zRt} {a : Nat} (h : zfresh (I, L, R) a) : L a = fun _ => 0 := funext h.2.2.1
theorem iL_0 : iL 0 = 0 := by decide +kernel
/-- what lay below stays -/
def zol (n : Nat) (R R' : zRt) : Prop := ∀ b, b < n → R'.1 b = R.1 b ∧ R'.2.1 b = R.2.1 b
section CH2
variable {d c : Nat} {I : Nat → Nat → Int32} {L : Nat → Nat → Int64} {R : zRt} {Q : zO → zM → Prop}
theorem state_lp {A : (Nat → Nat) → Prop} {tb : zTb} {mk : Nat → Nat → Nat} {mn : Nat} {s : Nat → Nat} {o0 : Int64} (hd : 4 ≤ d) (hC : CL c R) (hA : ∀ g, A g → pm 10 g) (hG : chG A tb mk mn) (hR : chR c I L tb mk mn) (hZ : chZ c L tb) (hs : Gm A s)
    (hQ : Q (.inl (some (zl (Rw s)))) (I, L, R)) :
    ∀ n k, k + n = 10 → ∀ (e : Nat → Nat) (o1 o2 : Int64) (x : Int32) (v w : Option zV), Gm A e → (∀ i, i < k → e i = s i) → o1 = Rw e → o2 = iL (numG (Gm A) s n : Int) → x = iI (k : Int) →
      zW 7 d 0 0 10 [some (zr (some c)), some (zl o0), none, some (zl o1), none, some (zl o2), none, some (zi x), v, w] [] (I, L, R) Q
  | 0, k, hk, e, o1, o2, x, v, w, he, hes, e1, e2, e3 => by
    subst e1; subst e2; subst e3
    obtain rfl : k = 10 := by omega
    refine zW.gbt [] rfl rfl rfl (by omega) trivial ?_ (zW.gr [] rfl rfl rfl (by omega) trivial trivial ?_)
    · exact (by simp (disch := omega) only [eq_self, not_true_eq_false, not_false_eq_true, upI_same, upL_same, upI_ne, upL_ne, iI_ixN, zI_mk, zL_mk, zP_mk, zK_mk, zN_mk, zwI_up, zwL_up, zg_some, Nat.reduceMod, Nat.reduceDiv, zcn_I, iI_add, iI_sub, iI_mul, iI_neg, iI_lt, iI_le, iI_eq, iI_lt0, iI_le0, iI_gt0, iI_ge0, iI_eq0] <;> omega)
    · have hps := Gm_pm hA hs
      have hpe := Gm_pm hA he
      have : e = s := by
        funext p
        by_cases hp : p < 10
        · exact hes p hp
        · rw [hps.2.2 p (by omega), hpe.2.2 p (by omega)]
      rw [this]
      exact hQ
  | n + 1, k, hk, e, o1, o2, x, v, w, he, hes, e1, e2, e3 => by
    subst e1; subst e2; subst e3
    have hC' := hC
    obtain ⟨k0, p0, p1, p2, p3, k1, k2, k3, k4⟩ := hC'
    have hps := Gm_pm hA hs
    have hpe := Gm_pm hA he
    have hGG := Gm_isG hA
    have hsk := hps.1 k (by omega)
    have e9 : 9 - n = k := by omega
    have z2 := hZ.2 k (by omega)
    rw [szT_eq hA hG, show 9 - k = n by omega] at z2
    have s1 := szG_pos hGG n
    have s2 := szG_le (Gm A) n
    have s3 : 10 ^ n ≤ 10 ^ 9 := Nat.pow_le_pow_right (by decide) (by omega)
    have n1 := numG_lt hGG hs n (by omega)
    have n2 := numG_lt hGG hs (n + 1) (by omega)
    have n3 := szG_le (Gm A) (n + 1)
    have n4 : 10 ^ (n + 1) ≤ 10 ^ 10 := Nat.pow_le_pow_right (by decide) (by omega)
    have ns : numG (Gm A) s (n + 1) = clG (Gm A) s k * szG (Gm A) n + numG (Gm A) s n := by
      rw [← e9]
      rfl
    have hdiv : numG (Gm A) s (n + 1) / szG (Gm A) n = clG (Gm A) s k := by
      rw [ns, Nat.mul_comm, Nat.mul_add_div (by omega), Nat.div_eq_of_lt n1, Nat.add_zero]
    have hmod : numG (Gm A) s (n + 1) % szG (Gm A) n = numG (Gm A) s n := by
      rw [ns, Nat.mul_comm, Nat.mul_add_mod, Nat.mod_eq_of_lt n1]
    refine zW.gbf [] rfl rfl rfl (by omega) trivial ?_ (zW.gbf [] rfl rfl rfl (by omega) ?_ ?_ ?_)
    · exact (by simp (disch := omega) only [eq_self, not_true_eq_false, not_false_eq_true, upI_same, upL_same, upI_ne, upL_ne, iI_ixN, zI_mk, zL_mk, zP_mk, zK_mk, zN_mk, zwI_up, zwL_up, zg_some, Nat.reduceMod, Nat.reduceDiv, zcn_I, iI_add, iI_sub, iI_mul, iI_neg, iI_lt, iI_le, iI_eq, iI_lt0, iI_le0, iI_gt0, iI_ge0, iI_eq0] <;> omega)
    · exact (by simp (disch := omega) only [true_or, or_true, eq_self, Option.some.injEq, Prod.mk.injEq, zall_0, zall_1, zall_2, zob_iff, zar_iff, zis_iff, zkIs_some, zkHas_some, iI_vp, z01_I, z01_bz, zch_I, true_and, and_true, or_false, false_or, and_self, upI_same, upL_same, upI_ne, upL_ne, iI_ixN, zI_mk, zL_mk, zP_mk, zK_mk, zN_mk, zwI_up, zwL_up, zg_some, Nat.reduceMod, Nat.reduceDiv, zcn_I, iI_add, iI_sub, iI_mul, iI_neg, iI_lt, iI_le, iI_eq, iI_lt0, iI_le0, iI_gt0, iI_ge0, iI_eq0, k0, p3, k4] <;> omega)
    · rw [lg_cmp_le]
      simp (disch := omega) only [upI_same, upL_same, upI_ne, upL_ne, iI_ixN, zI_mk, zL_mk, zP_mk, zK_mk, zN_mk, zwI_up, zwL_up, zg_some, Nat.reduceMod, Nat.reduceDiv, zcn_I, iI_add, iI_sub, iI_mul, iI_neg, iI_lt, iI_le, iI_eq, iI_lt0, iI_le0, iI_gt0, iI_ge0, iI_eq0, p3, z2]
      show ¬ iL _ ≤ iL 0
      rw [iL_le (by omega) (by omega) (by omega) (by omega)]
      omega
    · simp (disch := omega) only [upI_same, upL_same, upI_ne, upL_ne, iI_ixN, zI_mk, zL_mk, zP_mk, zK_mk, zN_mk, zwI_up, zwL_up, zg_some, Nat.reduceMod, Nat.reduceDiv, zcn_I, iI_add, iI_sub, iI_mul, iI_neg, iI_lt, iI_le, iI_eq, iI_lt0, iI_le0, iI_gt0, iI_ge0, iI_eq0, p3, z2]
      refine zW.gz [] rfl rfl rfl (by omega) ?_ trivial rfl rfl (Nat.le_refl _) (Nat.le_refl _) ?_
      · exact (by simp (disch := omega) only [true_or, or_true, eq_self, Option.some.injEq, Prod.mk.injEq, zall_0, zall_1, zall_2, zob_iff, zar_iff, zis_iff, zkIs_some, zkHas_some, iI_vp, z01_I, z01_bz, zch_I, true_and, and_true, or_false, false_or, and_self, upI_same, upL_same, upI_ne, upL_ne, iI_ixN, zI_mk, zL_mk, zP_mk, zK_mk, zN_mk, zwI_up, zwL_up, zg_some, Nat.reduceMod, Nat.reduceDiv, zcn_I, iI_add, iI_sub, iI_mul, iI_neg, iI_lt, iI_le, iI_eq, iI_lt0, iI_le0, iI_gt0, iI_ge0, iI_eq0, k0] <;> omega)
      · refine back_ok (f := e) (by omega) hpe rfl ?_
        have hlow : low (Gm A) s k (s k) := ⟨s, hs, fun _ _ => rfl, rfl⟩
        have hj := (vi_pm hpe).1 (s k) hsk
        have hsv : (tb k (vi 10 e (s k))).isSome = true := by
          rw [orb_is hA hG (by omega), ← low_orb hGG he, vi_r hpe]
          obtain ⟨g, a, b, c⟩ := hlow
          exact ⟨g, a, fun i hi => (b i hi).trans (hes i hi).symm, c⟩
        refine zW.gz [] rfl rfl rfl (by omega) ?_ ?_ rfl rfl (Nat.le_refl _) (Nat.le_refl _) ?_
        · intro q
          have q : iL _ = iL 0 := q.trans iL_0.symm
          rw [iL_eq (by omega) (by omega) (by omega) (by omega)] at q
          omega
        · exact ⟨_, rfl, k0⟩
        · refine rank_ok (tb := tb) (k := k) (v := s k) (w := vi 10 e) (by omega) hC hG.1.1 hR.1 (by omega) hsk (vi_pm hpe) hsv rfl rfl ?_ ?_
          · rw [cl_eq hA hG (by omega) he hes, iL_div (by omega) (by omega) (by omega) (by omega)]
            refine iL_cg ?_
            rw [← Int.natCast_ediv, hdiv]
            rfl
          · obtain ⟨u, hu⟩ := Option.isSome_iff_exists.mp hsv
            obtain ⟨b1, b2, b3, b4, b5⟩ := hG.1.1.1 _ _ _ hu
            have tk := (hR.1 k (vi 10 e (s k)) (by omega) hj).1
            rw [hu] at tk
            have tk : L (c + 1) (16 * k + vi 10 e (s k)) = Rw u := tk
            refine zW.gz [] rfl rfl rfl (by omega) ?_ trivial rfl rfl (Nat.le_refl _) (Nat.le_refl _) ?_
            · simp (disch := omega) only [upI_same, upL_same, upI_ne, upL_ne, iI_ixN, zI_mk, zL_mk, zP_mk, zK_mk, zN_mk, zwI_up, zwL_up, zg_some, Nat.reduceMod, Nat.reduceDiv, zcn_I, iI_add, iI_sub, iI_mul, iI_neg, iI_lt, iI_le, iI_eq, iI_lt0, iI_le0, iI_gt0, iI_ge0, iI_eq0, p0]
              exact (by simp (disch := omega) only [true_or, or_true, eq_self, Option.some.injEq, Prod.mk.injEq, zall_0, zall_1, zall_2, zob_iff, zar_iff, zis_iff, zkIs_some, zkHas_some, iI_vp, z01_I, z01_bz, zch_I, true_and, and_true, or_false, false_or, and_self, upI_same, upL_same, upI_ne, upL_ne, iI_ixN, zI_mk, zL_mk, zP_mk, zK_mk, zN_mk, zwI_up, zwL_up, zg_some, Nat.reduceMod, Nat.reduceDiv, zcn_I, iI_add, iI_sub, iI_mul, iI_neg, iI_lt, iI_le, iI_eq, iI_lt0, iI_le0, iI_gt0, iI_ge0, iI_eq0, k1] <;> omega)
            · simp (disch := omega) only [upI_same, upL_same, upI_ne, upL_ne, iI_ixN, zI_mk, zL_mk, zP_mk, zK_mk, zN_mk, zwI_up, zwL_up, zg_some, Nat.reduceMod, Nat.reduceDiv, zcn_I, iI_add, iI_sub, iI_mul, iI_neg, iI_lt, iI_le, iI_eq, iI_lt0, iI_le0, iI_gt0, iI_ge0, iI_eq0, p0, tk]
              refine through_ok (f := e) (g := u) (by omega) (pm_nb hpe) b3.1 rfl rfl ?_
              refine zW.go [10] rfl (by omega) ?_ ?_
              · intro q
                have q : iL _ = iL 0 := q.trans iL_0.symm
                rw [iL_eq (by omega) (by omega) (by omega) (by omega)] at q
                omega
              · refine state_lp hd hC hA hG hR hZ hs hQ n (k + 1) (by omega) (fun p => e (u p)) _ _ _ _ _ (Gm_mul he (hG.2.1 _ _ _ hu)) (fun i hi => ?_) rfl ?_ ?_
                · show e (u i) = s i
                  by_cases c : i = k
                  · rw [c, b5, vi_r hpe]
                  · rw [b4 i (by omega), hes i (by omega)]
                · rw [iL_mod (by omega) (by omega) (by omega) (by omega), ← Int.natCast_emod, hmod]
                · exact (by simp (disch := omega) only [eq_self, not_true_eq_false, not_false_eq_true, upI_same, upL_same, upI_ne, upL_ne, iI_ixN, zI_mk, zL_mk, zP_mk, zK_mk, zN_mk, zwI_up, zwL_up, zg_some, Nat.reduceMod, Nat.reduceDiv, zcn_I, iI_add, iI_sub, iI_mul, iI_neg, iI_lt, iI_le, iI_eq, iI_lt0, iI_le0, iI_gt0, iI_ge0, iI_eq0] <;> omega)
theorem state_ok {A : (Nat → Nat) → Prop} {s : Nat → Nat} {o : Int64} (hd : 4 ≤ d) (hC : CL c R) (hA : ∀ g, A g → pm 10 g) (hch : chain c I L A) (hs : Gm A s) (e : o = iL (numG (Gm A) s 10 : Int))
    (hQ : Q (.inl (some (zl (Rw s)))) (I, L, R)) : zS 7 d [zr (some c), zl o] (I, L, R) Q := by
  obtain ⟨tb, mk, mn, g1, r1, z1⟩ := hch
  refine zW.go [10] rfl (by omega) trivial ?_
  exact state_lp hd hC hA g1 r1 z1 hs hQ 10 0 rfl (fun p => p) _ _ _ _ _ (Gm_id A) (fun i h => absurd h (Nat.not_lt_zero i)) (by rw [Rw_id]; decide +kernel) e rfl
/-! its making -/
def tb0 : zTb := fun k j => if k = j ∧ k < 10 then some (fun p => p) else none
theorem tb0_W : tW tb0 := by
  refine ⟨fun k j u h => ?_, fun k hk => if_pos ⟨rfl, hk⟩⟩
  unfold tb0 at h
  split at h
  · rename_i q
    cases h
    exact ⟨q.2, by omega, pm_id 10, fun _ _ => rfl, q.1⟩
  · cases h
theorem tb0_1 {k j : Nat} {u : Nat → Nat} (h : tb0 k j = some u) : u = (fun p => p) ∧ k = j := by
  unfold tb0 at h
  split at h
  · rename_i q
    cases h
    exact ⟨rfl, q.1⟩
  · cases h
theorem cT_0 : ∀ k, k < 10 → cT tb0 k = 1 := by decide +kernel
theorem szT_0 : ∀ n, n ≤ 10 → szT tb0 n = 1
  | 0, _ => rfl
  | n + 1, h => by
    show szT tb0 n * cT tb0 (9 - n) = 1
    rw [szT_0 n (by omega), cT_0 _ (by omega)]
theorem chG_0 : chG (fun _ => False) tb0 (fun _ p => p) 0 := by
  refine ⟨⟨tb0_W, ?_, fun i h => absurd h (Nat.not_lt_zero i), fun k j u h hne => absurd (tb0_1 h).2 hne⟩, fun k j u h => ?_, fun k j u k' j' v h1 h2 => ?_, fun g h => h.elim⟩
  · refine (ct_z fun i _ => ?_).symm
    unfold tb0
    split
    · rename_i q
      rw [show decide (i / 10 < i % 10) = false from decide_eq_false (by omega)]
      rfl
    · rfl
  · rw [(tb0_1 h).1]
    exact Gm_id _
  · rw [(tb0_1 h1).1, (tb0_1 h2).1]
    exact Fl_id tb0_W
theorem cinit_lp (hd : 1 ≤ d) (hC : CL c R) (hI : I c 4 = 0)
    (hQ : ∀ L', (∀ b, ¬ (c ≤ b ∧ b ≤ c + 4) → L' b = L b) → chain c I L' (fun _ => False) → Q (.inl none) (I, L', R)) :
    ∀ n k, k + n = 10 → ∀ (L1 : Nat → Nat → Int64) (x : Int32), (∀ b, ¬ (c ≤ b ∧ b ≤ c + 4) → L1 b = L b) → (∀ i j, i < 10 → j < 10 → L1 (c + 1) (16 * i + j) = (if i = j ∧ i < k then iL 4886718345 else iL 0)) → (∀ i, i < k → L1 (c + 2) (16 * i + i) = iL 4886718345 ∧ L1 (c + 4) i = iL 1) → x = iI (k : Int) →
      zW 0 d 4 375 40 [some (zr (some c)), some (zi x)] [] (I, L1, R) Q
  | 0, k, hk, L1, x, f, s1, s2, e => by
    subst e
    obtain rfl : k = 10 := by omega
    have hC' := hC
    obtain ⟨k0, p0, p1, p2, p3, k1, k2, k3, k4⟩ := hC'
    refine zW.gbt [] rfl rfl rfl hd trivial ?_ (zW.gr [] rfl rfl rfl hd ?_ trivial ?_)
    · exact (by simp (disch := omega) only [eq_self, not_true_eq_false, not_false_eq_true, upI_same, upL_same, upI_ne, upL_ne, iI_ixN, zI_mk, zL_mk, zP_mk, zK_mk, zN_mk, zwI_up, zwL_up, zg_some, Nat.reduceMod, Nat.reduceDiv, zcn_I, iI_add, iI_sub, iI_mul, iI_neg, iI_lt, iI_le, iI_eq, iI_lt0, iI_le0, iI_gt0, iI_ge0, iI_eq0] <;> omega)
    · exact (by simp (disch := omega) only [true_or, or_true, eq_self, Option.some.injEq, Prod.mk.injEq, zall_0, zall_1, zall_2, zob_iff, zar_iff, zis_iff, zkIs_some, zkHas_some, iI_vp, z01_I, z01_bz, zch_I, true_and, and_true, or_false, false_or, and_self, upI_same, upL_same, upI_ne, upL_ne, iI_ixN, zI_mk, zL_mk, zP_mk, zK_mk, zN_mk, zwI_up, zwL_up, zg_some, Nat.reduceMod, Nat.reduceDiv, zcn_I, iI_add, iI_sub, iI_mul, iI_neg, iI_lt, iI_le, iI_eq, iI_lt0, iI_le0, iI_gt0, iI_ge0, iI_eq0, k0] <;> omega)
    · simp (disch := omega) only [upI_same, upL_same, upI_ne, upL_ne, iI_ixN, zI_mk, zL_mk, zP_mk, zK_mk, zN_mk, zwI_up, zwL_up, zg_some, Nat.reduceMod, Nat.reduceDiv, zcn_I, iI_add, iI_sub, iI_mul, iI_neg, iI_lt, iI_le, iI_eq, iI_lt0, iI_le0, iI_gt0, iI_ge0, iI_eq0]
      refine hQ _ (fun b q => ?_) ⟨tb0, fun _ p => p, 0, chG_0, ⟨fun i j hi hj => ⟨?_, fun u h => ?_⟩, hI, fun i h => absurd h (Nat.not_lt_zero i)⟩, ?_, fun i hi => ?_⟩
      · rw [upL_row (by omega)]
        exact f b q
      · rw [upL_row (by omega), s1 i j hi hj]
        unfold tb0
        split
        · exact Rw_id.symm
        · rfl
      · rw [upL_row (by omega)]
        obtain ⟨rfl, rfl⟩ := tb0_1 h
        rw [(s2 i (by omega)).1, vi_id, Rw_id]
      · rw [upL_same, szT_0 10 (by decide)]
        rfl
      · rw [upL_row (by omega), (s2 i hi).2, szT_0 _ (by omega)]
        rfl
  | n + 1, k, hk, L1, x, f, s1, s2, e => by
    subst e
    have hC' := hC
    obtain ⟨k0, p0, p1, p2, p3, k1, k2, k3, k4⟩ := hC'
    have z1 : Int64.ofInt (zldL 1226) = iL 4886718345 := by decide +kernel
    have esl : (k : Int) * 16 + (k : Int) = ((16 * k + k : Nat) : Int) := by omega
    refine zW.gbf [] rfl rfl rfl hd trivial ?_ (zW.go [40] rfl hd ?_ ?_)
    · exact (by simp (disch := omega) only [eq_self, not_true_eq_false, not_false_eq_true, upI_same, upL_same, upI_ne, upL_ne, iI_ixN, zI_mk, zL_mk, zP_mk, zK_mk, zN_mk, zwI_up, zwL_up, zg_some, Nat.reduceMod, Nat.reduceDiv, zcn_I, iI_add, iI_sub, iI_mul, iI_neg, iI_lt, iI_le, iI_eq, iI_lt0, iI_le0, iI_gt0, iI_ge0, iI_eq0] <;> omega)
    · simp (disch := omega) only [upI_same, upL_same, upI_ne, upL_ne, iI_ixN, zI_mk, zL_mk, zP_mk, zK_mk, zN_mk, zwI_up, zwL_up, zg_some, Nat.reduceMod, Nat.reduceDiv, zcn_I, iI_add, iI_sub, iI_mul, iI_neg, iI_lt, iI_le, iI_eq, iI_lt0, iI_le0, iI_gt0, iI_ge0, iI_eq0, p0, p1, p3, esl]
      exact (by simp (disch := omega) only [true_or, or_true, eq_self, Option.some.injEq, Prod.mk.injEq, zall_0, zall_1, zall_2, zob_iff, zar_iff, zis_iff, zkIs_some, zkHas_some, iI_vp, z01_I, z01_bz, zch_I, true_and, and_true, or_false, false_or, and_self, upI_same, upL_same, upI_ne, upL_ne, iI_ixN, zI_mk, zL_mk, zP_mk, zK_mk, zN_mk, zwI_up, zwL_up, zg_some, Nat.reduceMod, Nat.reduceDiv, zcn_I, iI_add, iI_sub, iI_mul, iI_neg, iI_lt, iI_le, iI_eq, iI_lt0, iI_le0, iI_gt0, iI_ge0, iI_eq0, k0, p0, p1, p3, k1, k2, k4, esl] <;> omega)
    · simp (disch := omega) only [upI_same, upL_same, upI_ne, upL_ne, iI_ixN, zI_mk, zL_mk, zP_mk, zK_mk, zN_mk, zwI_up, zwL_up, zg_some, Nat.reduceMod, Nat.reduceDiv, zcn_I, iI_mul, iI_add, p0, p1, p3, esl, z1]
      refine cinit_lp hd hC hI hQ n (k + 1) (by omega) _ _ (fun b q => ?_) (fun i j hi hj => ?_) (fun i hi => ⟨?_, ?_⟩) ?_
      · rw [upL_row (by omega), upL_row (by omega), upL_row (by omega)]
        exact f b q
      · rw [upL_row (by omega), upL_row (by omega)]
        by_cases q : i = k ∧ j = k
        · obtain ⟨rfl, rfl⟩ := q
          rw [upL_same, if_pos (by omega)]
        · rw [upL_ne (by omega), s1 i j hi hj]
          by_cases q2 : i = j ∧ i < k
          · rw [if_pos q2, if_pos (by omega)]
          · rw [if_neg q2, if_neg (by omega)]
      · rw [upL_row (by omega)]
        by_cases q : i = k
        · rw [q, upL_same]
        · rw [upL_ne (by omega), upL_row (by omega)]
          exact (s2 i (by omega)).1
      · by_cases q : i = k
        · rw [q, upL_same]
          rfl
        · rw [upL_ne (by omega), upL_row (by omega), upL_row (by omega)]
          exact (s2 i (by omega)).2
      · exact (by simp (disch := omega) only [eq_self, not_true_eq_false, not_false_eq_true, upI_same, upL_same, upI_ne, upL_ne, iI_ixN, zI_mk, zL_mk, zP_mk, zK_mk, zN_mk, zwI_up, zwL_up, zg_some, Nat.reduceMod, Nat.reduceDiv, zcn_I, iI_add, iI_sub, iI_mul, iI_neg, iI_lt, iI_le, iI_eq, iI_lt0, iI_le0, iI_gt0, iI_ge0, iI_eq0] <;> omega)
/-- a new chain at c, its rows behind it -/
theorem cinit_ok (hd : 2 ≤ d) (hN : R.2.2 = c + 1) (hK : R.2.1 c = some (0, 0)) (hI : I c 4 = 0)
    (hQ : ∀ L' R', (∀ b, ¬ (c ≤ b ∧ b ≤ c + 4) → L' b = L b) → zol c R R' → R'.2.1 c = R.2.1 c → R'.2.2 = c + 5 → CL c R' → chain c I L' (fun _ => False) → Q (.inl none) (I, L', R')) : zS 0 d [zr (some c)] (I, L, R) Q := by
  refine zW.go [4] rfl (by omega) ?_ ?_
  · exact ⟨_, rfl⟩
  refine zW.gm [] rfl rfl rfl (by omega) trivial ⟨show ¬ zcn 160 < 0 by decide, show (zcn 160).toNatClampNeg < 1000000 by decide⟩ (by decide +kernel) (by decide +kernel) (fun f1 => ?_)
  have q1 : L (c + 1) = fun _ => 0 := by
    rw [← hN]
    exact fresh_L f1
  simp (disch := omega) only [Nat.add_assoc, iI_ix, Int.toNat_natCast, Int.reduceToNat, Nat.reduceAdd, znew_up, zwP_up, nwR_P, nwR_N, nwR_Ks, nwR_Ko, pwR_R, pwR_s, pwR_o, upI_same, upL_same, upI_ne, upL_ne, iI_ixN, zI_mk, zL_mk, zP_mk, zK_mk, zN_mk, zwI_up, zwL_up, zg_some, Nat.reduceMod, Nat.reduceDiv, zcn_I, hN]
  refine zW.gm [] rfl rfl rfl (by omega) ?_ ⟨show ¬ zcn 160 < 0 by decide, show (zcn 160).toNatClampNeg < 1000000 by decide⟩ (by decide +kernel) (by decide +kernel) (fun f2 => ?_)
  · exact ⟨⟨_, rfl, by simp (disch := omega) only [Nat.add_assoc, iI_ix, Int.toNat_natCast, Int.reduceToNat, Nat.reduceAdd, znew_up, zwP_up, nwR_P, nwR_N, nwR_Ks, nwR_Ko, pwR_R, pwR_s, pwR_o, upI_same, upL_same, upI_ne, upL_ne, iI_ixN, zI_mk, zL_mk, zP_mk, zK_mk, zN_mk, zwI_up, zwL_up, zg_some, Nat.reduceMod, Nat.reduceDiv, zcn_I, hK]⟩, Or.inr ⟨_, rfl⟩⟩
  simp (disch := omega) only [Nat.add_assoc, iI_ix, Int.toNat_natCast, Int.reduceToNat, Nat.reduceAdd, znew_up, zwP_up, nwR_P, nwR_N, nwR_Ks, nwR_Ko, pwR_R, pwR_s, pwR_o, upI_same, upL_same, upI_ne, upL_ne, iI_ixN, zI_mk, zL_mk, zP_mk, zK_mk, zN_mk, zwI_up, zwL_up, zg_some, Nat.reduceMod, Nat.reduceDiv, zcn_I, hN]
  refine zW.gm [] rfl rfl rfl (by omega) ?_ ⟨show ¬ zcn 45 < 0 by decide, show (zcn 45).toNatClampNeg < 1000000 by decide⟩ (by decide +kernel) (by decide +kernel) (fun f3 => ?_)
  · exact ⟨⟨_, rfl, by simp (disch := omega) only [Nat.add_assoc, iI_ix, Int.toNat_natCast, Int.reduceToNat, Nat.reduceAdd, znew_up, zwP_up, nwR_P, nwR_N, nwR_Ks, nwR_Ko, pwR_R, pwR_s, pwR_o, upI_same, upL_same, upI_ne, upL_ne, iI_ixN, zI_mk, zL_mk, zP_mk, zK_mk, zN_mk, zwI_up, zwL_up, zg_some, Nat.reduceMod, Nat.reduceDiv, zcn_I, hK]⟩, Or.inr ⟨_, rfl⟩⟩
  simp (disch := omega) only [Nat.add_assoc, iI_ix, Int.toNat_natCast, Int.reduceToNat, Nat.reduceAdd, znew_up, zwP_up, nwR_P, nwR_N, nwR_Ks, nwR_Ko, pwR_R, pwR_s, pwR_o, upI_same, upL_same, upI_ne, upL_ne, iI_ixN, zI_mk, zL_mk, zP_mk, zK_mk, zN_mk, zwI_up, zwL_up, zg_some, Nat.reduceMod, Nat.reduceDiv, zcn_I, hN]
  refine zW.gm [] rfl rfl rfl (by omega) ?_ ⟨show ¬ zcn 10 < 0 by decide, show (zcn 10).toNatClampNeg < 1000000 by decide⟩ (by decide +kernel) (by decide +kernel) (fun f4 => ?_)
  · exact ⟨⟨_, rfl, by simp (disch := omega) only [Nat.add_assoc, iI_ix, Int.toNat_natCast, Int.reduceToNat, Nat.reduceAdd, znew_up, zwP_up, nwR_P, nwR_N, nwR_Ks, nwR_Ko, pwR_R, pwR_s, pwR_o, upI_same, upL_same, upI_ne, upL_ne, iI_ixN, zI_mk, zL_mk, zP_mk, zK_mk, zN_mk, zwI_up, zwL_up, zg_some, Nat.reduceMod, Nat.reduceDiv, zcn_I, hK]⟩, Or.inr ⟨_, rfl⟩⟩
  simp (disch := omega) only [Nat.add_assoc, iI_ix, Int.toNat_natCast, Int.reduceToNat, Nat.reduceAdd, znew_up, zwP_up, nwR_P, nwR_N, nwR_Ks, nwR_Ko, pwR_R, pwR_s, pwR_o, upI_same, upL_same, upI_ne, upL_ne, iI_ixN, zI_mk, zL_mk, zP_mk, zK_mk, zN_mk, zwI_up, zwL_up, zg_some, Nat.reduceMod, Nat.reduceDiv, zcn_I, hN]
  refine zW.go [40] rfl (by omega) ?_ ?_
  · exact ⟨⟨_, rfl, by simp (disch := omega) only [Nat.add_assoc, iI_ix, Int.toNat_natCast, Int.reduceToNat, Nat.reduceAdd, znew_up, zwP_up, nwR_P, nwR_N, nwR_Ks, nwR_Ko, pwR_R, pwR_s, pwR_o, upI_same, upL_same, upI_ne, upL_ne, iI_ixN, zI_mk, zL_mk, zP_mk, zK_mk, zN_mk, zwI_up, zwL_up, zg_some, Nat.reduceMod, Nat.reduceDiv, zcn_I, hK]⟩, Or.inr ⟨_, rfl⟩⟩
  simp (disch := omega) only [Nat.add_assoc, iI_ix, Int.toNat_natCast, Int.reduceToNat, Nat.reduceAdd, znew_up, zwP_up, nwR_P, nwR_N, nwR_Ks, nwR_Ko, pwR_R, pwR_s, pwR_o, upI_same, upL_same, upI_ne, upL_ne, iI_ixN, zI_mk, zL_mk, zP_mk, zK_mk, zN_mk, zwI_up, zwL_up, zg_some, Nat.reduceMod, Nat.reduceDiv, zcn_I, hN]
  have hC : CL c (pwR (nwR (pwR (nwR (pwR (nwR (pwR (nwR R (c + 1) 21 160) c 0 (some (c + 1))) (c + 2) 21 160) c 1 (some (c + 2))) (c + 3) 21 45) c 2 (some (c + 3))) (c + 4) 21 10) c 3 (some (c + 4))) := by
    refine ⟨?_, ?_, ?_, ?_, ?_, ?_, ?_, ?_, ?_⟩
    · simp (disch := omega) only [Nat.add_assoc, iI_ix, Int.toNat_natCast, Int.reduceToNat, Nat.reduceAdd, znew_up, zwP_up, nwR_P, nwR_N, nwR_Ks, nwR_Ko, pwR_R, pwR_s, pwR_o, upI_same, upL_same, upI_ne, upL_ne, iI_ixN, zI_mk, zL_mk, zP_mk, zK_mk, zN_mk, zwI_up, zwL_up, zg_some, Nat.reduceMod, Nat.reduceDiv, zcn_I, hN, hK]
    all_goals simp (disch := omega) only [Nat.add_assoc, iI_ix, Int.toNat_natCast, Int.reduceToNat, Nat.reduceAdd, znew_up, zwP_up, nwR_P, nwR_N, nwR_Ks, nwR_Ko, pwR_R, pwR_s, pwR_o, upI_same, upL_same, upI_ne, upL_ne, iI_ixN, zI_mk, zL_mk, zP_mk, zK_mk, zN_mk, zwI_up, zwL_up, zg_some, Nat.reduceMod, Nat.reduceDiv, zcn_I, hN]
  refine cinit_lp (L := L) (by omega) hC hI (fun L' g1 g2 => hQ L' _ g1 (fun b hb => ⟨?_, ?_⟩) ?_ ?_ hC g2) 10 0 rfl L _ (fun _ _ => rfl) (fun i j _ _ => ?_) (fun i h => absurd h (Nat.not_lt_zero i)) rfl
  · rw [pwR_row (by omega), nwR_P, pwR_row (by omega), nwR_P, pwR_row (by omega), nwR_P, pwR_row (by omega), nwR_P]
  · simp (disch := omega) only [Nat.add_assoc, iI_ix, Int.toNat_natCast, Int.reduceToNat, Nat.reduceAdd, znew_up, zwP_up, nwR_P, nwR_N, nwR_Ks, nwR_Ko, pwR_R, pwR_s, pwR_o, upI_same, upL_same, upI_ne, upL_ne, iI_ixN, zI_mk, zL_mk, zP_mk, zK_mk, zN_mk, zwI_up, zwL_up, zg_some, Nat.reduceMod, Nat.reduceDiv, zcn_I, hN]
  · simp (disch := omega) only [Nat.add_assoc, iI_ix, Int.toNat_natCast, Int.reduceToNat, Nat.reduceAdd, znew_up, zwP_up, nwR_P, nwR_N, nwR_Ks, nwR_Ko, pwR_R, pwR_s, pwR_o, upI_same, upL_same, upI_ne, upL_ne, iI_ixN, zI_mk, zL_mk, zP_mk, zK_mk, zN_mk, zwI_up, zwL_up, zg_some, Nat.reduceMod, Nat.reduceDiv, zcn_I, hN]
  · simp (disch := omega) only [Nat.add_assoc, iI_ix, Int.toNat_natCast, Int.reduceToNat, Nat.reduceAdd, znew_up, zwP_up, nwR_P, nwR_N, nwR_Ks, nwR_Ko, pwR_R, pwR_s, pwR_o, upI_same, upL_same, upI_ne, upL_ne, iI_ixN, zI_mk, zL_mk, zP_mk, zK_mk, zN_mk, zwI_up, zwL_up, zg_some, Nat.reduceMod, Nat.reduceDiv, zcn_I, hN]
  · rw [if_neg (by omega), q1, iL_0]
end CH2
