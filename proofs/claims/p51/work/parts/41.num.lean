/-! The chain over the memory: numbers and states. -/
section NUMB
variable {d c : Nat} {I : Nat → Nat → Int32} {L : Nat → Nat → Int64} {R : zRt} {Q : zO → zM → Prop}
theorem orb_is {A : (Nat → Nat) → Prop} {tb : zTb} {mk : Nat → Nat → Nat} {mn : Nat} (hA : ∀ g, A g → pm 10 g) (h : chG A tb mk mn) {k j : Nat} (hk : k < 10) : (tb k j).isSome = true ↔ orb (Gm A) k j := by
  rw [← orb_tb h.1.1 h.2.2.1 hA h.2.2.2 h.2.1 hk]
  exact Option.isSome_iff_exists
theorem cT_eq {A : (Nat → Nat) → Prop} {tb : zTb} {mk : Nat → Nat → Nat} {mn : Nat} (hA : ∀ g, A g → pm 10 g) (h : chG A tb mk mn) {k : Nat} (hk : k < 10) : cT tb k = cntG (Gm A) k := ct_cg fun j _ => bl_iff ((orb_is hA h hk).trans dc_t.symm)
theorem szT_eq {A : (Nat → Nat) → Prop} {tb : zTb} {mk : Nat → Nat → Nat} {mn : Nat} (hA : ∀ g, A g → pm 10 g) (h : chG A tb mk mn) : ∀ n, szT tb n = szG (Gm A) n
  | 0 => rfl
  | n + 1 => by
    show szT tb n * cT tb (9 - n) = szG (Gm A) n * cntG (Gm A) (9 - n)
    rw [szT_eq hA h n, cT_eq hA h (by omega)]
theorem cl_eq {A : (Nat → Nat) → Prop} {tb : zTb} {mk : Nat → Nat → Nat} {mn : Nat} (hA : ∀ g, A g → pm 10 g) (h : chG A tb mk mn) {k m : Nat} {s e : Nat → Nat} (hk : k < 10) (he : Gm A e) (hes : ∀ i, i < k → e i = s i) : ct (fun i => (tb k (vi 10 e i)).isSome) m = ct (fun v => dc (low (Gm A) s k v)) m := by
  refine ct_cg fun v _ => bl_iff ((orb_is hA h hk).trans ?_)
  rw [dc_t, ← low_orb (Gm_isG hA) he, vi_r (Gm_pm hA he)]
  exact ⟨fun ⟨g, a, b, c⟩ => ⟨g, a, fun i hi => (b i hi).trans (hes i hi), c⟩, fun ⟨g, a, b, c⟩ => ⟨g, a, fun i hi => (b i hi).trans (hes i hi).symm, c⟩⟩
theorem szG_pos {G : (Nat → Nat) → Prop} (hG : isG G) : ∀ n, 1 ≤ szG G n
  | 0 => Nat.le_refl _
  | n + 1 => by
    have h1 := szG_pos hG n
    have h2 : 1 ≤ cntG G (9 - n) := ct_pos (i := 9 - n) (by omega) (dc_t.mpr (orb_self hG _))
    exact Nat.mul_pos h1 h2
theorem szG_le (G : (Nat → Nat) → Prop) : ∀ n, szG G n ≤ 10 ^ n
  | 0 => Nat.le_refl _
  | n + 1 => by
    have h1 := szG_le G n
    have h2 : cntG G (9 - n) ≤ 10 := ct_le _ _
    show szG G n * cntG G (9 - n) ≤ 10 ^ (n + 1)
    rw [Nat.pow_succ]
    exact Nat.mul_le_mul h1 h2
theorem szG_mono {G : (Nat → Nat) → Prop} (hG : isG G) (n : Nat) : ∀ m, szG G n ≤ szG G (n + m)
  | 0 => Nat.le_refl _
  | m + 1 => by
    have h1 := szG_mono hG n m
    have h2 : 1 ≤ cntG G (9 - (n + m)) := ct_pos (i := 9 - (n + m)) (by omega) (dc_t.mpr (orb_self hG _))
    have h3 : szG G (n + m) * 1 ≤ szG G (n + m) * cntG G (9 - (n + m)) := Nat.mul_le_mul_left _ h2
    show szG G n ≤ szG G (n + m) * cntG G (9 - (n + m))
    omega
theorem lower_lp {tb : zTb} {k m : Nat} {w : Nat → Nat} (hd : 2 ≤ d) (hC : CL c R) (hw : tW tb) (ht : tbR c L tb) (hk : k < 10) (hm : m ≤ 10) (hp : pm 10 w)
    (hQ : Q (.inl (some (zi (iI (ct (fun i => (tb k (w i)).isSome) m : Nat))))) (I, L, R)) :
    ∀ n j, j + n = m → ∀ (y x : Int32), y = iI (ct (fun i => (tb k (w i)).isSome) j : Nat) → x = iI (j : Int) → zW 6 d 0 0 6 [some (zr (some c)), some (zi (iI (k : Int))), some (zl (Rw w)), none, some (zi (iI (m : Int))), some (zi y), some (zi x)] [] (I, L, R) Q
  | 0, j, hj, y, x, e1, e2 => by
    subst e1; subst e2
    obtain rfl : j = m := by omega
    refine zW.gbt [] rfl rfl rfl (by omega) trivial ?_ (zW.gr [] rfl rfl rfl (by omega) trivial trivial hQ)
    exact (by simp (disch := omega) only [eq_self, not_true_eq_false, not_false_eq_true, upI_same, upL_same, upI_ne, upL_ne, iI_ixN, zI_mk, zL_mk, zP_mk, zK_mk, zN_mk, zwI_up, zwL_up, zg_some, Nat.reduceMod, Nat.reduceDiv, zcn_I, iI_add, iI_sub, iI_mul, iI_neg, iI_lt, iI_le, iI_eq, iI_lt0, iI_le0, iI_gt0, iI_ge0, iI_eq0] <;> omega)
  | n + 1, j, hj, y, x, e1, e2 => by
    subst e1; subst e2
    have hC' := hC
    obtain ⟨k0, p0, p1, p2, p3, k1, k2, k3, k4⟩ := hC'
    have hwj := hp.1 j (by omega)
    have esl : (k : Int) * 16 + (w j : Int) = ((16 * k + w j : Nat) : Int) := by omega
    have tk := (ht k (w j) hk hwj).1
    refine zW.gbf [] rfl rfl rfl (by omega) trivial ?_ (zW.gz [] rfl rfl rfl hd ?_ trivial rfl rfl (Nat.le_refl _) (Nat.le_refl _) ?_)
    · exact (by simp (disch := omega) only [eq_self, not_true_eq_false, not_false_eq_true, upI_same, upL_same, upI_ne, upL_ne, iI_ixN, zI_mk, zL_mk, zP_mk, zK_mk, zN_mk, zwI_up, zwL_up, zg_some, Nat.reduceMod, Nat.reduceDiv, zcn_I, iI_add, iI_sub, iI_mul, iI_neg, iI_lt, iI_le, iI_eq, iI_lt0, iI_le0, iI_gt0, iI_ge0, iI_eq0] <;> omega)
    · exact (by simp (disch := omega) only [true_or, or_true, eq_self, Option.some.injEq, Prod.mk.injEq, zall_0, zall_1, zall_2, zob_iff, zar_iff, zis_iff, zkIs_some, zkHas_some, iI_vp, z01_I, z01_bz, zch_I, true_and, and_true, or_false, false_or, and_self, upI_same, upL_same, upI_ne, upL_ne, iI_ixN, zI_mk, zL_mk, zP_mk, zK_mk, zN_mk, zwI_up, zwL_up, zg_some, Nat.reduceMod, Nat.reduceDiv, zcn_I, iI_add, iI_sub, iI_mul, iI_neg, iI_lt, iI_le, iI_eq, iI_lt0, iI_le0, iI_gt0, iI_ge0, iI_eq0, k0] <;> omega)
    · refine at_ok (f := w) (p := j) (by omega) (pm_nb hp) (by omega) rfl rfl ?_
      refine zW.gb [] rfl rfl rfl (by omega) ?_ (fun h => ?_) (fun h => ?_)
      · simp (disch := omega) only [upI_same, upL_same, upI_ne, upL_ne, iI_ixN, zI_mk, zL_mk, zP_mk, zK_mk, zN_mk, zwI_up, zwL_up, zg_some, Nat.reduceMod, Nat.reduceDiv, zcn_I, iI_add, iI_sub, iI_mul, iI_neg, iI_lt, iI_le, iI_eq, iI_lt0, iI_le0, iI_gt0, iI_ge0, iI_eq0, p0, esl]
        exact (by simp (disch := omega) only [true_or, or_true, eq_self, Option.some.injEq, Prod.mk.injEq, zall_0, zall_1, zall_2, zob_iff, zar_iff, zis_iff, zkIs_some, zkHas_some, iI_vp, z01_I, z01_bz, zch_I, true_and, and_true, or_false, false_or, and_self, upI_same, upL_same, upI_ne, upL_ne, iI_ixN, zI_mk, zL_mk, zP_mk, zK_mk, zN_mk, zwI_up, zwL_up, zg_some, Nat.reduceMod, Nat.reduceDiv, zcn_I, iI_add, iI_sub, iI_mul, iI_neg, iI_lt, iI_le, iI_eq, iI_lt0, iI_le0, iI_gt0, iI_ge0, iI_eq0, k0, p0, k1, esl] <;> omega)
      · rw [lg_cmp_eq] at h
        simp (disch := omega) only [upI_same, upL_same, upI_ne, upL_ne, iI_ixN, zI_mk, zL_mk, zP_mk, zK_mk, zN_mk, zwI_up, zwL_up, zg_some, Nat.reduceMod, Nat.reduceDiv, zcn_I, iI_add, iI_sub, iI_mul, iI_neg, iI_lt, iI_le, iI_eq, iI_lt0, iI_le0, iI_gt0, iI_ge0, iI_eq0, p0, esl, tk] at h
        have h' := (oRw_0 hw k (w j)).mp h
        refine zW.go [6] rfl (by omega) trivial ?_
        refine lower_lp hd hC hw ht hk hm hp hQ n (j + 1) (by omega) _ _ ?_ ?_
        · rw [zcn_I, iI_add, ct, h']
          rfl
        · exact (by simp (disch := omega) only [eq_self, not_true_eq_false, not_false_eq_true, upI_same, upL_same, upI_ne, upL_ne, iI_ixN, zI_mk, zL_mk, zP_mk, zK_mk, zN_mk, zwI_up, zwL_up, zg_some, Nat.reduceMod, Nat.reduceDiv, zcn_I, iI_add, iI_sub, iI_mul, iI_neg, iI_lt, iI_le, iI_eq, iI_lt0, iI_le0, iI_gt0, iI_ge0, iI_eq0] <;> omega)
      · rw [lg_cmp_eq] at h
        simp (disch := omega) only [upI_same, upL_same, upI_ne, upL_ne, iI_ixN, zI_mk, zL_mk, zP_mk, zK_mk, zN_mk, zwI_up, zwL_up, zg_some, Nat.reduceMod, Nat.reduceDiv, zcn_I, iI_add, iI_sub, iI_mul, iI_neg, iI_lt, iI_le, iI_eq, iI_lt0, iI_le0, iI_gt0, iI_ge0, iI_eq0, p0, esl, tk] at h
        have h' : (tb k (w j)).isSome = true := by
          cases q : tb k (w j) with
          | none => exact absurd ((oRw_0 hw k (w j)).mpr q) h
          | some u => rfl
        refine zW.go [6] rfl (by omega) trivial ?_
        refine lower_lp hd hC hw ht hk hm hp hQ n (j + 1) (by omega) _ _ ?_ ?_
        · rw [zcn_I, iI_add, ct, h']
          rfl
        · exact (by simp (disch := omega) only [eq_self, not_true_eq_false, not_false_eq_true, upI_same, upL_same, upI_ne, upL_ne, iI_ixN, zI_mk, zL_mk, zP_mk, zK_mk, zN_mk, zwI_up, zwL_up, zg_some, Nat.reduceMod, Nat.reduceDiv, zcn_I, iI_add, iI_sub, iI_mul, iI_neg, iI_lt, iI_le, iI_eq, iI_lt0, iI_le0, iI_gt0, iI_ge0, iI_eq0] <;> omega)
theorem lower_ok {tb : zTb} {k m : Nat} {w : Nat → Nat} {x y : Int32} {o : Int64} (hd : 2 ≤ d) (hC : CL c R) (hw : tW tb) (ht : tbR c L tb) (e1 : x = iI (k : Int)) (e2 : o = Rw w) (e3 : y = iI (m : Int)) (hk : k < 10) (hm : m ≤ 10) (hp : pm 10 w)
    (hQ : Q (.inl (some (zi (iI (ct (fun i => (tb k (w i)).isSome) m : Nat))))) (I, L, R)) : zS 6 d [zr (some c), zi x, zl o, zi y] (I, L, R) Q := by
  subst e1; subst e2; subst e3
  refine zW.go [6] rfl (by omega) trivial ?_
  exact lower_lp hd hC hw ht hk hm hp hQ m 0 (by omega) _ _ rfl rfl
theorem number_lp {A : (Nat → Nat) → Prop} {tb : zTb} {mk : Nat → Nat → Nat} {mn : Nat} {s : Nat → Nat} (hd : 4 ≤ d) (hC : CL c R) (hA : ∀ g, A g → pm 10 g) (hG : chG A tb mk mn) (hR : chR c I L tb mk mn) (hZ : chZ c L tb) (hs : pm 10 s)
    (h1 : Gm A s → Q (.inl (some (zl (iL (numG (Gm A) s 10 : Nat))))) (I, L, R)) (h0 : ¬ Gm A s → Q (.inl (some (zl (iL (-1))))) (I, L, R)) :
    ∀ n k, k + n = 10 → ∀ (e r : Nat → Nat) (N : Nat) (o1 o2 o3 : Int64) (x : Int32) (v : Option zV), Gm A e → pm 10 r → (∀ i, i < k → r i = i) → (∀ p, s p = e (r p)) → N + numG (Gm A) s n = numG (Gm A) s 10 → o1 = iL (N : Int) → o2 = Rw e → o3 = Rw r → x = iI (k : Int) →
      zW 5 d 0 0 13 [some (zr (some c)), some (zl (Rw s)), none, some (zl o1), none, some (zl o2), none, some (zl o3), none, some (zi x), v] [] (I, L, R) Q
  | 0, k, hk, e, r, N, o1, o2, o3, x, v, he, hr, hf, hsr, hN, e1, e2, e3, e4 => by
    subst e1; subst e2; subst e3; subst e4
    obtain rfl : k = 10 := by omega
    refine zW.gbt [] rfl rfl rfl (by omega) trivial ?_ (zW.gr [] rfl rfl rfl (by omega) trivial trivial ?_)
    · exact (by simp (disch := omega) only [eq_self, not_true_eq_false, not_false_eq_true, upI_same, upL_same, upI_ne, upL_ne, iI_ixN, zI_mk, zL_mk, zP_mk, zK_mk, zN_mk, zwI_up, zwL_up, zg_some, Nat.reduceMod, Nat.reduceDiv, zcn_I, iI_add, iI_sub, iI_mul, iI_neg, iI_lt, iI_le, iI_eq, iI_lt0, iI_le0, iI_gt0, iI_ge0, iI_eq0] <;> omega)
    · have : N = numG (Gm A) s 10 := hN
      rw [this]
      refine h1 ?_
      have : s = e := by
        funext p
        rw [hsr p]
        by_cases hp : p < 10
        · rw [hf p hp]
        · rw [hr.2.2 p (by omega)]
      rw [this]
      exact he
  | n + 1, k, hk, e, r, N, o1, o2, o3, x, v, he, hr, hf, hsr, hN, e1, e2, e3, e4 => by
    subst e1; subst e2; subst e3; subst e4
    have hC' := hC
    obtain ⟨k0, p0, p1, p2, p3, k1, k2, k3, k4⟩ := hC'
    have hrk := hr.1 k (by omega)
    have hsk := hs.1 k (by omega)
    have hpe := Gm_pm hA he
    have esl : (k : Int) * 16 + (r k : Int) = ((16 * k + r k : Nat) : Int) := by omega
    have tk := hR.1 k (r k) (by omega) hrk
    have hes : ∀ i, i < k → e i = s i := fun i hi => by rw [hsr i, hf i hi]
    refine zW.gbf [] rfl rfl rfl (by omega) trivial ?_ (zW.gz [] rfl rfl rfl (by omega) trivial trivial rfl rfl (Nat.le_refl _) (Nat.le_refl _) ?_)
    · exact (by simp (disch := omega) only [eq_self, not_true_eq_false, not_false_eq_true, upI_same, upL_same, upI_ne, upL_ne, iI_ixN, zI_mk, zL_mk, zP_mk, zK_mk, zN_mk, zwI_up, zwL_up, zg_some, Nat.reduceMod, Nat.reduceDiv, zcn_I, iI_add, iI_sub, iI_mul, iI_neg, iI_lt, iI_le, iI_eq, iI_lt0, iI_le0, iI_gt0, iI_ge0, iI_eq0] <;> omega)
    · refine at_ok (f := r) (p := k) (by omega) (pm_nb hr) (by omega) rfl rfl ?_
      cases ht : tb k (r k) with
      | none =>
        have tk1 := tk.1
        rw [ht] at tk1
        have tk1 : L (c + 1) (16 * k + r k) = iL 0 := tk1
        refine zW.gbf [] rfl rfl rfl (by omega) ?_ ?_ (zW.gr [] rfl rfl rfl (by omega) trivial trivial ?_)
        · simp (disch := omega) only [upI_same, upL_same, upI_ne, upL_ne, iI_ixN, zI_mk, zL_mk, zP_mk, zK_mk, zN_mk, zwI_up, zwL_up, zg_some, Nat.reduceMod, Nat.reduceDiv, zcn_I, iI_add, iI_sub, iI_mul, iI_neg, iI_lt, iI_le, iI_eq, iI_lt0, iI_le0, iI_gt0, iI_ge0, iI_eq0, p0, esl]
          exact (by simp (disch := omega) only [true_or, or_true, eq_self, Option.some.injEq, Prod.mk.injEq, zall_0, zall_1, zall_2, zob_iff, zar_iff, zis_iff, zkIs_some, zkHas_some, iI_vp, z01_I, z01_bz, zch_I, true_and, and_true, or_false, false_or, and_self, upI_same, upL_same, upI_ne, upL_ne, iI_ixN, zI_mk, zL_mk, zP_mk, zK_mk, zN_mk, zwI_up, zwL_up, zg_some, Nat.reduceMod, Nat.reduceDiv, zcn_I, iI_add, iI_sub, iI_mul, iI_neg, iI_lt, iI_le, iI_eq, iI_lt0, iI_le0, iI_gt0, iI_ge0, iI_eq0, k0, p0, k1, esl] <;> omega)
        · simp (disch := omega) only [upI_same, upL_same, upI_ne, upL_ne, iI_ixN, zI_mk, zL_mk, zP_mk, zK_mk, zN_mk, zwI_up, zwL_up, zg_some, Nat.reduceMod, Nat.reduceDiv, zcn_I, iI_add, iI_sub, iI_mul, iI_neg, iI_lt, iI_le, iI_eq, iI_lt0, iI_le0, iI_gt0, iI_ge0, iI_eq0, p0, esl, tk1, lg_cmp_eq]
          exact fun q => q rfl
        · have z9 : Int64.ofInt (zldL 1228) = iL (-1) := by decide +kernel
          rw [z9]
          refine h0 fun hGs => ?_
          have hGr : Gm A r := by
            have e9 : r = fun p => vi 10 e (s p) := funext fun p => by rw [hsr p, vi_l hpe]
            rw [e9]
            exact Gm_mul (Gm_vi hA he) hGs
          have := (orb_is hA hG (by omega)).mpr ⟨r, hGr, hf, rfl⟩
          rw [ht] at this
          cases this
      | some u =>
        have tk1 := tk.1
        rw [ht] at tk1
        have tk1 : L (c + 1) (16 * k + r k) = Rw u := tk1
        have tk2 := tk.2 u ht
        obtain ⟨b1, b2, b3, b4, b5⟩ := hG.1.1.1 _ _ _ ht
        have z2 := hZ.2 k (by omega)
        refine zW.gbt [] rfl rfl rfl (by omega) ?_ ?_ (zW.gz [] rfl rfl rfl (by omega) ?_ trivial rfl rfl (Nat.le_refl _) (Nat.le_refl _) ?_)
        · simp (disch := omega) only [upI_same, upL_same, upI_ne, upL_ne, iI_ixN, zI_mk, zL_mk, zP_mk, zK_mk, zN_mk, zwI_up, zwL_up, zg_some, Nat.reduceMod, Nat.reduceDiv, zcn_I, iI_add, iI_sub, iI_mul, iI_neg, iI_lt, iI_le, iI_eq, iI_lt0, iI_le0, iI_gt0, iI_ge0, iI_eq0, p0, esl]
          exact (by simp (disch := omega) only [true_or, or_true, eq_self, Option.some.injEq, Prod.mk.injEq, zall_0, zall_1, zall_2, zob_iff, zar_iff, zis_iff, zkIs_some, zkHas_some, iI_vp, z01_I, z01_bz, zch_I, true_and, and_true, or_false, false_or, and_self, upI_same, upL_same, upI_ne, upL_ne, iI_ixN, zI_mk, zL_mk, zP_mk, zK_mk, zN_mk, zwI_up, zwL_up, zg_some, Nat.reduceMod, Nat.reduceDiv, zcn_I, iI_add, iI_sub, iI_mul, iI_neg, iI_lt, iI_le, iI_eq, iI_lt0, iI_le0, iI_gt0, iI_ge0, iI_eq0, k0, p0, k1, esl] <;> omega)
        · simp (disch := omega) only [upI_same, upL_same, upI_ne, upL_ne, iI_ixN, zI_mk, zL_mk, zP_mk, zK_mk, zN_mk, zwI_up, zwL_up, zg_some, Nat.reduceMod, Nat.reduceDiv, zcn_I, iI_add, iI_sub, iI_mul, iI_neg, iI_lt, iI_le, iI_eq, iI_lt0, iI_le0, iI_gt0, iI_ge0, iI_eq0, p0, esl, tk1, lg_cmp_eq]
          exact Rw_n0 b3
        · exact (by simp (disch := omega) only [true_or, or_true, eq_self, Option.some.injEq, Prod.mk.injEq, zall_0, zall_1, zall_2, zob_iff, zar_iff, zis_iff, zkIs_some, zkHas_some, iI_vp, z01_I, z01_bz, zch_I, true_and, and_true, or_false, false_or, and_self, upI_same, upL_same, upI_ne, upL_ne, iI_ixN, zI_mk, zL_mk, zP_mk, zK_mk, zN_mk, zwI_up, zwL_up, zg_some, Nat.reduceMod, Nat.reduceDiv, zcn_I, iI_add, iI_sub, iI_mul, iI_neg, iI_lt, iI_le, iI_eq, iI_lt0, iI_le0, iI_gt0, iI_ge0, iI_eq0, k0, p3, k4] <;> omega)
        · simp (disch := omega) only [upI_same, upL_same, upI_ne, upL_ne, iI_ixN, zI_mk, zL_mk, zP_mk, zK_mk, zN_mk, zwI_up, zwL_up, zg_some, Nat.reduceMod, Nat.reduceDiv, zcn_I, iI_add, iI_sub, iI_mul, iI_neg, iI_lt, iI_le, iI_eq, iI_lt0, iI_le0, iI_gt0, iI_ge0, iI_eq0, esl, p3, z2]
          refine back_ok (f := e) (by omega) hpe rfl ?_
          refine zW.gz [] rfl rfl rfl (by omega) trivial trivial rfl rfl (Nat.le_refl _) (Nat.le_refl _) ?_
          refine at_ok (f := s) (p := k) (by omega) (pm_nb hs) (by omega) rfl rfl ?_
          refine zW.gz [] rfl rfl rfl (by omega) trivial ?_ rfl rfl (Nat.le_refl _) (Nat.le_refl _) ?_
          · exact ⟨_, rfl, k0⟩
          · refine lower_ok (tb := tb) (k := k) (m := s k) (w := vi 10 e) (by omega) hC hG.1.1 hR.1 rfl rfl rfl (by omega) (by omega) (vi_pm hpe) ?_
            rw [cl_eq hA hG (by omega) he hes]
            have hcl : ct (fun v => dc (low (Gm A) s k v)) (s k) ≤ 10 := Nat.le_trans (ct_le _ _) (by omega)
            refine zW.gz [] rfl rfl rfl (by omega) ?_ trivial rfl rfl (Nat.le_refl _) (Nat.le_refl _) ?_
            · exact (by simp (disch := omega) only [true_or, or_true, eq_self, Option.some.injEq, Prod.mk.injEq, zall_0, zall_1, zall_2, zob_iff, zar_iff, zis_iff, zkIs_some, zkHas_some, iI_vp, z01_I, z01_bz, zch_I, true_and, and_true, or_false, false_or, and_self, upI_same, upL_same, upI_ne, upL_ne, iI_ixN, zI_mk, zL_mk, zP_mk, zK_mk, zN_mk, zwI_up, zwL_up, zg_some, Nat.reduceMod, Nat.reduceDiv, zcn_I, iI_add, iI_sub, iI_mul, iI_neg, iI_lt, iI_le, iI_eq, iI_lt0, iI_le0, iI_gt0, iI_ge0, iI_eq0, k0, p0, k1] <;> omega)
            · simp (disch := omega) only [upI_same, upL_same, upI_ne, upL_ne, iI_ixN, zI_mk, zL_mk, zP_mk, zK_mk, zN_mk, zwI_up, zwL_up, zg_some, Nat.reduceMod, Nat.reduceDiv, p0, tk1, iI_L, iL_mul, iL_add]
              refine through_ok (f := e) (g := u) (by omega) (pm_nb hpe) b3.1 rfl rfl ?_
              refine zW.gz [] rfl rfl rfl (by omega) ?_ trivial rfl rfl (Nat.le_refl _) (Nat.le_refl _) ?_
              · exact (by simp (disch := omega) only [true_or, or_true, eq_self, Option.some.injEq, Prod.mk.injEq, zall_0, zall_1, zall_2, zob_iff, zar_iff, zis_iff, zkIs_some, zkHas_some, iI_vp, z01_I, z01_bz, zch_I, true_and, and_true, or_false, false_or, and_self, upI_same, upL_same, upI_ne, upL_ne, iI_ixN, zI_mk, zL_mk, zP_mk, zK_mk, zN_mk, zwI_up, zwL_up, zg_some, Nat.reduceMod, Nat.reduceDiv, zcn_I, iI_add, iI_sub, iI_mul, iI_neg, iI_lt, iI_le, iI_eq, iI_lt0, iI_le0, iI_gt0, iI_ge0, iI_eq0, k0, p1, k2] <;> omega)
              · simp (disch := omega) only [upI_same, upL_same, upI_ne, upL_ne, iI_ixN, zI_mk, zL_mk, zP_mk, zK_mk, zN_mk, zwI_up, zwL_up, zg_some, Nat.reduceMod, Nat.reduceDiv, zcn_I, iI_add, iI_sub, iI_mul, iI_neg, iI_lt, iI_le, iI_eq, iI_lt0, iI_le0, iI_gt0, iI_ge0, iI_eq0, p1, tk2]
                refine through_ok (f := vi 10 u) (g := r) (by omega) (pm_nb (vi_pm b3)) hr.1 rfl rfl ?_
                refine zW.go [13] rfl (by omega) trivial ?_
                refine number_lp hd hC hA hG hR hZ hs h1 h0 n (k + 1) (by omega) (fun p => e (u p)) (fun p => vi 10 u (r p)) (N + szT tb (9 - k) * ct (fun v => dc (low (Gm A) s k v)) (s k)) _ _ _ _ _ (Gm_mul he (hG.2.1 _ _ _ ht)) (pm_comp (vi_pm b3) hr) (fun i hi => ?_) (fun p => ?_) ?_ ?_ rfl rfl ?_
                · refine pm_inj b3 ?_
                  rw [vi_r b3]
                  by_cases e : i = k
                  · rw [e, b5]
                  · rw [hf i (by omega), b4 i (by omega)]
                · show s p = e (u (vi 10 u (r p)))
                  rw [vi_r b3]
                  exact hsr p
                · rw [← hN, szT_eq hA hG]
                  have e9 : 9 - n = k := by omega
                  show _ = N + (clG (Gm A) s (9 - n) * szG (Gm A) n + numG (Gm A) s n)
                  rw [e9, show 9 - k = n by omega, Nat.mul_comm (szG (Gm A) n)]
                  exact Nat.add_assoc _ _ _
                · refine iL_cg ?_
                  rw [Int.natCast_add, Int.natCast_mul]
                · exact (by simp (disch := omega) only [eq_self, not_true_eq_false, not_false_eq_true, upI_same, upL_same, upI_ne, upL_ne, iI_ixN, zI_mk, zL_mk, zP_mk, zK_mk, zN_mk, zwI_up, zwL_up, zg_some, Nat.reduceMod, Nat.reduceDiv, zcn_I, iI_add, iI_sub, iI_mul, iI_neg, iI_lt, iI_le, iI_eq, iI_lt0, iI_le0, iI_gt0, iI_ge0, iI_eq0] <;> omega)
theorem number_ok {A : (Nat → Nat) → Prop} {s : Nat → Nat} {o : Int64} (hd : 4 ≤ d) (hC : CL c R) (hA : ∀ g, A g → pm 10 g) (hch : chain c I L A) (hs : pm 10 s) (e : o = Rw s)
    (h1 : Gm A s → Q (.inl (some (zl (iL (numG (Gm A) s 10 : Nat))))) (I, L, R)) (h0 : ¬ Gm A s → Q (.inl (some (zl (iL (-1))))) (I, L, R)) : zS 5 d [zr (some c), zl o] (I, L, R) Q := by
  subst e
  obtain ⟨tb, mk, mn, g1, r1, z1⟩ := hch
  refine zW.go [13] rfl (by omega) trivial ?_
  exact number_lp hd hC hA g1 r1 z1 hs h1 h0 10 0 rfl (fun p => p) s 0 _ _ _ _ _ (Gm_id A) hs (fun i h => absurd h (Nat.not_lt_zero i)) (fun _ => rfl) (Nat.zero_add _) rfl (by rw [Rw_id]; decide +kernel) rfl rfl
theorem rank_lp {tb : zTb} {k v : Nat} {w : Nat → Nat} {o0 : Int64} (hd : 2 ≤ d) (hC : CL c R) (hw : tW tb) (ht : tbR c L tb) (hk : k < 10) (hv : v < 10) (hp : pm 10 w) (hsv : (tb k (w v)).isSome = true)
    (hQ : Q (.inl (some (zi (iI ((16 * k + w v : Nat) : Int))))) (I, L, R)) :
    ∀ n j, j + n = v → ∀ (o : Int64) (x : Int32) (y : Option zV), o = iL ((ct (fun i => (tb k (w i)).isSome) v : Int) - (ct (fun i => (tb k (w i)).isSome) j : Int)) → x = iI (j : Int) → zW 8 d 0 0 7 [some (zr (some c)), some (zi (iI (k : Int))), some (zl (Rw w)), none, some (zl o0), none, some (zl o), none, some (zi x), y] [] (I, L, R) Q := by
  intro n j hj o x y e1 e2
  have hC' := hC
  obtain ⟨k0, p0, p1, p2, p3, k1, k2, k3, k4⟩ := hC'
  induction n generalizing j o x y with
  | zero =>
    subst e1; subst e2
    obtain rfl : j = v := by omega
    have hwj := hp.1 j (by omega)
    have esl : (k : Int) * 16 + (w j : Int) = ((16 * k + w j : Nat) : Int) := by omega
    have tk := (ht k (w j) hk hwj).1
    obtain ⟨u, hu⟩ := Option.isSome_iff_exists.mp hsv
    rw [hu] at tk
    have tk : L (c + 1) (16 * k + w j) = Rw u := tk
    obtain ⟨b1, b2, b3, b4, b5⟩ := hw.1 _ _ _ hu
    refine zW.gbf [] rfl rfl rfl (by omega) trivial ?_ (zW.gz [] rfl rfl rfl hd trivial trivial rfl rfl (Nat.le_refl _) (Nat.le_refl _) ?_)
    · exact (by simp (disch := omega) only [eq_self, not_true_eq_false, not_false_eq_true, upI_same, upL_same, upI_ne, upL_ne, iI_ixN, zI_mk, zL_mk, zP_mk, zK_mk, zN_mk, zwI_up, zwL_up, zg_some, Nat.reduceMod, Nat.reduceDiv, zcn_I, iI_add, iI_sub, iI_mul, iI_neg, iI_lt, iI_le, iI_eq, iI_lt0, iI_le0, iI_gt0, iI_ge0, iI_eq0] <;> omega)
    · refine at_ok (f := w) (p := j) (by omega) (pm_nb hp) (by omega) rfl rfl ?_
      refine zW.gbf [] rfl rfl rfl (by omega) ?_ ?_ (zW.gbf [] rfl rfl rfl (by omega) trivial ?_ (zW.gr [] rfl rfl rfl (by omega) trivial trivial ?_))
      · simp (disch := omega) only [upI_same, upL_same, upI_ne, upL_ne, iI_ixN, zI_mk, zL_mk, zP_mk, zK_mk, zN_mk, zwI_up, zwL_up, zg_some, Nat.reduceMod, Nat.reduceDiv, zcn_I, iI_add, iI_sub, iI_mul, iI_neg, iI_lt, iI_le, iI_eq, iI_lt0, iI_le0, iI_gt0, iI_ge0, iI_eq0, p0, esl]
        exact (by simp (disch := omega) only [true_or, or_true, eq_self, Option.some.injEq, Prod.mk.injEq, zall_0, zall_1, zall_2, zob_iff, zar_iff, zis_iff, zkIs_some, zkHas_some, iI_vp, z01_I, z01_bz, zch_I, true_and, and_true, or_false, false_or, and_self, upI_same, upL_same, upI_ne, upL_ne, iI_ixN, zI_mk, zL_mk, zP_mk, zK_mk, zN_mk, zwI_up, zwL_up, zg_some, Nat.reduceMod, Nat.reduceDiv, zcn_I, iI_add, iI_sub, iI_mul, iI_neg, iI_lt, iI_le, iI_eq, iI_lt0, iI_le0, iI_gt0, iI_ge0, iI_eq0, k0, p0, k1, esl] <;> omega)
      · simp (disch := omega) only [upI_same, upL_same, upI_ne, upL_ne, iI_ixN, zI_mk, zL_mk, zP_mk, zK_mk, zN_mk, zwI_up, zwL_up, zg_some, Nat.reduceMod, Nat.reduceDiv, zcn_I, iI_add, iI_sub, iI_mul, iI_neg, iI_lt, iI_le, iI_eq, iI_lt0, iI_le0, iI_gt0, iI_ge0, iI_eq0, p0, esl, tk, lg_cmp_eq]
        exact Rw_n0 b3
      · rw [lg_cmp_eq, Int.sub_self]
        exact fun q => q rfl
      · simp (disch := omega) only [upI_same, upL_same, upI_ne, upL_ne, iI_ixN, zI_mk, zL_mk, zP_mk, zK_mk, zN_mk, zwI_up, zwL_up, zg_some, Nat.reduceMod, Nat.reduceDiv, zcn_I, iI_add, iI_sub, iI_mul, iI_neg, iI_lt, iI_le, iI_eq, iI_lt0, iI_le0, iI_gt0, iI_ge0, iI_eq0, zcn_I, iI_mul, iI_add, esl]
        exact hQ
  | succ n ih =>
    subst e1; subst e2
    have hwj := hp.1 j (by omega)
    have esl : (k : Int) * 16 + (w j : Int) = ((16 * k + w j : Nat) : Int) := by omega
    have tk := (ht k (w j) hk hwj).1
    have cl1 : ct (fun i => (tb k (w i)).isSome) v ≤ v := ct_le _ _
    have cl2 : ct (fun i => (tb k (w i)).isSome) j ≤ j := ct_le _ _
    have step : ct (fun i => (tb k (w i)).isSome) (j + 1) = ct (fun i => (tb k (w i)).isSome) j + (if (tb k (w j)).isSome then 1 else 0) := rfl
    refine zW.gbf [] rfl rfl rfl (by omega) trivial ?_ (zW.gz [] rfl rfl rfl hd trivial trivial rfl rfl (Nat.le_refl _) (Nat.le_refl _) ?_)
    · exact (by simp (disch := omega) only [eq_self, not_true_eq_false, not_false_eq_true, upI_same, upL_same, upI_ne, upL_ne, iI_ixN, zI_mk, zL_mk, zP_mk, zK_mk, zN_mk, zwI_up, zwL_up, zg_some, Nat.reduceMod, Nat.reduceDiv, zcn_I, iI_add, iI_sub, iI_mul, iI_neg, iI_lt, iI_le, iI_eq, iI_lt0, iI_le0, iI_gt0, iI_ge0, iI_eq0] <;> omega)
    · refine at_ok (f := w) (p := j) (by omega) (pm_nb hp) (by omega) rfl rfl ?_
      refine zW.gb [] rfl rfl rfl (by omega) ?_ (fun h => ?_) (fun h => ?_)
      · simp (disch := omega) only [upI_same, upL_same, upI_ne, upL_ne, iI_ixN, zI_mk, zL_mk, zP_mk, zK_mk, zN_mk, zwI_up, zwL_up, zg_some, Nat.reduceMod, Nat.reduceDiv, zcn_I, iI_add, iI_sub, iI_mul, iI_neg, iI_lt, iI_le, iI_eq, iI_lt0, iI_le0, iI_gt0, iI_ge0, iI_eq0, p0, esl]
        exact (by simp (disch := omega) only [true_or, or_true, eq_self, Option.some.injEq, Prod.mk.injEq, zall_0, zall_1, zall_2, zob_iff, zar_iff, zis_iff, zkIs_some, zkHas_some, iI_vp, z01_I, z01_bz, zch_I, true_and, and_true, or_false, false_or, and_self, upI_same, upL_same, upI_ne, upL_ne, iI_ixN, zI_mk, zL_mk, zP_mk, zK_mk, zN_mk, zwI_up, zwL_up, zg_some, Nat.reduceMod, Nat.reduceDiv, zcn_I, iI_add, iI_sub, iI_mul, iI_neg, iI_lt, iI_le, iI_eq, iI_lt0, iI_le0, iI_gt0, iI_ge0, iI_eq0, k0, p0, k1, esl] <;> omega)
      · rw [lg_cmp_eq] at h
        simp (disch := omega) only [upI_same, upL_same, upI_ne, upL_ne, iI_ixN, zI_mk, zL_mk, zP_mk, zK_mk, zN_mk, zwI_up, zwL_up, zg_some, Nat.reduceMod, Nat.reduceDiv, zcn_I, iI_add, iI_sub, iI_mul, iI_neg, iI_lt, iI_le, iI_eq, iI_lt0, iI_le0, iI_gt0, iI_ge0, iI_eq0, p0, esl, tk] at h
        have h' := (oRw_0 hw k (w j)).mp h
        rw [h'] at step
        refine zW.go [7] rfl (by omega) trivial ?_
        refine ih (j + 1) (by omega) _ _ _ ?_ ?_
        · rw [step]
          rfl
        · exact (by simp (disch := omega) only [eq_self, not_true_eq_false, not_false_eq_true, upI_same, upL_same, upI_ne, upL_ne, iI_ixN, zI_mk, zL_mk, zP_mk, zK_mk, zN_mk, zwI_up, zwL_up, zg_some, Nat.reduceMod, Nat.reduceDiv, zcn_I, iI_add, iI_sub, iI_mul, iI_neg, iI_lt, iI_le, iI_eq, iI_lt0, iI_le0, iI_gt0, iI_ge0, iI_eq0] <;> omega)
      · rw [lg_cmp_eq] at h
        simp (disch := omega) only [upI_same, upL_same, upI_ne, upL_ne, iI_ixN, zI_mk, zL_mk, zP_mk, zK_mk, zN_mk, zwI_up, zwL_up, zg_some, Nat.reduceMod, Nat.reduceDiv, zcn_I, iI_add, iI_sub, iI_mul, iI_neg, iI_lt, iI_le, iI_eq, iI_lt0, iI_le0, iI_gt0, iI_ge0, iI_eq0, p0, esl, tk] at h
        have h' : (tb k (w j)).isSome = true := by
          cases q : tb k (w j) with
          | none => exact absurd ((oRw_0 hw k (w j)).mpr q) h
          | some u => rfl
        rw [h'] at step
        have mono : ct (fun i => (tb k (w i)).isSome) (j + 1) ≤ ct (fun i => (tb k (w i)).isSome) v := by
          have m9 : ∀ (b : Nat → Bool) n m, ct b n ≤ ct b (n + m) := by
            intro b n m
            induction m with
            | zero => exact Nat.le_refl _
            | succ m ih => exact Nat.le_trans ih (Nat.le_add_right _ _)
          have := m9 (fun i => (tb k (w i)).isSome) (j + 1) (v - (j + 1))
          rwa [show j + 1 + (v - (j + 1)) = v by omega] at this
        simp only [if_true] at step
        refine zW.gbt [] rfl rfl rfl (by omega) trivial ?_ (zW.go [7] rfl (by omega) trivial ?_)
        · rw [lg_cmp_eq]
          intro q
          have q : iL _ = iL 0 := q
          rw [iL_eq (by omega) (by omega) (by omega) (by omega)] at q
          omega
        · refine ih (j + 1) (by omega) _ _ _ ?_ ?_
          · show iL _ - iL 1 = _
            rw [iL_sub]
            exact iL_cg (by omega)
          · exact (by simp (disch := omega) only [eq_self, not_true_eq_false, not_false_eq_true, upI_same, upL_same, upI_ne, upL_ne, iI_ixN, zI_mk, zL_mk, zP_mk, zK_mk, zN_mk, zwI_up, zwL_up, zg_some, Nat.reduceMod, Nat.reduceDiv, zcn_I, iI_add, iI_sub, iI_mul, iI_neg, iI_lt, iI_le, iI_eq, iI_lt0, iI_le0, iI_gt0, iI_ge0, iI_eq0] <;> omega)
theorem rank_ok {tb : zTb} {k v : Nat} {w : Nat → Nat} {x : Int32} {o o0 : Int64} (hd : 2 ≤ d) (hC : CL c R) (hw : tW tb) (ht : tbR c L tb) (hk : k < 10) (hv : v < 10) (hp : pm 10 w) (hsv : (tb k (w v)).isSome = true) (e1 : x = iI (k : Int)) (e2 : o = Rw w) (e3 : o0 = iL (ct (fun i => (tb k (w i)).isSome) v : Int))
    (hQ : Q (.inl (some (zi (iI ((16 * k + w v : Nat) : Int))))) (I, L, R)) : zS 8 d [zr (some c), zi x, zl o, zl o0] (I, L, R) Q := by
  subst e1; subst e2; subst e3
  refine zW.go [7] rfl (by omega) trivial ?_
  exact rank_lp hd hC hw ht hk hv hp hsv hQ v 0 (by omega) _ _ _ (iL_cg (by show _ = _ - ((0 : Nat) : Int); omega)) rfl
end NUMB
