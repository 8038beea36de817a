/-! The chain over the memory: keep, sift, grow. -/
def CL (c : Nat) (R : zRt) : Prop := R.2.1 c = some (0, 0) ∧ R.1 c 0 = some (c + 1) ∧ R.1 c 1 = some (c + 2) ∧ R.1 c 2 = some (c + 3) ∧ R.1 c 3 = some (c + 4) ∧ R.2.1 (c + 1) = some (21, 160) ∧ R.2.1 (c + 2) = some (21, 160) ∧ R.2.1 (c + 3) = some (21, 45) ∧ R.2.1 (c + 4) = some (21, 10)
noncomputable def oRw (o : Option (Nat → Nat)) : Int64 := match o with
  | none => iL 0
  | some u => Rw u
def tbR (c : Nat) (L : Nat → Nat → Int64) (tb : zTb) : Prop := ∀ k j, k < 10 → j < 10 → L (c + 1) (16 * k + j) = oRw (tb k j) ∧ ∀ u, tb k j = some u → L (c + 2) (16 * k + j) = Rw (vi 10 u)
def chO (tb : zTb) (mk : Nat → Nat → Nat) (mn : Nat) : Prop := tW tb ∧ mn = ct (fun i => (tb (i / 10) (i % 10)).isSome && decide (i / 10 < i % 10)) 100 ∧ (∀ i, i < mn → ∃ k j, tb k j = some (mk i)) ∧ ∀ k j u, tb k j = some u → k ≠ j → ∃ i, i < mn ∧ mk i = u
def chR (c : Nat) (I : Nat → Nat → Int32) (L : Nat → Nat → Int64) (tb : zTb) (mk : Nat → Nat → Nat) (mn : Nat) : Prop := tbR c L tb ∧ I c 4 = iI (mn : Int) ∧ ∀ i, i < mn → L (c + 3) i = Rw (mk i)
def cfr (c : Nat) (I : Nat → Nat → Int32) (L : Nat → Nat → Int64) (I' : Nat → Nat → Int32) (L' : Nat → Nat → Int64) : Prop := (∀ b, b ≠ c → I' b = I b) ∧ (∀ b, ¬ (c ≤ b ∧ b ≤ c + 4) → L' b = L b)
theorem cfr_rf (c : Nat) (I : Nat → Nat → Int32) (L : Nat → Nat → Int64) : cfr c I L I L := ⟨fun _ _ => rfl, fun _ _ => rfl⟩
theorem cfr_tr {c : Nat} {I I1 I2 : Nat → Nat → Int32} {L L1 L2 : Nat → Nat → Int64} (h1 : cfr c I L I1 L1) (h2 : cfr c I1 L1 I2 L2) : cfr c I L I2 L2 := ⟨fun b q => (h2.1 b q).trans (h1.1 b q), fun b q => (h2.2 b q).trans (h1.2 b q)⟩
/-- a step that may have added an entry, for r -/
def chS (c : Nat) (I : Nat → Nat → Int32) (L : Nat → Nat → Int64) (tb : zTb) (mk : Nat → Nat → Nat) (mn : Nat) (r : Nat → Nat) (I' : Nat → Nat → Int32) (L' : Nat → Nat → Int64) (tb' : zTb) (mk' : Nat → Nat → Nat) (mn' : Nat) : Prop :=
  tLe tb tb' ∧ chO tb' mk' mn' ∧ chR c I' L' tb' mk' mn' ∧ mn ≤ mn' ∧ (∀ i, i < mn → mk' i = mk i) ∧ (∀ A : (Nat → Nat) → Prop, (∀ g, A g → pm 10 g) → Gm A r → (∀ k j v, tb k j = some v → Gm A v) → ∀ k j v, tb' k j = some v → Gm A v) ∧ cfr c I L I' L' ∧ Fl tb' 10 r
theorem ct_all : ct (fun i => decide (i / 10 < i % 10)) 100 = 45 := by decide +kernel
theorem chO_lt {tb : zTb} {mk : Nat → Nat → Nat} {mn k j : Nat} (h : chO tb mk mn) (hkj : k < j) (hj : j < 10) (hn : tb k j = none) : mn < 45 := by
  rw [h.2.1, ← ct_all]
  refine ct_lt (i := 10 * k + j) (fun i _ q => ?_) (by omega) ?_ ?_
  · rw [Bool.and_eq_true] at q
    exact q.2
  · rw [show (10 * k + j) / 10 = k by omega, show (10 * k + j) % 10 = j by omega, hn]
    rfl
  · rw [show (10 * k + j) / 10 = k by omega, show (10 * k + j) % 10 = j by omega]
    exact decide_eq_true hkj
theorem chO_le {tb : zTb} {mk : Nat → Nat → Nat} {mn : Nat} (h : chO tb mk mn) : mn ≤ 45 := by
  rw [h.2.1, ← ct_all]
  refine ct_mono fun i _ q => ?_
  rw [Bool.and_eq_true] at q
  exact q.2
section CHAIN
variable {d c : Nat} {I : Nat → Nat → Int32} {L : Nat → Nat → Int64} {R : zRt} {Q : zO → zM → Prop}
theorem keep_ok {mn s : Nat} {u : Nat → Nat} {x : Int32} {o : Int64} (hd : 4 ≤ d) (hC : CL c R) (e1 : x = iI (s : Int)) (e2 : o = Rw u) (hs : s < 160) (hu : pm 10 u) (hI : I c 4 = iI (mn : Int)) (hmn : mn < 45)
    (hQ : Q (.inl none) (upI I c 4 (iI ((mn + 1 : Nat) : Int)), upL (upL (upL L (c + 1) s (Rw u)) (c + 2) s (Rw (vi 10 u))) (c + 3) mn (Rw u), R)) : zS 3 d [zr (some c), zi x, zl o] (I, L, R) Q := by
  subst e1; subst e2
  obtain ⟨k0, p0, p1, p2, p3, k1, k2, k3, k4⟩ := hC
  refine zW.gbf [] rfl rfl rfl (by omega) ?_ ?_ (zW.gz [] rfl rfl rfl (by omega) ?_ trivial rfl rfl (Nat.le_refl _) (Nat.le_refl _) ?_)
  · exact (by simp (disch := omega) only [true_or, or_true, eq_self, Option.some.injEq, Prod.mk.injEq, zall_0, zall_1, zall_2, zob_iff, zar_iff, zis_iff, zkIs_some, zkHas_some, iI_vp, z01_I, z01_bz, zch_I, true_and, and_true, or_false, false_or, and_self, upI_same, upL_same, upI_ne, upL_ne, iI_ixN, zI_mk, zL_mk, zP_mk, zK_mk, zN_mk, zwI_up, zwL_up, zg_some, Nat.reduceMod, Nat.reduceDiv, zcn_I, iI_add, iI_sub, iI_mul, iI_neg, iI_lt, iI_le, iI_eq, iI_lt0, iI_le0, iI_gt0, iI_ge0, iI_eq0, k0] <;> omega)
  · exact (by simp (disch := omega) only [eq_self, not_true_eq_false, not_false_eq_true, upI_same, upL_same, upI_ne, upL_ne, iI_ixN, zI_mk, zL_mk, zP_mk, zK_mk, zN_mk, zwI_up, zwL_up, zg_some, Nat.reduceMod, Nat.reduceDiv, zcn_I, iI_add, iI_sub, iI_mul, iI_neg, iI_lt, iI_le, iI_eq, iI_lt0, iI_le0, iI_gt0, iI_ge0, iI_eq0, hI] <;> omega)
  · exact (by simp (disch := omega) only [true_or, or_true, eq_self, Option.some.injEq, Prod.mk.injEq, zall_0, zall_1, zall_2, zob_iff, zar_iff, zis_iff, zkIs_some, zkHas_some, iI_vp, z01_I, z01_bz, zch_I, true_and, and_true, or_false, false_or, and_self, upI_same, upL_same, upI_ne, upL_ne, iI_ixN, zI_mk, zL_mk, zP_mk, zK_mk, zN_mk, zwI_up, zwL_up, zg_some, Nat.reduceMod, Nat.reduceDiv, zcn_I, iI_add, iI_sub, iI_mul, iI_neg, iI_lt, iI_le, iI_eq, iI_lt0, iI_le0, iI_gt0, iI_ge0, iI_eq0, k0, p0, k1, p1] <;> omega)
  · refine back_ok (f := u) (by omega) hu rfl ?_
    refine zW.gr [] rfl rfl rfl (by omega) ?_ trivial ?_
    · simp (disch := omega) only [upI_same, upL_same, upI_ne, upL_ne, iI_ixN, zI_mk, zL_mk, zP_mk, zK_mk, zN_mk, zwI_up, zwL_up, zg_some, Nat.reduceMod, Nat.reduceDiv, zcn_I, iI_add, iI_sub, iI_mul, iI_neg, iI_lt, iI_le, iI_eq, iI_lt0, iI_le0, iI_gt0, iI_ge0, iI_eq0, p0, p1, p2, hI]
      exact (by simp (disch := omega) only [true_or, or_true, eq_self, Option.some.injEq, Prod.mk.injEq, zall_0, zall_1, zall_2, zob_iff, zar_iff, zis_iff, zkIs_some, zkHas_some, iI_vp, z01_I, z01_bz, zch_I, true_and, and_true, or_false, false_or, and_self, upI_same, upL_same, upI_ne, upL_ne, iI_ixN, zI_mk, zL_mk, zP_mk, zK_mk, zN_mk, zwI_up, zwL_up, zg_some, Nat.reduceMod, Nat.reduceDiv, zcn_I, iI_add, iI_sub, iI_mul, iI_neg, iI_lt, iI_le, iI_eq, iI_lt0, iI_le0, iI_gt0, iI_ge0, iI_eq0, k0, p0, p1, p2, k1, k2, k3, hI] <;> omega)
    · simp (disch := omega) only [upI_same, upL_same, upI_ne, upL_ne, iI_ixN, zI_mk, zL_mk, zP_mk, zK_mk, zN_mk, zwI_up, zwL_up, zg_some, Nat.reduceMod, Nat.reduceDiv, zcn_I, iI_add, iI_sub, iI_mul, iI_neg, iI_lt, iI_le, iI_eq, iI_lt0, iI_le0, iI_gt0, iI_ge0, iI_eq0, p0, p1, p2, hI]
      exact hQ
/-- the table with one more -/
def tSet (tb : zTb) (k : Nat) (u : Nat → Nat) : zTb := fun k' j' => if k' = k ∧ j' = u k then some u else tb k' j'
theorem sift_lp {tb : zTb} {mk : Nat → Nat → Nat} {mn : Nat} {r0 : Nat → Nat} {o0 : Int64} (hd : 5 ≤ d) (hC : CL c R) (hO : chO tb mk mn) (hR : chR c I L tb mk mn)
    (hQ : ∀ I' L' tb' mk' mn', chS c I L tb mk mn r0 I' L' tb' mk' mn' → Q (.inl none) (I', L', R)) :
    ∀ n k, k + n = 10 → ∀ (r : Nat → Nat) (o : Int64) (x : Int32) (v : Option zV), pm 10 r → (∀ i, i < k → r i = i) → (∀ tb', tLe tb tb' → (Fl tb' 10 r0 ↔ Fl tb' n r)) → (∀ A : (Nat → Nat) → Prop, (∀ g, A g → pm 10 g) → Gm A r0 → (∀ k j v, tb k j = some v → Gm A v) → Gm A r) → o = Rw r → x = iI (k : Int) →
      zW 2 d 0 0 5 [some (zr (some c)), some (zl o0), none, some (zl o), none, some (zi x), v] [] (I, L, R) Q
  | 0, k, hk, r, o, x, v, hr, hf, hF, hA, e1, e2 => by
    subst e1; subst e2
    refine zW.gbt [] rfl rfl rfl (by omega) trivial ?_ (zW.gr [] rfl rfl rfl (by omega) trivial trivial ?_)
    · exact (by simp (disch := omega) only [eq_self, not_true_eq_false, not_false_eq_true, upI_same, upL_same, upI_ne, upL_ne, iI_ixN, zI_mk, zL_mk, zP_mk, zK_mk, zN_mk, zwI_up, zwL_up, zg_some, Nat.reduceMod, Nat.reduceDiv, zcn_I, iI_add, iI_sub, iI_mul, iI_neg, iI_lt, iI_le, iI_eq, iI_lt0, iI_le0, iI_gt0, iI_ge0, iI_eq0] <;> omega)
    · refine hQ I L tb mk mn ⟨fun _ _ _ h => h, hO, hR, Nat.le_refl _, fun _ _ => rfl, fun A _ _ h => h, cfr_rf _ _ _, ?_⟩
      exact (hF tb (fun _ _ _ h => h)).mpr trivial
  | n + 1, k, hk, r, o, x, v, hr, hf, hF, hA, e1, e2 => by
    subst e1; subst e2
    have hC' := hC
    obtain ⟨k0, p0, p1, p2, p3, k1, k2, k3, k4⟩ := hC'
    obtain ⟨o1, o2, o3, o4⟩ := hO
    obtain ⟨t1, t2, t3⟩ := hR
    have hk9 : 9 - n = k := by omega
    have hrk := hr.1 k (by omega)
    have tk := t1 k (r k) (by omega) hrk
    have esl : (k : Int) * 16 + (r k : Int) = ((16 * k + r k : Nat) : Int) := by omega
    refine zW.gbf [] rfl rfl rfl (by omega) trivial ?_ (zW.gz [] rfl rfl rfl (by omega) trivial trivial rfl rfl (Nat.le_refl _) (Nat.le_refl _) ?_)
    · exact (by simp (disch := omega) only [eq_self, not_true_eq_false, not_false_eq_true, upI_same, upL_same, upI_ne, upL_ne, iI_ixN, zI_mk, zL_mk, zP_mk, zK_mk, zN_mk, zwI_up, zwL_up, zg_some, Nat.reduceMod, Nat.reduceDiv, zcn_I, iI_add, iI_sub, iI_mul, iI_neg, iI_lt, iI_le, iI_eq, iI_lt0, iI_le0, iI_gt0, iI_ge0, iI_eq0] <;> omega)
    · refine at_ok (f := r) (p := k) (by omega) (pm_nb hr) (by omega) rfl rfl ?_
      cases ht : tb k (r k) with
      | none =>
        have tk1 := tk.1
        rw [ht] at tk1
        have tk1 : L (c + 1) (16 * k + r k) = iL 0 := tk1
        have hkj : k < r k := by
          have h1 : r k ≠ k := fun q => by
            rw [q, o1.2 k (by omega)] at ht
            cases ht
          by_cases h2 : r k < k
          · exact absurd (pm_inj hr (hf _ h2)) h1
          · omega
        refine zW.gbf [] rfl rfl rfl (by omega) ?_ ?_ (zW.gz [] rfl rfl rfl (by omega) trivial ?_ rfl rfl (Nat.le_refl _) (Nat.le_refl _) ?_)
        · simp (disch := omega) only [upI_same, upL_same, upI_ne, upL_ne, iI_ixN, zI_mk, zL_mk, zP_mk, zK_mk, zN_mk, zwI_up, zwL_up, zg_some, Nat.reduceMod, Nat.reduceDiv, zcn_I, iI_add, iI_sub, iI_mul, iI_neg, iI_lt, iI_le, iI_eq, iI_lt0, iI_le0, iI_gt0, iI_ge0, iI_eq0, p0, esl]
          exact (by simp (disch := omega) only [true_or, or_true, eq_self, Option.some.injEq, Prod.mk.injEq, zall_0, zall_1, zall_2, zob_iff, zar_iff, zis_iff, zkIs_some, zkHas_some, iI_vp, z01_I, z01_bz, zch_I, true_and, and_true, or_false, false_or, and_self, upI_same, upL_same, upI_ne, upL_ne, iI_ixN, zI_mk, zL_mk, zP_mk, zK_mk, zN_mk, zwI_up, zwL_up, zg_some, Nat.reduceMod, Nat.reduceDiv, zcn_I, iI_add, iI_sub, iI_mul, iI_neg, iI_lt, iI_le, iI_eq, iI_lt0, iI_le0, iI_gt0, iI_ge0, iI_eq0, k0, p0, k1, esl] <;> omega)
        · simp (disch := omega) only [upI_same, upL_same, upI_ne, upL_ne, iI_ixN, zI_mk, zL_mk, zP_mk, zK_mk, zN_mk, zwI_up, zwL_up, zg_some, Nat.reduceMod, Nat.reduceDiv, zcn_I, iI_add, iI_sub, iI_mul, iI_neg, iI_lt, iI_le, iI_eq, iI_lt0, iI_le0, iI_gt0, iI_ge0, iI_eq0, p0, esl, tk1, lg_cmp_eq]
          exact fun q => q rfl
        · exact ⟨_, rfl, k0⟩
        · simp (disch := omega) only [upI_same, upL_same, upI_ne, upL_ne, iI_ixN, zI_mk, zL_mk, zP_mk, zK_mk, zN_mk, zwI_up, zwL_up, zg_some, Nat.reduceMod, Nat.reduceDiv, zcn_I, iI_add, iI_sub, iI_mul, iI_neg, iI_lt, iI_le, iI_eq, iI_lt0, iI_le0, iI_gt0, iI_ge0, iI_eq0, esl]
          refine keep_ok (mn := mn) (s := 16 * k + r k) (u := r) (by omega) hC rfl rfl (by omega) hr t2 (chO_lt ⟨o1, o2, o3, o4⟩ hkj hrk ht) ?_
          refine zW.gr [] rfl rfl rfl (by omega) trivial trivial ?_
          have le : tLe tb (tSet tb k r) := by
            intro k' j' u h
            unfold tSet
            split
            · rename_i q
              obtain ⟨rfl, rfl⟩ := q
              rw [ht] at h
              cases h
            · exact h
          have new : tSet tb k r k (r k) = some r := if_pos ⟨rfl, rfl⟩
          have tw' : tW (tSet tb k r) := by
            refine ⟨fun k' j' u h => ?_, fun k' h => le _ _ _ (o1.2 k' h)⟩
            unfold tSet at h
            split at h
            · rename_i q
              obtain ⟨rfl, rfl⟩ := q
              cases h
              exact ⟨by omega, hrk, hr, hf, rfl⟩
            · exact o1.1 _ _ _ h
          refine hQ _ _ (tSet tb k r) (fun i => if i = mn then r else mk i) (mn + 1) ⟨le, ⟨tw', ?_, fun i hi => ?_, fun k' j' u h hne => ?_⟩, ⟨fun k' j' h1 h2 => ?_, ?_, fun i hi => ?_⟩, by omega, fun i hi => if_neg (by omega), fun A a1 a2 a3 k' j' u h => ?_, ⟨fun b q => ?_, fun b q => ?_⟩, ?_⟩
          · rw [o2]
            refine (ct_set (i := 10 * k + r k) (by omega) ?_ ?_ (fun i hi hne => ?_)).symm
            · show ((tb ((10 * k + r k) / 10) ((10 * k + r k) % 10)).isSome && _) = false
              rw [show (10 * k + r k) / 10 = k by omega, show (10 * k + r k) % 10 = r k by omega, ht]
              rfl
            · show ((tSet tb k r ((10 * k + r k) / 10) ((10 * k + r k) % 10)).isSome && _) = true
              rw [show (10 * k + r k) / 10 = k by omega, show (10 * k + r k) % 10 = r k by omega, new]
              exact decide_eq_true hkj
            · show ((tSet tb k r (i / 10) (i % 10)).isSome && _) = ((tb (i / 10) (i % 10)).isSome && _)
              rw [show tSet tb k r (i / 10) (i % 10) = tb (i / 10) (i % 10) from if_neg (by omega)]
          · dsimp only
            split
            · exact ⟨k, r k, new⟩
            · obtain ⟨k', j', h⟩ := o3 i (by omega)
              exact ⟨k', j', le _ _ _ h⟩
          · unfold tSet at h
            split at h
            · cases h
              exact ⟨mn, by omega, if_pos rfl⟩
            · obtain ⟨i, hi, e⟩ := o4 _ _ _ h hne
              exact ⟨i, by omega, (if_neg (by omega)).trans e⟩
          · unfold tSet
            by_cases q : k' = k ∧ j' = r k
            · rw [if_pos q]
              obtain ⟨rfl, rfl⟩ := q
              refine ⟨?_, fun u h => ?_⟩
              · simp (disch := omega) only [upI_same, upL_same, upI_ne, upL_ne, iI_ixN, zI_mk, zL_mk, zP_mk, zK_mk, zN_mk, zwI_up, zwL_up, zg_some, Nat.reduceMod, Nat.reduceDiv, zcn_I, iI_add, iI_sub, iI_mul, iI_neg, iI_lt, iI_le, iI_eq, iI_lt0, iI_le0, iI_gt0, iI_ge0, iI_eq0]
                rfl
              · cases h
                simp (disch := omega) only [upI_same, upL_same, upI_ne, upL_ne, iI_ixN, zI_mk, zL_mk, zP_mk, zK_mk, zN_mk, zwI_up, zwL_up, zg_some, Nat.reduceMod, Nat.reduceDiv, zcn_I, iI_add, iI_sub, iI_mul, iI_neg, iI_lt, iI_le, iI_eq, iI_lt0, iI_le0, iI_gt0, iI_ge0, iI_eq0]
            · rw [if_neg q]
              rw [upL_ne (by omega), upL_ne (by omega), upL_ne (by omega), upL_ne (by omega), upL_ne (by omega), upL_ne (by omega)]
              exact t1 k' j' h1 h2
          · rw [upI_same]
          · dsimp only
            by_cases q : i = mn
            · rw [if_pos q, q, upL_same]
            · rw [if_neg q, upL_ne (by omega), upL_ne (by omega), upL_ne (by omega)]
              exact t3 i (by omega)
          · unfold tSet at h
            split at h
            · cases h
              exact hA A a1 a2 a3
            · exact a3 _ _ _ h
          · rw [upI_row q]
          · rw [upL_row (by omega), upL_row (by omega), upL_row (by omega)]
          · refine (hF _ le).mpr ⟨r, ?_, ?_⟩
            · rw [hk9]
              exact new
            · have e : (fun p => vi 10 r (r p)) = fun p => p := funext fun p => vi_l hr _
              rw [e]
              exact (Fl_all tw' (n := n) (by omega) (fun _ _ => rfl)).mp (Fl_id tw')
      | some u =>
        have tk1 := tk.1
        rw [ht] at tk1
        have tk1 : L (c + 1) (16 * k + r k) = Rw u := tk1
        have tk2 := tk.2 u ht
        obtain ⟨b1, b2, b3, b4, b5⟩ := o1.1 _ _ _ ht
        refine zW.gbt [] rfl rfl rfl (by omega) ?_ ?_ ?_
        · simp (disch := omega) only [upI_same, upL_same, upI_ne, upL_ne, iI_ixN, zI_mk, zL_mk, zP_mk, zK_mk, zN_mk, zwI_up, zwL_up, zg_some, Nat.reduceMod, Nat.reduceDiv, zcn_I, iI_add, iI_sub, iI_mul, iI_neg, iI_lt, iI_le, iI_eq, iI_lt0, iI_le0, iI_gt0, iI_ge0, iI_eq0, p0, esl]
          exact (by simp (disch := omega) only [true_or, or_true, eq_self, Option.some.injEq, Prod.mk.injEq, zall_0, zall_1, zall_2, zob_iff, zar_iff, zis_iff, zkIs_some, zkHas_some, iI_vp, z01_I, z01_bz, zch_I, true_and, and_true, or_false, false_or, and_self, upI_same, upL_same, upI_ne, upL_ne, iI_ixN, zI_mk, zL_mk, zP_mk, zK_mk, zN_mk, zwI_up, zwL_up, zg_some, Nat.reduceMod, Nat.reduceDiv, zcn_I, iI_add, iI_sub, iI_mul, iI_neg, iI_lt, iI_le, iI_eq, iI_lt0, iI_le0, iI_gt0, iI_ge0, iI_eq0, k0, p0, k1, esl] <;> omega)
        · simp (disch := omega) only [upI_same, upL_same, upI_ne, upL_ne, iI_ixN, zI_mk, zL_mk, zP_mk, zK_mk, zN_mk, zwI_up, zwL_up, zg_some, Nat.reduceMod, Nat.reduceDiv, zcn_I, iI_add, iI_sub, iI_mul, iI_neg, iI_lt, iI_le, iI_eq, iI_lt0, iI_le0, iI_gt0, iI_ge0, iI_eq0, p0, esl, tk1, lg_cmp_eq]
          exact Rw_n0 b3
        · simp (disch := omega) only [upI_same, upL_same, upI_ne, upL_ne, iI_ixN, zI_mk, zL_mk, zP_mk, zK_mk, zN_mk, zwI_up, zwL_up, zg_some, Nat.reduceMod, Nat.reduceDiv, zcn_I, iI_add, iI_sub, iI_mul, iI_neg, iI_lt, iI_le, iI_eq, iI_lt0, iI_le0, iI_gt0, iI_ge0, iI_eq0, esl]
          have nx : ∀ (o' : Int64), o' = Rw (fun p => vi 10 u (r p)) → zW 2 d 0 0 75 [some (zr (some c)), some (zl o0), none, some (zl (Rw r)), none, some (zi (iI (k : Int))), some (zi (iI ((16 * k + r k : Nat) : Int)))] [zl o'] (I, L, R) Q := by
            intro o' e
            refine zW.go [5] rfl (by omega) trivial ?_
            refine sift_lp hd hC ⟨o1, o2, o3, o4⟩ ⟨t1, t2, t3⟩ hQ n (k + 1) (by omega) (fun p => vi 10 u (r p)) _ _ _ (pm_comp (vi_pm b3) hr) (fun i hi => ?_) (fun tb' le => ?_) (fun A a1 a2 a3 => ?_) e ?_
            · refine pm_inj b3 ?_
              rw [vi_r b3]
              by_cases e : i = k
              · rw [e, b5]
              · rw [hf i (by omega), b4 i (by omega)]
            · refine (hF tb' le).trans ⟨?_, fun h => ⟨u, by rw [hk9]; exact le _ _ _ ht, h⟩⟩
              rintro ⟨u', h1, h2⟩
              rw [hk9, le _ _ _ ht] at h1
              cases h1
              exact h2
            · exact Gm_mul (Gm_vi a1 (a3 _ _ _ ht)) (hA A a1 a2 a3)
            · exact (by simp (disch := omega) only [eq_self, not_true_eq_false, not_false_eq_true, upI_same, upL_same, upI_ne, upL_ne, iI_ixN, zI_mk, zL_mk, zP_mk, zK_mk, zN_mk, zwI_up, zwL_up, zg_some, Nat.reduceMod, Nat.reduceDiv, zcn_I, iI_add, iI_sub, iI_mul, iI_neg, iI_lt, iI_le, iI_eq, iI_lt0, iI_le0, iI_gt0, iI_ge0, iI_eq0] <;> omega)
          refine zW.gb [] rfl rfl rfl (by omega) ?_ (fun h => ?_) (fun h => ?_)
          · exact (by simp (disch := omega) only [true_or, or_true, eq_self, Option.some.injEq, Prod.mk.injEq, zall_0, zall_1, zall_2, zob_iff, zar_iff, zis_iff, zkIs_some, zkHas_some, iI_vp, z01_I, z01_bz, zch_I, true_and, and_true, or_false, false_or, and_self, upI_same, upL_same, upI_ne, upL_ne, iI_ixN, zI_mk, zL_mk, zP_mk, zK_mk, zN_mk, zwI_up, zwL_up, zg_some, Nat.reduceMod, Nat.reduceDiv, zcn_I, iI_add, iI_sub, iI_mul, iI_neg, iI_lt, iI_le, iI_eq, iI_lt0, iI_le0, iI_gt0, iI_ge0, iI_eq0, k0, p0, k1] <;> omega)
          · refine zW.gz [] rfl rfl rfl (by omega) ?_ trivial rfl rfl (Nat.le_refl _) (Nat.le_refl _) ?_
            · exact (by simp (disch := omega) only [true_or, or_true, eq_self, Option.some.injEq, Prod.mk.injEq, zall_0, zall_1, zall_2, zob_iff, zar_iff, zis_iff, zkIs_some, zkHas_some, iI_vp, z01_I, z01_bz, zch_I, true_and, and_true, or_false, false_or, and_self, upI_same, upL_same, upI_ne, upL_ne, iI_ixN, zI_mk, zL_mk, zP_mk, zK_mk, zN_mk, zwI_up, zwL_up, zg_some, Nat.reduceMod, Nat.reduceDiv, zcn_I, iI_add, iI_sub, iI_mul, iI_neg, iI_lt, iI_le, iI_eq, iI_lt0, iI_le0, iI_gt0, iI_ge0, iI_eq0, k0, p1, k2] <;> omega)
            · simp (disch := omega) only [upI_same, upL_same, upI_ne, upL_ne, iI_ixN, zI_mk, zL_mk, zP_mk, zK_mk, zN_mk, zwI_up, zwL_up, zg_some, Nat.reduceMod, Nat.reduceDiv, zcn_I, iI_add, iI_sub, iI_mul, iI_neg, iI_lt, iI_le, iI_eq, iI_lt0, iI_le0, iI_gt0, iI_ge0, iI_eq0, p1, tk2]
              refine through_ok (f := vi 10 u) (g := r) (by omega) (pm_nb (vi_pm b3)) hr.1 rfl rfl ?_
              exact nx _ rfl
          · have h' := Classical.not_not.mp h
            rw [lg_cmp_eq] at h'
            simp (disch := omega) only [upI_same, upL_same, upI_ne, upL_ne, iI_ixN, zI_mk, zL_mk, zP_mk, zK_mk, zN_mk, zwI_up, zwL_up, zg_some, Nat.reduceMod, Nat.reduceDiv, p0, tk1] at h'
            have hu : u = fun p => p := by
              have e : Rw u = Rw (fun p => p) := h'.trans Rw_id.symm
              exact (Rw_pm b3 (pm_id 10)).mp e
            refine zW.go [75] rfl (by omega) trivial ?_
            refine nx _ ?_
            rw [hu, vi_id]
theorem sift_ok {tb : zTb} {mk : Nat → Nat → Nat} {mn : Nat} {r : Nat → Nat} {o : Int64} (hd : 5 ≤ d) (hC : CL c R) (hO : chO tb mk mn) (hR : chR c I L tb mk mn) (hr : pm 10 r) (e : o = Rw r)
    (hQ : ∀ I' L' tb' mk' mn', chS c I L tb mk mn r I' L' tb' mk' mn' → Q (.inl none) (I', L', R)) : zS 2 d [zr (some c), zl o] (I, L, R) Q := by
  refine zW.go [5] rfl (by omega) trivial ?_
  exact sift_lp hd hC hO hR hQ 10 0 rfl r _ _ _ hr (fun i h => absurd h (Nat.not_lt_zero i)) (fun _ _ => Iff.rfl) (fun A _ h _ => h) e rfl
end CHAIN
