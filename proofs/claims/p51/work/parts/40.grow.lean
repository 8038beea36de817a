/-! The chain over the memory: countSizes, grow. -/
def cT (tb : zTb) (k : Nat) : Nat := ct (fun j => (tb k j).isSome) 10
def szT (tb : zTb) : Nat → Nat
  | 0 => 1
  | n + 1 => szT tb n * cT tb (9 - n)
/-- all that is kept of the group of A -/
def chG (A : (Nat → Nat) → Prop) (tb : zTb) (mk : Nat → Nat → Nat) (mn : Nat) : Prop := chO tb mk mn ∧ (∀ k j v, tb k j = some v → Gm A v) ∧ tPairs tb ∧ ∀ g, A g → Fl tb 10 g
def chZ (c : Nat) (L : Nat → Nat → Int64) (tb : zTb) : Prop := L c 5 = iL (szT tb 10 : Int) ∧ ∀ k, k < 10 → L (c + 4) k = iL (szT tb (9 - k) : Int)
def chain (c : Nat) (I : Nat → Nat → Int32) (L : Nat → Nat → Int64) (A : (Nat → Nat) → Prop) : Prop := ∃ tb mk mn, chG A tb mk mn ∧ chR c I L tb mk mn ∧ chZ c L tb
theorem oRw_0 {tb : zTb} (hw : tW tb) (k j : Nat) : oRw (tb k j) = iL 0 ↔ tb k j = none := by
  cases h : tb k j with
  | none => exact ⟨fun _ => rfl, fun _ => rfl⟩
  | some u => exact ⟨fun q => absurd q (Rw_n0 (hw.1 _ _ _ h).2.2.1), fun q => by cases q⟩
theorem tbR_cg {c : Nat} {L L' : Nat → Nat → Int64} {tb : zTb} (h1 : L' (c + 1) = L (c + 1)) (h2 : L' (c + 2) = L (c + 2)) (h : tbR c L tb) : tbR c L' tb := fun k j a b => by
  rw [h1, h2]
  exact h k j a b
section GROW
variable {d c : Nat} {I : Nat → Nat → Int32} {L : Nat → Nat → Int64} {R : zRt} {Q : zO → zM → Prop}
/-- images of a level -/
theorem img_lp {tb : zTb} {k : Nat} (hd : 1 ≤ d) (hC : CL c R) (hw : tW tb) (ht : tbR c L tb) (hk9 : k < 10)
    (hQ : ∀ v, zW 4 d 0 0 62 [some (zr (some c)), some (zi (iI (k : Int))), some (zi (iI (cT tb k : Int))), v] [] (I, L, R) Q) :
    ∀ n j, j + n = 10 → ∀ (y x : Int32), y = iI (ct (fun j => (tb k j).isSome) j : Nat) → x = iI (j : Int) → zW 4 d 0 0 26 [some (zr (some c)), some (zi (iI (k : Int))), some (zi y), some (zi x)] [] (I, L, R) Q
  | 0, j, hj, y, x, e1, e2 => by
    subst e1; subst e2
    obtain rfl : j = 10 := by omega
    refine zW.gbt [] rfl rfl rfl hd trivial ?_ (hQ _)
    exact (by simp (disch := omega) only [eq_self, not_true_eq_false, not_false_eq_true, upI_same, upL_same, upI_ne, upL_ne, iI_ixN, zI_mk, zL_mk, zP_mk, zK_mk, zN_mk, zwI_up, zwL_up, zg_some, Nat.reduceMod, Nat.reduceDiv, zcn_I, iI_add, iI_sub, iI_mul, iI_neg, iI_lt, iI_le, iI_eq, iI_lt0, iI_le0, iI_gt0, iI_ge0, iI_eq0] <;> omega)
  | n + 1, j, hj, y, x, e1, e2 => by
    subst e1; subst e2
    have hC' := hC
    obtain ⟨k0, p0, p1, p2, p3, k1, k2, k3, k4⟩ := hC'
    have esl : (k : Int) * 16 + (j : Int) = ((16 * k + j : Nat) : Int) := by omega
    have tk := (ht k j hk9 (by omega)).1
    refine zW.gbf [] rfl rfl rfl hd trivial ?_ (zW.gb [] rfl rfl rfl hd ?_ (fun h => ?_) (fun h => ?_))
    · exact (by simp (disch := omega) only [eq_self, not_true_eq_false, not_false_eq_true, upI_same, upL_same, upI_ne, upL_ne, iI_ixN, zI_mk, zL_mk, zP_mk, zK_mk, zN_mk, zwI_up, zwL_up, zg_some, Nat.reduceMod, Nat.reduceDiv, zcn_I, iI_add, iI_sub, iI_mul, iI_neg, iI_lt, iI_le, iI_eq, iI_lt0, iI_le0, iI_gt0, iI_ge0, iI_eq0] <;> omega)
    · simp (disch := omega) only [upI_same, upL_same, upI_ne, upL_ne, iI_ixN, zI_mk, zL_mk, zP_mk, zK_mk, zN_mk, zwI_up, zwL_up, zg_some, Nat.reduceMod, Nat.reduceDiv, zcn_I, iI_add, iI_sub, iI_mul, iI_neg, iI_lt, iI_le, iI_eq, iI_lt0, iI_le0, iI_gt0, iI_ge0, iI_eq0, p0, esl]
      exact (by simp (disch := omega) only [true_or, or_true, eq_self, Option.some.injEq, Prod.mk.injEq, zall_0, zall_1, zall_2, zob_iff, zar_iff, zis_iff, zkIs_some, zkHas_some, iI_vp, z01_I, z01_bz, zch_I, true_and, and_true, or_false, false_or, and_self, upI_same, upL_same, upI_ne, upL_ne, iI_ixN, zI_mk, zL_mk, zP_mk, zK_mk, zN_mk, zwI_up, zwL_up, zg_some, Nat.reduceMod, Nat.reduceDiv, zcn_I, iI_add, iI_sub, iI_mul, iI_neg, iI_lt, iI_le, iI_eq, iI_lt0, iI_le0, iI_gt0, iI_ge0, iI_eq0, k0, p0, k1, esl] <;> omega)
    · rw [lg_cmp_eq] at h
      simp (disch := omega) only [upI_same, upL_same, upI_ne, upL_ne, iI_ixN, zI_mk, zL_mk, zP_mk, zK_mk, zN_mk, zwI_up, zwL_up, zg_some, Nat.reduceMod, Nat.reduceDiv, zcn_I, iI_add, iI_sub, iI_mul, iI_neg, iI_lt, iI_le, iI_eq, iI_lt0, iI_le0, iI_gt0, iI_ge0, iI_eq0, p0, esl, tk] at h
      have h' := (oRw_0 hw k j).mp h
      refine zW.go [26] rfl hd trivial ?_
      refine img_lp hd hC hw ht hk9 hQ n (j + 1) (by omega) _ _ ?_ ?_
      · rw [zcn_I, iI_add, ct, h']
        rfl
      · exact (by simp (disch := omega) only [eq_self, not_true_eq_false, not_false_eq_true, upI_same, upL_same, upI_ne, upL_ne, iI_ixN, zI_mk, zL_mk, zP_mk, zK_mk, zN_mk, zwI_up, zwL_up, zg_some, Nat.reduceMod, Nat.reduceDiv, zcn_I, iI_add, iI_sub, iI_mul, iI_neg, iI_lt, iI_le, iI_eq, iI_lt0, iI_le0, iI_gt0, iI_ge0, iI_eq0] <;> omega)
    · rw [lg_cmp_eq] at h
      simp (disch := omega) only [upI_same, upL_same, upI_ne, upL_ne, iI_ixN, zI_mk, zL_mk, zP_mk, zK_mk, zN_mk, zwI_up, zwL_up, zg_some, Nat.reduceMod, Nat.reduceDiv, zcn_I, iI_add, iI_sub, iI_mul, iI_neg, iI_lt, iI_le, iI_eq, iI_lt0, iI_le0, iI_gt0, iI_ge0, iI_eq0, p0, esl, tk] at h
      have h' : (tb k j).isSome = true := by
        cases q : tb k j with
        | none => exact absurd ((oRw_0 hw k j).mpr q) h
        | some u => rfl
      refine zW.go [26] rfl hd trivial ?_
      refine img_lp hd hC hw ht hk9 hQ n (j + 1) (by omega) _ _ ?_ ?_
      · rw [zcn_I, iI_add, ct, h']
        rfl
      · exact (by simp (disch := omega) only [eq_self, not_true_eq_false, not_false_eq_true, upI_same, upL_same, upI_ne, upL_ne, iI_ixN, zI_mk, zL_mk, zP_mk, zK_mk, zN_mk, zwI_up, zwL_up, zg_some, Nat.reduceMod, Nat.reduceDiv, zcn_I, iI_add, iI_sub, iI_mul, iI_neg, iI_lt, iI_le, iI_eq, iI_lt0, iI_le0, iI_gt0, iI_ge0, iI_eq0] <;> omega)
theorem sizes_lp {tb : zTb} (hd : 1 ≤ d) (hC : CL c R) (hw : tW tb) (hQ : ∀ L', (∀ b, b ≠ c → b ≠ c + 4 → L' b = L b) → chZ c L' tb → Q (.inl none) (I, L', R)) :
    ∀ m n, n + m = 10 → ∀ (L1 : Nat → Nat → Int64) (x : Int32) (v1 v2 : Option zV), tbR c L1 tb → (∀ b, b ≠ c → b ≠ c + 4 → L1 b = L b) → L1 c 5 = iL (szT tb n : Int) → (∀ k, k < 10 → 9 - k < n → L1 (c + 4) k = iL (szT tb (9 - k) : Int)) → x = iI (9 - (n : Int)) →
      zW 4 d 0 0 8 [some (zr (some c)), some (zi x), v1, v2] [] (I, L1, R) Q
  | 0, n, hn, L1, x, v1, v2, t1, f1, z1, z2, e => by
    subst e
    obtain rfl : n = 10 := by omega
    refine zW.gbt [] rfl rfl rfl hd trivial ?_ (zW.gr [] rfl rfl rfl hd trivial trivial (hQ L1 f1 ⟨z1, fun k hk => z2 k hk (by omega)⟩))
    exact (by simp (disch := omega) only [eq_self, not_true_eq_false, not_false_eq_true, upI_same, upL_same, upI_ne, upL_ne, iI_ixN, zI_mk, zL_mk, zP_mk, zK_mk, zN_mk, zwI_up, zwL_up, zg_some, Nat.reduceMod, Nat.reduceDiv, zcn_I, iI_add, iI_sub, iI_mul, iI_neg, iI_lt, iI_le, iI_eq, iI_lt0, iI_le0, iI_gt0, iI_ge0, iI_eq0] <;> omega)
  | m + 1, n, hn, L1, x, v1, v2, t1, f1, z1, z2, e => by
    subst e
    have hC' := hC
    obtain ⟨k0, p0, p1, p2, p3, k1, k2, k3, k4⟩ := hC'
    have e9 : 9 - (n : Int) = ((9 - n : Nat) : Int) := by omega
    rw [e9]
    have tb1 : tbR c (upL L1 (c + 4) (9 - n) (iL (szT tb n : Int))) tb := tbR_cg (upL_row (by omega)) (upL_row (by omega)) t1
    refine zW.gbf [] rfl rfl rfl hd trivial ?_ (zW.go [26] rfl hd ?_ ?_)
    · exact (by simp (disch := omega) only [eq_self, not_true_eq_false, not_false_eq_true, upI_same, upL_same, upI_ne, upL_ne, iI_ixN, zI_mk, zL_mk, zP_mk, zK_mk, zN_mk, zwI_up, zwL_up, zg_some, Nat.reduceMod, Nat.reduceDiv, zcn_I, iI_add, iI_sub, iI_mul, iI_neg, iI_lt, iI_le, iI_eq, iI_lt0, iI_le0, iI_gt0, iI_ge0, iI_eq0] <;> omega)
    · exact (by simp (disch := omega) only [true_or, or_true, eq_self, Option.some.injEq, Prod.mk.injEq, zall_0, zall_1, zall_2, zob_iff, zar_iff, zis_iff, zkIs_some, zkHas_some, iI_vp, z01_I, z01_bz, zch_I, true_and, and_true, or_false, false_or, and_self, upI_same, upL_same, upI_ne, upL_ne, iI_ixN, zI_mk, zL_mk, zP_mk, zK_mk, zN_mk, zwI_up, zwL_up, zg_some, Nat.reduceMod, Nat.reduceDiv, zcn_I, iI_add, iI_sub, iI_mul, iI_neg, iI_lt, iI_le, iI_eq, iI_lt0, iI_le0, iI_gt0, iI_ge0, iI_eq0, k0, p3, k4] <;> omega)
    · simp (disch := omega) only [upI_same, upL_same, upI_ne, upL_ne, iI_ixN, zI_mk, zL_mk, zP_mk, zK_mk, zN_mk, zwI_up, zwL_up, zg_some, Nat.reduceMod, Nat.reduceDiv, zcn_I, iI_add, iI_sub, iI_mul, iI_neg, iI_lt, iI_le, iI_eq, iI_lt0, iI_le0, iI_gt0, iI_ge0, iI_eq0, p3, z1]
      refine img_lp (k := 9 - n) (tb := tb) hd hC hw tb1 (by omega) (fun v => ?_) 10 0 rfl _ _ rfl rfl
      have hc10 : cT tb (9 - n) ≤ 10 := ct_le _ _
      refine zW.go [8] rfl hd ?_ ?_
      · exact (by simp (disch := omega) only [true_or, or_true, eq_self, Option.some.injEq, Prod.mk.injEq, zall_0, zall_1, zall_2, zob_iff, zar_iff, zis_iff, zkIs_some, zkHas_some, iI_vp, z01_I, z01_bz, zch_I, true_and, and_true, or_false, false_or, and_self, upI_same, upL_same, upI_ne, upL_ne, iI_ixN, zI_mk, zL_mk, zP_mk, zK_mk, zN_mk, zwI_up, zwL_up, zg_some, Nat.reduceMod, Nat.reduceDiv, zcn_I, iI_add, iI_sub, iI_mul, iI_neg, iI_lt, iI_le, iI_eq, iI_lt0, iI_le0, iI_gt0, iI_ge0, iI_eq0, k0] <;> omega)
      · simp (disch := omega) only [upI_same, upL_same, upI_ne, upL_ne, iI_ixN, zI_mk, zL_mk, zP_mk, zK_mk, zN_mk, zwI_up, zwL_up, zg_some, Nat.reduceMod, Nat.reduceDiv, zcn_I, iI_L, iL_mul, z1]
        refine sizes_lp hd hC hw hQ m (n + 1) (by omega) _ _ _ _ (tbR_cg (upL_row (by omega)) (upL_row (by omega)) tb1) (fun b q1 q2 => ?_) ?_ (fun k h1 h2 => ?_) ?_
        · rw [upL_row q1, upL_row q2]
          exact f1 b q1 q2
        · rw [upL_same]
          rfl
        · rw [upL_row (by omega)]
          by_cases c9 : 9 - k = n
          · rw [show k = 9 - n by omega, upL_same, show 9 - (9 - n) = n by omega]
          · rw [upL_ne (by omega)]
            exact z2 k h1 (by omega)
        · exact (by simp (disch := omega) only [eq_self, not_true_eq_false, not_false_eq_true, upI_same, upL_same, upI_ne, upL_ne, iI_ixN, zI_mk, zL_mk, zP_mk, zK_mk, zN_mk, zwI_up, zwL_up, zg_some, Nat.reduceMod, Nat.reduceDiv, zcn_I, iI_add, iI_sub, iI_mul, iI_neg, iI_lt, iI_le, iI_eq, iI_lt0, iI_le0, iI_gt0, iI_ge0, iI_eq0] <;> omega)
theorem sizes_ok {tb : zTb} (hd : 1 ≤ d) (hC : CL c R) (hw : tW tb) (ht : tbR c L tb) (hQ : ∀ L', (∀ b, b ≠ c → b ≠ c + 4 → L' b = L b) → chZ c L' tb → Q (.inl none) (I, L', R)) : zS 4 d [zr (some c)] (I, L, R) Q := by
  have hC' := hC
  obtain ⟨k0, p0, p1, p2, p3, k1, k2, k3, k4⟩ := hC'
  refine zW.go [8] rfl hd ?_ ?_
  · exact (by simp (disch := omega) only [true_or, or_true, eq_self, Option.some.injEq, Prod.mk.injEq, zall_0, zall_1, zall_2, zob_iff, zar_iff, zis_iff, zkIs_some, zkHas_some, iI_vp, z01_I, z01_bz, zch_I, true_and, and_true, or_false, false_or, and_self, upI_same, upL_same, upI_ne, upL_ne, iI_ixN, zI_mk, zL_mk, zP_mk, zK_mk, zN_mk, zwI_up, zwL_up, zg_some, Nat.reduceMod, Nat.reduceDiv, zcn_I, iI_add, iI_sub, iI_mul, iI_neg, iI_lt, iI_le, iI_eq, iI_lt0, iI_le0, iI_gt0, iI_ge0, iI_eq0, k0] <;> omega)
  · simp (disch := omega) only [upI_same, upL_same, upI_ne, upL_ne, iI_ixN, zI_mk, zL_mk, zP_mk, zK_mk, zN_mk, zwI_up, zwL_up, zg_some, Nat.reduceMod, Nat.reduceDiv, zcn_I, iI_add, iI_sub, iI_mul, iI_neg, iI_lt, iI_le, iI_eq, iI_lt0, iI_le0, iI_gt0, iI_ge0, iI_eq0]
    refine sizes_lp (L := L) hd hC hw hQ 10 0 rfl _ _ _ _ (tbR_cg (upL_row (by omega)) (upL_row (by omega)) ht) (fun b q1 q2 => ?_) ?_ (fun k _ h => absurd h (Nat.not_lt_zero _)) rfl
    · rw [upL_row q1]
    · simp (disch := omega) only [upI_same, upL_same, upI_ne, upL_ne, iI_ixN, zI_mk, zL_mk, zP_mk, zK_mk, zN_mk, zwI_up, zwL_up, zg_some, Nat.reduceMod, Nat.reduceDiv, zcn_I, iI_add, iI_sub, iI_mul, iI_neg, iI_lt, iI_le, iI_eq, iI_lt0, iI_le0, iI_gt0, iI_ge0, iI_eq0]
      rfl
/-- while pairs are tried -/
def chJ (A : (Nat → Nat) → Prop) (c : Nat) (I0 : Nat → Nat → Int32) (L0 : Nat → Nat → Int64) (I : Nat → Nat → Int32) (L : Nat → Nat → Int64) (tb : zTb) (mk : Nat → Nat → Nat) (mn i k : Nat) : Prop :=
  chO tb mk mn ∧ chR c I L tb mk mn ∧ (∀ k j v, tb k j = some v → Gm A v) ∧ (∀ g, A g → Fl tb 10 g) ∧ (∀ a b, a < mn → b < mn → a < i → b < i → Fl tb 10 (fun p => mk a (mk b p))) ∧ (∀ b, b < k → b ≤ i → i < mn → Fl tb 10 (fun p => mk i (mk b p)) ∧ Fl tb 10 (fun p => mk b (mk i p))) ∧ cfr c I0 L0 I L
theorem chJ_st {A : (Nat → Nat) → Prop} {I0 I1 I2 : Nat → Nat → Int32} {L0 L1 L2 : Nat → Nat → Int64} {tb tb' : zTb} {mk mk' : Nat → Nat → Nat} {mn mn' i k : Nat} {r : Nat → Nat} (hA : ∀ g, A g → pm 10 g) (h : chJ A c I0 L0 I1 L1 tb mk mn i k) (hi : i < mn) (hr : Gm A r) (s : chS c I1 L1 tb mk mn r I2 L2 tb' mk' mn') : chJ A c I0 L0 I2 L2 tb' mk' mn' i k ∧ i < mn' ∧ (∀ a, a < mn → mk' a = mk a) ∧ Fl tb' 10 r := by
  obtain ⟨j1, j2, j3, j4, j5, j6, j7⟩ := h
  obtain ⟨s1, s2, s3, s4, s5, s6, s7, s8⟩ := s
  refine ⟨⟨s2, s3, s6 A hA hr j3, fun g q => Fl_le s1 (j4 g q), fun a b _ _ ai bi => ?_, fun b bk bi _ => ?_, cfr_tr j7 s7⟩, by omega, s5, s8⟩
  · rw [s5 a (by omega), s5 b (by omega)]
    exact Fl_le s1 (j5 a b (by omega) (by omega) ai bi)
  · rw [s5 i hi, s5 b (by omega)]
    obtain ⟨x, y⟩ := j6 b bk bi hi
    exact ⟨Fl_le s1 x, Fl_le s1 y⟩
theorem mk_pm {tb : zTb} {mk : Nat → Nat → Nat} {mn i : Nat} (h : chO tb mk mn) (hi : i < mn) : pm 10 (mk i) := by
  obtain ⟨k, j, e⟩ := h.2.2.1 i hi
  exact (h.1.1 _ _ _ e).2.2.1
theorem grow_in {A : (Nat → Nat) → Prop} {I0 : Nat → Nat → Int32} {L0 : Nat → Nat → Int64} {i : Nat} {o0 : Int64} {y0 : Int32} (hd : 6 ≤ d) (hC : CL c R) (hA : ∀ g, A g → pm 10 g) (hi45 : i < 45)
    (hQ : ∀ I' L' tb mk mn v, chJ A c I0 L0 I' L' tb mk mn (i + 1) 0 → i + 1 ≤ mn → zW 1 d 0 0 13 [some (zr (some c)), some (zl o0), none, some (zi y0), some (zi (iI ((i + 1 : Nat) : Int))), v] [] (I', L', R) Q) :
    ∀ m k, k + m = i + 1 → ∀ (I1 : Nat → Nat → Int32) (L1 : Nat → Nat → Int64) (tb : zTb) (mk : Nat → Nat → Nat) (mn : Nat) (x : Int32), chJ A c I0 L0 I1 L1 tb mk mn i k → i < mn → x = iI (k : Int) →
      zW 1 d 0 0 32 [some (zr (some c)), some (zl o0), none, some (zi y0), some (zi (iI (i : Int))), some (zi x)] [] (I1, L1, R) Q
  | 0, k, hk, I1, L1, tb, mq, mn, x, hj, him, e => by
    subst e
    obtain rfl : k = i + 1 := by omega
    refine zW.gbt [] rfl rfl rfl (by omega) trivial ?_ (zW.go [13] rfl (by omega) trivial ?_)
    · exact (by simp (disch := omega) only [eq_self, not_true_eq_false, not_false_eq_true, upI_same, upL_same, upI_ne, upL_ne, iI_ixN, zI_mk, zL_mk, zP_mk, zK_mk, zN_mk, zwI_up, zwL_up, zg_some, Nat.reduceMod, Nat.reduceDiv, zcn_I, iI_add, iI_sub, iI_mul, iI_neg, iI_lt, iI_le, iI_eq, iI_lt0, iI_le0, iI_gt0, iI_ge0, iI_eq0] <;> omega)
    · obtain ⟨j1, j2, j3, j4, j5, j6, j7⟩ := hj
      have e : iI (i : Int) + zcn 1 = iI ((i + 1 : Nat) : Int) := by
        rw [zcn_I, iI_add]
        rfl
      rw [e]
      refine hQ _ _ tb mq mn _ ⟨j1, j2, j3, j4, fun a b am bm ai bi => ?_, fun b bk _ _ => absurd bk (Nat.not_lt_zero _), j7⟩ him
      by_cases ea : a = i
      · by_cases eb : b = i
        · rw [ea, eb]
          exact (j6 i (by omega) (Nat.le_refl _) him).1
        · rw [ea]
          exact (j6 b (by omega) (by omega) him).1
      · by_cases eb : b = i
        · rw [eb]
          exact (j6 a (by omega) (by omega) him).2
        · exact j5 a b am bm (by omega) (by omega)
  | m + 1, k, hk, I1, L1, tb, mq, mn, x, hj, him, e => by
    subst e
    have hC' := hC
    obtain ⟨k0, p0, p1, p2, p3, k1, k2, k3, k4⟩ := hC'
    have hmn := chO_le hj.1
    have rd : ∀ a, a < mn → L1 (c + 3) a = Rw (mq a) := hj.2.1.2.2
    have r1 := rd i him
    have r2 := rd k (by omega)
    have pi := mk_pm hj.1 him
    have pk := mk_pm hj.1 (show k < mn by omega)
    have gm : ∀ a, a < mn → Gm A (mq a) := fun a ha => by
      obtain ⟨k', j', e⟩ := hj.1.2.2.1 a ha
      exact hj.2.2.1 _ _ _ e
    refine zW.gbf [] rfl rfl rfl (by omega) trivial ?_ (zW.gz [] rfl rfl rfl (by omega) ?_ trivial rfl rfl (Nat.le_refl _) (Nat.le_refl _) ?_)
    · exact (by simp (disch := omega) only [eq_self, not_true_eq_false, not_false_eq_true, upI_same, upL_same, upI_ne, upL_ne, iI_ixN, zI_mk, zL_mk, zP_mk, zK_mk, zN_mk, zwI_up, zwL_up, zg_some, Nat.reduceMod, Nat.reduceDiv, zcn_I, iI_add, iI_sub, iI_mul, iI_neg, iI_lt, iI_le, iI_eq, iI_lt0, iI_le0, iI_gt0, iI_ge0, iI_eq0] <;> omega)
    · exact (by simp (disch := omega) only [true_or, or_true, eq_self, Option.some.injEq, Prod.mk.injEq, zall_0, zall_1, zall_2, zob_iff, zar_iff, zis_iff, zkIs_some, zkHas_some, iI_vp, z01_I, z01_bz, zch_I, true_and, and_true, or_false, false_or, and_self, upI_same, upL_same, upI_ne, upL_ne, iI_ixN, zI_mk, zL_mk, zP_mk, zK_mk, zN_mk, zwI_up, zwL_up, zg_some, Nat.reduceMod, Nat.reduceDiv, zcn_I, iI_add, iI_sub, iI_mul, iI_neg, iI_lt, iI_le, iI_eq, iI_lt0, iI_le0, iI_gt0, iI_ge0, iI_eq0, k0, p2, k3] <;> omega)
    · simp (disch := omega) only [upI_same, upL_same, upI_ne, upL_ne, iI_ixN, zI_mk, zL_mk, zP_mk, zK_mk, zN_mk, zwI_up, zwL_up, zg_some, Nat.reduceMod, Nat.reduceDiv, zcn_I, iI_add, iI_sub, iI_mul, iI_neg, iI_lt, iI_le, iI_eq, iI_lt0, iI_le0, iI_gt0, iI_ge0, iI_eq0, p2, r1, r2]
      refine through_ok (f := mq i) (g := mq k) (by omega) (pm_nb pi) pk.1 rfl rfl ?_
      refine zW.gz [] rfl rfl rfl (by omega) trivial ?_ rfl rfl (Nat.le_refl _) (Nat.le_refl _) ?_
      · exact ⟨_, rfl, k0⟩
      · refine sift_ok (by omega) hC hj.1 hj.2.1 (pm_comp pi pk) rfl (fun I2 L2 tb2 mk2 mn2 s2 => ?_)
        obtain ⟨hj2, him2, em2, fl2⟩ := chJ_st hA hj him (Gm_mul (gm i him) (gm k (by omega))) s2
        have q1 : L2 (c + 3) i = Rw (mq i) := by rw [hj2.2.1.2.2 i him2, em2 i him]
        have q2 : L2 (c + 3) k = Rw (mq k) := by rw [hj2.2.1.2.2 k (by omega), em2 k (by omega)]
        refine zW.gz [] rfl rfl rfl (by omega) ?_ trivial rfl rfl (Nat.le_refl _) (Nat.le_refl _) ?_
        · exact (by simp (disch := omega) only [true_or, or_true, eq_self, Option.some.injEq, Prod.mk.injEq, zall_0, zall_1, zall_2, zob_iff, zar_iff, zis_iff, zkIs_some, zkHas_some, iI_vp, z01_I, z01_bz, zch_I, true_and, and_true, or_false, false_or, and_self, upI_same, upL_same, upI_ne, upL_ne, iI_ixN, zI_mk, zL_mk, zP_mk, zK_mk, zN_mk, zwI_up, zwL_up, zg_some, Nat.reduceMod, Nat.reduceDiv, zcn_I, iI_add, iI_sub, iI_mul, iI_neg, iI_lt, iI_le, iI_eq, iI_lt0, iI_le0, iI_gt0, iI_ge0, iI_eq0, k0, p2, k3] <;> omega)
        · simp (disch := omega) only [upI_same, upL_same, upI_ne, upL_ne, iI_ixN, zI_mk, zL_mk, zP_mk, zK_mk, zN_mk, zwI_up, zwL_up, zg_some, Nat.reduceMod, Nat.reduceDiv, zcn_I, iI_add, iI_sub, iI_mul, iI_neg, iI_lt, iI_le, iI_eq, iI_lt0, iI_le0, iI_gt0, iI_ge0, iI_eq0, p2, q1, q2]
          refine through_ok (f := mq k) (g := mq i) (by omega) (pm_nb pk) pi.1 rfl rfl ?_
          refine zW.gz [] rfl rfl rfl (by omega) trivial ?_ rfl rfl (Nat.le_refl _) (Nat.le_refl _) ?_
          · exact ⟨_, rfl, k0⟩
          · refine sift_ok (by omega) hC hj2.1 hj2.2.1 (pm_comp pk pi) rfl (fun I3 L3 tb3 mk3 mn3 s3 => ?_)
            obtain ⟨hj3, him3, em3, fl3⟩ := chJ_st hA hj2 him2 (Gm_mul (gm k (by omega)) (gm i him)) s3
            refine zW.go [32] rfl (by omega) trivial ?_
            refine grow_in hd hC hA hi45 hQ m (k + 1) (by omega) I3 L3 tb3 mk3 mn3 _ ⟨hj3.1, hj3.2.1, hj3.2.2.1, hj3.2.2.2.1, hj3.2.2.2.2.1, fun b bk bi bm => ?_, hj3.2.2.2.2.2.2⟩ him3 ?_
            · by_cases eb : b = k
              · rw [eb, em3 i him2, em3 k (by omega), em2 i him, em2 k (by omega)]
                exact ⟨Fl_le s3.1 fl2, fl3⟩
              · exact hj3.2.2.2.2.2.1 b (by omega) bi bm
            · exact (by simp (disch := omega) only [eq_self, not_true_eq_false, not_false_eq_true, upI_same, upL_same, upI_ne, upL_ne, iI_ixN, zI_mk, zL_mk, zP_mk, zK_mk, zN_mk, zwI_up, zwL_up, zg_some, Nat.reduceMod, Nat.reduceDiv, zcn_I, iI_add, iI_sub, iI_mul, iI_neg, iI_lt, iI_le, iI_eq, iI_lt0, iI_le0, iI_gt0, iI_ge0, iI_eq0] <;> omega)
theorem grow_end {A : (Nat → Nat) → Prop} {I0 I1 : Nat → Nat → Int32} {L0 L1 : Nat → Nat → Int64} {mn k : Nat} {tb : zTb} {mk : Nat → Nat → Nat} {ls : zLs} (hd : 2 ≤ d) (hC : CL c R) (hj : chJ A c I0 L0 I1 L1 tb mk mn mn k)
    (hQ : ∀ I' L', cfr c I0 L0 I' L' → chain c I' L' A → Q (.inl none) (I', L', R)) : zS 4 (d - 1) [zr (some c)] (I1, L1, R) (zaft 1 d 0 0 94 97 ls [] Q) := by
  obtain ⟨j1, j2, j3, j4, j5, j6, j7⟩ := hj
  refine sizes_ok (tb := tb) (by omega) hC j1.1 j2.1 (fun L' f z => ?_)
  refine zW.gr [] rfl rfl rfl (by omega) trivial trivial ?_
  refine hQ _ _ ⟨j7.1, fun b q => (f b (by omega) (by omega)).trans (j7.2 b q)⟩ ⟨tb, mk, mn, ⟨j1, j3, ?_, j4⟩, ⟨tbR_cg (f _ (by omega) (by omega)) (f _ (by omega) (by omega)) j2.1, j2.2.1, fun i hi => ?_⟩, z⟩
  · intro k j u k' j' v h1 h2
    by_cases e1 : k = j
    · subst e1
      rw [j1.1.2 k (j1.1.1 _ _ _ h1).1] at h1
      cases h1
      exact Fl_ent j1.1 h2
    · by_cases e2 : k' = j'
      · subst e2
        rw [j1.1.2 k' (j1.1.1 _ _ _ h2).1] at h2
        cases h2
        exact Fl_ent j1.1 h1
      · obtain ⟨a, ha, rfl⟩ := j1.2.2.2 _ _ _ h1 e1
        obtain ⟨b, hb, rfl⟩ := j1.2.2.2 _ _ _ h2 e2
        exact j5 a b ha hb ha hb
  · rw [f (c + 3) (by omega) (by omega)]
    exact j2.2.2 i hi
theorem grow_out {A : (Nat → Nat) → Prop} {I0 : Nat → Nat → Int32} {L0 : Nat → Nat → Int64} {o0 : Int64} {y0 : Int32} (hd : 6 ≤ d) (hC : CL c R) (hA : ∀ g, A g → pm 10 g)
    (hQ : ∀ I' L', cfr c I0 L0 I' L' → chain c I' L' A → Q (.inl none) (I', L', R)) :
    ∀ m i, i + m = 45 → ∀ (I1 : Nat → Nat → Int32) (L1 : Nat → Nat → Int64) (tb : zTb) (mk : Nat → Nat → Nat) (mn : Nat) (x : Int32) (v : Option zV), chJ A c I0 L0 I1 L1 tb mk mn i 0 → i ≤ mn → x = iI (i : Int) →
      zW 1 d 0 0 13 [some (zr (some c)), some (zl o0), none, some (zi y0), some (zi x), v] [] (I1, L1, R) Q := by
  intro m i hm I1 L1 tb mk mn x v hj him e
  induction m generalizing i I1 L1 tb mk mn x v with
  | zero =>
    subst e
    have hC' := hC
    obtain ⟨k0, p0, p1, p2, p3, k1, k2, k3, k4⟩ := hC'
    have hmn := chO_le hj.1
    have h4 := hj.2.1.2.1
    obtain rfl : i = mn := by omega
    refine zW.gbt [] rfl rfl rfl (by omega) ?_ ?_ (zW.gz [] rfl rfl rfl (by omega) trivial ?_ rfl rfl (Nat.le_refl _) (Nat.le_refl _) ?_)
    · exact (by simp (disch := omega) only [true_or, or_true, eq_self, Option.some.injEq, Prod.mk.injEq, zall_0, zall_1, zall_2, zob_iff, zar_iff, zis_iff, zkIs_some, zkHas_some, iI_vp, z01_I, z01_bz, zch_I, true_and, and_true, or_false, false_or, and_self, upI_same, upL_same, upI_ne, upL_ne, iI_ixN, zI_mk, zL_mk, zP_mk, zK_mk, zN_mk, zwI_up, zwL_up, zg_some, Nat.reduceMod, Nat.reduceDiv, zcn_I, iI_add, iI_sub, iI_mul, iI_neg, iI_lt, iI_le, iI_eq, iI_lt0, iI_le0, iI_gt0, iI_ge0, iI_eq0, k0] <;> omega)
    · exact (by simp (disch := omega) only [eq_self, not_true_eq_false, not_false_eq_true, upI_same, upL_same, upI_ne, upL_ne, iI_ixN, zI_mk, zL_mk, zP_mk, zK_mk, zN_mk, zwI_up, zwL_up, zg_some, Nat.reduceMod, Nat.reduceDiv, zcn_I, iI_add, iI_sub, iI_mul, iI_neg, iI_lt, iI_le, iI_eq, iI_lt0, iI_le0, iI_gt0, iI_ge0, iI_eq0, h4] <;> omega)
    · exact ⟨_, rfl, k0⟩
    · exact grow_end (by omega) hC hj hQ
  | succ m ih =>
    subst e
    have hC' := hC
    obtain ⟨k0, p0, p1, p2, p3, k1, k2, k3, k4⟩ := hC'
    have hmn := chO_le hj.1
    have h4 := hj.2.1.2.1
    by_cases hlt : i < mn
    · refine zW.gbf [] rfl rfl rfl (by omega) ?_ ?_ (zW.gbf [] rfl rfl rfl (by omega) trivial ?_ (zW.go [32] rfl (by omega) trivial ?_))
      · exact (by simp (disch := omega) only [true_or, or_true, eq_self, Option.some.injEq, Prod.mk.injEq, zall_0, zall_1, zall_2, zob_iff, zar_iff, zis_iff, zkIs_some, zkHas_some, iI_vp, z01_I, z01_bz, zch_I, true_and, and_true, or_false, false_or, and_self, upI_same, upL_same, upI_ne, upL_ne, iI_ixN, zI_mk, zL_mk, zP_mk, zK_mk, zN_mk, zwI_up, zwL_up, zg_some, Nat.reduceMod, Nat.reduceDiv, zcn_I, iI_add, iI_sub, iI_mul, iI_neg, iI_lt, iI_le, iI_eq, iI_lt0, iI_le0, iI_gt0, iI_ge0, iI_eq0, k0] <;> omega)
      · exact (by simp (disch := omega) only [eq_self, not_true_eq_false, not_false_eq_true, upI_same, upL_same, upI_ne, upL_ne, iI_ixN, zI_mk, zL_mk, zP_mk, zK_mk, zN_mk, zwI_up, zwL_up, zg_some, Nat.reduceMod, Nat.reduceDiv, zcn_I, iI_add, iI_sub, iI_mul, iI_neg, iI_lt, iI_le, iI_eq, iI_lt0, iI_le0, iI_gt0, iI_ge0, iI_eq0, h4] <;> omega)
      · exact (by simp (disch := omega) only [eq_self, not_true_eq_false, not_false_eq_true, upI_same, upL_same, upI_ne, upL_ne, iI_ixN, zI_mk, zL_mk, zP_mk, zK_mk, zN_mk, zwI_up, zwL_up, zg_some, Nat.reduceMod, Nat.reduceDiv, zcn_I, iI_add, iI_sub, iI_mul, iI_neg, iI_lt, iI_le, iI_eq, iI_lt0, iI_le0, iI_gt0, iI_ge0, iI_eq0] <;> omega)
      · exact grow_in (I0 := I0) (L0 := L0) hd hC hA (by omega) (fun I' L' tb' mk' mn' v' a1 a2 => ih (i + 1) (by omega) I' L' tb' mk' mn' _ v' a1 a2 rfl) (i + 1) 0 (by omega) I1 L1 tb mk mn _ hj hlt rfl
    · obtain rfl : i = mn := by omega
      refine zW.gbt [] rfl rfl rfl (by omega) ?_ ?_ (zW.gz [] rfl rfl rfl (by omega) trivial ?_ rfl rfl (Nat.le_refl _) (Nat.le_refl _) ?_)
      · exact (by simp (disch := omega) only [true_or, or_true, eq_self, Option.some.injEq, Prod.mk.injEq, zall_0, zall_1, zall_2, zob_iff, zar_iff, zis_iff, zkIs_some, zkHas_some, iI_vp, z01_I, z01_bz, zch_I, true_and, and_true, or_false, false_or, and_self, upI_same, upL_same, upI_ne, upL_ne, iI_ixN, zI_mk, zL_mk, zP_mk, zK_mk, zN_mk, zwI_up, zwL_up, zg_some, Nat.reduceMod, Nat.reduceDiv, zcn_I, iI_add, iI_sub, iI_mul, iI_neg, iI_lt, iI_le, iI_eq, iI_lt0, iI_le0, iI_gt0, iI_ge0, iI_eq0, k0] <;> omega)
      · exact (by simp (disch := omega) only [eq_self, not_true_eq_false, not_false_eq_true, upI_same, upL_same, upI_ne, upL_ne, iI_ixN, zI_mk, zL_mk, zP_mk, zK_mk, zN_mk, zwI_up, zwL_up, zg_some, Nat.reduceMod, Nat.reduceDiv, zcn_I, iI_add, iI_sub, iI_mul, iI_neg, iI_lt, iI_le, iI_eq, iI_lt0, iI_le0, iI_gt0, iI_ge0, iI_eq0, h4] <;> omega)
      · exact ⟨_, rfl, k0⟩
      · exact grow_end (by omega) hC hj hQ
/-- one more generator -/
theorem grow_ok {A : (Nat → Nat) → Prop} {g : Nat → Nat} {o : Int64} (hd : 7 ≤ d) (hC : CL c R) (hA : ∀ g, A g → pm 10 g) (hg : pm 10 g) (hch : chain c I L A) (e : o = Rw g)
    (hQ : ∀ I' L', cfr c I L I' L' → chain c I' L' (fun h => A h ∨ h = g) → Q (.inl none) (I', L', R)) : zS 1 d [zr (some c), zl o] (I, L, R) Q := by
  obtain ⟨tb, mk, mn, ⟨g1, g2, g3, g4⟩, r1, z1⟩ := hch
  have hC' := hC
  obtain ⟨k0, p0, p1, p2, p3, k1, k2, k3, k4⟩ := hC'
  have hA' : ∀ h, (A h ∨ h = g) → pm 10 h := fun h q => q.elim (hA h) (fun e => by rw [e]; exact hg)
  have h4 := r1.2.1
  refine zW.gz [] rfl rfl rfl (by omega) ?_ ?_ rfl rfl (Nat.le_refl _) (Nat.le_refl _) ?_
  · exact (by simp (disch := omega) only [true_or, or_true, eq_self, Option.some.injEq, Prod.mk.injEq, zall_0, zall_1, zall_2, zob_iff, zar_iff, zis_iff, zkIs_some, zkHas_some, iI_vp, z01_I, z01_bz, zch_I, true_and, and_true, or_false, false_or, and_self, upI_same, upL_same, upI_ne, upL_ne, iI_ixN, zI_mk, zL_mk, zP_mk, zK_mk, zN_mk, zwI_up, zwL_up, zg_some, Nat.reduceMod, Nat.reduceDiv, zcn_I, iI_add, iI_sub, iI_mul, iI_neg, iI_lt, iI_le, iI_eq, iI_lt0, iI_le0, iI_gt0, iI_ge0, iI_eq0, k0] <;> omega)
  · exact ⟨_, rfl, k0⟩
  · refine sift_ok (by omega) hC g1 r1 hg e (fun I' L' tb' mk' mn' s => ?_)
    obtain ⟨s1, s2, s3, s4, s5, s6, s7, s8⟩ := s
    refine zW.go [13] rfl (by omega) trivial ?_
    simp (disch := omega) only [upI_same, upL_same, upI_ne, upL_ne, iI_ixN, zI_mk, zL_mk, zP_mk, zK_mk, zN_mk, zwI_up, zwL_up, zg_some, Nat.reduceMod, Nat.reduceDiv, zcn_I, iI_add, iI_sub, iI_mul, iI_neg, iI_lt, iI_le, iI_eq, iI_lt0, iI_le0, iI_gt0, iI_ge0, iI_eq0, h4]
    refine grow_out (A := fun h => A h ∨ h = g) (I0 := I) (L0 := L) (by omega) hC hA' hQ (45 - mn) mn (by have := chO_le g1; omega) I' L' tb' mk' mn' _ _ ⟨s2, s3, s6 _ hA' (Gm_of (Or.inr rfl)) (fun k j v q => Gm_sub (fun h q' => Gm_of (Or.inl q')) (g2 k j v q)), fun h q => ?_, fun a b am bm ai bi => ?_, fun b bk _ _ => absurd bk (Nat.not_lt_zero _), s7⟩ s4 rfl
    · rcases q with q | rfl
      · exact Fl_le s1 (g4 h q)
      · exact s8
    · rw [s5 a ai, s5 b bi]
      obtain ⟨k, j, e1⟩ := g1.2.2.1 a ai
      obtain ⟨k', j', e2⟩ := g1.2.2.1 b bi
      exact Fl_le s1 (g3 _ _ _ _ _ _ e1 e2)
end GROW
