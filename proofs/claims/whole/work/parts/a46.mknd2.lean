/-! The model counts kinds. -/
theorem lkA_n {n : Nat} {col f g : Nat → Nat} (hn : n ≤ 10) (hf : pm n f) (hg : pm n g) : (∀ p, p < n → col (f p) = col (g p)) ↔ lkA col f g := ⟨fun h p hp => by
  by_cases c : p < n
  · exact h p c
  · rw [hf.2.2 p (by omega), hg.2.2 p (by omega)], fun h p hp => h p (by omega)⟩
section MKND
variable {d y : Nat} {T : tfT} {I : Nat → Nat → Int32} {L : Nat → Nat → Int64} {R : zRt} {Q : zO → zM → Prop}
theorem lk_lp {i n s t : Nat} {col f g : Nat → Nat} (hd : 1 ≤ d) (hM : ML y R) (hi : i < 4) (hn : n ≤ 10) (hf : pm n f) (hg : pm n g) (hs : s < 800) (ht : t < 800) (vn : I (y + 2) i = iI (n : Int)) (vc : ∀ p, p < 10 → I (y + 42 + i) p = iI (col p : Int)) (hc : ∀ p, p < 10 → col p < 10) (va : ∀ p, p < 10 → I (y + 178 + s) p = iI (f p : Int)) (vb : ∀ p, p < 10 → I (y + 178 + t) p = iI (g p : Int))
    (hQ : ∀ q, tru (lkA col f g) q → Q (.inl (some (zi q))) (I, L, R)) :
    ∀ m k, k + m = n → ∀ (q x : Int32), tru (∀ p, p < k → col (f p) = col (g p)) q → x = iI (k : Int) → zW 189 d 0 0 6 [some (zr (some y)), some (zi (iI (i : Int))), some (zi (iI (s : Int))), some (zi (iI (t : Int))), some (zi q), some (zi x)] [] (I, L, R) Q
  | 0, k, hk, q, x, hq, e => by
    subst e
    have k0 : R.2.1 y = some (7, 0) := hM.1
    have p1 : R.1 y 1 = some (y + 2) := (hM.2.1 1 (by decide)).1; have k1 : R.2.1 (y + 2) = some (20, 4) := (hM.2.1 1 (by decide)).2
    obtain rfl : k = n := by omega
    refine zW.gbt [] rfl rfl rfl (by omega) (by simp (disch := omega) only [true_or, or_true, eq_self, Option.some.injEq, Prod.mk.injEq, zall_0, zall_1, zall_2, zob_iff, zar_iff, zis_iff, zkIs_some, zkHas_some, iI_vp, z01_I, z01_bz, zch_I, true_and, and_true, or_false, false_or, and_self, upI_same, upL_same, upI_ne, upL_ne, iI_ixN, zI_mk, zL_mk, zP_mk, zK_mk, zN_mk, zwI_up, zwL_up, zg_some, Nat.reduceMod, Nat.reduceDiv, zcn_I, iI_add, iI_sub, iI_mul, iI_neg, iI_lt, iI_le, iI_eq, iI_lt0, iI_le0, iI_gt0, iI_ge0, iI_eq0, k0, p1, k1] <;> omega) (by simp (disch := omega) only [eq_self, not_true_eq_false, not_false_eq_true, upI_same, upL_same, upI_ne, upL_ne, iI_ixN, zI_mk, zL_mk, zP_mk, zK_mk, zN_mk, zwI_up, zwL_up, zg_some, Nat.reduceMod, Nat.reduceDiv, zcn_I, iI_add, iI_sub, iI_mul, iI_neg, iI_lt, iI_le, iI_eq, iI_lt0, iI_le0, iI_gt0, iI_ge0, iI_eq0, p1, vn] <;> omega) ?_
    exact zW.gr [] rfl rfl rfl (by omega) trivial (tru_01 hq) (hQ _ (tru_cg (lkA_n hn hf hg) hq))
  | m + 1, k, hk, q, x, hq, e => by
    subst e
    have k0 : R.2.1 y = some (7, 0) := hM.1
    have l1 := hf.1 k (by omega)
    have l2 := hg.1 k (by omega)
    have v1 := va k (by omega)
    have v2 := vb k (by omega)
    have c1 := vc (f k) (by omega)
    have c2 := vc (g k) (by omega)
    have o1 := hc (f k) (by omega)
    have o2 := hc (g k) (by omega)
    have p1 : R.1 y 1 = some (y + 2) := (hM.2.1 1 (by decide)).1; have k1 : R.2.1 (y + 2) = some (20, 4) := (hM.2.1 1 (by decide)).2; have p4 : R.1 y 4 = some (y + 41) := (hM.2.1 4 (by decide)).1; have k4 : R.2.1 (y + 41) = some (25, 4) := (hM.2.1 4 (by decide)).2; have q4 : R.1 (y + 41) (i) = some (y + 42 + i) := (hM.2.2.2.1 (i) (by omega)).1.trans (congrArg some (by omega)); have j4 : R.2.1 (y + 42 + i) = some (20, 10) := (congrArg R.2.1 (by omega)).trans (hM.2.2.2.1 (i) (by omega)).2; have p12 : R.1 y 12 = some (y + 177) := (hM.2.1 12 (by decide)).1; have k12 : R.2.1 (y + 177) = some (25, 800) := (hM.2.1 12 (by decide)).2; have q12 : R.1 (y + 177) (s) = some (y + 178 + s) := (hM.2.2.2.2.2.2.2.1 (s) (by omega)).1.trans (congrArg some (by omega)); have j12 : R.2.1 (y + 178 + s) = some (20, 10) := (congrArg R.2.1 (by omega)).trans (hM.2.2.2.2.2.2.2.1 (s) (by omega)).2
    have qs := q12
    have js := j12
    have q12 : R.1 (y + 177) (t) = some (y + 178 + t) := (hM.2.2.2.2.2.2.2.1 (t) (by omega)).1.trans (congrArg some (by omega)); have j12 : R.2.1 (y + 178 + t) = some (20, 10) := (congrArg R.2.1 (by omega)).trans (hM.2.2.2.2.2.2.2.1 (t) (by omega)).2
    have NX : ∀ u, tru (col (f k) = col (g k)) u → zW 189 d 0 0 59 [some (zr (some y)), some (zi (iI (i : Int))), some (zi (iI (s : Int))), some (zi (iI (t : Int))), some (zi q), some (zi (iI (k : Int)))] [zi u, zi q] (I, L, R) Q := fun u hu => by
      refine zW.go [6] rfl (by omega) trivial ?_
      exact lk_lp hd hM hi hn hf hg hs ht vn vc hc va vb hQ m (k + 1) (by omega) _ _ (tru_cg all_s (tru_and hq hu)) (by rw [zcn_I, iI_add]; rfl)
    refine zW.gbf [] rfl rfl rfl (by omega) (by simp (disch := omega) only [true_or, or_true, eq_self, Option.some.injEq, Prod.mk.injEq, zall_0, zall_1, zall_2, zob_iff, zar_iff, zis_iff, zkIs_some, zkHas_some, iI_vp, z01_I, z01_bz, zch_I, true_and, and_true, or_false, false_or, and_self, upI_same, upL_same, upI_ne, upL_ne, iI_ixN, zI_mk, zL_mk, zP_mk, zK_mk, zN_mk, zwI_up, zwL_up, zg_some, Nat.reduceMod, Nat.reduceDiv, zcn_I, iI_add, iI_sub, iI_mul, iI_neg, iI_lt, iI_le, iI_eq, iI_lt0, iI_le0, iI_gt0, iI_ge0, iI_eq0, k0, p1, k1] <;> omega) (by simp (disch := omega) only [eq_self, not_true_eq_false, not_false_eq_true, upI_same, upL_same, upI_ne, upL_ne, iI_ixN, zI_mk, zL_mk, zP_mk, zK_mk, zN_mk, zwI_up, zwL_up, zg_some, Nat.reduceMod, Nat.reduceDiv, zcn_I, iI_add, iI_sub, iI_mul, iI_neg, iI_lt, iI_le, iI_eq, iI_lt0, iI_le0, iI_gt0, iI_ge0, iI_eq0, p1, vn] <;> omega) ?_
    refine zW.gb [] rfl rfl rfl (by omega) (by simp (disch := omega) only [true_or, or_true, eq_self, Option.some.injEq, Prod.mk.injEq, zall_0, zall_1, zall_2, zob_iff, zar_iff, zis_iff, zkIs_some, zkHas_some, iI_vp, z01_I, z01_bz, zch_I, true_and, and_true, or_false, false_or, and_self, upI_same, upL_same, upI_ne, upL_ne, iI_ixN, zI_mk, zL_mk, zP_mk, zK_mk, zN_mk, zwI_up, zwL_up, zg_some, Nat.reduceMod, Nat.reduceDiv, zcn_I, iI_add, iI_sub, iI_mul, iI_neg, iI_lt, iI_le, iI_eq, iI_lt0, iI_le0, iI_gt0, iI_ge0, iI_eq0, k0, p4, k4, q4, j4, p12, k12, qs, js, q12, j12, v1, v2] <;> omega) (fun h' => ?_) (fun h' => ?_) <;> simp (disch := omega) only [zcn_I, iI_add, iI_sub, iI_mul, iI_neg, iI_lt, iI_le, iI_eq, iI_lt0, iI_le0, iI_gt0, iI_ge0, iI_eq0, upI_same, upL_same, upI_ne, upL_ne, iI_ixN, zI_mk, zL_mk, zP_mk, zK_mk, zN_mk, zwI_up, zwL_up, zg_some, Nat.reduceMod, Nat.reduceDiv, p4, q4, p12, qs, q12, v1, v2, c1, c2] at h'
    · exact zW.go [59] rfl (by omega) trivial (NX _ (tru_f (by omega)))
    · exact zW.go [59] rfl (by omega) trivial (NX _ (tru_t (by omega)))
theorem lk_ok {i n s t : Nat} {col f g : Nat → Nat} {a b e : Int32} (hd : 1 ≤ d) (hM : ML y R) (ha : a = iI (i : Int)) (hb : b = iI (s : Int)) (he : e = iI (t : Int)) (hi : i < 4) (hn : n ≤ 10) (hf : pm n f) (hg : pm n g) (hs : s < 800) (ht : t < 800) (vn : I (y + 2) i = iI (n : Int)) (vc : ∀ p, p < 10 → I (y + 42 + i) p = iI (col p : Int)) (hc : ∀ p, p < 10 → col p < 10) (va : ∀ p, p < 10 → I (y + 178 + s) p = iI (f p : Int)) (vb : ∀ p, p < 10 → I (y + 178 + t) p = iI (g p : Int))
    (hQ : ∀ q, tru (lkA col f g) q → Q (.inl (some (zi q))) (I, L, R)) : zS 189 d [zr (some y), zi a, zi b, zi e] (I, L, R) Q := by
  subst ha; subst hb; subst he
  refine zW.go [6] rfl (by omega) trivial ?_
  exact lk_lp hd hM hi hn hf hg hs ht vn vc hc va vb hQ n 0 (by omega) _ _ (tru_t all_0) (zcn_I _)
theorem knd_in {i n s c Z : Nat} {col : Nat → Nat} {g : Nat → Nat → Nat} (hd : 2 ≤ d) (hM : ML y R) (hi : i < 4) (hn : n ≤ 10) (hg : ∀ s, s < Z → pm n (g s)) (hZ8 : Z ≤ 800) (hs : s < Z) (vn : I (y + 2) i = iI (n : Int)) (vc : ∀ p, p < 10 → I (y + 42 + i) p = iI (col p : Int)) (hc : ∀ p, p < 10 → col p < 10) (vs : ∀ s p, s < Z → p < 10 → I (y + 178 + s) p = iI (g s p : Int))
    (hQ : ∀ q x, tru (¬ ∃ t, t < s ∧ lkA col (g s) (g t)) q → zW 190 d 0 0 67 [some (zr (some y)), some (zi (iI (i : Int))), some (zi (iI (c : Int))), some (zi (iI (s : Int))), some (zi q), some (zi x)] [] (I, L, R) Q) :
    ∀ m t, t + m = s → ∀ (q x : Int32), tru (¬ ∃ t', t' < t ∧ lkA col (g s) (g t')) q → x = iI (t : Int) → zW 190 d 0 0 32 [some (zr (some y)), some (zi (iI (i : Int))), some (zi (iI (c : Int))), some (zi (iI (s : Int))), some (zi q), some (zi x)] [] (I, L, R) Q
  | 0, t, ht, q, x, hq, e => by
    subst e
    obtain rfl : t = s := by omega
    exact zW.gbt [] rfl rfl rfl (by omega) trivial (by simp (disch := omega) only [eq_self, not_true_eq_false, not_false_eq_true, upI_same, upL_same, upI_ne, upL_ne, iI_ixN, zI_mk, zL_mk, zP_mk, zK_mk, zN_mk, zwI_up, zwL_up, zg_some, Nat.reduceMod, Nat.reduceDiv, zcn_I, iI_add, iI_sub, iI_mul, iI_neg, iI_lt, iI_le, iI_eq, iI_lt0, iI_le0, iI_gt0, iI_ge0, iI_eq0] <;> omega) (hQ _ _ hq)
  | m + 1, t, ht, q, x, hq, e => by
    subst e
    have k0 : R.2.1 y = some (7, 0) := hM.1
    refine zW.gbf [] rfl rfl rfl (by omega) trivial (by simp (disch := omega) only [eq_self, not_true_eq_false, not_false_eq_true, upI_same, upL_same, upI_ne, upL_ne, iI_ixN, zI_mk, zL_mk, zP_mk, zK_mk, zN_mk, zwI_up, zwL_up, zg_some, Nat.reduceMod, Nat.reduceDiv, zcn_I, iI_add, iI_sub, iI_mul, iI_neg, iI_lt, iI_le, iI_eq, iI_lt0, iI_le0, iI_gt0, iI_ge0, iI_eq0] <;> omega) ?_
    rcases hq with ⟨g1, rfl⟩ | ⟨g1, rfl⟩
    · refine zW.gbf [] rfl rfl rfl (by omega) trivial (by simp (disch := omega) only [eq_self, not_true_eq_false, not_false_eq_true, upI_same, upL_same, upI_ne, upL_ne, iI_ixN, zI_mk, zL_mk, zP_mk, zK_mk, zN_mk, zwI_up, zwL_up, zg_some, Nat.reduceMod, Nat.reduceDiv, zcn_I, iI_add, iI_sub, iI_mul, iI_neg, iI_lt, iI_le, iI_eq, iI_lt0, iI_le0, iI_gt0, iI_ge0, iI_eq0] <;> omega) ?_
      refine zW.gz [] rfl rfl rfl (by omega) trivial ⟨_, rfl, k0⟩ rfl rfl (by decide +kernel) (by decide +kernel) ?_
      refine lk_ok (by omega) hM rfl rfl rfl hi hn (hg s hs) (hg t (by omega)) (by omega) (by omega) vn vc hc (fun p hp => vs s p hs hp) (fun p hp => vs t p (by omega) hp) (fun u hu => ?_)
      rcases hu with ⟨g2, rfl⟩ | ⟨g2, rfl⟩
      · refine zW.gbt [] rfl rfl rfl (by omega) trivial (by simp (disch := omega) only [eq_self, not_true_eq_false, not_false_eq_true, upI_same, upL_same, upI_ne, upL_ne, iI_ixN, zI_mk, zL_mk, zP_mk, zK_mk, zN_mk, zwI_up, zwL_up, zg_some, Nat.reduceMod, Nat.reduceDiv, zcn_I, iI_add, iI_sub, iI_mul, iI_neg, iI_lt, iI_le, iI_eq, iI_lt0, iI_le0, iI_gt0, iI_ge0, iI_eq0] <;> omega) ?_
        refine zW.go [59] rfl (by omega) trivial ?_
        refine zW.go [32] rfl (by omega) trivial ?_
        exact knd_in hd hM hi hn hg hZ8 hs vn vc hc vs hQ m (t + 1) (by omega) _ _ (tru_f (fun n => n ⟨t, by omega, g2⟩)) (by rw [zcn_I, iI_add]; rfl)
      · refine zW.gbf [] rfl rfl rfl (by omega) trivial (by simp (disch := omega) only [eq_self, not_true_eq_false, not_false_eq_true, upI_same, upL_same, upI_ne, upL_ne, iI_ixN, zI_mk, zL_mk, zP_mk, zK_mk, zN_mk, zwI_up, zwL_up, zg_some, Nat.reduceMod, Nat.reduceDiv, zcn_I, iI_add, iI_sub, iI_mul, iI_neg, iI_lt, iI_le, iI_eq, iI_lt0, iI_le0, iI_gt0, iI_ge0, iI_eq0] <;> omega) ?_
        refine zW.go [59] rfl (by omega) trivial ?_
        refine zW.go [32] rfl (by omega) trivial ?_
        refine knd_in hd hM hi hn hg hZ8 hs vn vc hc vs hQ m (t + 1) (by omega) _ _ (tru_t ?_) (by rw [zcn_I, iI_add]; rfl)
        rintro ⟨t', q1, q2⟩
        by_cases c : t' = t
        · rw [c] at q2
          exact g2 q2
        · exact g1 ⟨t', by omega, q2⟩
    · refine zW.gbt [] rfl rfl rfl (by omega) trivial (by simp (disch := omega) only [eq_self, not_true_eq_false, not_false_eq_true, upI_same, upL_same, upI_ne, upL_ne, iI_ixN, zI_mk, zL_mk, zP_mk, zK_mk, zN_mk, zwI_up, zwL_up, zg_some, Nat.reduceMod, Nat.reduceDiv, zcn_I, iI_add, iI_sub, iI_mul, iI_neg, iI_lt, iI_le, iI_eq, iI_lt0, iI_le0, iI_gt0, iI_ge0, iI_eq0] <;> omega) (hQ _ _ (tru_0 (fun n => g1 ?_)))
      rintro ⟨t', q1, q2⟩
      exact n ⟨t', by omega, q2⟩
theorem knd_lp {i n Z : Nat} {col : Nat → Nat} {g : Nat → Nat → Nat} (hd : 2 ≤ d) (hM : ML y R) (hi : i < 4) (hn : n ≤ 10) (hg : ∀ s, s < Z → pm n (g s)) (hZ8 : Z ≤ 800) (vz : L (y + 173) 0 = iL (Z : Int)) (vn : I (y + 2) i = iI (n : Int)) (vc : ∀ p, p < 10 → I (y + 42 + i) p = iI (col p : Int)) (hc : ∀ p, p < 10 → col p < 10) (vs : ∀ s p, s < Z → p < 10 → I (y + 178 + s) p = iI (g s p : Int))
    (hQ : Q (.inl (some (zi (iI (ct (fun s => dc (¬ ∃ t, t < s ∧ lkA col (g s) (g t))) Z : Int))))) (I, L, R)) :
    ∀ m s, s + m = Z → ∀ (x2 x3 : Int32) (v4 v5 : Option zV), x2 = iI (ct (fun s => dc (¬ ∃ t, t < s ∧ lkA col (g s) (g t))) s : Int) → x3 = iI (s : Int) → zW 190 d 0 0 15 [some (zr (some y)), some (zi (iI (i : Int))), some (zi x2), some (zi x3), v4, v5] [] (I, L, R) Q
  | 0, s, hs, x2, x3, v4, v5, e2, e3 => by
    subst e2; subst e3
    have k0 : R.2.1 y = some (7, 0) := hM.1
    have p8 : R.1 y 8 = some (y + 173) := (hM.2.1 8 (by decide)).1; have k8 : R.2.1 (y + 173) = some (21, 11) := (hM.2.1 8 (by decide)).2
    obtain rfl : s = Z := by omega
    refine zW.gbt [] rfl rfl rfl (by omega) (by simp (disch := omega) only [true_or, or_true, eq_self, Option.some.injEq, Prod.mk.injEq, zall_0, zall_1, zall_2, zob_iff, zar_iff, zis_iff, zkIs_some, zkHas_some, iI_vp, z01_I, z01_bz, zch_I, true_and, and_true, or_false, false_or, and_self, upI_same, upL_same, upI_ne, upL_ne, iI_ixN, zI_mk, zL_mk, zP_mk, zK_mk, zN_mk, zwI_up, zwL_up, zg_some, Nat.reduceMod, Nat.reduceDiv, zcn_I, iI_add, iI_sub, iI_mul, iI_neg, iI_lt, iI_le, iI_eq, iI_lt0, iI_le0, iI_gt0, iI_ge0, iI_eq0, k0, p8, k8] <;> omega) (by simp (disch := omega) only [eq_self, not_true_eq_false, not_false_eq_true, upI_same, upL_same, upI_ne, upL_ne, iI_ixN, zI_mk, zL_mk, zP_mk, zK_mk, zN_mk, zwI_up, zwL_up, zg_some, Nat.reduceMod, Nat.reduceDiv, zcn_I, iI_add, iI_sub, iI_mul, iI_neg, iI_lt, iI_le, iI_eq, iI_lt0, iI_le0, iI_gt0, iI_ge0, iI_eq0, p8, c0i, vz, iL_I] <;> omega) ?_
    exact zW.gr [] rfl rfl rfl (by omega) trivial trivial hQ
  | m + 1, s, hs, x2, x3, v4, v5, e2, e3 => by
    subst e2; subst e3
    have k0 : R.2.1 y = some (7, 0) := hM.1
    have p8 : R.1 y 8 = some (y + 173) := (hM.2.1 8 (by decide)).1; have k8 : R.2.1 (y + 173) = some (21, 11) := (hM.2.1 8 (by decide)).2
    refine zW.gbf [] rfl rfl rfl (by omega) (by simp (disch := omega) only [true_or, or_true, eq_self, Option.some.injEq, Prod.mk.injEq, zall_0, zall_1, zall_2, zob_iff, zar_iff, zis_iff, zkIs_some, zkHas_some, iI_vp, z01_I, z01_bz, zch_I, true_and, and_true, or_false, false_or, and_self, upI_same, upL_same, upI_ne, upL_ne, iI_ixN, zI_mk, zL_mk, zP_mk, zK_mk, zN_mk, zwI_up, zwL_up, zg_some, Nat.reduceMod, Nat.reduceDiv, zcn_I, iI_add, iI_sub, iI_mul, iI_neg, iI_lt, iI_le, iI_eq, iI_lt0, iI_le0, iI_gt0, iI_ge0, iI_eq0, k0, p8, k8] <;> omega) (by simp (disch := omega) only [eq_self, not_true_eq_false, not_false_eq_true, upI_same, upL_same, upI_ne, upL_ne, iI_ixN, zI_mk, zL_mk, zP_mk, zK_mk, zN_mk, zwI_up, zwL_up, zg_some, Nat.reduceMod, Nat.reduceDiv, zcn_I, iI_add, iI_sub, iI_mul, iI_neg, iI_lt, iI_le, iI_eq, iI_lt0, iI_le0, iI_gt0, iI_ge0, iI_eq0, p8, c0i, vz, iL_I] <;> omega) ?_
    refine zW.go [32] rfl (by omega) trivial ?_
    refine knd_in (s := s) (Z := Z) hd hM hi hn hg hZ8 (by omega) vn vc hc vs (fun q x hq => ?_) s 0 (by omega) _ _ (tru_t (fun ⟨t, q, _⟩ => absurd q (Nat.not_lt_zero t))) (zcn_I _)
    have NX : ∀ (u : Int32) (e : Nat), u = iI (e : Int) → ct (fun s => dc (¬ ∃ t, t < s ∧ lkA col (g s) (g t))) (s + 1) = ct (fun s => dc (¬ ∃ t, t < s ∧ lkA col (g s) (g t))) s + e → zW 190 d 0 0 78 [some (zr (some y)), some (zi (iI (i : Int))), some (zi (iI (ct (fun s => dc (¬ ∃ t, t < s ∧ lkA col (g s) (g t))) s : Int))), some (zi (iI (s : Int))), some (zi q), some (zi x)] [zi u, zi (iI (ct (fun s => dc (¬ ∃ t, t < s ∧ lkA col (g s) (g t))) s : Int))] (I, L, R) Q := fun u e hu he => by
      subst hu
      refine zW.go [15] rfl (by omega) trivial ?_
      exact knd_lp hd hM hi hn hg hZ8 vz vn vc hc vs hQ m (s + 1) (by omega) _ _ _ _ (by rw [iI_add, he]; rfl) (by rw [zcn_I, iI_add]; rfl)
    have cs : ∀ b : Bool, dc (¬ ∃ t, t < s ∧ lkA col (g s) (g t)) = b → ct (fun s => dc (¬ ∃ t, t < s ∧ lkA col (g s) (g t))) (s + 1) = ct (fun s => dc (¬ ∃ t, t < s ∧ lkA col (g s) (g t))) s + (if b then 1 else 0) := fun b hb => by
      rw [← hb]
      rfl
    rcases hq with ⟨g1, rfl⟩ | ⟨g1, rfl⟩
    · refine zW.gbf [] rfl rfl rfl (by omega) trivial (by simp (disch := omega) only [eq_self, not_true_eq_false, not_false_eq_true, upI_same, upL_same, upI_ne, upL_ne, iI_ixN, zI_mk, zL_mk, zP_mk, zK_mk, zN_mk, zwI_up, zwL_up, zg_some, Nat.reduceMod, Nat.reduceDiv, zcn_I, iI_add, iI_sub, iI_mul, iI_neg, iI_lt, iI_le, iI_eq, iI_lt0, iI_le0, iI_gt0, iI_ge0, iI_eq0] <;> omega) ?_
      exact zW.go [78] rfl (by omega) trivial (NX _ 1 (zcn_I _) (cs true (dc_t.mpr g1)))
    · refine zW.gbt [] rfl rfl rfl (by omega) trivial (by simp (disch := omega) only [eq_self, not_true_eq_false, not_false_eq_true, upI_same, upL_same, upI_ne, upL_ne, iI_ixN, zI_mk, zL_mk, zP_mk, zK_mk, zN_mk, zwI_up, zwL_up, zg_some, Nat.reduceMod, Nat.reduceDiv, zcn_I, iI_add, iI_sub, iI_mul, iI_neg, iI_lt, iI_le, iI_eq, iI_lt0, iI_le0, iI_gt0, iI_ge0, iI_eq0] <;> omega) ?_
      exact zW.go [78] rfl (by omega) trivial (NX _ 0 (zcn_I _) (cs false (dc_f.mpr g1)))
theorem mKinds_ok {p : Int} {a : Int32} (hd : 8 ≤ d) (h : mf y T (I, L, R)) (e1 : a = iI p) (h1 : i32 p) (hQ : mP y (I, L, R) (oKinds T p) eI Q) : zS 190 d [zr (some y), zi a] (I, L, R) Q := by
  subst e1
  have hM := h.2.1
  have k0 : R.2.1 y = some (7, 0) := hM.1
  refine zW.gz [] rfl rfl rfl (by omega) trivial ⟨_, rfl, k0⟩ rfl rfl (by decide +kernel) (by decide +kernel) ?_
  refine mNot_ok (k := 2) (by omega) h rfl (zcn_I _) h1 (fun hb I' L' m1 f1 t1 => ?_) (fun i hp hi hb I' L' m1 f1 t1 => ?_) (fun i hp hi hg I' L' tb m1 f1 t1 hG hL => ?_)
  · refine zW.gbf [] rfl rfl rfl (by omega) trivial (by simp (disch := omega) only [eq_self, not_true_eq_false, not_false_eq_true, upI_same, upL_same, upI_ne, upL_ne, iI_ixN, zI_mk, zL_mk, zP_mk, zK_mk, zN_mk, zwI_up, zwL_up, zg_some, Nat.reduceMod, Nat.reduceDiv, zcn_I, iI_add, iI_sub, iI_mul, iI_neg, iI_lt, iI_le, iI_eq, iI_lt0, iI_le0, iI_gt0, iI_ge0, iI_eq0] <;> omega) ?_
    refine zW.gr [] rfl rfl rfl (by omega) trivial trivial ?_; rw [zcn_I]
    exact mP_t hQ (c := 0) (v := 0) (onP_no hb) m1 (mgr_o f1) t1 0
  · subst hp
    unfold oKinds at hQ
    rw [onP_i hi] at hQ
    refine zW.gbf [] rfl rfl rfl (by omega) trivial (by simp (disch := omega) only [eq_self, not_true_eq_false, not_false_eq_true, upI_same, upL_same, upI_ne, upL_ne, iI_ixN, zI_mk, zL_mk, zP_mk, zK_mk, zN_mk, zwI_up, zwL_up, zg_some, Nat.reduceMod, Nat.reduceDiv, zcn_I, iI_add, iI_sub, iI_mul, iI_neg, iI_lt, iI_le, iI_eq, iI_lt0, iI_le0, iI_gt0, iI_ge0, iI_eq0] <;> omega) ?_
    refine zW.gr [] rfl rfl rfl (by omega) trivial trivial ?_; rw [zcn_I]
    exact mP_t hQ (c := 1) (v := 0) (if_pos hb) m1 (mgr_o f1) t1 0
  · subst hp
    unfold oKinds at hQ
    rw [onP_i hi, if_neg (fun n => n hg)] at hQ
    obtain ⟨h4, hz, w1, w2, w3, w4, w5⟩ := m_pz m1 hi
    have vz := hG.2.2.2.2.2.2 0 (Nat.zero_le _)
    have vz : L' (y + 173) 0 = iL (pzZ (tPz T i) : Int) := vz
    refine zW.gbt [] rfl rfl rfl (by omega) trivial (by simp (disch := omega) only [eq_self, not_true_eq_false, not_false_eq_true, upI_same, upL_same, upI_ne, upL_ne, iI_ixN, zI_mk, zL_mk, zP_mk, zK_mk, zN_mk, zwI_up, zwL_up, zg_some, Nat.reduceMod, Nat.reduceDiv, zcn_I, iI_add, iI_sub, iI_mul, iI_neg, iI_lt, iI_le, iI_eq, iI_lt0, iI_le0, iI_gt0, iI_ge0, iI_eq0] <;> omega) ?_
    refine zW.go [15] rfl (by omega) trivial ?_
    refine knd_lp (col := pzC (tPz T i)) (g := stG (pzG (tPz T i))) (by omega) hM h4 hz.2.1 (fun s hs => zG_pmn hz (stG_sp (zG_is hz) hs).1) hg vz w1 w4 hz.2.2.2.2.2.2.1 (fun s p q1 q2 => (hL s q1).1 p q2) ?_ (pzZ (tPz T i)) 0 (Nat.zero_add _) _ _ _ _ (zcn_I _) (zcn_I _)
    have ek := kinds_eq (zG_is hz) (col := pzC (tPz T i)) (Z := pzZ (tPz T i)) rfl
    have ek : pzZ (tPz T i) / ct (zSv (pzR (tPz T i)) (pzT (tPz T i)) (pzC (tPz T i))) (pzZ (tPz T i)) = ct (fun s => dc (¬ ∃ t, t < s ∧ lkA (pzC (tPz T i)) (stG (pzG (tPz T i)) s) (stG (pzG (tPz T i)) t))) (pzZ (tPz T i)) := ek
    rw [ek] at hQ
    exact mP_0 hQ rfl m1 (mgr_o f1) t1
end MKND
