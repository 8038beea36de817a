/-! The model's parity. -/
theorem xb_s {g : Nat → Bool} {n : Nat} : xb g (n + 1) = (xb g n != g n) := rfl
def inv (f : Nat → Nat) (a b : Nat) : Bool := xb (fun a => xb (fun b => decide (f a < f b)) a) a != xb (fun b => decide (f a < f b)) b
theorem inv_s {f : Nat → Nat} {a b : Nat} : inv f a (b + 1) = (inv f a b != decide (f a < f b)) := by
  unfold inv
  rw [xb_s]
  cases xb (fun a => xb (fun b => decide (f a < f b)) a) a <;> cases xb (fun b => decide (f a < f b)) b <;> cases decide (f a < f b) <;> rfl
theorem inv_n {f : Nat → Nat} {a : Nat} : inv f (a + 1) 0 = inv f a a := by
  unfold inv
  rw [xb_s]
  show ((xb _ a != xb (fun b => decide (f a < f b)) a) != false) = _
  cases (xb (fun a => xb (fun b => decide (f a < f b)) a) a != xb (fun b => decide (f a < f b)) a) <;> rfl
theorem inv_ip {f : Nat → Nat} {n : Nat} : inv f n 0 = ip f n := by
  unfold inv ip
  show (xb _ n != false) = _
  cases xb (fun a => xb (fun b => decide (f a < f b)) a) n <;> rfl
theorem par_s {c : Nat} {q : Bool} (h : decide (c % 2 = 1) = q) (e : Bool) : decide ((c + (if e then 1 else 0)) % 2 = 1) = (q != e) := by
  subst h
  cases e
  · by_cases p : c % 2 = 1
    · rw [decide_eq_true p]
      exact decide_eq_true (by simpa using p)
    · rw [decide_eq_false p]
      exact decide_eq_false (by simpa using p)
  · by_cases p : c % 2 = 1
    · rw [decide_eq_true p]
      exact decide_eq_false (by show ¬ (c + 1) % 2 = 1; omega)
    · rw [decide_eq_false p]
      exact decide_eq_true (by show (c + 1) % 2 = 1; omega)
section MODD
variable {d y : Nat} {T : tfT} {I : Nat → Nat → Int32} {L : Nat → Nat → Int64} {R : zRt} {Q : zO → zM → Prop}
theorem odd_in {i n r t a : Nat} {f : Nat → Nat} {q2 : Int32} (hd : 1 ≤ d) (hM : ML y R) (hi : i < 4) (hn : n ≤ 10) (hr : r ≤ 4) (ht : t < 2 * r) (ha : a < n) (hf : pm n f) (vt : ∀ p, p < 10 → I (y + 6 + 9 * i + t) p = iI (f p : Int))
    (hQ : ∀ (c : Nat) x, decide (c % 2 = 1) = inv f a a → c ≤ 10 * a + a → zW 191 d 0 0 99 [some (zr (some y)), some (zi (iI (i : Int))), some (zi q2), some (zi (iI (t : Int))), some (zi (iI (c : Int))), some (zi (iI (a : Int))), some (zi x)] [] (I, L, R) Q) :
    ∀ m b, b + m = a → ∀ (c : Nat) (x4 x6 : Int32), decide (c % 2 = 1) = inv f a b → c ≤ 10 * a + b → x4 = iI (c : Int) → x6 = iI (b : Int) → zW 191 d 0 0 51 [some (zr (some y)), some (zi (iI (i : Int))), some (zi q2), some (zi (iI (t : Int))), some (zi x4), some (zi (iI (a : Int))), some (zi x6)] [] (I, L, R) Q
  | 0, b, hb, c, x4, x6, hc, hc2, e4, e6 => by
    subst e4; subst e6
    obtain rfl : b = a := by omega
    exact zW.gbt [] rfl rfl rfl (by omega) trivial (by simp (disch := omega) only [eq_self, not_true_eq_false, not_false_eq_true, upI_same, upL_same, upI_ne, upL_ne, iI_ixN, zI_mk, zL_mk, zP_mk, zK_mk, zN_mk, zwI_up, zwL_up, zg_some, Nat.reduceMod, Nat.reduceDiv, zcn_I, iI_add, iI_sub, iI_mul, iI_neg, iI_lt, iI_le, iI_eq, iI_lt0, iI_le0, iI_gt0, iI_ge0, iI_eq0] <;> omega) (hQ c _ hc hc2)
  | m + 1, b, hb, c, x4, x6, hc, hc2, e4, e6 => by
    subst e4; subst e6
    have k0 : R.2.1 y = some (7, 0) := hM.1
    have v1 := vt a (by omega)
    have v2 := vt b (by omega)
    have l1 := hf.1 a ha
    have l2 := hf.1 b (by omega)
    have p3 : R.1 y 3 = some (y + 4) := (hM.2.1 3 (by decide)).1; have k3 : R.2.1 (y + 4) = some (26, 4) := (hM.2.1 3 (by decide)).2; have q3 : R.1 (y + 4) (i) = some (y + 5 + 9 * i) := (hM.2.2.1 (i) (by omega)).1.trans (congrArg some (by omega)); have j3 : R.2.1 (y + 5 + 9 * i) = some (25, 8) := (congrArg R.2.1 (by omega)).trans (hM.2.2.1 (i) (by omega)).2.1; have r3 : R.1 (y + 5 + 9 * i) (t) = some (y + 6 + 9 * i + t) := (congrFun (congrArg R.1 (show y + 5 + 9 * i = y + 4 + 1 + 9 * i by omega)) (t)).trans ((((hM.2.2.1 (i) (by omega)).2.2 (t) (by omega)).1).trans (congrArg some (by omega))); have s3 : R.2.1 (y + 6 + 9 * i + t) = some (20, 10) := (congrArg R.2.1 (by omega)).trans ((hM.2.2.1 (i) (by omega)).2.2 (t) (by omega)).2
    have NX : ∀ (u : Int32) (e : Bool), u = iI ((if e then 1 else 0 : Nat) : Int) → decide (f a < f b) = e → zW 191 d 0 0 90 [some (zr (some y)), some (zi (iI (i : Int))), some (zi q2), some (zi (iI (t : Int))), some (zi (iI (c : Int))), some (zi (iI (a : Int))), some (zi (iI (b : Int)))] [zi u, zi (iI (c : Int))] (I, L, R) Q := fun u e hu he => by
      subst hu
      refine zW.go [51] rfl (by omega) trivial ?_
      have hle : (if e then 1 else 0) ≤ 1 := by cases e <;> decide
      refine odd_in hd hM hi hn hr ht ha hf vt hQ m (b + 1) (by omega) (c + (if e then 1 else 0)) _ _ ?_ (by omega) (by rw [iI_add]; exact iI_cg (by omega)) (by rw [zcn_I, iI_add]; rfl)
      rw [inv_s, he]
      exact par_s hc e
    refine zW.gbf [] rfl rfl rfl (by omega) trivial (by simp (disch := omega) only [eq_self, not_true_eq_false, not_false_eq_true, upI_same, upL_same, upI_ne, upL_ne, iI_ixN, zI_mk, zL_mk, zP_mk, zK_mk, zN_mk, zwI_up, zwL_up, zg_some, Nat.reduceMod, Nat.reduceDiv, zcn_I, iI_add, iI_sub, iI_mul, iI_neg, iI_lt, iI_le, iI_eq, iI_lt0, iI_le0, iI_gt0, iI_ge0, iI_eq0] <;> omega) ?_
    refine zW.gb [] rfl rfl rfl (by omega) (by simp (disch := omega) only [true_or, or_true, eq_self, Option.some.injEq, Prod.mk.injEq, zall_0, zall_1, zall_2, zob_iff, zar_iff, zis_iff, zkIs_some, zkHas_some, iI_vp, z01_I, z01_bz, zch_I, true_and, and_true, or_false, false_or, and_self, upI_same, upL_same, upI_ne, upL_ne, iI_ixN, zI_mk, zL_mk, zP_mk, zK_mk, zN_mk, zwI_up, zwL_up, zg_some, Nat.reduceMod, Nat.reduceDiv, zcn_I, iI_add, iI_sub, iI_mul, iI_neg, iI_lt, iI_le, iI_eq, iI_lt0, iI_le0, iI_gt0, iI_ge0, iI_eq0, k0, p3, k3, q3, j3, r3, s3] <;> omega) (fun h' => ?_) (fun h' => ?_) <;> simp (disch := omega) only [zcn_I, iI_add, iI_sub, iI_mul, iI_neg, iI_lt, iI_le, iI_eq, iI_lt0, iI_le0, iI_gt0, iI_ge0, iI_eq0, upI_same, upL_same, upI_ne, upL_ne, iI_ixN, zI_mk, zL_mk, zP_mk, zK_mk, zN_mk, zwI_up, zwL_up, zg_some, Nat.reduceMod, Nat.reduceDiv, p3, q3, r3, v1, v2] at h'
    · exact zW.go [90] rfl (by omega) trivial (NX _ false (zcn_I _) (decide_eq_false (by omega)))
    · exact zW.go [90] rfl (by omega) trivial (NX _ true (zcn_I _) (decide_eq_true (by omega)))
theorem odd_md {i n r t : Nat} {f : Nat → Nat} {q2 : Int32} (hd : 1 ≤ d) (hM : ML y R) (hi : i < 4) (hn : n ≤ 10) (hr : r ≤ 4) (ht : t < 2 * r) (hf : pm n f) (vn : I (y + 2) i = iI (n : Int)) (vt : ∀ p, p < 10 → I (y + 6 + 9 * i + t) p = iI (f p : Int))
    (hQ : ∀ (c : Nat) x v, decide (c % 2 = 1) = ip f n → c ≤ 100 → zW 191 d 0 0 105 [some (zr (some y)), some (zi (iI (i : Int))), some (zi q2), some (zi (iI (t : Int))), some (zi (iI (c : Int))), some (zi x), v] [] (I, L, R) Q) :
    ∀ m a, a + m = n → ∀ (c : Nat) (x4 x5 : Int32) (v6 : Option zV), decide (c % 2 = 1) = inv f a 0 → c ≤ 10 * a → x4 = iI (c : Int) → x5 = iI (a : Int) → zW 191 d 0 0 37 [some (zr (some y)), some (zi (iI (i : Int))), some (zi q2), some (zi (iI (t : Int))), some (zi x4), some (zi x5), v6] [] (I, L, R) Q
  | 0, a, ha, c, x4, x5, v6, hc, hc2, e4, e5 => by
    subst e4; subst e5
    have k0 : R.2.1 y = some (7, 0) := hM.1
    have p1 : R.1 y 1 = some (y + 2) := (hM.2.1 1 (by decide)).1; have k1 : R.2.1 (y + 2) = some (20, 4) := (hM.2.1 1 (by decide)).2
    obtain rfl : a = n := by omega
    rw [inv_ip] at hc
    exact zW.gbt [] rfl rfl rfl (by omega) (by simp (disch := omega) only [true_or, or_true, eq_self, Option.some.injEq, Prod.mk.injEq, zall_0, zall_1, zall_2, zob_iff, zar_iff, zis_iff, zkIs_some, zkHas_some, iI_vp, z01_I, z01_bz, zch_I, true_and, and_true, or_false, false_or, and_self, upI_same, upL_same, upI_ne, upL_ne, iI_ixN, zI_mk, zL_mk, zP_mk, zK_mk, zN_mk, zwI_up, zwL_up, zg_some, Nat.reduceMod, Nat.reduceDiv, zcn_I, iI_add, iI_sub, iI_mul, iI_neg, iI_lt, iI_le, iI_eq, iI_lt0, iI_le0, iI_gt0, iI_ge0, iI_eq0, k0, p1, k1] <;> omega) (by simp (disch := omega) only [eq_self, not_true_eq_false, not_false_eq_true, upI_same, upL_same, upI_ne, upL_ne, iI_ixN, zI_mk, zL_mk, zP_mk, zK_mk, zN_mk, zwI_up, zwL_up, zg_some, Nat.reduceMod, Nat.reduceDiv, zcn_I, iI_add, iI_sub, iI_mul, iI_neg, iI_lt, iI_le, iI_eq, iI_lt0, iI_le0, iI_gt0, iI_ge0, iI_eq0, p1, vn] <;> omega) (hQ c _ _ hc (by omega))
  | m + 1, a, ha, c, x4, x5, v6, hc, hc2, e4, e5 => by
    subst e4; subst e5
    have k0 : R.2.1 y = some (7, 0) := hM.1
    have p1 : R.1 y 1 = some (y + 2) := (hM.2.1 1 (by decide)).1; have k1 : R.2.1 (y + 2) = some (20, 4) := (hM.2.1 1 (by decide)).2
    refine zW.gbf [] rfl rfl rfl (by omega) (by simp (disch := omega) only [true_or, or_true, eq_self, Option.some.injEq, Prod.mk.injEq, zall_0, zall_1, zall_2, zob_iff, zar_iff, zis_iff, zkIs_some, zkHas_some, iI_vp, z01_I, z01_bz, zch_I, true_and, and_true, or_false, false_or, and_self, upI_same, upL_same, upI_ne, upL_ne, iI_ixN, zI_mk, zL_mk, zP_mk, zK_mk, zN_mk, zwI_up, zwL_up, zg_some, Nat.reduceMod, Nat.reduceDiv, zcn_I, iI_add, iI_sub, iI_mul, iI_neg, iI_lt, iI_le, iI_eq, iI_lt0, iI_le0, iI_gt0, iI_ge0, iI_eq0, k0, p1, k1] <;> omega) (by simp (disch := omega) only [eq_self, not_true_eq_false, not_false_eq_true, upI_same, upL_same, upI_ne, upL_ne, iI_ixN, zI_mk, zL_mk, zP_mk, zK_mk, zN_mk, zwI_up, zwL_up, zg_some, Nat.reduceMod, Nat.reduceDiv, zcn_I, iI_add, iI_sub, iI_mul, iI_neg, iI_lt, iI_le, iI_eq, iI_lt0, iI_le0, iI_gt0, iI_ge0, iI_eq0, p1, vn] <;> omega) ?_
    refine zW.go [51] rfl (by omega) trivial ?_
    refine odd_in hd hM hi hn hr ht (show a < n by omega) hf vt (fun c' x hc' hle => ?_) a 0 (by omega) c _ _ hc (by omega) rfl (zcn_I _)
    refine zW.go [37] rfl (by omega) trivial ?_
    exact odd_md hd hM hi hn hr ht hf vn vt hQ m (a + 1) (by omega) c' _ _ _ (by rw [inv_n]; exact hc') (by omega) rfl (by rw [zcn_I, iI_add]; rfl)
theorem odd_lp {i n r : Nat} {tn : Nat → Nat → Nat} (hd : 1 ≤ d) (hM : ML y R) (hi : i < 4) (hn : n ≤ 10) (hr : r ≤ 4) (ht : ∀ a, a < 2 * r → pm n (tn a)) (vn : I (y + 2) i = iI (n : Int)) (vr : I (y + 3) i = iI (r : Int)) (vt : ∀ a p, a < 2 * r → p < 10 → I (y + 6 + 9 * i + a) p = iI (tn a p : Int))
    (hQ : ∀ q, tru (anyO r tn) q → Q (.inl (some (zi q))) (I, L, R)) :
    ∀ m k, k + m = r → ∀ (q2 x3 : Int32) (v4 v5 v6 : Option zV), tru (∃ j, j < k ∧ ip (tn (2 * j)) 10 = true) q2 → x3 = iI (2 * (k : Int)) → zW 191 d 0 0 19 [some (zr (some y)), some (zi (iI (i : Int))), some (zi q2), some (zi x3), v4, v5, v6] [] (I, L, R) Q
  | 0, k, hk, q2, x3, v4, v5, v6, hq, e => by
    subst e
    have k0 : R.2.1 y = some (7, 0) := hM.1
    have p2 : R.1 y 2 = some (y + 3) := (hM.2.1 2 (by decide)).1; have k2 : R.2.1 (y + 3) = some (20, 4) := (hM.2.1 2 (by decide)).2
    obtain rfl : k = r := by omega
    refine zW.gbt [] rfl rfl rfl (by omega) (by simp (disch := omega) only [true_or, or_true, eq_self, Option.some.injEq, Prod.mk.injEq, zall_0, zall_1, zall_2, zob_iff, zar_iff, zis_iff, zkIs_some, zkHas_some, iI_vp, z01_I, z01_bz, zch_I, true_and, and_true, or_false, false_or, and_self, upI_same, upL_same, upI_ne, upL_ne, iI_ixN, zI_mk, zL_mk, zP_mk, zK_mk, zN_mk, zwI_up, zwL_up, zg_some, Nat.reduceMod, Nat.reduceDiv, zcn_I, iI_add, iI_sub, iI_mul, iI_neg, iI_lt, iI_le, iI_eq, iI_lt0, iI_le0, iI_gt0, iI_ge0, iI_eq0, k0, p2, k2] <;> omega) (by simp (disch := omega) only [eq_self, not_true_eq_false, not_false_eq_true, upI_same, upL_same, upI_ne, upL_ne, iI_ixN, zI_mk, zL_mk, zP_mk, zK_mk, zN_mk, zwI_up, zwL_up, zg_some, Nat.reduceMod, Nat.reduceDiv, zcn_I, iI_add, iI_sub, iI_mul, iI_neg, iI_lt, iI_le, iI_eq, iI_lt0, iI_le0, iI_gt0, iI_ge0, iI_eq0, p2, vr] <;> omega) ?_
    exact zW.gr [] rfl rfl rfl (by omega) trivial (tru_01 hq) (hQ _ hq)
  | m + 1, k, hk, q2, x3, v4, v5, v6, hq, e => by
    subst e
    have k0 : R.2.1 y = some (7, 0) := hM.1
    have hp := ht (2 * k) (by omega)
    have p2 : R.1 y 2 = some (y + 3) := (hM.2.1 2 (by decide)).1; have k2 : R.2.1 (y + 3) = some (20, 4) := (hM.2.1 2 (by decide)).2
    refine zW.gbf [] rfl rfl rfl (by omega) (by simp (disch := omega) only [true_or, or_true, eq_self, Option.some.injEq, Prod.mk.injEq, zall_0, zall_1, zall_2, zob_iff, zar_iff, zis_iff, zkIs_some, zkHas_some, iI_vp, z01_I, z01_bz, zch_I, true_and, and_true, or_false, false_or, and_self, upI_same, upL_same, upI_ne, upL_ne, iI_ixN, zI_mk, zL_mk, zP_mk, zK_mk, zN_mk, zwI_up, zwL_up, zg_some, Nat.reduceMod, Nat.reduceDiv, zcn_I, iI_add, iI_sub, iI_mul, iI_neg, iI_lt, iI_le, iI_eq, iI_lt0, iI_le0, iI_gt0, iI_ge0, iI_eq0, k0, p2, k2] <;> omega) (by simp (disch := omega) only [eq_self, not_true_eq_false, not_false_eq_true, upI_same, upL_same, upI_ne, upL_ne, iI_ixN, zI_mk, zL_mk, zP_mk, zK_mk, zN_mk, zwI_up, zwL_up, zg_some, Nat.reduceMod, Nat.reduceDiv, zcn_I, iI_add, iI_sub, iI_mul, iI_neg, iI_lt, iI_le, iI_eq, iI_lt0, iI_le0, iI_gt0, iI_ge0, iI_eq0, p2, vr] <;> omega) ?_
    refine zW.go [37] rfl (by omega) trivial ?_
    rw [show (2 : Int) * (k : Int) = ((2 * k : Nat) : Int) by omega]
    refine odd_md (f := tn (2 * k)) hd hM hi hn hr (by omega) hp vn (fun p hp => vt _ p (by omega) hp) (fun c x v hc hle => ?_) n 0 (by omega) 0 _ _ _ rfl (Nat.zero_le _) (zcn_I _) (zcn_I _)
    have e10 : ip (tn (2 * k)) 10 = ip (tn (2 * k)) n := by
      have := ip_up hp (10 - n)
      rw [show n + (10 - n) = 10 by omega] at this
      exact this
    have NX : ∀ u, tru (ip (tn (2 * k)) 10 = true) u → zW 191 d 0 0 119 [some (zr (some y)), some (zi (iI (i : Int))), some (zi q2), some (zi (iI ((2 * k : Nat) : Int))), some (zi (iI (c : Int))), some (zi x), v] [zi u, zi q2] (I, L, R) Q := fun u hu => by
      refine zW.go [19] rfl (by omega) trivial ?_
      refine odd_lp hd hM hi hn hr ht vn vr vt hQ m (k + 1) (by omega) _ _ _ _ _ (tru_cg ?_ (tru_or hq hu)) (by rw [zcn_I, iI_add]; exact iI_cg (by omega))
      constructor
      · rintro (⟨j, q1, q2⟩ | q)
        · exact ⟨j, by omega, q2⟩
        · exact ⟨k, by omega, q⟩
      · rintro ⟨j, q1, q2⟩
        by_cases e : j = k
        · rw [e] at q2
          exact Or.inr q2
        · exact Or.inl ⟨j, by omega, q2⟩
    have em := mod_I (a := c) (b := 2) (by omega) (by omega) (by omega)
    have em : iI (c : Int) - iI (c : Int) / iI 2 * iI 2 = iI ((c % 2 : Nat) : Int) := em
    have n2 : ¬ iI 2 = 0 := by decide +kernel
    refine zW.gb [] rfl rfl rfl (by omega) (by simp only [zcn_I, zall_1, n2, not_false_eq_true]) (fun h' => ?_) (fun h' => ?_) <;> rw [zcn_I, zcn_I, em] at h' <;> simp (disch := omega) only [zcn_I, iI_add, iI_sub, iI_mul, iI_neg, iI_lt, iI_le, iI_eq, iI_lt0, iI_le0, iI_gt0, iI_ge0, iI_eq0] at h'
    · exact zW.go [119] rfl (by omega) trivial (NX _ (tru_f (fun q => by
        rw [e10, ← hc] at q
        have := of_decide_eq_true q
        omega)))
    · exact zW.go [119] rfl (by omega) trivial (NX _ (tru_t (by
        rw [e10, ← hc]
        exact decide_eq_true (by omega))))
theorem mOdd_ok {p : Int} {a : Int32} (hd : 6 ≤ d) (h : mf y T (I, L, R)) (e1 : a = iI p) (h1 : i32 p) (hQ : mP y (I, L, R) (oOdd T p) eI Q) : zS 191 d [zr (some y), zi a] (I, L, R) Q := by
  subst e1
  have hM := h.2.1
  have k0 : R.2.1 y = some (7, 0) := hM.1
  refine zW.gz [] rfl rfl rfl (by omega) trivial ⟨_, rfl, k0⟩ rfl rfl (by decide +kernel) (by decide +kernel) ?_
  refine noPz_ok (by omega) h rfl h1 (fun q hq => ?_)
  refine zW.gz [] rfl rfl rfl (by omega) trivial ⟨_, rfl, k0⟩ rfl rfl (by decide +kernel) (by decide +kernel) ?_
  refine mThr_ok (k := 1) (by omega) k0 hq (zcn_I _) (fun hb => ?_) (fun hg => ?_)
  · refine zW.gbf [] rfl rfl rfl (by omega) trivial (by simp (disch := omega) only [eq_self, not_true_eq_false, not_false_eq_true, upI_same, upL_same, upI_ne, upL_ne, iI_ixN, zI_mk, zL_mk, zP_mk, zK_mk, zN_mk, zwI_up, zwL_up, zg_some, Nat.reduceMod, Nat.reduceDiv, zcn_I, iI_add, iI_sub, iI_mul, iI_neg, iI_lt, iI_le, iI_eq, iI_lt0, iI_le0, iI_gt0, iI_ge0, iI_eq0] <;> omega) ?_
    refine zW.gr [] rfl rfl rfl (by omega) trivial z01c0 ?_; rw [zcn_I]
    refine mP_t hQ (c := 0) (v := 0) ?_ (mf_scr h th_scr) (mgr_o (scr_o th_scr)) (upI_same _ _ _ _) 0
    exact onP_no hb
  · obtain ⟨i, rfl, hi, e⟩ := onP_yes hg
    unfold oOdd at hQ
    rw [e] at hQ
    have hm : mf y T (upI I y 41 (iI 0), L, R) := mf_scr h th_scr
    obtain ⟨h4, hz, w1, w2, w3, w4, w5⟩ := m_pz hm hi
    refine zW.gbt [] rfl rfl rfl (by omega) trivial (by simp (disch := omega) only [eq_self, not_true_eq_false, not_false_eq_true, upI_same, upL_same, upI_ne, upL_ne, iI_ixN, zI_mk, zL_mk, zP_mk, zK_mk, zN_mk, zwI_up, zwL_up, zg_some, Nat.reduceMod, Nat.reduceDiv, zcn_I, iI_add, iI_sub, iI_mul, iI_neg, iI_lt, iI_le, iI_eq, iI_lt0, iI_le0, iI_gt0, iI_ge0, iI_eq0] <;> omega) ?_
    refine zW.go [19] rfl (by omega) trivial ?_
    refine odd_lp (tn := pzT (tPz T i)) (by omega) hM h4 hz.2.1 hz.2.2.1 hz.2.2.2.1 w1 w2 w3 (fun q hq => ?_) (pzR (tPz T i)) 0 (Nat.zero_add _) _ _ _ _ _ (tru_f (fun ⟨j, q, _⟩ => absurd q (Nat.not_lt_zero j))) (by rw [zcn_I]; rfl)
    rcases hq with ⟨g, rfl⟩ | ⟨g, rfl⟩
    · rw [b01_t g] at hQ
      exact mP_0 hQ rfl hm (mgr_o (scr_o th_scr)) (upI_same _ _ _ _)
    · rw [b01_f g] at hQ
      exact mP_0 hQ rfl hm (mgr_o (scr_o th_scr)) (upI_same _ _ _ _)
end MODD
