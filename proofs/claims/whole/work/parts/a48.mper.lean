/-! The model's period. -/
theorem cyc_iff {f : Nat → Nat} {k c : Nat} (hc : 1 ≤ c) (h : itf f c k = k) (hm : ∀ j, 1 ≤ j → j < c → itf f j k ≠ k) (Q : Nat) : itf f Q k = k ↔ c ∣ Q := by
  have add : ∀ a b, itf f (a + b) k = itf f a (itf f b k) := fun a b => by
    induction a with
    | zero => rw [Nat.zero_add]; rfl
    | succ a ih =>
      rw [show a + 1 + b = (a + b) + 1 by omega, itf_s, itf_s, ih]
  constructor
  · intro hq
    have h1 := Nat.div_add_mod Q c
    have h2 : itf f (Q % c) k = k := by
      have h3 := add (Q % c) (c * (Q / c))
      rw [itf_mul h, show Q % c + c * (Q / c) = Q by omega, hq] at h3
      exact h3.symm
    by_cases z : Q % c = 0
    · exact Nat.dvd_of_mod_eq_zero z
    · exact absurd h2 (hm _ (by omega) (Nat.mod_lt _ (by omega)))
  · rintro ⟨t, rfl⟩
    exact itf_mul h t
theorem lcm_iff {a b m : Nat} (hm1 : 1 ≤ m) (h : b ∣ a * m) (hm : ∀ j, 1 ≤ j → j < m → ¬ b ∣ a * j) (Q : Nat) : (a ∣ Q ∧ b ∣ Q) ↔ a * m ∣ Q := by
  constructor
  · rintro ⟨⟨t, rfl⟩, h2⟩
    have h3 := Nat.div_add_mod t m
    have h4 : b ∣ a * (t % m) := by
      have e : a * t = a * m * (t / m) + a * (t % m) := by
        rw [Nat.mul_assoc, ← Nat.mul_add, h3]
      rw [e] at h2
      exact (Nat.dvd_add_right (Nat.dvd_trans h (Nat.dvd_mul_right _ _))).mp h2
    by_cases z : t % m = 0
    · refine ⟨t / m, ?_⟩
      rw [Nat.mul_assoc, show m * (t / m) = t by omega]
    · exact absurd h4 (hm _ (by omega) (Nat.mod_lt _ (by omega)))
  · intro h2
    exact ⟨Nat.dvd_trans (Nat.dvd_mul_right _ _) h2, Nat.dvd_trans h h2⟩
/-- the period of the first k -/
def isPk (f : Nat → Nat) (k P : Nat) : Prop := 1 ≤ P ∧ P ≤ 2520 ∧ ∀ Q, (∀ j, j < k → itf f Q j = j) ↔ P ∣ Q
theorem isPk_0 (f : Nat → Nat) : isPk f 0 1 := ⟨Nat.le_refl _, by decide, fun Q => ⟨fun _ => Nat.one_dvd Q, fun _ j h => absurd h (Nat.not_lt_zero j)⟩⟩
theorem isPk_s {f : Nat → Nat} {k P c m : Nat} (hf : pm 10 f) (h : isPk f k P) (hc : 1 ≤ c) (h1 : itf f c k = k) (h2 : ∀ j, 1 ≤ j → j < c → itf f j k ≠ k) (hm1 : 1 ≤ m) (h3 : c ∣ P * m) (h4 : ∀ j, 1 ≤ j → j < m → ¬ c ∣ P * j) : isPk f (k + 1) (P * m) := by
  have key : ∀ Q, (∀ j, j < k + 1 → itf f Q j = j) ↔ P * m ∣ Q := fun Q => by
    rw [← lcm_iff hm1 h3 h4 Q, ← h.2.2 Q, ← cyc_iff hc h1 h2 Q]
    exact all_s.symm
  refine ⟨Nat.mul_pos h.1 hm1, ?_, key⟩
  refine Nat.le_of_dvd (by decide) ((key 2520).mp (fun j _ => congrFun (itf_2520 hf) j))
theorem isPk_per {f : Nat → Nat} {n P : Nat} (hf : pm n f) (hn : n ≤ 10) (h : isPk f n P) : perd f = P := by
  obtain ⟨p1, p2, p3, p4⟩ := perd_sp (pm_up hf hn)
  have e : ∀ Q, itf f Q = (fun p => p) ↔ P ∣ Q := fun Q => by
    rw [← h.2.2 Q]
    constructor
    · intro q j _
      exact congrFun q j
    · intro q
      funext j
      by_cases c : j < n
      · exact q j c
      · have : ∀ Q, itf f Q j = j := fun Q => by
          induction Q with
          | zero => rfl
          | succ Q ih => rw [itf_s, ih]; exact hf.2.2 j (by omega)
        exact this Q
  have h1 := Nat.le_of_dvd (by omega) ((e (perd f)).mp p3)
  have h2 : itf f P = fun p => p := (e P).mpr (Nat.dvd_refl P)
  have h3 : ¬ P < perd f := fun q => p4 P h.1 q h2
  omega
section MPER
variable {d y : Nat} {T : tfT} {I : Nat → Nat → Int32} {L : Nat → Nat → Int64} {R : zRt} {Q : zO → zM → Prop}
theorem per_cyc {i n k : Nat} {f : Nat → Nat} {x2 : Int32} (hd : 1 ≤ d) (hM : ML y R) (hi : i < 4) (hn : n ≤ 10) (hf : pm n f) (hk : k < n) (vs : ∀ p, p < 10 → I (y + 47 + i) p = iI (f p : Int))
    (hQ : ∀ c : Nat, 1 ≤ c → c ≤ 10 → itf f c k = k → (∀ j, 1 ≤ j → j < c → itf f j k ≠ k) → zW 193 d 0 0 65 [some (zr (some y)), some (zi (iI (i : Int))), some (zi x2), some (zi (iI (k : Int))), some (zi (iI (c : Int))), some (zi (iI (k : Int)))] [] (I, L, R) Q) :
    ∀ m c, c + m = 11 → 1 ≤ c → (∀ j, 1 ≤ j → j < c → itf f j k ≠ k) → ∀ (x4 x5 : Int32), x4 = iI (c : Int) → x5 = iI (itf f c k : Int) → zW 193 d 0 0 42 [some (zr (some y)), some (zi (iI (i : Int))), some (zi x2), some (zi (iI (k : Int))), some (zi x4), some (zi x5)] [] (I, L, R) Q
  | 0, c, hc, hc1, hm, x4, x5, e4, e5 => by
    exfalso
    obtain ⟨c', q1, q2, q3⟩ := itf_cyc hf hk
    exact hm c' q1 (by omega) q3
  | m + 1, c, hc, hc1, hm, x4, x5, e4, e5 => by
    subst e4; subst e5
    have k0 : R.2.1 y = some (7, 0) := hM.1
    have hit : ∀ c, itf f c k < n := fun c => by
      induction c with
      | zero => exact hk
      | succ c ih => rw [itf_s]; exact hf.1 _ ih
    have l1 := hit c
    have v1 := vs (itf f c k) (by omega)
    have p5 : R.1 y 5 = some (y + 46) := (hM.2.1 5 (by decide)).1; have k5 : R.2.1 (y + 46) = some (25, 4) := (hM.2.1 5 (by decide)).2; have q5 : R.1 (y + 46) (i) = some (y + 47 + i) := (hM.2.2.2.2.1 (i) (by omega)).1.trans (congrArg some (by omega)); have j5 : R.2.1 (y + 47 + i) = some (20, 10) := (congrArg R.2.1 (by omega)).trans (hM.2.2.2.2.1 (i) (by omega)).2
    by_cases e : itf f c k = k
    · refine zW.gbt [] rfl rfl rfl (by omega) trivial (by simp (disch := omega) only [eq_self, not_true_eq_false, not_false_eq_true, upI_same, upL_same, upI_ne, upL_ne, iI_ixN, zI_mk, zL_mk, zP_mk, zK_mk, zN_mk, zwI_up, zwL_up, zg_some, Nat.reduceMod, Nat.reduceDiv, zcn_I, iI_add, iI_sub, iI_mul, iI_neg, iI_lt, iI_le, iI_eq, iI_lt0, iI_le0, iI_gt0, iI_ge0, iI_eq0] <;> omega) ?_
      rw [e]
      exact hQ c hc1 (by omega) e hm
    · refine zW.gbf [] rfl rfl rfl (by omega) trivial (by simp (disch := omega) only [eq_self, not_true_eq_false, not_false_eq_true, upI_same, upL_same, upI_ne, upL_ne, iI_ixN, zI_mk, zL_mk, zP_mk, zK_mk, zN_mk, zwI_up, zwL_up, zg_some, Nat.reduceMod, Nat.reduceDiv, zcn_I, iI_add, iI_sub, iI_mul, iI_neg, iI_lt, iI_le, iI_eq, iI_lt0, iI_le0, iI_gt0, iI_ge0, iI_eq0] <;> omega) ?_
      refine zW.go [42] rfl (by omega) (by simp (disch := omega) only [true_or, or_true, eq_self, Option.some.injEq, Prod.mk.injEq, zall_0, zall_1, zall_2, zob_iff, zar_iff, zis_iff, zkIs_some, zkHas_some, iI_vp, z01_I, z01_bz, zch_I, true_and, and_true, or_false, false_or, and_self, upI_same, upL_same, upI_ne, upL_ne, iI_ixN, zI_mk, zL_mk, zP_mk, zK_mk, zN_mk, zwI_up, zwL_up, zg_some, Nat.reduceMod, Nat.reduceDiv, zcn_I, iI_add, iI_sub, iI_mul, iI_neg, iI_lt, iI_le, iI_eq, iI_lt0, iI_le0, iI_gt0, iI_ge0, iI_eq0, k0, p5, k5, q5, j5] <;> omega) ?_
      simp (disch := omega) only [upI_same, upL_same, upI_ne, upL_ne, iI_ixN, zI_mk, zL_mk, zP_mk, zK_mk, zN_mk, zwI_up, zwL_up, zg_some, Nat.reduceMod, Nat.reduceDiv, p5, q5, v1]
      refine per_cyc hd hM hi hn hf hk vs hQ m (c + 1) (by omega) (by omega) (fun j q1 q2 => ?_) _ _ (by rw [zcn_I, iI_add]; rfl) (by rw [itf_s])
      by_cases ej : j = c
      · rw [ej]
        exact e
      · exact hm j q1 (by omega)
theorem per_lcm {i k P c : Nat} (hd : 1 ≤ d) (hP : 1 ≤ P) (hP2 : P ≤ 2520) (hc1 : 1 ≤ c) (hc : c ≤ 10)
    (hQ : ∀ m : Nat, 1 ≤ m → c ∣ P * m → (∀ j, 1 ≤ j → j < m → ¬ c ∣ P * j) → zW 193 d 0 0 85 [some (zr (some y)), some (zi (iI (i : Int))), some (zi (iI (P : Int))), some (zi (iI (k : Int))), some (zi (iI (c : Int))), some (zi (iI ((P * m : Nat) : Int)))] [] (I, L, R) Q) :
    ∀ f m, m + f = c → 1 ≤ m → (∀ j, 1 ≤ j → j < m → ¬ c ∣ P * j) → ∀ (x5 : Int32), x5 = iI ((P * m : Nat) : Int) → zW 193 d 0 0 68 [some (zr (some y)), some (zi (iI (i : Int))), some (zi (iI (P : Int))), some (zi (iI (k : Int))), some (zi (iI (c : Int))), some (zi x5)] [] (I, L, R) Q := fun f => by
  have go : ∀ m, 1 ≤ m → m ≤ c → iI ((P * m : Nat) : Int) - iI ((P * m : Nat) : Int) / iI (c : Int) * iI (c : Int) = iI (((P * m) % c : Nat) : Int) := fun m h1 h2 => mod_I (by
    have := Nat.mul_le_mul hP2 (Nat.le_trans h2 hc)
    omega) (by omega) (by omega)
  have n0 : ¬ iI (c : Int) = 0 := fun q => by
    rw [iI_eq0 (by omega) (by omega)] at q
    omega
  induction f with
  | zero =>
    intro m hm h1 hj x5 e
    subst e
    obtain rfl : m = c := by omega
    have hd' : m ∣ P * m := Nat.dvd_mul_left _ _
    have hz := Nat.mod_eq_zero_of_dvd hd'
    refine zW.gbt [] rfl rfl rfl (by omega) (by simp only [zall_1, n0, not_false_eq_true]) ?_ (hQ m h1 hd' hj)
    rw [go m h1 (Nat.le_refl _), hz]
    decide +kernel
  | succ f ih =>
    intro m hm h1 hj x5 e
    subst e
    have hlt : (P * m) % c < c := Nat.mod_lt _ (by omega)
    by_cases z : (P * m) % c = 0
    · refine zW.gbt [] rfl rfl rfl (by omega) (by simp only [zall_1, n0, not_false_eq_true]) ?_ (hQ m h1 (Nat.dvd_of_mod_eq_zero z) hj)
      rw [go m h1 (by omega), z]
      decide +kernel
    · refine zW.gbf [] rfl rfl rfl (by omega) (by simp only [zall_1, n0, not_false_eq_true]) ?_ ?_
      · rw [go m h1 (by omega), iI_eq0 (by omega) (by omega)]
        omega
      refine zW.go [68] rfl (by omega) trivial ?_
      refine ih (m + 1) (by omega) (by omega) (fun j q1 q2 => ?_) _ ?_
      · by_cases ej : j = m
        · rw [ej]
          exact fun q => z (Nat.mod_eq_zero_of_dvd q)
        · exact hj j q1 (by omega)
      · rw [iI_add]
        exact iI_cg (by rw [Nat.mul_add, Nat.mul_one]; omega)
theorem per_lp {i n : Nat} {f : Nat → Nat} (hd : 1 ≤ d) (hM : ML y R) (hi : i < 4) (hn : n ≤ 10) (hf : pm n f) (vn : I (y + 2) i = iI (n : Int)) (vs : ∀ p, p < 10 → I (y + 47 + i) p = iI (f p : Int))
    (hQ : Q (.inl (some (zi (iI (perd f : Int))))) (I, L, R)) :
    ∀ m k, k + m = n → ∀ (P : Nat) (x3 : Int32) (v4 v5 : Option zV), isPk f k P → x3 = iI (k : Int) → zW 193 d 0 0 19 [some (zr (some y)), some (zi (iI (i : Int))), some (zi (iI (P : Int))), some (zi x3), v4, v5] [] (I, L, R) Q
  | 0, k, hk, P, x3, v4, v5, hP, e => by
    subst e
    have k0 : R.2.1 y = some (7, 0) := hM.1
    have p1 : R.1 y 1 = some (y + 2) := (hM.2.1 1 (by decide)).1; have k1 : R.2.1 (y + 2) = some (20, 4) := (hM.2.1 1 (by decide)).2
    obtain rfl : k = n := by omega
    refine zW.gbt [] rfl rfl rfl (by omega) (by simp (disch := omega) only [true_or, or_true, eq_self, Option.some.injEq, Prod.mk.injEq, zall_0, zall_1, zall_2, zob_iff, zar_iff, zis_iff, zkIs_some, zkHas_some, iI_vp, z01_I, z01_bz, zch_I, true_and, and_true, or_false, false_or, and_self, upI_same, upL_same, upI_ne, upL_ne, iI_ixN, zI_mk, zL_mk, zP_mk, zK_mk, zN_mk, zwI_up, zwL_up, zg_some, Nat.reduceMod, Nat.reduceDiv, zcn_I, iI_add, iI_sub, iI_mul, iI_neg, iI_lt, iI_le, iI_eq, iI_lt0, iI_le0, iI_gt0, iI_ge0, iI_eq0, k0, p1, k1] <;> omega) (by simp (disch := omega) only [eq_self, not_true_eq_false, not_false_eq_true, upI_same, upL_same, upI_ne, upL_ne, iI_ixN, zI_mk, zL_mk, zP_mk, zK_mk, zN_mk, zwI_up, zwL_up, zg_some, Nat.reduceMod, Nat.reduceDiv, zcn_I, iI_add, iI_sub, iI_mul, iI_neg, iI_lt, iI_le, iI_eq, iI_lt0, iI_le0, iI_gt0, iI_ge0, iI_eq0, p1, vn] <;> omega) ?_
    rw [isPk_per hf hn hP] at hQ
    exact zW.gr [] rfl rfl rfl (by omega) trivial trivial hQ
  | m + 1, k, hk, P, x3, v4, v5, hP, e => by
    subst e
    have k0 : R.2.1 y = some (7, 0) := hM.1
    have v1 := vs k (by omega)
    have p1 : R.1 y 1 = some (y + 2) := (hM.2.1 1 (by decide)).1; have k1 : R.2.1 (y + 2) = some (20, 4) := (hM.2.1 1 (by decide)).2; have p5 : R.1 y 5 = some (y + 46) := (hM.2.1 5 (by decide)).1; have k5 : R.2.1 (y + 46) = some (25, 4) := (hM.2.1 5 (by decide)).2; have q5 : R.1 (y + 46) (i) = some (y + 47 + i) := (hM.2.2.2.2.1 (i) (by omega)).1.trans (congrArg some (by omega)); have j5 : R.2.1 (y + 47 + i) = some (20, 10) := (congrArg R.2.1 (by omega)).trans (hM.2.2.2.2.1 (i) (by omega)).2
    refine zW.gbf [] rfl rfl rfl (by omega) (by simp (disch := omega) only [true_or, or_true, eq_self, Option.some.injEq, Prod.mk.injEq, zall_0, zall_1, zall_2, zob_iff, zar_iff, zis_iff, zkIs_some, zkHas_some, iI_vp, z01_I, z01_bz, zch_I, true_and, and_true, or_false, false_or, and_self, upI_same, upL_same, upI_ne, upL_ne, iI_ixN, zI_mk, zL_mk, zP_mk, zK_mk, zN_mk, zwI_up, zwL_up, zg_some, Nat.reduceMod, Nat.reduceDiv, zcn_I, iI_add, iI_sub, iI_mul, iI_neg, iI_lt, iI_le, iI_eq, iI_lt0, iI_le0, iI_gt0, iI_ge0, iI_eq0, k0, p1, k1] <;> omega) (by simp (disch := omega) only [eq_self, not_true_eq_false, not_false_eq_true, upI_same, upL_same, upI_ne, upL_ne, iI_ixN, zI_mk, zL_mk, zP_mk, zK_mk, zN_mk, zwI_up, zwL_up, zg_some, Nat.reduceMod, Nat.reduceDiv, zcn_I, iI_add, iI_sub, iI_mul, iI_neg, iI_lt, iI_le, iI_eq, iI_lt0, iI_le0, iI_gt0, iI_ge0, iI_eq0, p1, vn] <;> omega) ?_
    refine zW.go [42] rfl (by omega) (by simp (disch := omega) only [true_or, or_true, eq_self, Option.some.injEq, Prod.mk.injEq, zall_0, zall_1, zall_2, zob_iff, zar_iff, zis_iff, zkIs_some, zkHas_some, iI_vp, z01_I, z01_bz, zch_I, true_and, and_true, or_false, false_or, and_self, upI_same, upL_same, upI_ne, upL_ne, iI_ixN, zI_mk, zL_mk, zP_mk, zK_mk, zN_mk, zwI_up, zwL_up, zg_some, Nat.reduceMod, Nat.reduceDiv, zcn_I, iI_add, iI_sub, iI_mul, iI_neg, iI_lt, iI_le, iI_eq, iI_lt0, iI_le0, iI_gt0, iI_ge0, iI_eq0, k0, p5, k5, q5, j5] <;> omega) ?_
    simp (disch := omega) only [upI_same, upL_same, upI_ne, upL_ne, iI_ixN, zI_mk, zL_mk, zP_mk, zK_mk, zN_mk, zwI_up, zwL_up, zg_some, Nat.reduceMod, Nat.reduceDiv, p5, q5, v1]
    refine per_cyc hd hM hi hn hf (show k < n by omega) vs (fun c c1 c2 c3 c4 => ?_) 10 1 (by omega) (Nat.le_refl _) (fun j q1 q2 => absurd q2 (by omega)) _ _ (zcn_I _) rfl
    refine zW.go [68] rfl (by omega) trivial ?_
    refine per_lcm hd hP.1 hP.2.1 c1 c2 (fun t t1 t2 t3 => ?_) (c - 1) 1 (by omega) (Nat.le_refl _) (fun j q1 q2 => absurd q2 (by omega)) _ (by rw [Nat.mul_one])
    refine zW.go [19] rfl (by omega) trivial ?_
    exact per_lp hd hM hi hn hf vn vs hQ m (k + 1) (by omega) (P * t) _ _ _ (isPk_s (pm_up hf hn) hP c1 c3 c4 t1 t2 t3) (by rw [zcn_I, iI_add]; rfl)
theorem mPer_ok {p : Int} {a : Int32} (hd : 6 ≤ d) (h : mf y T (I, L, R)) (e1 : a = iI p) (h1 : i32 p) (hQ : mP y (I, L, R) (oPer T p) eI Q) : zS 193 d [zr (some y), zi a] (I, L, R) Q := by
  subst e1
  have hM := h.2.1
  have k0 : R.2.1 y = some (7, 0) := hM.1
  refine zW.gz [] rfl rfl rfl (by omega) trivial ⟨_, rfl, k0⟩ rfl rfl (by decide +kernel) (by decide +kernel) ?_
  refine noPz_ok (by omega) h rfl h1 (fun q hq => ?_)
  refine zW.gz [] rfl rfl rfl (by omega) trivial ⟨_, rfl, k0⟩ rfl rfl (by decide +kernel) (by decide +kernel) ?_
  refine mThr_ok (k := 1) (by omega) k0 hq (zcn_I _) (fun hb => ?_) (fun hg => ?_)
  · refine zW.gbf [] rfl rfl rfl (by omega) trivial (by simp (disch := omega) only [eq_self, not_true_eq_false, not_false_eq_true, upI_same, upL_same, upI_ne, upL_ne, iI_ixN, zI_mk, zL_mk, zP_mk, zK_mk, zN_mk, zwI_up, zwL_up, zg_some, Nat.reduceMod, Nat.reduceDiv, zcn_I, iI_add, iI_sub, iI_mul, iI_neg, iI_lt, iI_le, iI_eq, iI_lt0, iI_le0, iI_gt0, iI_ge0, iI_eq0] <;> omega) ?_
    refine zW.gr [] rfl rfl rfl (by omega) trivial trivial ?_; rw [zcn_I]
    refine mP_t hQ (c := 0) (v := 0) ?_ (mf_scr h th_scr) (mgr_o (scr_o th_scr)) (upI_same _ _ _ _) 0
    exact onP_no hb
  · obtain ⟨i, rfl, hi, e⟩ := onP_yes hg
    unfold oPer at hQ
    rw [e] at hQ
    have hm : mf y T (upI I y 41 (iI 0), L, R) := mf_scr h th_scr
    obtain ⟨h4, hz, w1, w2, w3, w4, w5⟩ := m_pz hm hi
    refine zW.gbt [] rfl rfl rfl (by omega) trivial (by simp (disch := omega) only [eq_self, not_true_eq_false, not_false_eq_true, upI_same, upL_same, upI_ne, upL_ne, iI_ixN, zI_mk, zL_mk, zP_mk, zK_mk, zN_mk, zwI_up, zwL_up, zg_some, Nat.reduceMod, Nat.reduceDiv, zcn_I, iI_add, iI_sub, iI_mul, iI_neg, iI_lt, iI_le, iI_eq, iI_lt0, iI_le0, iI_gt0, iI_ge0, iI_eq0] <;> omega) ?_
    refine zW.go [19] rfl (by omega) trivial ?_
    rw [zcn_I]
    refine per_lp (f := pzS (tPz T i)) (by omega) hM h4 hz.2.1 hz.2.2.2.2.2.2.2.2 w1 w5 ?_ (pzN (tPz T i)) 0 (Nat.zero_add _) 1 _ _ _ (isPk_0 _) (by rw [zcn_I]; rfl)
    exact mP_0 hQ rfl hm (mgr_o (scr_o th_scr)) (upI_same _ _ _ _)
end MPER
