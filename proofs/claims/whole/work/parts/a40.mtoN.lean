/-! The model's groups: a state by its number; scrambles. -/
section MTON
variable {d y : Nat} {T : tfT} {I : Nat → Nat → Int32} {L : Nat → Nat → Int64} {R : zRt} {Q : zO → zM → Prop}
theorem mf_stN {i : Nat} {f : Nat → Nat} {I' : Nat → Nat → Int32} (h : mf y T (I, L, R)) (hi : i < tPn T) (hs : pm (pzN (tPz T i)) f) (g : ∀ a, a ≠ y + 47 + i → a ≠ y + 175 → I' a = I a) (v : ∀ p, p < 10 → I' (y + 47 + i) p = iI (f p : Int)) : mf y (tSetP T i (pzSt (tPz T i) f)) (I', L, R) ∧ mfo y I L I' L ∧ I' y = I y := by
  obtain ⟨h4, hz, w1, w2, w3, w4, w5⟩ := m_pz h hi
  refine ⟨mf_pz (L' := L) (w := pzSt (tPz T i) f) h hi (zOK_st hz hs) rfl rfl rfl (fun a q1 q2 q3 => g a q3 (fun e => q1 (by unfold scA; omega))) (fun k _ _ _ => by rw [g y (by omega) (by omega)]) (fun p hp => ?_) v, mfo_of fun a q => g a (by omega) (by omega), g y (by omega) (by omega)⟩
  rw [g _ (by omega) (by omega)]
  exact w4 p hp
theorem toN_lp {i : Nat} {w : Int64} (hd : 1 ≤ d) (h : mf y T (I, L, R)) (hi : i < tPn T)
    (hQ : Q (.inl (some (zi (iI (nst (pzS (tPz T i)) : Int))))) (I, L, R)) :
    ∀ m k, k + m = pzN (tPz T i) → ∀ (x4 x5 : Int32), x4 = iI (ct (fun q => !(pzS (tPz T i) q == q)) k : Int) → x5 = iI (k : Int) → zW 195 d 0 0 70 [some (zr (some y)), some (zi (iI (i : Int))), some (zl w), none, some (zi x4), some (zi x5)] [] (I, L, R) Q
  | 0, k, hk, x4, x5, e1, e2 => by
    subst e1; subst e2
    have hM := h.2.1
    have k0 : R.2.1 y = some (7, 0) := hM.1
    obtain ⟨h4, hz, w1, w2, w3, w4, w5⟩ := m_pz h hi
    have hn := hz.2.1
    have p1 : R.1 y 1 = some (y + 2) := (hM.2.1 1 (by decide)).1; have k1 : R.2.1 (y + 2) = some (20, 4) := (hM.2.1 1 (by decide)).2
    obtain rfl : k = pzN (tPz T i) := by omega
    refine zW.gbt [] rfl rfl rfl (by omega) (by simp (disch := omega) only [true_or, or_true, eq_self, Option.some.injEq, Prod.mk.injEq, zall_0, zall_1, zall_2, zob_iff, zar_iff, zis_iff, zkIs_some, zkHas_some, iI_vp, z01_I, z01_bz, zch_I, true_and, and_true, or_false, false_or, and_self, upI_same, upL_same, upI_ne, upL_ne, iI_ixN, zI_mk, zL_mk, zP_mk, zK_mk, zN_mk, zwI_up, zwL_up, zg_some, Nat.reduceMod, Nat.reduceDiv, zcn_I, iI_add, iI_sub, iI_mul, iI_neg, iI_lt, iI_le, iI_eq, iI_lt0, iI_le0, iI_gt0, iI_ge0, iI_eq0, k0, p1, k1] <;> omega) (by simp (disch := omega) only [eq_self, not_true_eq_false, not_false_eq_true, upI_same, upL_same, upI_ne, upL_ne, iI_ixN, zI_mk, zL_mk, zP_mk, zK_mk, zN_mk, zwI_up, zwL_up, zg_some, Nat.reduceMod, Nat.reduceDiv, zcn_I, iI_add, iI_sub, iI_mul, iI_neg, iI_lt, iI_le, iI_eq, iI_lt0, iI_le0, iI_gt0, iI_ge0, iI_eq0, p1, w1] <;> omega) ?_
    refine zW.gr [] rfl rfl rfl (by omega) trivial trivial ?_
    have := ct_more (b := fun q => !(pzS (tPz T i) q == q)) (n := pzN (tPz T i)) (m := 10 - pzN (tPz T i)) (fun q q1 q2 => by
      have := hz.2.2.2.2.2.2.2.2.2.2 q q1
      show (!(pzS (tPz T i) q == q)) = false
      rw [this]
      simp)
    rw [show pzN (tPz T i) + (10 - pzN (tPz T i)) = 10 by omega] at this
    rw [← this]
    exact hQ
  | m + 1, k, hk, x4, x5, e1, e2 => by
    subst e1; subst e2
    have hM := h.2.1
    have k0 : R.2.1 y = some (7, 0) := hM.1
    obtain ⟨h4, hz, w1, w2, w3, w4, w5⟩ := m_pz h hi
    have hn := hz.2.1
    have v1 := w5 k (by omega)
    have l1 := hz.2.2.2.2.2.2.2.2.1 k (by omega)
    have p1 : R.1 y 1 = some (y + 2) := (hM.2.1 1 (by decide)).1; have k1 : R.2.1 (y + 2) = some (20, 4) := (hM.2.1 1 (by decide)).2; have p5 : R.1 y 5 = some (y + 46) := (hM.2.1 5 (by decide)).1; have k5 : R.2.1 (y + 46) = some (25, 4) := (hM.2.1 5 (by decide)).2; have q5 : R.1 (y + 46) (i) = some (y + 47 + i) := (hM.2.2.2.2.1 (i) (by omega)).1.trans (congrArg some (by omega)); have j5 : R.2.1 (y + 47 + i) = some (20, 10) := (congrArg R.2.1 (by omega)).trans (hM.2.2.2.2.1 (i) (by omega)).2
    have NX : ∀ (u : Int32) (e : Nat), u = iI (e : Int) → ct (fun q => !(pzS (tPz T i) q == q)) (k + 1) = ct (fun q => !(pzS (tPz T i) q == q)) k + e → zW 195 d 0 0 102 [some (zr (some y)), some (zi (iI (i : Int))), some (zl w), none, some (zi (iI (ct (fun q => !(pzS (tPz T i) q == q)) k : Int))), some (zi (iI (k : Int)))] [zi u, zi (iI (ct (fun q => !(pzS (tPz T i) q == q)) k : Int))] (I, L, R) Q := fun u e hu he => by
      subst hu
      refine zW.go [70] rfl (by omega) trivial ?_
      exact toN_lp hd h hi hQ m (k + 1) (by omega) _ _ (by rw [iI_add, he]; rfl) (by rw [zcn_I, iI_add]; rfl)
    have cs : ∀ b : Bool, (!(pzS (tPz T i) k == k)) = b → ct (fun q => !(pzS (tPz T i) q == q)) (k + 1) = ct (fun q => !(pzS (tPz T i) q == q)) k + (if b then 1 else 0) := fun b hb => by
      rw [← hb]
      rfl
    refine zW.gbf [] rfl rfl rfl (by omega) (by simp (disch := omega) only [true_or, or_true, eq_self, Option.some.injEq, Prod.mk.injEq, zall_0, zall_1, zall_2, zob_iff, zar_iff, zis_iff, zkIs_some, zkHas_some, iI_vp, z01_I, z01_bz, zch_I, true_and, and_true, or_false, false_or, and_self, upI_same, upL_same, upI_ne, upL_ne, iI_ixN, zI_mk, zL_mk, zP_mk, zK_mk, zN_mk, zwI_up, zwL_up, zg_some, Nat.reduceMod, Nat.reduceDiv, zcn_I, iI_add, iI_sub, iI_mul, iI_neg, iI_lt, iI_le, iI_eq, iI_lt0, iI_le0, iI_gt0, iI_ge0, iI_eq0, k0, p1, k1] <;> omega) (by simp (disch := omega) only [eq_self, not_true_eq_false, not_false_eq_true, upI_same, upL_same, upI_ne, upL_ne, iI_ixN, zI_mk, zL_mk, zP_mk, zK_mk, zN_mk, zwI_up, zwL_up, zg_some, Nat.reduceMod, Nat.reduceDiv, zcn_I, iI_add, iI_sub, iI_mul, iI_neg, iI_lt, iI_le, iI_eq, iI_lt0, iI_le0, iI_gt0, iI_ge0, iI_eq0, p1, w1] <;> omega) ?_
    refine zW.gb [] rfl rfl rfl (by omega) (by simp (disch := omega) only [true_or, or_true, eq_self, Option.some.injEq, Prod.mk.injEq, zall_0, zall_1, zall_2, zob_iff, zar_iff, zis_iff, zkIs_some, zkHas_some, iI_vp, z01_I, z01_bz, zch_I, true_and, and_true, or_false, false_or, and_self, upI_same, upL_same, upI_ne, upL_ne, iI_ixN, zI_mk, zL_mk, zP_mk, zK_mk, zN_mk, zwI_up, zwL_up, zg_some, Nat.reduceMod, Nat.reduceDiv, zcn_I, iI_add, iI_sub, iI_mul, iI_neg, iI_lt, iI_le, iI_eq, iI_lt0, iI_le0, iI_gt0, iI_ge0, iI_eq0, k0, p5, k5, q5, j5] <;> omega) (fun h' => ?_) (fun h' => ?_) <;> simp (disch := omega) only [zcn_I, iI_add, iI_sub, iI_mul, iI_neg, iI_lt, iI_le, iI_eq, iI_lt0, iI_le0, iI_gt0, iI_ge0, iI_eq0, upI_same, upL_same, upI_ne, upL_ne, iI_ixN, zI_mk, zL_mk, zP_mk, zK_mk, zN_mk, zwI_up, zwL_up, zg_some, Nat.reduceMod, Nat.reduceDiv, p5, q5, v1] at h'
    · refine zW.go [102] rfl (by omega) trivial (NX _ 1 (zcn_I _) (cs true ?_))
      have : pzS (tPz T i) k ≠ k := by omega
      simp [this]
    · refine zW.go [102] rfl (by omega) trivial (NX _ 0 (zcn_I _) (cs false ?_))
      have : pzS (tPz T i) k = k := by omega
      rw [this]
      simp
theorem mToN_ok {p v : Int} {a : Int32} {o : Int64} (hd : 6 ≤ d) (h : mf y T (I, L, R)) (e1 : a = iI p) (h1 : i32 p) (e2 : o = iL v) (h2 : -9223372036854775808 ≤ v) (h3 : v < 9223372036854775808) (hQ : mP y (I, L, R) (oToNum T p v) eI Q) : zS 195 d [zr (some y), zi a, zl o] (I, L, R) Q := by
  subst e1; subst e2
  have hM := h.2.1
  have k0 : R.2.1 y = some (7, 0) := hM.1
  refine zW.gz [] rfl rfl rfl (by omega) trivial ⟨_, rfl, k0⟩ rfl rfl (by decide +kernel) (by decide +kernel) ?_
  refine noPz_ok (by omega) h rfl h1 (fun q hq => ?_)
  refine zW.gz [] rfl rfl rfl (by omega) trivial ⟨_, rfl, k0⟩ rfl rfl (by decide +kernel) (by decide +kernel) ?_
  refine mThr_ok (k := 1) (by omega) k0 hq (zcn_I _) (fun hb => ?_) (fun hg => ?_)
  · refine zW.gbf [] rfl rfl rfl (by omega) trivial (by simp (disch := omega) only [eq_self, not_true_eq_false, not_false_eq_true, upI_same, upL_same, upI_ne, upL_ne, iI_ixN, zI_mk, zL_mk, zP_mk, zK_mk, zN_mk, zwI_up, zwL_up, zg_some, Nat.reduceMod, Nat.reduceDiv, zcn_I, iI_add, iI_sub, iI_mul, iI_neg, iI_lt, iI_le, iI_eq, iI_lt0, iI_le0, iI_gt0, iI_ge0, iI_eq0] <;> omega) ?_
    refine zW.gr [] rfl rfl rfl (by omega) trivial trivial ?_; rw [zcn_I]
    refine mP_t hQ (c := 0) (v := 0) ?_ (mf_scr h th_scr) (mgr_o (scr_o th_scr)) (upI_same _ _ _ _) 0
    exact onP_no hb
  · obtain ⟨i, rfl, hi, e⟩ := onP_yes hg
    unfold oToNum at hQ
    rw [e] at hQ
    have hm : mf y T (upI I y 41 (iI 0), L, R) := mf_scr h th_scr
    refine zW.gbt [] rfl rfl rfl (by omega) trivial (by simp (disch := omega) only [eq_self, not_true_eq_false, not_false_eq_true, upI_same, upL_same, upI_ne, upL_ne, iI_ixN, zI_mk, zL_mk, zP_mk, zK_mk, zN_mk, zwI_up, zwL_up, zg_some, Nat.reduceMod, Nat.reduceDiv, zcn_I, iI_add, iI_sub, iI_mul, iI_neg, iI_lt, iI_le, iI_eq, iI_lt0, iI_le0, iI_gt0, iI_ge0, iI_eq0] <;> omega) ?_
    refine zW.gz [] rfl rfl rfl (by omega) trivial ⟨_, rfl, k0⟩ rfl rfl (by decide +kernel) (by decide +kernel) ?_
    refine mlay_ok (by omega) hm hi rfl (fun I' L' tb s sy hG => ?_)
    have sc : scr y I L I' L' := scr_tr th_scr s
    have mI : mf y T (I', L', R) := mf_scr h sc
    obtain ⟨h4, hz, w1, w2, w3, w4, w5⟩ := m_pz mI hi
    have vz := hG.2.2.2.2.2.2 0 (Nat.zero_le _)
    have vz : L' (y + 173) 0 = iL (szG (pzG (tPz T i)) 10 : Int) := vz
    have hle : szG (pzG (tPz T i)) 10 ≤ 10 ^ 10 := szG_le (pzG (tPz T i)) 10
    rw [show (10 : Nat) ^ 10 = 10000000000 by decide] at hle
    obtain ⟨Z, hZ⟩ : ∃ Z, szG (pzG (tPz T i)) 10 = Z := ⟨_, rfl⟩
    rw [hZ] at vz hle hQ
    have p5 : R.1 y 5 = some (y + 46) := (hM.2.1 5 (by decide)).1; have k5 : R.2.1 (y + 46) = some (25, 4) := (hM.2.1 5 (by decide)).2; have q5 : R.1 (y + 46) (i) = some (y + 47 + i) := (hM.2.2.2.2.1 (i) (by omega)).1.trans (congrArg some (by omega)); have j5 : R.2.1 (y + 47 + i) = some (20, 10) := (congrArg R.2.1 (by omega)).trans (hM.2.2.2.2.1 (i) (by omega)).2; have p8 : R.1 y 8 = some (y + 173) := (hM.2.1 8 (by decide)).1; have k8 : R.2.1 (y + 173) = some (21, 11) := (hM.2.1 8 (by decide)).2
    have F : ∀ u, tru (¬ (0 ≤ v ∧ v < Z)) u → zW 195 d 0 0 43 [some (zr (some y)), some (zi (iI (i : Int))), some (zl (iL v)), none, none, none] [zi u, zr (some y)] (I', L', R) Q := fun u hu => by
      have sc3 : ∀ v, scr y I L (upI I' y 41 v) L' := fun v => scr_tr sc th_scr
      refine zW.gz [] rfl rfl rfl (by omega) trivial ⟨_, rfl, k0⟩ rfl rfl (by decide +kernel) (by decide +kernel) ?_
      refine mThr_ok (k := 2) (by omega) k0 hu (zcn_I _) (fun hb => ?_) (fun hb => ?_)
      · refine zW.gbf [] rfl rfl rfl (by omega) trivial (by simp (disch := omega) only [eq_self, not_true_eq_false, not_false_eq_true, upI_same, upL_same, upI_ne, upL_ne, iI_ixN, zI_mk, zL_mk, zP_mk, zK_mk, zN_mk, zwI_up, zwL_up, zg_some, Nat.reduceMod, Nat.reduceDiv, zcn_I, iI_add, iI_sub, iI_mul, iI_neg, iI_lt, iI_le, iI_eq, iI_lt0, iI_le0, iI_gt0, iI_ge0, iI_eq0] <;> omega) ?_
        refine zW.gr [] rfl rfl rfl (by omega) trivial trivial ?_; rw [zcn_I]
        exact mP_t hQ (c := 1) (v := 0) (if_pos hb) (mf_scr h (sc3 _)) (mgr_o (scr_o (sc3 _))) (upI_same _ _ _ _) 0
      · rw [if_neg hb] at hQ
        obtain ⟨k, rfl⟩ : ∃ k : Nat, v = k := ⟨v.toNat, by omega⟩
        rw [show ((k : Int)).toNat = k from rfl] at hQ
        obtain ⟨s1, s2⟩ := stG_sp (zG_is hz) (show k < szG (zG (pzR (tPz T i)) (pzT (tPz T i))) 10 by
          have : szG (zG (pzR (tPz T i)) (pzT (tPz T i))) 10 = Z := hZ
          omega)
        have m3 : mf y T (upI I' y 41 (iI 0), L', R) := mf_scr h (sc3 _)
        refine zW.gbt [] rfl rfl rfl (by omega) trivial (by simp (disch := omega) only [eq_self, not_true_eq_false, not_false_eq_true, upI_same, upL_same, upI_ne, upL_ne, iI_ixN, zI_mk, zL_mk, zP_mk, zK_mk, zN_mk, zwI_up, zwL_up, zg_some, Nat.reduceMod, Nat.reduceDiv, zcn_I, iI_add, iI_sub, iI_mul, iI_neg, iI_lt, iI_le, iI_eq, iI_lt0, iI_le0, iI_gt0, iI_ge0, iI_eq0] <;> omega) ?_
        refine zW.gz [] rfl rfl rfl (by omega) (by simp (disch := omega) only [true_or, or_true, eq_self, Option.some.injEq, Prod.mk.injEq, zall_0, zall_1, zall_2, zob_iff, zar_iff, zis_iff, zkIs_some, zkHas_some, iI_vp, z01_I, z01_bz, zch_I, true_and, and_true, or_false, false_or, and_self, upI_same, upL_same, upI_ne, upL_ne, iI_ixN, zI_mk, zL_mk, zP_mk, zK_mk, zN_mk, zwI_up, zwL_up, zg_some, Nat.reduceMod, Nat.reduceDiv, zcn_I, iI_add, iI_sub, iI_mul, iI_neg, iI_lt, iI_le, iI_eq, iI_lt0, iI_le0, iI_gt0, iI_ge0, iI_eq0, k0, p5, k5] <;> omega) ⟨_, rfl, k0⟩ rfl rfl (by decide +kernel) (by decide +kernel) ?_
        simp (disch := omega) only [upI_same, upL_same, upI_ne, upL_ne, iI_ixN, zI_mk, zL_mk, zP_mk, zK_mk, zN_mk, zwI_up, zwL_up, zg_some, Nat.reduceMod, Nat.reduceDiv, p5, q5]
        refine mst_ok (s := stG (pzG (tPz T i)) k) (by omega) hM rfl (congrArg (fun n : Nat => iL (n : Int)) s2.symm) h4 hz.2.1 (zA_pm hz) (fun g q => zG_pmn hz q) (by rw [upI_row (by omega)]; exact w1) (mGr_fr hG (fun a q1 q2 => upI_row (by omega)) rfl) j5 (by omega) (by omega) (by omega) s1 (fun I3 g1 g2 => ?_)
        obtain ⟨n1, n2, n3⟩ := mf_stN m3 hi (zG_pmn hz s1) g1 g2
        refine zW.go [70] rfl (by omega) trivial ?_
        have eS : pzS (tPz (tSetP T i (pzSt (tPz T i) (stG (pzG (tPz T i)) k))) i) = stG (pzG (tPz T i)) k := by
          rw [tPz_s]
          rfl
        refine toN_lp (by omega) n1 hi ?_ (pzN (tPz (tSetP T i (pzSt (tPz T i) (stG (pzG (tPz T i)) k))) i)) 0 (Nat.zero_add _) _ _ (zcn_I _) (zcn_I _)
        rw [eS]
        refine mP_0 hQ rfl n1 (mgr_tr (mgr_o (scr_o (sc3 _))) (mgr_o n2)) ?_
        show I3 y 41 = iI 0
        rw [n3]
        exact upI_same _ _ _ _
    refine zW.gb [] rfl rfl rfl (by omega) trivial (fun h' => ?_) (fun h' => ?_)
    · rw [lg_cmp_lt, l0, iL_lt (by omega) (by omega) (by omega) (by omega)] at h'
      exact zW.go [43] rfl (by omega) trivial (F _ (tru_t (by omega)))
    · rw [lg_cmp_lt, l0, iL_lt (by omega) (by omega) (by omega) (by omega)] at h'
      refine zW.gb [] rfl rfl rfl (by omega) (by simp (disch := omega) only [true_or, or_true, eq_self, Option.some.injEq, Prod.mk.injEq, zall_0, zall_1, zall_2, zob_iff, zar_iff, zis_iff, zkIs_some, zkHas_some, iI_vp, z01_I, z01_bz, zch_I, true_and, and_true, or_false, false_or, and_self, upI_same, upL_same, upI_ne, upL_ne, iI_ixN, zI_mk, zL_mk, zP_mk, zK_mk, zN_mk, zwI_up, zwL_up, zg_some, Nat.reduceMod, Nat.reduceDiv, zcn_I, iI_add, iI_sub, iI_mul, iI_neg, iI_lt, iI_le, iI_eq, iI_lt0, iI_le0, iI_gt0, iI_ge0, iI_eq0, k0, p8, k8] <;> omega) (fun h2 => ?_) (fun h2 => ?_)
      · rw [lg_cmp_lt] at h2
        simp only [upI_same, upL_same, upI_ne, upL_ne, iI_ixN, zI_mk, zL_mk, zP_mk, zK_mk, zN_mk, zwI_up, zwL_up, zg_some, Nat.reduceMod, Nat.reduceDiv, p8, zcn_I, c0i, vz] at h2
        rw [iL_lt (by omega) (by omega) (by omega) (by omega)] at h2
        exact zW.go [43] rfl (by omega) trivial (F _ (tru_f (fun q => q ⟨by omega, h2⟩)))
      · rw [lg_cmp_lt] at h2
        simp only [upI_same, upL_same, upI_ne, upL_ne, iI_ixN, zI_mk, zL_mk, zP_mk, zK_mk, zN_mk, zwI_up, zwL_up, zg_some, Nat.reduceMod, Nat.reduceDiv, p8, zcn_I, c0i, vz] at h2
        rw [iL_lt (by omega) (by omega) (by omega) (by omega)] at h2
        exact zW.go [43] rfl (by omega) trivial (F _ (tru_t (fun q => h2 q.2)))
end MTON
