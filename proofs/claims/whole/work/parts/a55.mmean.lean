/-! The model's mean distance. -/
section MMEAN
variable {d y : Nat} {T : tfT} {I : Nat → Nat → Int32} {L : Nat → Nat → Int64} {R : zRt} {Q : zO → zM → Prop}
theorem i2d_l2d {v : Int} (h1 : -2147483648 ≤ v) (h2 : v < 2147483648) : FP.i2d (iI v) = FP.l2d (iL v) := by
  show UInt64.ofNat (FP.Core.fromInt FP.Core.b64 (iI v).toInt) = UInt64.ofNat (FP.Core.fromInt FP.Core.b64 (iL v).toInt)
  rw [iI_toInt h1 h2, iL_toInt (by omega) (by omega)]
theorem mean_lp {i Z : Nat} {c : Int32} {f : Nat → Int} (hd : 1 ≤ d) (hM : ML y R) (h8 : Z ≤ 800) (vf : ∀ s, s < Z → I (y + 1779) s = iI (f s))
    (hQ : ∀ x, zW 249 d 0 0 48 [some (zr (some y)), some (zi (iI (i : Int))), some (zi c), some (zi (iI (Z : Int))), some (zi (iI (smd f Z))), some (zi x)] [] (I, L, R) Q) :
    ∀ n s, s + n = Z → ∀ (x4 x5 : Int32), x4 = iI (smd f s) → x5 = iI (s : Int) → zW 249 d 0 0 24 [some (zr (some y)), some (zi (iI (i : Int))), some (zi c), some (zi (iI (Z : Int))), some (zi x4), some (zi x5)] [] (I, L, R) Q
  | 0, s, hs, x4, x5, e4, e5 => by
    subst e4; subst e5
    obtain rfl : s = Z := by omega
    exact zW.gbt [] rfl rfl rfl (by omega) trivial (by simp (disch := omega) only [eq_self, not_true_eq_false, not_false_eq_true, upI_same, upL_same, upI_ne, upL_ne, iI_ixN, zI_mk, zL_mk, zP_mk, zK_mk, zN_mk, zwI_up, zwL_up, zg_some, Nat.reduceMod, Nat.reduceDiv, zcn_I, iI_add, iI_sub, iI_mul, iI_neg, iI_lt, iI_le, iI_eq, iI_lt0, iI_le0, iI_gt0, iI_ge0, iI_eq0] <;> omega) (hQ _)
  | n + 1, s, hs, x4, x5, e4, e5 => by
    subst e4; subst e5
    have k0 : R.2.1 y = some (7, 0) := hM.1
    have v1 := vf s (by omega)
    have p14 : R.1 y 14 = some (y + 1779) := (hM.2.1 14 (by decide)).1; have k14 : R.2.1 (y + 1779) = some (20, 800) := (hM.2.1 14 (by decide)).2
    refine zW.gbf [] rfl rfl rfl (by omega) trivial (by simp (disch := omega) only [eq_self, not_true_eq_false, not_false_eq_true, upI_same, upL_same, upI_ne, upL_ne, iI_ixN, zI_mk, zL_mk, zP_mk, zK_mk, zN_mk, zwI_up, zwL_up, zg_some, Nat.reduceMod, Nat.reduceDiv, zcn_I, iI_add, iI_sub, iI_mul, iI_neg, iI_lt, iI_le, iI_eq, iI_lt0, iI_le0, iI_gt0, iI_ge0, iI_eq0] <;> omega) ?_
    refine zW.go [24] rfl (by omega) (by simp (disch := omega) only [true_or, or_true, eq_self, Option.some.injEq, Prod.mk.injEq, zall_0, zall_1, zall_2, zob_iff, zar_iff, zis_iff, zkIs_some, zkHas_some, iI_vp, z01_I, z01_bz, zch_I, true_and, and_true, or_false, false_or, and_self, upI_same, upL_same, upI_ne, upL_ne, iI_ixN, zI_mk, zL_mk, zP_mk, zK_mk, zN_mk, zwI_up, zwL_up, zg_some, Nat.reduceMod, Nat.reduceDiv, zcn_I, iI_add, iI_sub, iI_mul, iI_neg, iI_lt, iI_le, iI_eq, iI_lt0, iI_le0, iI_gt0, iI_ge0, iI_eq0, k0, p14, k14] <;> omega) ?_
    simp (disch := omega) only [upI_same, upL_same, upI_ne, upL_ne, iI_ixN, zI_mk, zL_mk, zP_mk, zK_mk, zN_mk, zwI_up, zwL_up, zg_some, Nat.reduceMod, Nat.reduceDiv, p14, v1]
    refine mean_lp hd hM h8 vf hQ n (s + 1) (by omega) _ _ ?_ (by rw [zcn_I, iI_add]; rfl)
    rw [iI_add]
    rfl
theorem mMean_ok {p c : Int} {a b : Int32} (hd : 9 ≤ d) (h : mf y T (I, L, R)) (e1 : a = iI p) (e2 : b = iI c) (h1 : i32 p) (h2 : 0 ≤ c) (h2' : c < 65536) (hQ : ∀ M' f, mf y T M' → mgr y (I, L, R) M' → M'.1 y 41 = iI ((oMean T p c).1 : Int) → ((oMean T p c).1 = 0 → zd f = eD (pzZ (tPz T p.toNat)) (oMean T p c).2.1) → Q (.inl (some (zd f))) M') : zS 249 d [zr (some y), zi a, zi b] (I, L, R) Q := by
  subst e1; subst e2
  have hM := h.2.1
  have k0 : R.2.1 y = some (7, 0) := hM.1
  have BAD : ∀ (k : Nat), oMean T p c = (k + 1, 0, T) → ∀ I' L', mf y T (I', L', R) → mfo y I L I' L' → I' y 41 = iI ((k + 1 : Nat) : Int) → zW 249 d 0 0 6 [some (zr (some y)), some (zi (iI p)), some (zi (iI c)), none, none, none] [zi (iI 1)] (I', L', R) Q := fun k eo I' L' m1 f1 t1 => by
    refine zW.gbf [] rfl rfl rfl (by omega) trivial (by simp (disch := omega) only [eq_self, not_true_eq_false, not_false_eq_true, upI_same, upL_same, upI_ne, upL_ne, iI_ixN, zI_mk, zL_mk, zP_mk, zK_mk, zN_mk, zwI_up, zwL_up, zg_some, Nat.reduceMod, Nat.reduceDiv, zcn_I, iI_add, iI_sub, iI_mul, iI_neg, iI_lt, iI_le, iI_eq, iI_lt0, iI_le0, iI_gt0, iI_ge0, iI_eq0] <;> omega) ?_
    refine zW.gr [] rfl rfl rfl (by omega) trivial trivial ?_
    refine hQ _ _ m1 (mgr_o f1) (by rw [eo]; exact t1) ?_
    rw [eo]
    intro q
    cases q
  refine zW.gz [] rfl rfl rfl (by omega) trivial ⟨_, rfl, k0⟩ rfl rfl (by decide +kernel) (by decide +kernel) ?_
  refine mNoG_ok (by omega) h rfl rfl h1 h2 h2' (fun hb I' L' m1 f1 t1 => ?_) (fun i hp hi hb I' L' m1 f1 t1 => ?_) (fun i hp hi hc hb I' L' m1 f1 t1 => ?_) (fun i hp hi hc hg I' L' tb m1 f1 t1 hG hL => ?_)
  · exact BAD 0 (by unfold oMean onG; exact onP_no hb) I' L' m1 f1 t1
  · subst hp
    exact BAD 1 (onG_2 hi hb) I' L' m1 f1 t1
  · subst hp
    exact BAD 2 ((onG_3 (r := fun _ _ => (0, 0, T)) hi hc).trans (sml_f hb)) I' L' m1 f1 t1
  · subst hp
    have eo : oMean T (i : Int) c = (0, smd (pzF (if c = 113 then 0 else 1) (tPz T i)) (pzZ (tPz T i)), T) := (onG_3 (r := fun _ _ => (0, 0, T)) hi hc).trans (sml_t hg)
    obtain ⟨h4, hz, w1, w2, w3, w4, w5⟩ := m_pz m1 hi
    have vz := hG.2.2.2.2.2.2 0 (Nat.zero_le _)
    have hpos : 1 ≤ pzZ (tPz T i) := szG_pos (zG_is hz) 10
    refine zW.gbt [] rfl rfl rfl (by omega) trivial (by simp (disch := omega) only [eq_self, not_true_eq_false, not_false_eq_true, upI_same, upL_same, upI_ne, upL_ne, iI_ixN, zI_mk, zL_mk, zP_mk, zK_mk, zN_mk, zwI_up, zwL_up, zg_some, Nat.reduceMod, Nat.reduceDiv, zcn_I, iI_add, iI_sub, iI_mul, iI_neg, iI_lt, iI_le, iI_eq, iI_lt0, iI_le0, iI_gt0, iI_ge0, iI_eq0] <;> omega) ?_
    refine zW.gz [] rfl rfl rfl (by omega) trivial ⟨_, rfl, k0⟩ rfl rfl (by decide +kernel) (by decide +kernel) ?_
    refine mDis_ok (by omega) m1 hi rfl rfl hc hg vz hL (fun I2 g1 g2 => ?_)
    refine zW.go [24] rfl (by omega) trivial ?_
    refine mean_lp (f := pzF (if c = 113 then 0 else 1) (tPz T i)) (by omega) hM hg g2 (fun x => ?_) (pzZ (tPz T i)) 0 (Nat.zero_add _) _ _ (zcn_I _) (zcn_I _)
    obtain ⟨s1, s2⟩ := smd_rg (f := pzF (if c = 113 then 0 else 1) (tPz T i)) (n := pzZ (tPz T i)) (fun s hs => pzF_rg hz hg hs)
    obtain ⟨q, hq⟩ : ∃ q : Nat, smd (pzF (if c = 113 then 0 else 1) (tPz T i)) (pzZ (tPz T i)) = q := ⟨(smd (pzF (if c = 113 then 0 else 1) (tPz T i)) (pzZ (tPz T i))).toNat, by omega⟩
    have ez : FP.ddiv (FP.i2d (iI (q : Int))) (FP.i2d (iI (pzZ (tPz T i) : Int))) = FP.ddiv (FP.l2d (iL (q : Int))) (FP.l2d (iL (pzZ (tPz T i) : Int))) := by
      rw [i2d_l2d (by omega) (by omega), i2d_l2d (by omega) (by omega)]
    rw [hq] at s2 ⊢
    refine zW.gr [] rfl rfl rfl (by omega) ?_ trivial ?_
    · have := n64_quo (s := q) hpos (by omega) (by omega)
      rw [← ez] at this
      exact this
    · refine hQ _ _ (mf_scr m1 (bfr_scr g1)) (mgr_o (mfo_tr f1 (scr_o (bfr_scr g1)))) ?_ (fun _ => ?_)
      · rw [eo]
        show I2 y 41 = iI 0
        rw [g1 y (by omega) (by omega)]
        exact t1
      · rw [eo, hq]
        exact congrArg zd ez
end MMEAN
