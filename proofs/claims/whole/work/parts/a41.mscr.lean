/-! The model scrambles. -/
section MSCR
variable {d y : Nat} {T : tfT} {I : Nat → Nat → Int32} {L : Nat → Nat → Int64} {R : zRt} {Q : zO → zM → Prop}
theorem mScr_ok {p s : Int} {a b : Int32} (hd : 6 ≤ d) (h : mf y T (I, L, R)) (e1 : a = iI p) (e2 : b = iI s) (h1 : i32 p) (h2 : i32 s) (hQ : mP y (I, L, R) (oScr T p s) eL Q) : zS 196 d [zr (some y), zi a, zi b] (I, L, R) Q := by
  subst e1; subst e2
  have hM := h.2.1
  have k0 : R.2.1 y = some (7, 0) := hM.1
  refine zW.gz [] rfl rfl rfl (by omega) trivial ⟨_, rfl, k0⟩ rfl rfl (by decide +kernel) (by decide +kernel) ?_
  refine noPz_ok (by omega) h rfl h1 (fun q hq => ?_)
  refine zW.gz [] rfl rfl rfl (by omega) trivial ⟨_, rfl, k0⟩ rfl rfl (by decide +kernel) (by decide +kernel) ?_
  refine mThr_ok (k := 1) (by omega) k0 hq (zcn_I _) (fun hb => ?_) (fun hg => ?_)
  · refine zW.gbt [] rfl rfl rfl (by omega) trivial (by simp (disch := omega) only [eq_self, not_true_eq_false, not_false_eq_true, upI_same, upL_same, upI_ne, upL_ne, iI_ixN, zI_mk, zL_mk, zP_mk, zK_mk, zN_mk, zwI_up, zwL_up, zg_some, Nat.reduceMod, Nat.reduceDiv, zcn_I, iI_add, iI_sub, iI_mul, iI_neg, iI_lt, iI_le, iI_eq, iI_lt0, iI_le0, iI_gt0, iI_ge0, iI_eq0] <;> omega) ?_
    refine zW.gr [] rfl rfl rfl (by omega) trivial trivial ?_
    rw [l0]
    refine mP_t hQ (c := 0) (v := 0) ?_ (mf_scr h th_scr) (mgr_o (scr_o th_scr)) (upI_same _ _ _ _) 0
    exact onP_no hb
  · obtain ⟨i, rfl, hi, e⟩ := onP_yes hg
    unfold oScr at hQ
    rw [e] at hQ
    refine zW.gbf [] rfl rfl rfl (by omega) trivial (by simp (disch := omega) only [eq_self, not_true_eq_false, not_false_eq_true, upI_same, upL_same, upI_ne, upL_ne, iI_ixN, zI_mk, zL_mk, zP_mk, zK_mk, zN_mk, zwI_up, zwL_up, zg_some, Nat.reduceMod, Nat.reduceDiv, zcn_I, iI_add, iI_sub, iI_mul, iI_neg, iI_lt, iI_le, iI_eq, iI_lt0, iI_le0, iI_gt0, iI_ge0, iI_eq0] <;> omega) ?_
    refine zW.gz [] rfl rfl rfl (by omega) trivial trivial rfl rfl (by decide +kernel) (by decide +kernel) ?_
    refine mIn_ok (hi := 99999) (by omega) rfl (zcn_I _) (by decide +kernel) h2 ⟨by omega, by omega⟩ ⟨by omega, by omega⟩ (fun q hq => ?_)
    have F : ∀ u, tru (¬ (0 ≤ s ∧ s ≤ 99999)) u → zW 196 d 0 0 29 [some (zr (some y)), some (zi (iI (i : Int))), some (zi (iI s)), none, none, none, none] [zi u, zr (some y)] (upI I y 41 (iI 0), L, R) Q := fun u hu => by
      refine zW.gz [] rfl rfl rfl (by omega) trivial ⟨_, rfl, k0⟩ rfl rfl (by decide +kernel) (by decide +kernel) ?_
      refine mThr_ok (k := 2) (by omega) k0 hu (zcn_I _) (fun hb => ?_) (fun hb => ?_)
      · refine zW.gbf [] rfl rfl rfl (by omega) trivial (by simp (disch := omega) only [eq_self, not_true_eq_false, not_false_eq_true, upI_same, upL_same, upI_ne, upL_ne, iI_ixN, zI_mk, zL_mk, zP_mk, zK_mk, zN_mk, zwI_up, zwL_up, zg_some, Nat.reduceMod, Nat.reduceDiv, zcn_I, iI_add, iI_sub, iI_mul, iI_neg, iI_lt, iI_le, iI_eq, iI_lt0, iI_le0, iI_gt0, iI_ge0, iI_eq0] <;> omega) ?_
        refine zW.gr [] rfl rfl rfl (by omega) trivial trivial ?_
        rw [l0]
        exact mP_t hQ (c := 1) (v := 0) (if_pos hb) (mf_scr h th2_scr) (mgr_o (scr_o th2_scr)) (upI_same _ _ _ _) 0
      · rw [if_neg hb] at hQ
        obtain ⟨s, rfl⟩ : ∃ k : Nat, s = k := ⟨s.toNat, by omega⟩
        rw [show ((s : Int)).toNat = s from rfl] at hQ
        have hs5 : s ≤ 99999 := by omega
        have hm2 : mf y T (upI (upI I y 41 (iI 0)) y 41 (iI 0), L, R) := mf_scr h th2_scr
        refine zW.gbt [] rfl rfl rfl (by omega) trivial (by simp (disch := omega) only [eq_self, not_true_eq_false, not_false_eq_true, upI_same, upL_same, upI_ne, upL_ne, iI_ixN, zI_mk, zL_mk, zP_mk, zK_mk, zN_mk, zwI_up, zwL_up, zg_some, Nat.reduceMod, Nat.reduceDiv, zcn_I, iI_add, iI_sub, iI_mul, iI_neg, iI_lt, iI_le, iI_eq, iI_lt0, iI_le0, iI_gt0, iI_ge0, iI_eq0] <;> omega) ?_
        refine zW.gz [] rfl rfl rfl (by omega) trivial ⟨_, rfl, k0⟩ rfl rfl (by decide +kernel) (by decide +kernel) ?_
        refine mlay_ok (by omega) hm2 hi rfl (fun I' L' tb g sy hG => ?_)
        have sc : scr y I L I' L' := scr_tr th2_scr g
        have mI : mf y T (I', L', R) := mf_scr h sc
        obtain ⟨h4, hz, w1, w2, w3, w4, w5⟩ := m_pz mI hi
        have vz := hG.2.2.2.2.2.2 0 (Nat.zero_le _)
        have vz : L' (y + 173) 0 = iL (pzZ (tPz T i) : Int) := vz
        have hle : pzZ (tPz T i) ≤ 10 ^ 10 := szG_le (pzG (tPz T i)) 10
        rw [show (10 : Nat) ^ 10 = 10000000000 by decide] at hle
        have hpos : 1 ≤ pzZ (tPz T i) := szG_pos (zG_is hz) 10
        have z1 : Int64.ofInt (zldL 7133) = iL 2654435761 := by decide +kernel
        have z2 : Int64.ofInt (zldL 7134) = iL 9223372036854775807 := by decide +kernel
        have hlt := scz_lt hs5
        have hk : scz s % pzZ (tPz T i) < pzZ (tPz T i) := Nat.mod_lt _ (by omega)
        obtain ⟨s1, s2⟩ := stG_sp (zG_is hz) hk
        have hm : iL (scz s : Int) - iL (scz s : Int) / iL (pzZ (tPz T i) : Int) * iL (pzZ (tPz T i) : Int) = iL ((scz s % pzZ (tPz T i) : Nat) : Int) := by
          rw [iL_mod (by omega) (by omega) (by omega) (by omega)]
          exact iL_cg (Int.natCast_emod _ _).symm
        have n0 : ¬ iL (pzZ (tPz T i) : Int) = 0 := fun hc => by
          have := (iL_eq (by omega) (by omega) (by omega) (by omega)).mp (hc.trans iL_0.symm)
          omega
        have sv := scz_val hs5
        have p5 : R.1 y 5 = some (y + 46) := (hM.2.1 5 (by decide)).1; have k5 : R.2.1 (y + 46) = some (25, 4) := (hM.2.1 5 (by decide)).2; have q5 : R.1 (y + 46) (i) = some (y + 47 + i) := (hM.2.2.2.2.1 (i) (by omega)).1.trans (congrArg some (by omega)); have j5 : R.2.1 (y + 47 + i) = some (20, 10) := (congrArg R.2.1 (by omega)).trans (hM.2.2.2.2.1 (i) (by omega)).2; have p8 : R.1 y 8 = some (y + 173) := (hM.2.1 8 (by decide)).1; have k8 : R.2.1 (y + 173) = some (21, 11) := (hM.2.1 8 (by decide)).2
        refine zW.gz [] rfl rfl rfl (by omega) ?_ ⟨_, rfl, k0⟩ rfl rfl (by decide +kernel) (by decide +kernel) ?_
        · simp (disch := omega) only [true_or, or_true, eq_self, Option.some.injEq, Prod.mk.injEq, zall_0, zall_1, zall_2, zob_iff, zar_iff, zis_iff, zkIs_some, zkHas_some, iI_vp, z01_I, z01_bz, zch_I, true_and, and_true, or_false, false_or, and_self, upI_same, upL_same, upI_ne, upL_ne, iI_ixN, zI_mk, zL_mk, zP_mk, zK_mk, zN_mk, zwI_up, zwL_up, zg_some, Nat.reduceMod, Nat.reduceDiv, k0, p5, k5, p8, k8, zcn_I, c0i, vz, n0, not_false_eq_true]
          omega
        rw [z1, z2, zcn_I, iI_L (by omega) (by omega), scz_val hs5]
        simp (disch := omega) only [upI_same, upL_same, upI_ne, upL_ne, iI_ixN, zI_mk, zL_mk, zP_mk, zK_mk, zN_mk, zwI_up, zwL_up, zg_some, Nat.reduceMod, Nat.reduceDiv, zcn_I, c0i, p5, q5, p8, vz]
        rw [hm]
        refine mst_ok (s := stG (pzG (tPz T i)) (scz s % pzZ (tPz T i))) (by omega) hM rfl (congrArg (fun n : Nat => iL (n : Int)) s2.symm) h4 hz.2.1 (zA_pm hz) (fun g q => zG_pmn hz q) w1 hG j5 (by omega) (by omega) (by omega) s1 (fun I3 g1 g2 => ?_)
        obtain ⟨n1, n2, n3⟩ := mf_stN mI hi (zG_pmn hz s1) g1 g2
        refine zW.gr [] rfl rfl rfl (by omega) trivial trivial ?_
        refine mP_0 hQ rfl n1 (mgr_tr (mgr_o (scr_o sc)) (mgr_o n2)) ?_
        show I3 y 41 = iI 0
        rw [n3, sy]
        exact upI_same _ _ _ _
    rcases hq with ⟨g, rfl⟩ | ⟨g, rfl⟩
    · refine zW.gbt [] rfl rfl rfl (by omega) trivial (by simp (disch := omega) only [eq_self, not_true_eq_false, not_false_eq_true, upI_same, upL_same, upI_ne, upL_ne, iI_ixN, zI_mk, zL_mk, zP_mk, zK_mk, zN_mk, zwI_up, zwL_up, zg_some, Nat.reduceMod, Nat.reduceDiv, zcn_I, iI_add, iI_sub, iI_mul, iI_neg, iI_lt, iI_le, iI_eq, iI_lt0, iI_le0, iI_gt0, iI_ge0, iI_eq0] <;> omega) ?_
      exact zW.go [29] rfl (by omega) trivial (F _ (tru_f (fun n => n g)))
    · refine zW.gbf [] rfl rfl rfl (by omega) trivial (by simp (disch := omega) only [eq_self, not_true_eq_false, not_false_eq_true, upI_same, upL_same, upI_ne, upL_ne, iI_ixN, zI_mk, zL_mk, zP_mk, zK_mk, zN_mk, zwI_up, zwL_up, zg_some, Nat.reduceMod, Nat.reduceDiv, zcn_I, iI_add, iI_sub, iI_mul, iI_neg, iI_lt, iI_le, iI_eq, iI_lt0, iI_le0, iI_gt0, iI_ge0, iI_eq0] <;> omega) ?_
      exact zW.go [29] rfl (by omega) trivial (F _ (tru_t g))
end MSCR
