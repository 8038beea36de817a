/-! The model's rounds: a timed attempt. -/
section MATT
variable {d y : Nat} {T : tfT} {I : Nat → Nat → Int32} {L : Nat → Nat → Int64} {R : zRt} {Q : zO → zM → Prop}
def wTc (w : zRd) (c told : Nat) : Prop := 0 < rLi w ∧ 0 < told ∧ (rOv w c = true ∨ rLi w < rSp w c + told)
theorem wT1 {w : zRd} {c tm td : Nat} (h : wTc w c td) : wTime w c tm td = (0, wTell (wRows w (fun i => if i = c then rSp w c + tm else rSp w i) (fun i => if i = c then true else rOv w i) (rTi w) (rUn w)) c 0) := if_pos h
theorem wT2 {w : zRd} {c tm td : Nat} (h : ¬ wTc w c td) : wTime w c tm td = (td, wTell (wRows w (fun i => if i = c then rSp w c + (if 0 < td then td else tm) else rSp w i) (rOv w) (rTi w) (rUn w)) c td) := if_neg h
theorem mAtt_ok {r c ins tm ang pp : Int} {a b f1 f2 f3 f4 : Int32} (hd : 6 ≤ d) (h : mf y T (I, L, R)) (e1 : a = iI r) (e2 : b = iI c) (e3 : f1 = iI ins) (e4 : f2 = iI tm) (e5 : f3 = iI ang) (e6 : f4 = iI pp) (h1 : i32 r) (h2 : i32 c) (h3 : i32 ins) (h4 : i32 tm) (h5 : i32 ang) (h6 : i32 pp) (hQ : mP y (I, L, R) (oAtt T r c ins tm ang pp) eI Q) : zS 230 d [zr (some y), zi a, zi b, zi f1, zi f2, zi f3, zi f4] (I, L, R) Q := by
  subst e1; subst e2; subst e3; subst e4; subst e5; subst e6
  have hM := h.2.1
  have k0 : R.2.1 y = some (7, 0) := hM.1
  refine zW.gz [] rfl rfl rfl (by omega) trivial ⟨_, rfl, k0⟩ rfl rfl (by decide +kernel) (by decide +kernel) ?_
  refine nobody_ok (by omega) h rfl rfl h1 h2 (fun q hq => ?_)
  refine zW.gz [] rfl rfl rfl (by omega) trivial ⟨_, rfl, k0⟩ rfl rfl (by decide +kernel) (by decide +kernel) ?_
  refine mThr_ok (k := 1) (by omega) k0 hq (zcn_I _) (fun hb => ?_) (fun hg => ?_)
  · refine zW.gbf [] rfl rfl rfl (by omega) trivial (by simp (disch := omega) only [eq_self, not_true_eq_false, not_false_eq_true, upI_same, upL_same, upI_ne, upL_ne, iI_ixN, zI_mk, zL_mk, zP_mk, zK_mk, zN_mk, zwI_up, zwL_up, zg_some, Nat.reduceMod, Nat.reduceDiv, zcn_I, iI_add, iI_sub, iI_mul, iI_neg, iI_lt, iI_le, iI_eq, iI_lt0, iI_le0, iI_gt0, iI_ge0, iI_eq0] <;> omega) ?_
    refine zW.gr [] rfl rfl rfl (by omega) trivial trivial ?_; rw [zcn_I]
    refine mP_t hQ (c := 0) (v := 0) ?_ (mf_scr h th_scr) (mgr_o (scr_o th_scr)) (upI_same _ _ _ _) 0
    exact onC_no hb
  · obtain ⟨j, k, rfl, rfl, hj, hk, e⟩ := onC_yes hg
    unfold oAtt at hQ
    rw [e] at hQ
    obtain ⟨j8, ho, hz, r1, r2, r3, r4, r5, r6, r7⟩ := m_rd h hj
    have h12 := h.1.2.2.2.1.1
    have hfm := fm_lt ho
    have p20 : R.1 y 20 = some (y + 1785) := (hM.2.1 20 (by decide)).1; have k20 : R.2.1 (y + 1785) = some (23, 8) := (hM.2.1 20 (by decide)).2; have p29 : R.1 y 29 = some (y + 1914) := (hM.2.1 29 (by decide)).1; have k29 : R.2.1 (y + 1914) = some (29, 8) := (hM.2.1 29 (by decide)).2; have q29 : R.1 (y + 1914) (j) = some (y + 1915 + j) := (hM.2.2.2.2.2.2.2.2.2.2.2.2.1 (j) (by omega)).1.trans (congrArg some (by omega)); have j29 : R.2.1 (y + 1915 + j) = some (22, 12) := (congrArg R.2.1 (by omega)).trans (hM.2.2.2.2.2.2.2.2.2.2.2.2.1 (j) (by omega)).2; have p28 : R.1 y 28 = some (y + 1905) := (hM.2.1 28 (by decide)).1; have k28 : R.2.1 (y + 1905) = some (25, 8) := (hM.2.1 28 (by decide)).2; have q28 : R.1 (y + 1905) (j) = some (y + 1906 + j) := (hM.2.2.2.2.2.2.2.2.2.2.2.1 (j) (by omega)).1.trans (congrArg some (by omega)); have j28 : R.2.1 (y + 1906 + j) = some (20, 12) := (congrArg R.2.1 (by omega)).trans (hM.2.2.2.2.2.2.2.2.2.2.2.1 (j) (by omega)).2; have p21 : R.1 y 21 = some (y + 1786) := (hM.2.1 21 (by decide)).1; have k21 : R.2.1 (y + 1786) = some (20, 8) := (hM.2.1 21 (by decide)).2
    refine zW.gbt [] rfl rfl rfl (by omega) trivial (by simp (disch := omega) only [eq_self, not_true_eq_false, not_false_eq_true, upI_same, upL_same, upI_ne, upL_ne, iI_ixN, zI_mk, zL_mk, zP_mk, zK_mk, zN_mk, zwI_up, zwL_up, zg_some, Nat.reduceMod, Nat.reduceDiv, zcn_I, iI_add, iI_sub, iI_mul, iI_neg, iI_lt, iI_le, iI_eq, iI_lt0, iI_le0, iI_gt0, iI_ge0, iI_eq0] <;> omega) ?_
    have F : ∀ q (x7 : Int32), tru (¬ ((avF (rFm (tRd T j)) ∨ rFm (tRd T j) = 98) ∧ opn (tRd T j) k)) q → zW 230 d 0 0 76 [some (zr (some y)), some (zi (iI (j : Int))), some (zi (iI (k : Int))), some (zi (iI ins)), some (zi (iI tm)), some (zi (iI ang)), some (zi (iI pp)), some (zi x7), none, none, none, none] [zi q, zr (some y)] (upI I y 41 (iI 0), L, R) Q := fun q x7 hq => by
      refine zW.gz [] rfl rfl rfl (by omega) trivial ⟨_, rfl, k0⟩ rfl rfl (by decide +kernel) (by decide +kernel) ?_
      refine mThr_ok (k := 2) (by omega) k0 hq (zcn_I _) (fun hb => ?_) (fun hb => ?_)
      · refine zW.gbt [] rfl rfl rfl (by omega) trivial (by simp (disch := omega) only [eq_self, not_true_eq_false, not_false_eq_true, upI_same, upL_same, upI_ne, upL_ne, iI_ixN, zI_mk, zL_mk, zP_mk, zK_mk, zN_mk, zwI_up, zwL_up, zg_some, Nat.reduceMod, Nat.reduceDiv, zcn_I, iI_add, iI_sub, iI_mul, iI_neg, iI_lt, iI_le, iI_eq, iI_lt0, iI_le0, iI_gt0, iI_ge0, iI_eq0] <;> omega) ?_
        refine zW.gr [] rfl rfl rfl (by omega) trivial trivial ?_; rw [zcn_I]
        exact mP_t hQ (c := 1) (v := 0) (if_neg (fun q => hb (dc_t.mp q))) (mf_scr h th2_scr) (mgr_o (scr_o th2_scr)) (upI_same _ _ _ _) 0
      · have hb := Classical.byContradiction hb
        obtain ⟨u1, u2, u3⟩ := hb
        rw [if_pos (dc_t.mpr ⟨u1, u2, u3⟩)] at hQ
        refine zW.gbf [] rfl rfl rfl (by omega) trivial (by simp (disch := omega) only [eq_self, not_true_eq_false, not_false_eq_true, upI_same, upL_same, upI_ne, upL_ne, iI_ixN, zI_mk, zL_mk, zP_mk, zK_mk, zN_mk, zwI_up, zwL_up, zg_some, Nat.reduceMod, Nat.reduceDiv, zcn_I, iI_add, iI_sub, iI_mul, iI_neg, iI_lt, iI_le, iI_eq, iI_lt0, iI_le0, iI_gt0, iI_ge0, iI_eq0] <;> omega) ?_
        obtain ⟨J0, hJ0⟩ : ∃ J, upI (upI I y 41 (iI 0)) y 41 (iI 0) = J := ⟨_, rfl⟩
        have sJ0 : scr y I L J0 L := by rw [← hJ0]; exact th2_scr
        rw [hJ0]
        have G : ∀ q, tru (¬ (0 ≤ ins ∧ ins ≤ 9999) ∨ ¬ (1 ≤ tm ∧ tm ≤ 59999) ∨ ¬ (0 ≤ ang ∧ ang ≤ 359)) q → zW 230 d 0 0 124 [some (zr (some y)), some (zi (iI (j : Int))), some (zi (iI (k : Int))), some (zi (iI ins)), some (zi (iI tm)), some (zi (iI ang)), some (zi (iI pp)), some (zi x7), none, none, none, none] [zi q, zr (some y)] (J0, L, R) Q := fun q hq => by
          refine zW.gz [] rfl rfl rfl (by omega) trivial ⟨_, rfl, k0⟩ rfl rfl (by decide +kernel) (by decide +kernel) ?_
          refine mThr_ok (k := 3) (by omega) k0 hq (zcn_I _) (fun hb => ?_) (fun hb => ?_)
          · refine zW.gbf [] rfl rfl rfl (by omega) trivial (by simp (disch := omega) only [eq_self, not_true_eq_false, not_false_eq_true, upI_same, upL_same, upI_ne, upL_ne, iI_ixN, zI_mk, zL_mk, zP_mk, zK_mk, zN_mk, zwI_up, zwL_up, zg_some, Nat.reduceMod, Nat.reduceDiv, zcn_I, iI_add, iI_sub, iI_mul, iI_neg, iI_lt, iI_le, iI_eq, iI_lt0, iI_le0, iI_gt0, iI_ge0, iI_eq0] <;> omega) ?_
            refine zW.gr [] rfl rfl rfl (by omega) trivial trivial ?_; rw [zcn_I]
            exact mP_t hQ (c := 2) (v := 0) (if_pos hb) (mf_scr h (scr_tr sJ0 th_scr)) (mgr_o (scr_o (scr_tr sJ0 th_scr))) (upI_same _ _ _ _) 0
          · rw [if_neg hb] at hQ
            refine zW.gbt [] rfl rfl rfl (by omega) trivial (by simp (disch := omega) only [eq_self, not_true_eq_false, not_false_eq_true, upI_same, upL_same, upI_ne, upL_ne, iI_ixN, zI_mk, zL_mk, zP_mk, zK_mk, zN_mk, zwI_up, zwL_up, zg_some, Nat.reduceMod, Nat.reduceDiv, zcn_I, iI_add, iI_sub, iI_mul, iI_neg, iI_lt, iI_le, iI_eq, iI_lt0, iI_le0, iI_gt0, iI_ge0, iI_eq0] <;> omega) ?_
            obtain ⟨tn, rfl⟩ : ∃ n : Nat, tm = n := ⟨tm.toNat, by omega⟩
            simp only [Int.toNat_natCast] at hQ
            obtain ⟨J, hJ⟩ : ∃ J, upI J0 y 41 (iI 0) = J := ⟨_, rfl⟩
            have sJ : scr y I L J L := by rw [← hJ]; exact scr_tr sJ0 th_scr
            have mJ : mf y T (J, L, R) := mf_scr h sJ
            have tJ : J y 41 = iI 0 := by rw [← hJ]; exact upI_same _ _ _ _
            rw [hJ]
            obtain ⟨-, -, -, s1, s2, s3, s4, s5, s6, s7⟩ := m_rd mJ hj
            obtain ⟨y1, y2, y3, y4, y5, y6⟩ := ho.2.2.2.2 k (by omega)
            have hx5 := mxA_le (rFm (tRd T j))
            have spk := (s7 k (by omega)).2.1
            have ovk := (s7 k (by omega)).2.2.1
            have lli := ho.2.1
            have hsp : rSp (tRd T j) k ≤ 4 * 60399 := Nat.le_trans y3 (Nat.mul_le_mul_right _ (by have := u3.1; omega))
            obtain ⟨mn, hmn⟩ : ∃ m : Int, (if 360 - ang < ang then 360 - ang else ang) = m := ⟨_, rfl⟩
            have hmn2 : 0 ≤ mn ∧ mn ≤ 360 := by
              rw [← hmn]
              split <;> omega
            obtain ⟨pv, hpv⟩ : ∃ p : Nat, penV ins (tn : Int) ang = p := ⟨(penV ins (tn : Int) ang).toNat, by
              have : 0 ≤ penV ins (tn : Int) ang := by
                unfold penV
                split <;> split <;> omega
              omega⟩
            have epv : (tn : Int) + (if 1500 < ins then 200 else 0) + (if 0 < mn then 200 else 0) = (pv : Int) := by
              rw [← hpv, ← hmn]
              rfl
            have hpv2 : 1 ≤ pv ∧ pv ≤ 60399 := by
              split at epv <;> split at epv <;> omega
            obtain ⟨td, htd⟩ : ∃ t, told ins (tn : Int) ang pp = t := ⟨_, rfl⟩
            rw [htd] at hQ
            have td1 : pen ins (tn : Int) ang (pp ≠ 0) → td = 0 := fun g => htd.symm.trans (if_pos (dc_t.mpr g))
            have td2 : ¬ pen ins (tn : Int) ang (pp ≠ 0) → td = pv := fun g => htd.symm.trans ((if_neg (fun q => g (dc_t.mp q))).trans (by rw [hpv]; rfl))
            have hpen : pen ins (tn : Int) ang (pp ≠ 0) ↔ (pp ≠ 0 ∨ 1700 < ins ∨ 45 < mn) := by
              unfold pen
              rw [hmn]
            have FIN : ∀ (x sv : Nat) (bb : Bool) (ov : Nat → Bool) (z9 z10 z11 : Int32) (x8 : Int32), x ≤ 60399 → sv = (if x = 0 then tn else x) → (∀ i, i < 12 → ov i = if i = k then bb else rOv (tRd T j) i) → (bb = true → 0 < rLi (tRd T j)) → wTime (tRd T j) k tn td = (x, wTell (wRows (tRd T j) (fun i => if i = k then rSp (tRd T j) k + sv else rSp (tRd T j) i) ov (rTi (tRd T j)) (rUn (tRd T j))) k x) → zW 230 d 0 0 285 [some (zr (some y)), some (zi (iI (j : Int))), some (zi (iI (k : Int))), some (zi (iI ins)), some (zi (iI (tn : Int))), some (zi (iI ang)), some (zi (iI pp)), some (zi x7), some (zi x8), some (zi z9), some (zi z10), some (zi z11)] [zi (iI (x : Int))] (upI J (y + 1915 + j) k (bz bb), L, R) Q := fun x sv bb ov z9 z10 z11 x8 hx hsv hov hbb hw => by
              have hkk : rOK (wTell (wRows (tRd T j) (fun i => if i = k then rSp (tRd T j) k + sv else rSp (tRd T j) i) ov (rTi (tRd T j)) (rUn (tRd T j))) k x) := by
                refine rOK_tell ho.1 ho.2.1 ho.2.2.1 ho.2.2.2.1 u3.1 (by omega) (fun i hi => ?_)
                obtain ⟨z1, z2, z3, z4, z5, z6⟩ := ho.2.2.2.2 i hi
                refine ⟨z1, z2, ?_, z4, z5, ?_⟩
                · show (if i = k then rSp (tRd T j) k + sv else rSp (tRd T j) i) ≤ (if i = k then rMa (tRd T j) k + 1 else rMa (tRd T j) i) * 60399
                  by_cases e : i = k
                  · rw [if_pos e, if_pos e]
                    have : sv ≤ 60399 := by rw [hsv]; split <;> omega
                    omega
                  · rw [if_neg e, if_neg e]
                    exact z3
                · show ov i = true → 0 < rLi (tRd T j)
                  rw [hov i hi]
                  split
                  · exact hbb
                  · exact z6
              have LAST : ∀ (x10 x11 : Int32), x10 = iI (x : Int) → zW 230 d 0 0 308 [some (zr (some y)), some (zi (iI (j : Int))), some (zi (iI (k : Int))), some (zi (iI ins)), some (zi (iI (tn : Int))), some (zi (iI ang)), some (zi (iI pp)), some (zi x7), some (zi x8), some (zi z9), some (zi x10), some (zi x11)] [zi (iI (sv : Int)), zi (iI (rSp (tRd T j) k : Int)), zi (iI (k : Int)), zr (some (y + 1906 + j))] (upI J (y + 1915 + j) k (bz bb), L, R) Q := fun x10 x11 ex => by
                subst ex
                refine zW.gz [] rfl rfl rfl (by omega) (by simp (disch := omega) only [true_or, or_true, eq_self, Option.some.injEq, Prod.mk.injEq, zall_0, zall_1, zall_2, zob_iff, zar_iff, zis_iff, zkIs_some, zkHas_some, iI_vp, z01_I, z01_bz, zch_I, true_and, and_true, or_false, false_or, and_self, upI_same, upL_same, upI_ne, upL_ne, iI_ixN, zI_mk, zL_mk, zP_mk, zK_mk, zN_mk, zwI_up, zwL_up, zg_some, Nat.reduceMod, Nat.reduceDiv, zcn_I, iI_add, iI_sub, iI_mul, iI_neg, iI_lt, iI_le, iI_eq, iI_lt0, iI_le0, iI_gt0, iI_ge0, iI_eq0, k0, p28, k28, q28, j28] <;> omega) ⟨_, rfl, k0⟩ rfl rfl (by decide +kernel) (by decide +kernel) ?_
                simp (disch := omega) only [upI_same, upL_same, upI_ne, upL_ne, iI_ixN, zI_mk, zL_mk, zP_mk, zK_mk, zN_mk, zwI_up, zwL_up, zg_some, Nat.reduceMod, Nat.reduceDiv, zcn_I, iI_add, iI_sub, iI_mul, iI_neg, iI_lt, iI_le, iI_eq, iI_lt0, iI_le0, iI_gt0, iI_ge0, iI_eq0, iI_add]
                refine makes_ok (m := rMa (tRd T j) k) (by omega) hM j8 (by omega) rfl rfl rfl ?_ (by have := u3.1; omega) ?_
                · rw [upI_row (by omega), upI_row (by omega)]
                  exact (s7 k (by omega)).1
                · obtain ⟨m1, m2, m3⟩ := mf_tell (J := upI (upI J (y + 1915 + j) k (bz bb)) (y + 1906 + j) k (iI ((rSp (tRd T j) k : Int) + (sv : Int)))) mJ hj hk hkk (fun a q1 q2 q3 q4 => by rw [upI_row (by omega), upI_row (by omega)]) (fun i hi => by
                    obtain ⟨z1, z2, z3, z4, z5, z6⟩ := s7 i hi
                    refine ⟨?_, ?_, ?_, ?_⟩
                    · by_cases e : i = k
                      · rw [e, upI_same, if_pos rfl]
                        exact iI_cg (by omega)
                      · rw [upI_ne (by omega), upI_row (by omega), if_neg e]
                        exact z2
                    · rw [upI_row (by omega), hov i hi]
                      by_cases e : i = k
                      · rw [e, upI_same, if_pos rfl]
                      · rw [upI_ne (by omega), if_neg e]
                        exact z3
                    · rw [upI_row (by omega), upI_row (by omega)]
                      exact z4
                    · rw [upI_row (by omega), upI_row (by omega)]
                      exact z5)
                  refine zW.gr [] rfl rfl rfl (by omega) trivial trivial ?_
                  rw [hw] at hQ
                  exact mP_0 hQ rfl m1 (mgr_tr (mgr_o (scr_o sJ)) (mgr_o m2)) (m3.trans tJ)
              have sp2 : upI J (y + 1915 + j) k (bz bb) (y + 1906 + j) k = iI (rSp (tRd T j) k : Int) := by
                rw [upI_row (by omega)]
                exact spk
              refine zW.gb [] rfl rfl rfl (by omega) (by simp (disch := omega) only [true_or, or_true, eq_self, Option.some.injEq, Prod.mk.injEq, zall_0, zall_1, zall_2, zob_iff, zar_iff, zis_iff, zkIs_some, zkHas_some, iI_vp, z01_I, z01_bz, zch_I, true_and, and_true, or_false, false_or, and_self, upI_same, upL_same, upI_ne, upL_ne, iI_ixN, zI_mk, zL_mk, zP_mk, zK_mk, zN_mk, zwI_up, zwL_up, zg_some, Nat.reduceMod, Nat.reduceDiv, zcn_I, iI_add, iI_sub, iI_mul, iI_neg, iI_lt, iI_le, iI_eq, iI_lt0, iI_le0, iI_gt0, iI_ge0, iI_eq0, k0, p28, k28, q28, j28] <;> omega) (fun h' => ?_) (fun h' => ?_) <;> simp (disch := omega) only [zcn_I, iI_add, iI_sub, iI_mul, iI_neg, iI_lt, iI_le, iI_eq, iI_lt0, iI_le0, iI_gt0, iI_ge0, iI_eq0, upI_same, upL_same, upI_ne, upL_ne, iI_ixN, zI_mk, zL_mk, zP_mk, zK_mk, zN_mk, zwI_up, zwL_up, zg_some, Nat.reduceMod, Nat.reduceDiv, p28, q28, spk] at h' ⊢
              · refine zW.go [308] rfl (by omega) trivial ?_
                rw [if_neg (by omega)] at hsv
                subst hsv
                exact LAST _ _ rfl
              · refine zW.go [308] rfl (by omega) trivial ?_
                rw [if_pos (by omega)] at hsv
                subst hsv
                exact LAST _ _ rfl
            have D9 : ∀ q, tru (pen ins (tn : Int) ang (pp ≠ 0) ∨ rOv (tRd T j) k = true) q → zW 230 d 0 0 181 [some (zr (some y)), some (zi (iI (j : Int))), some (zi (iI (k : Int))), some (zi (iI ins)), some (zi (iI (tn : Int))), some (zi (iI ang)), some (zi (iI pp)), some (zi x7), some (zi (iI mn)), none, none, none] [zi q] (J, L, R) Q := fun q9 hq9 => by
              have W : ∀ q, tru (¬ (pen ins (tn : Int) ang (pp ≠ 0) ∨ rOv (tRd T j) k = true) ∧ 0 < rLi (tRd T j) ∧ rLi (tRd T j) < rSp (tRd T j) k + pv) q → zW 230 d 0 0 254 [some (zr (some y)), some (zi (iI (j : Int))), some (zi (iI (k : Int))), some (zi (iI ins)), some (zi (iI (tn : Int))), some (zi (iI ang)), some (zi (iI pp)), some (zi x7), some (zi (iI mn)), some (zi q9), some (zi (iI (pv : Int))), none] [zi q] (J, L, R) Q := fun q hq => by
                have ev := tru_bz (tru_or (tru_b (b := rOv (tRd T j) k)) hq)
                obtain ⟨bb, hbb⟩ : ∃ b, dc (rOv (tRd T j) k = true ∨ (¬ (pen ins (tn : Int) ang (pp ≠ 0) ∨ rOv (tRd T j) k = true) ∧ 0 < rLi (tRd T j) ∧ rLi (tRd T j) < rSp (tRd T j) k + pv)) = b := ⟨_, rfl⟩
                rw [hbb] at ev
                rcases hq9 with ⟨g, rfl⟩ | ⟨g, rfl⟩
                · have eb : bb = rOv (tRd T j) k := by
                    rw [← hbb]
                    exact bl_iff (dc_t.trans ⟨fun q => q.elim id (fun q => absurd g q.1), Or.inl⟩)
                  refine zW.gbt [] rfl rfl rfl (by omega) (by simp (disch := omega) only [true_or, or_true, eq_self, Option.some.injEq, Prod.mk.injEq, zall_0, zall_1, zall_2, zob_iff, zar_iff, zis_iff, zkIs_some, zkHas_some, iI_vp, z01_I, z01_bz, zch_I, true_and, and_true, or_false, false_or, and_self, upI_same, upL_same, upI_ne, upL_ne, iI_ixN, zI_mk, zL_mk, zP_mk, zK_mk, zN_mk, zwI_up, zwL_up, zg_some, Nat.reduceMod, Nat.reduceDiv, zcn_I, iI_add, iI_sub, iI_mul, iI_neg, iI_lt, iI_le, iI_eq, iI_lt0, iI_le0, iI_gt0, iI_ge0, iI_eq0, k0, p29, k29, q29, j29, ovk, ev] <;> omega) (by simp (disch := omega) only [eq_self, not_true_eq_false, not_false_eq_true, upI_same, upL_same, upI_ne, upL_ne, iI_ixN, zI_mk, zL_mk, zP_mk, zK_mk, zN_mk, zwI_up, zwL_up, zg_some, Nat.reduceMod, Nat.reduceDiv, zcn_I, iI_add, iI_sub, iI_mul, iI_neg, iI_lt, iI_le, iI_eq, iI_lt0, iI_le0, iI_gt0, iI_ge0, iI_eq0] <;> omega) ?_
                  simp (disch := omega) only [upI_same, upL_same, upI_ne, upL_ne, iI_ixN, zI_mk, zL_mk, zP_mk, zK_mk, zN_mk, zwI_up, zwL_up, zg_some, Nat.reduceMod, Nat.reduceDiv, zcn_I, iI_add, iI_sub, iI_mul, iI_neg, iI_lt, iI_le, iI_eq, iI_lt0, iI_le0, iI_gt0, iI_ge0, iI_eq0, p29, q29, ovk, ev]
                  refine zW.go [285] rfl (by omega) trivial ?_
                  rw [zcn_I]
                  rcases Classical.em (pen ins (tn : Int) ang (pp ≠ 0)) with gp | gp
                  · refine FIN 0 tn bb (rOv (tRd T j)) _ _ _ _ (by omega) rfl (fun i hi => ?_) (by rw [eb]; exact y6) ?_
                    · rw [eb]
                      split
                      · rename_i e
                        rw [e]
                      · rfl
                    · have := td1 gp
                      subst this
                      exact wT2 (fun q => absurd q.2.1 (Nat.lt_irrefl 0))
                  · have go := g.resolve_left gp
                    have := td2 gp
                    exact FIN 0 tn bb _ _ _ _ _ (by omega) rfl (fun i hi => by rw [eb, go]) (by rw [eb]; exact y6) (wT1 ⟨y6 go, by omega, Or.inl go⟩)
                · have gp : ¬ pen ins (tn : Int) ang (pp ≠ 0) := fun q => g (Or.inl q)
                  have go : ¬ rOv (tRd T j) k = true := fun q => g (Or.inr q)
                  have htd2 := td2 gp
                  rcases hq with ⟨u, rfl⟩ | ⟨u, rfl⟩
                  · have eb : bb = true := by
                      rw [← hbb]
                      exact dc_t.mpr (Or.inr u)
                    refine zW.gbf [] rfl rfl rfl (by omega) (by simp (disch := omega) only [true_or, or_true, eq_self, Option.some.injEq, Prod.mk.injEq, zall_0, zall_1, zall_2, zob_iff, zar_iff, zis_iff, zkIs_some, zkHas_some, iI_vp, z01_I, z01_bz, zch_I, true_and, and_true, or_false, false_or, and_self, upI_same, upL_same, upI_ne, upL_ne, iI_ixN, zI_mk, zL_mk, zP_mk, zK_mk, zN_mk, zwI_up, zwL_up, zg_some, Nat.reduceMod, Nat.reduceDiv, zcn_I, iI_add, iI_sub, iI_mul, iI_neg, iI_lt, iI_le, iI_eq, iI_lt0, iI_le0, iI_gt0, iI_ge0, iI_eq0, k0, p29, k29, q29, j29, ovk, ev] <;> omega) (by simp (disch := omega) only [eq_self, not_true_eq_false, not_false_eq_true, upI_same, upL_same, upI_ne, upL_ne, iI_ixN, zI_mk, zL_mk, zP_mk, zK_mk, zN_mk, zwI_up, zwL_up, zg_some, Nat.reduceMod, Nat.reduceDiv, zcn_I, iI_add, iI_sub, iI_mul, iI_neg, iI_lt, iI_le, iI_eq, iI_lt0, iI_le0, iI_gt0, iI_ge0, iI_eq0] <;> omega) ?_
                    simp (disch := omega) only [upI_same, upL_same, upI_ne, upL_ne, iI_ixN, zI_mk, zL_mk, zP_mk, zK_mk, zN_mk, zwI_up, zwL_up, zg_some, Nat.reduceMod, Nat.reduceDiv, zcn_I, iI_add, iI_sub, iI_mul, iI_neg, iI_lt, iI_le, iI_eq, iI_lt0, iI_le0, iI_gt0, iI_ge0, iI_eq0, p29, q29, ovk, ev]
                    refine zW.gbf [] rfl rfl rfl (by omega) trivial (by simp (disch := omega) only [eq_self, not_true_eq_false, not_false_eq_true, upI_same, upL_same, upI_ne, upL_ne, iI_ixN, zI_mk, zL_mk, zP_mk, zK_mk, zN_mk, zwI_up, zwL_up, zg_some, Nat.reduceMod, Nat.reduceDiv, zcn_I, iI_add, iI_sub, iI_mul, iI_neg, iI_lt, iI_le, iI_eq, iI_lt0, iI_le0, iI_gt0, iI_ge0, iI_eq0] <;> omega) ?_
                    refine zW.go [285] rfl (by omega) trivial ?_
                    rw [zcn_I]
                    exact FIN 0 tn bb _ _ _ _ _ (by omega) rfl (fun i hi => by rw [eb]) (fun _ => u.2.1) (wT1 ⟨u.2.1, by omega, Or.inr (by rw [htd2]; exact u.2.2)⟩)
                  · have eb : bb = rOv (tRd T j) k := by
                      rw [← hbb]
                      exact bl_iff (dc_t.trans ⟨fun q => q.elim id (fun q => absurd q u), Or.inl⟩)
                    refine zW.gbf [] rfl rfl rfl (by omega) (by simp (disch := omega) only [true_or, or_true, eq_self, Option.some.injEq, Prod.mk.injEq, zall_0, zall_1, zall_2, zob_iff, zar_iff, zis_iff, zkIs_some, zkHas_some, iI_vp, z01_I, z01_bz, zch_I, true_and, and_true, or_false, false_or, and_self, upI_same, upL_same, upI_ne, upL_ne, iI_ixN, zI_mk, zL_mk, zP_mk, zK_mk, zN_mk, zwI_up, zwL_up, zg_some, Nat.reduceMod, Nat.reduceDiv, zcn_I, iI_add, iI_sub, iI_mul, iI_neg, iI_lt, iI_le, iI_eq, iI_lt0, iI_le0, iI_gt0, iI_ge0, iI_eq0, k0, p29, k29, q29, j29, ovk, ev] <;> omega) (by simp (disch := omega) only [eq_self, not_true_eq_false, not_false_eq_true, upI_same, upL_same, upI_ne, upL_ne, iI_ixN, zI_mk, zL_mk, zP_mk, zK_mk, zN_mk, zwI_up, zwL_up, zg_some, Nat.reduceMod, Nat.reduceDiv, zcn_I, iI_add, iI_sub, iI_mul, iI_neg, iI_lt, iI_le, iI_eq, iI_lt0, iI_le0, iI_gt0, iI_ge0, iI_eq0] <;> omega) ?_
                    simp (disch := omega) only [upI_same, upL_same, upI_ne, upL_ne, iI_ixN, zI_mk, zL_mk, zP_mk, zK_mk, zN_mk, zwI_up, zwL_up, zg_some, Nat.reduceMod, Nat.reduceDiv, zcn_I, iI_add, iI_sub, iI_mul, iI_neg, iI_lt, iI_le, iI_eq, iI_lt0, iI_le0, iI_gt0, iI_ge0, iI_eq0, p29, q29, ovk, ev]
                    refine zW.gbt [] rfl rfl rfl (by omega) trivial (by simp (disch := omega) only [eq_self, not_true_eq_false, not_false_eq_true, upI_same, upL_same, upI_ne, upL_ne, iI_ixN, zI_mk, zL_mk, zP_mk, zK_mk, zN_mk, zwI_up, zwL_up, zg_some, Nat.reduceMod, Nat.reduceDiv, zcn_I, iI_add, iI_sub, iI_mul, iI_neg, iI_lt, iI_le, iI_eq, iI_lt0, iI_le0, iI_gt0, iI_ge0, iI_eq0] <;> omega) ?_
                    refine zW.go [285] rfl (by omega) trivial ?_
                    refine FIN pv pv bb (rOv (tRd T j)) _ _ _ _ (by omega) (by rw [if_neg (by omega)]) (fun i hi => ?_) (by rw [eb]; exact y6) ?_
                    · rw [eb]
                      split
                      · rename_i e
                        rw [e]
                      · rfl
                    · have h0 := wT2 (w := tRd T j) (c := k) (tm := tn) (td := td) (fun q => q.2.2.elim go (fun q2 => u ⟨g, q.1, by omega⟩))
                      rw [if_pos (by omega), htd2] at h0
                      rw [htd2]
                      exact h0
              have V : ∀ a b : Int, a + b = (pv : Int) → zW 230 d 0 0 212 [some (zr (some y)), some (zi (iI (j : Int))), some (zi (iI (k : Int))), some (zi (iI ins)), some (zi (iI (tn : Int))), some (zi (iI ang)), some (zi (iI pp)), some (zi x7), some (zi (iI mn)), some (zi q9), none, none] [zi (iI b), zi (iI a)] (J, L, R) Q := fun a b hab => by
                rcases hq9 with ⟨g, rfl⟩ | ⟨g, rfl⟩
                · refine zW.gbt [] rfl rfl rfl (by omega) trivial (by simp (disch := omega) only [eq_self, not_true_eq_false, not_false_eq_true, upI_same, upL_same, upI_ne, upL_ne, iI_ixN, zI_mk, zL_mk, zP_mk, zK_mk, zN_mk, zwI_up, zwL_up, zg_some, Nat.reduceMod, Nat.reduceDiv, zcn_I, iI_add, iI_sub, iI_mul, iI_neg, iI_lt, iI_le, iI_eq, iI_lt0, iI_le0, iI_gt0, iI_ge0, iI_eq0] <;> omega) ?_
                  rw [iI_add, hab]
                  exact zW.go [254] rfl (by omega) trivial (W _ (tru_f (fun q => q.1 g)))
                · refine zW.gbf [] rfl rfl rfl (by omega) trivial (by simp (disch := omega) only [eq_self, not_true_eq_false, not_false_eq_true, upI_same, upL_same, upI_ne, upL_ne, iI_ixN, zI_mk, zL_mk, zP_mk, zK_mk, zN_mk, zwI_up, zwL_up, zg_some, Nat.reduceMod, Nat.reduceDiv, zcn_I, iI_add, iI_sub, iI_mul, iI_neg, iI_lt, iI_le, iI_eq, iI_lt0, iI_le0, iI_gt0, iI_ge0, iI_eq0] <;> omega) ?_
                  rw [iI_add, hab]
                  refine zW.gb [] rfl rfl rfl (by omega) (by simp (disch := omega) only [true_or, or_true, eq_self, Option.some.injEq, Prod.mk.injEq, zall_0, zall_1, zall_2, zob_iff, zar_iff, zis_iff, zkIs_some, zkHas_some, iI_vp, z01_I, z01_bz, zch_I, true_and, and_true, or_false, false_or, and_self, upI_same, upL_same, upI_ne, upL_ne, iI_ixN, zI_mk, zL_mk, zP_mk, zK_mk, zN_mk, zwI_up, zwL_up, zg_some, Nat.reduceMod, Nat.reduceDiv, zcn_I, iI_add, iI_sub, iI_mul, iI_neg, iI_lt, iI_le, iI_eq, iI_lt0, iI_le0, iI_gt0, iI_ge0, iI_eq0, k0, p21, k21] <;> omega) (fun h' => ?_) (fun h' => ?_) <;> simp (disch := omega) only [zcn_I, iI_add, iI_sub, iI_mul, iI_neg, iI_lt, iI_le, iI_eq, iI_lt0, iI_le0, iI_gt0, iI_ge0, iI_eq0, upI_same, upL_same, upI_ne, upL_ne, iI_ixN, zI_mk, zL_mk, zP_mk, zK_mk, zN_mk, zwI_up, zwL_up, zg_some, Nat.reduceMod, Nat.reduceDiv, p21, s2] at h'
                  · exact zW.go [254] rfl (by omega) trivial (W _ (tru_f (fun q => by have := q.2.1; omega)))
                  · refine zW.gb [] rfl rfl rfl (by omega) (by simp (disch := omega) only [true_or, or_true, eq_self, Option.some.injEq, Prod.mk.injEq, zall_0, zall_1, zall_2, zob_iff, zar_iff, zis_iff, zkIs_some, zkHas_some, iI_vp, z01_I, z01_bz, zch_I, true_and, and_true, or_false, false_or, and_self, upI_same, upL_same, upI_ne, upL_ne, iI_ixN, zI_mk, zL_mk, zP_mk, zK_mk, zN_mk, zwI_up, zwL_up, zg_some, Nat.reduceMod, Nat.reduceDiv, zcn_I, iI_add, iI_sub, iI_mul, iI_neg, iI_lt, iI_le, iI_eq, iI_lt0, iI_le0, iI_gt0, iI_ge0, iI_eq0, k0, p21, k21, p28, k28, q28, j28] <;> omega) (fun h2 => ?_) (fun h2 => ?_) <;> simp (disch := omega) only [zcn_I, iI_add, iI_sub, iI_mul, iI_neg, iI_lt, iI_le, iI_eq, iI_lt0, iI_le0, iI_gt0, iI_ge0, iI_eq0, upI_same, upL_same, upI_ne, upL_ne, iI_ixN, zI_mk, zL_mk, zP_mk, zK_mk, zN_mk, zwI_up, zwL_up, zg_some, Nat.reduceMod, Nat.reduceDiv, p21, s2, p28, q28, spk] at h2
                    · exact zW.go [254] rfl (by omega) trivial (W _ (tru_f (fun q => by have := q.2.2; omega)))
                    · exact zW.go [254] rfl (by omega) trivial (W _ (tru_t ⟨g, by omega, by omega⟩))
              have U : ∀ a b : Int, a + b + (if 0 < mn then 200 else 0) = (pv : Int) → zW 230 d 0 0 199 [some (zr (some y)), some (zi (iI (j : Int))), some (zi (iI (k : Int))), some (zi (iI ins)), some (zi (iI (tn : Int))), some (zi (iI ang)), some (zi (iI pp)), some (zi x7), some (zi (iI mn)), some (zi q9), none, none] [zi (iI b), zi (iI a)] (J, L, R) Q := fun a b hab => by
                refine zW.gb [] rfl rfl rfl (by omega) trivial (fun h' => ?_) (fun h' => ?_) <;> simp (disch := omega) only [zcn_I, iI_add, iI_sub, iI_mul, iI_neg, iI_lt, iI_le, iI_eq, iI_lt0, iI_le0, iI_gt0, iI_ge0, iI_eq0] at h' ⊢
                · refine zW.go [212] rfl (by omega) trivial ?_
                  rw [zcn_I]
                  rw [if_neg (by omega)] at hab
                  exact V _ _ hab
                · refine zW.go [212] rfl (by omega) trivial ?_
                  rw [zcn_I]
                  rw [if_pos (by omega)] at hab
                  exact V _ _ hab
              refine zW.gb [] rfl rfl rfl (by omega) trivial (fun h' => ?_) (fun h' => ?_) <;> simp (disch := omega) only [zcn_I, iI_add, iI_sub, iI_mul, iI_neg, iI_lt, iI_le, iI_eq, iI_lt0, iI_le0, iI_gt0, iI_ge0, iI_eq0] at h'
              · refine zW.go [199] rfl (by omega) trivial ?_
                rw [zcn_I]
                rw [if_neg (by omega)] at epv
                exact U _ _ epv
              · refine zW.go [199] rfl (by omega) trivial ?_
                rw [zcn_I]
                rw [if_pos (by omega)] at epv
                exact U _ _ epv
            have h6' : -2147483648 ≤ pp ∧ pp < 2147483648 := h6
            refine zW.go [144] rfl (by omega) trivial ?_
            rw [zcn_I, iI_sub, iI_min (by omega) (by omega) (by omega) (by omega), hmn]
            refine zW.gb [] rfl rfl rfl (by omega) trivial (fun h' => ?_) (fun h' => ?_) <;> simp (disch := omega) only [zcn_I, iI_add, iI_sub, iI_mul, iI_neg, iI_lt, iI_le, iI_eq, iI_lt0, iI_le0, iI_gt0, iI_ge0, iI_eq0] at h'
            · exact zW.go [181] rfl (by omega) trivial (D9 _ (tru_t (Or.inl (hpen.mpr (Or.inl h')))))
            · refine zW.gb [] rfl rfl rfl (by omega) trivial (fun h2 => ?_) (fun h2 => ?_) <;> simp (disch := omega) only [zcn_I, iI_add, iI_sub, iI_mul, iI_neg, iI_lt, iI_le, iI_eq, iI_lt0, iI_le0, iI_gt0, iI_ge0, iI_eq0] at h2
              · exact zW.go [181] rfl (by omega) trivial (D9 _ (tru_t (Or.inl (hpen.mpr (Or.inr (Or.inl (by omega)))))))
              · refine zW.gb [] rfl rfl rfl (by omega) trivial (fun h3 => ?_) (fun h3 => ?_) <;> simp (disch := omega) only [zcn_I, iI_add, iI_sub, iI_mul, iI_neg, iI_lt, iI_le, iI_eq, iI_lt0, iI_le0, iI_gt0, iI_ge0, iI_eq0] at h3
                · exact zW.go [181] rfl (by omega) trivial (D9 _ (tru_t (Or.inl (hpen.mpr (Or.inr (Or.inr (by omega)))))))
                · have np : ¬ pen ins (tn : Int) ang (pp ≠ 0) := fun q => by
                    have := hpen.mp q
                    omega
                  cases ho2 : rOv (tRd T j) k with
                  | true =>
                    rw [ho2] at ovk
                    refine zW.gbf [] rfl rfl rfl (by omega) (by simp (disch := omega) only [true_or, or_true, eq_self, Option.some.injEq, Prod.mk.injEq, zall_0, zall_1, zall_2, zob_iff, zar_iff, zis_iff, zkIs_some, zkHas_some, iI_vp, z01_I, z01_bz, zch_I, true_and, and_true, or_false, false_or, and_self, upI_same, upL_same, upI_ne, upL_ne, iI_ixN, zI_mk, zL_mk, zP_mk, zK_mk, zN_mk, zwI_up, zwL_up, zg_some, Nat.reduceMod, Nat.reduceDiv, zcn_I, iI_add, iI_sub, iI_mul, iI_neg, iI_lt, iI_le, iI_eq, iI_lt0, iI_le0, iI_gt0, iI_ge0, iI_eq0, k0, p29, k29, q29, j29, ovk] <;> omega) (by simp (disch := omega) only [eq_self, not_true_eq_false, not_false_eq_true, upI_same, upL_same, upI_ne, upL_ne, iI_ixN, zI_mk, zL_mk, zP_mk, zK_mk, zN_mk, zwI_up, zwL_up, zg_some, Nat.reduceMod, Nat.reduceDiv, zcn_I, iI_add, iI_sub, iI_mul, iI_neg, iI_lt, iI_le, iI_eq, iI_lt0, iI_le0, iI_gt0, iI_ge0, iI_eq0, p29, q29, ovk, bz_t] <;> omega) ?_
                    exact zW.go [181] rfl (by omega) trivial (D9 _ (tru_t (Or.inr ho2)))
                  | false =>
                    rw [ho2] at ovk
                    refine zW.gbt [] rfl rfl rfl (by omega) (by simp (disch := omega) only [true_or, or_true, eq_self, Option.some.injEq, Prod.mk.injEq, zall_0, zall_1, zall_2, zob_iff, zar_iff, zis_iff, zkIs_some, zkHas_some, iI_vp, z01_I, z01_bz, zch_I, true_and, and_true, or_false, false_or, and_self, upI_same, upL_same, upI_ne, upL_ne, iI_ixN, zI_mk, zL_mk, zP_mk, zK_mk, zN_mk, zwI_up, zwL_up, zg_some, Nat.reduceMod, Nat.reduceDiv, zcn_I, iI_add, iI_sub, iI_mul, iI_neg, iI_lt, iI_le, iI_eq, iI_lt0, iI_le0, iI_gt0, iI_ge0, iI_eq0, k0, p29, k29, q29, j29, ovk] <;> omega) (by simp (disch := omega) only [eq_self, not_true_eq_false, not_false_eq_true, upI_same, upL_same, upI_ne, upL_ne, iI_ixN, zI_mk, zL_mk, zP_mk, zK_mk, zN_mk, zwI_up, zwL_up, zg_some, Nat.reduceMod, Nat.reduceDiv, zcn_I, iI_add, iI_sub, iI_mul, iI_neg, iI_lt, iI_le, iI_eq, iI_lt0, iI_le0, iI_gt0, iI_ge0, iI_eq0, p29, q29, ovk, bz_f] <;> omega) ?_
                    exact zW.go [181] rfl (by omega) trivial (D9 _ (tru_f (fun q => q.elim np (fun q => by rw [ho2] at q; cases q))))
        have z1 : Int32.ofInt (zldI 8007) = iI 59999 := by decide +kernel
        refine zW.gz [] rfl rfl rfl (by omega) trivial trivial rfl rfl (by decide +kernel) (by decide +kernel) ?_
        refine mIn_ok (by omega) rfl (zcn_I _) (zcn_I _) h3 ⟨by omega, by omega⟩ ⟨by omega, by omega⟩ (fun q hq => ?_)
        rcases hq with ⟨g, rfl⟩ | ⟨g, rfl⟩
        · refine zW.gbf [] rfl rfl rfl (by omega) trivial (by simp (disch := omega) only [eq_self, not_true_eq_false, not_false_eq_true, upI_same, upL_same, upI_ne, upL_ne, iI_ixN, zI_mk, zL_mk, zP_mk, zK_mk, zN_mk, zwI_up, zwL_up, zg_some, Nat.reduceMod, Nat.reduceDiv, zcn_I, iI_add, iI_sub, iI_mul, iI_neg, iI_lt, iI_le, iI_eq, iI_lt0, iI_le0, iI_gt0, iI_ge0, iI_eq0] <;> omega) ?_
          refine zW.gz [] rfl rfl rfl (by omega) trivial trivial rfl rfl (by decide +kernel) (by decide +kernel) ?_
          refine mIn_ok (by omega) rfl (zcn_I _) z1 h4 ⟨by omega, by omega⟩ ⟨by omega, by omega⟩ (fun q hq => ?_)
          rcases hq with ⟨g2, rfl⟩ | ⟨g2, rfl⟩
          · refine zW.gbf [] rfl rfl rfl (by omega) trivial (by simp (disch := omega) only [eq_self, not_true_eq_false, not_false_eq_true, upI_same, upL_same, upI_ne, upL_ne, iI_ixN, zI_mk, zL_mk, zP_mk, zK_mk, zN_mk, zwI_up, zwL_up, zg_some, Nat.reduceMod, Nat.reduceDiv, zcn_I, iI_add, iI_sub, iI_mul, iI_neg, iI_lt, iI_le, iI_eq, iI_lt0, iI_le0, iI_gt0, iI_ge0, iI_eq0] <;> omega) ?_
            refine zW.gz [] rfl rfl rfl (by omega) trivial trivial rfl rfl (by decide +kernel) (by decide +kernel) ?_
            refine mIn_ok (by omega) rfl (zcn_I _) (zcn_I _) h5 ⟨by omega, by omega⟩ ⟨by omega, by omega⟩ (fun q hq => ?_)
            rcases hq with ⟨g3, rfl⟩ | ⟨g3, rfl⟩
            · refine zW.gbt [] rfl rfl rfl (by omega) trivial (by simp (disch := omega) only [eq_self, not_true_eq_false, not_false_eq_true, upI_same, upL_same, upI_ne, upL_ne, iI_ixN, zI_mk, zL_mk, zP_mk, zK_mk, zN_mk, zwI_up, zwL_up, zg_some, Nat.reduceMod, Nat.reduceDiv, zcn_I, iI_add, iI_sub, iI_mul, iI_neg, iI_lt, iI_le, iI_eq, iI_lt0, iI_le0, iI_gt0, iI_ge0, iI_eq0] <;> omega) ?_
              exact zW.go [124] rfl (by omega) trivial (G _ (tru_f (fun n => n.elim (fun n => n g) (fun n => n.elim (fun n => n g2) (fun n => n g3)))))
            · refine zW.gbf [] rfl rfl rfl (by omega) trivial (by simp (disch := omega) only [eq_self, not_true_eq_false, not_false_eq_true, upI_same, upL_same, upI_ne, upL_ne, iI_ixN, zI_mk, zL_mk, zP_mk, zK_mk, zN_mk, zwI_up, zwL_up, zg_some, Nat.reduceMod, Nat.reduceDiv, zcn_I, iI_add, iI_sub, iI_mul, iI_neg, iI_lt, iI_le, iI_eq, iI_lt0, iI_le0, iI_gt0, iI_ge0, iI_eq0] <;> omega) ?_
              exact zW.go [124] rfl (by omega) trivial (G _ (tru_t (Or.inr (Or.inr g3))))
          · refine zW.gbt [] rfl rfl rfl (by omega) trivial (by simp (disch := omega) only [eq_self, not_true_eq_false, not_false_eq_true, upI_same, upL_same, upI_ne, upL_ne, iI_ixN, zI_mk, zL_mk, zP_mk, zK_mk, zN_mk, zwI_up, zwL_up, zg_some, Nat.reduceMod, Nat.reduceDiv, zcn_I, iI_add, iI_sub, iI_mul, iI_neg, iI_lt, iI_le, iI_eq, iI_lt0, iI_le0, iI_gt0, iI_ge0, iI_eq0] <;> omega) ?_
            exact zW.go [124] rfl (by omega) trivial (G _ (tru_t (Or.inr (Or.inl g2))))
        · refine zW.gbt [] rfl rfl rfl (by omega) trivial (by simp (disch := omega) only [eq_self, not_true_eq_false, not_false_eq_true, upI_same, upL_same, upI_ne, upL_ne, iI_ixN, zI_mk, zL_mk, zP_mk, zK_mk, zN_mk, zwI_up, zwL_up, zg_some, Nat.reduceMod, Nat.reduceDiv, zcn_I, iI_add, iI_sub, iI_mul, iI_neg, iI_lt, iI_le, iI_eq, iI_lt0, iI_le0, iI_gt0, iI_ge0, iI_eq0] <;> omega) ?_
          exact zW.go [124] rfl (by omega) trivial (G _ (tru_t (Or.inl g)))
    have E : ∀ q, tru (avF (rFm (tRd T j)) ∨ rFm (tRd T j) = 98) q → zW 230 d 0 0 54 [some (zr (some y)), some (zi (iI (j : Int))), some (zi (iI (k : Int))), some (zi (iI ins)), some (zi (iI tm)), some (zi (iI ang)), some (zi (iI pp)), none, none, none, none, none] [zi q] (upI I y 41 (iI 0), L, R) Q := fun q hq => by
      rcases hq with ⟨g, rfl⟩ | ⟨g, rfl⟩
      · refine zW.gbf [] rfl rfl rfl (by omega) trivial (by simp (disch := omega) only [eq_self, not_true_eq_false, not_false_eq_true, upI_same, upL_same, upI_ne, upL_ne, iI_ixN, zI_mk, zL_mk, zP_mk, zK_mk, zN_mk, zwI_up, zwL_up, zg_some, Nat.reduceMod, Nat.reduceDiv, zcn_I, iI_add, iI_sub, iI_mul, iI_neg, iI_lt, iI_le, iI_eq, iI_lt0, iI_le0, iI_gt0, iI_ge0, iI_eq0] <;> omega) ?_
        refine zW.gz [] rfl rfl rfl (by omega) trivial ⟨_, rfl, k0⟩ rfl rfl (by decide +kernel) (by decide +kernel) ?_
        refine mMay_ok (by omega) (mf_scr h th_scr) hj (by omega) rfl rfl (fun q hq => ?_)
        rcases hq with ⟨g2, rfl⟩ | ⟨g2, rfl⟩
        · refine zW.gbt [] rfl rfl rfl (by omega) trivial (by simp (disch := omega) only [eq_self, not_true_eq_false, not_false_eq_true, upI_same, upL_same, upI_ne, upL_ne, iI_ixN, zI_mk, zL_mk, zP_mk, zK_mk, zN_mk, zwI_up, zwL_up, zg_some, Nat.reduceMod, Nat.reduceDiv, zcn_I, iI_add, iI_sub, iI_mul, iI_neg, iI_lt, iI_le, iI_eq, iI_lt0, iI_le0, iI_gt0, iI_ge0, iI_eq0] <;> omega) ?_
          exact zW.go [76] rfl (by omega) trivial (F _ _ (tru_f (fun n => n ⟨g, g2⟩)))
        · refine zW.gbf [] rfl rfl rfl (by omega) trivial (by simp (disch := omega) only [eq_self, not_true_eq_false, not_false_eq_true, upI_same, upL_same, upI_ne, upL_ne, iI_ixN, zI_mk, zL_mk, zP_mk, zK_mk, zN_mk, zwI_up, zwL_up, zg_some, Nat.reduceMod, Nat.reduceDiv, zcn_I, iI_add, iI_sub, iI_mul, iI_neg, iI_lt, iI_le, iI_eq, iI_lt0, iI_le0, iI_gt0, iI_ge0, iI_eq0] <;> omega) ?_
          exact zW.go [76] rfl (by omega) trivial (F _ _ (tru_t (fun n => g2 n.2)))
      · refine zW.gbt [] rfl rfl rfl (by omega) trivial (by simp (disch := omega) only [eq_self, not_true_eq_false, not_false_eq_true, upI_same, upL_same, upI_ne, upL_ne, iI_ixN, zI_mk, zL_mk, zP_mk, zK_mk, zN_mk, zwI_up, zwL_up, zg_some, Nat.reduceMod, Nat.reduceDiv, zcn_I, iI_add, iI_sub, iI_mul, iI_neg, iI_lt, iI_le, iI_eq, iI_lt0, iI_le0, iI_gt0, iI_ge0, iI_eq0] <;> omega) ?_
        exact zW.go [76] rfl (by omega) trivial (F _ _ (tru_t (fun n => g n.1)))
    refine zW.gb [] rfl rfl rfl (by omega) (by simp (disch := omega) only [true_or, or_true, eq_self, Option.some.injEq, Prod.mk.injEq, zall_0, zall_1, zall_2, zob_iff, zar_iff, zis_iff, zkIs_some, zkHas_some, iI_vp, z01_I, z01_bz, zch_I, true_and, and_true, or_false, false_or, and_self, upI_same, upL_same, upI_ne, upL_ne, iI_ixN, zI_mk, zL_mk, zP_mk, zK_mk, zN_mk, zwI_up, zwL_up, zg_some, Nat.reduceMod, Nat.reduceDiv, zcn_I, iI_add, iI_sub, iI_mul, iI_neg, iI_lt, iI_le, iI_eq, iI_lt0, iI_le0, iI_gt0, iI_ge0, iI_eq0, k0, p20, k20] <;> omega) (fun h' => ?_) (fun h' => ?_) <;> simp (disch := omega) only [zcn_I, iI_add, iI_sub, iI_mul, iI_neg, iI_lt, iI_le, iI_eq, iI_lt0, iI_le0, iI_gt0, iI_ge0, iI_eq0, upI_same, upL_same, upI_ne, upL_ne, iI_ixN, zI_mk, zL_mk, zP_mk, zK_mk, zN_mk, zwI_up, zwL_up, zg_some, Nat.reduceMod, Nat.reduceDiv, p20, r1] at h'
    · exact zW.go [54] rfl (by omega) trivial (E _ (tru_t (by unfold avF; omega)))
    refine zW.gb [] rfl rfl rfl (by omega) (by simp (disch := omega) only [true_or, or_true, eq_self, Option.some.injEq, Prod.mk.injEq, zall_0, zall_1, zall_2, zob_iff, zar_iff, zis_iff, zkIs_some, zkHas_some, iI_vp, z01_I, z01_bz, zch_I, true_and, and_true, or_false, false_or, and_self, upI_same, upL_same, upI_ne, upL_ne, iI_ixN, zI_mk, zL_mk, zP_mk, zK_mk, zN_mk, zwI_up, zwL_up, zg_some, Nat.reduceMod, Nat.reduceDiv, zcn_I, iI_add, iI_sub, iI_mul, iI_neg, iI_lt, iI_le, iI_eq, iI_lt0, iI_le0, iI_gt0, iI_ge0, iI_eq0, k0, p20, k20] <;> omega) (fun h2 => ?_) (fun h2 => ?_) <;> simp (disch := omega) only [zcn_I, iI_add, iI_sub, iI_mul, iI_neg, iI_lt, iI_le, iI_eq, iI_lt0, iI_le0, iI_gt0, iI_ge0, iI_eq0, upI_same, upL_same, upI_ne, upL_ne, iI_ixN, zI_mk, zL_mk, zP_mk, zK_mk, zN_mk, zwI_up, zwL_up, zg_some, Nat.reduceMod, Nat.reduceDiv, p20, r1] at h2
    · exact zW.go [54] rfl (by omega) trivial (E _ (tru_t (by unfold avF; omega)))
    refine zW.gb [] rfl rfl rfl (by omega) (by simp (disch := omega) only [true_or, or_true, eq_self, Option.some.injEq, Prod.mk.injEq, zall_0, zall_1, zall_2, zob_iff, zar_iff, zis_iff, zkIs_some, zkHas_some, iI_vp, z01_I, z01_bz, zch_I, true_and, and_true, or_false, false_or, and_self, upI_same, upL_same, upI_ne, upL_ne, iI_ixN, zI_mk, zL_mk, zP_mk, zK_mk, zN_mk, zwI_up, zwL_up, zg_some, Nat.reduceMod, Nat.reduceDiv, zcn_I, iI_add, iI_sub, iI_mul, iI_neg, iI_lt, iI_le, iI_eq, iI_lt0, iI_le0, iI_gt0, iI_ge0, iI_eq0, k0, p20, k20] <;> omega) (fun h3 => ?_) (fun h3 => ?_) <;> simp (disch := omega) only [zcn_I, iI_add, iI_sub, iI_mul, iI_neg, iI_lt, iI_le, iI_eq, iI_lt0, iI_le0, iI_gt0, iI_ge0, iI_eq0, upI_same, upL_same, upI_ne, upL_ne, iI_ixN, zI_mk, zL_mk, zP_mk, zK_mk, zN_mk, zwI_up, zwL_up, zg_some, Nat.reduceMod, Nat.reduceDiv, p20, r1] at h3
    · exact zW.go [54] rfl (by omega) trivial (E _ (tru_f (by unfold avF; omega)))
    · exact zW.go [54] rfl (by omega) trivial (E _ (tru_t (by unfold avF; omega)))
end MATT
