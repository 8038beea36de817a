/-! The model's rounds: an attempt is told. -/
def wRows (w : zRd) (sp : Nat → Nat) (ov : Nat → Bool) (ti un : Nat → Nat) : zRd := (w.1, rMa w, rRs w, sp, ov, ti, un, w.2.2.2.2.2.2.2)
section MTEL2
variable {d y : Nat} {T : tfT} {I : Nat → Nat → Int32} {L : Nat → Nat → Int64} {R : zRt} {Q : zO → zM → Prop}
theorem mf_tell {j c x : Nat} {sp : Nat → Nat} {ov : Nat → Bool} {ti un : Nat → Nat} {J : Nat → Nat → Int32} (h : mf y T (I, L, R)) (hj : j < tRn T) (hc : c < tCn T) (hk : rOK (wTell (wRows (tRd T j) sp ov ti un) c x)) (f : ∀ a, a ≠ y + 1906 + j → a ≠ y + 1915 + j → a ≠ y + 1924 + j → a ≠ y + 1933 + j → J a = I a) (s : ∀ i, i < 12 → J (y + 1906 + j) i = iI (sp i : Int) ∧ J (y + 1915 + j) i = bz (ov i) ∧ J (y + 1924 + j) i = iI (ti i : Int) ∧ J (y + 1933 + j) i = iI (un i : Int)) :
    mf y (tSetR T j (wTell (wRows (tRd T j) sp ov ti un) c x) (tDy T)) (upI (upI J (y + 1802 + 13 * j + c) (rMa (tRd T j) c) (iI (x : Int))) (y + 1792 + j) c (iI ((rMa (tRd T j) c + 1 : Nat) : Int)), L, R) ∧ mfo y I L (upI (upI J (y + 1802 + 13 * j + c) (rMa (tRd T j) c) (iI (x : Int))) (y + 1792 + j) c (iI ((rMa (tRd T j) c + 1 : Nat) : Int))) L ∧ upI (upI J (y + 1802 + 13 * j + c) (rMa (tRd T j) c) (iI (x : Int))) (y + 1792 + j) c (iI ((rMa (tRd T j) c + 1 : Nat) : Int)) y 41 = I y 41 := by
  obtain ⟨j8, ho, hz, r1, r2, r3, r4, r5, r6, r7⟩ := m_rd h hj
  have h12 := h.1.2.2.2.1.1
  have d40 := (m_own h).2.2.2
  have hd9 := h.1.2.2.2.2.2
  obtain ⟨K, hK⟩ : ∃ K, upI (upI J (y + 1802 + 13 * j + c) (rMa (tRd T j) c) (iI (x : Int))) (y + 1792 + j) c (iI ((rMa (tRd T j) c + 1 : Nat) : Int)) = K := ⟨_, rfl⟩
  rw [hK]
  have kf : ∀ a, a ≠ y + 1792 + j → a ≠ y + 1906 + j → a ≠ y + 1915 + j → a ≠ y + 1924 + j → a ≠ y + 1933 + j → ¬ (y + 1802 + 13 * j ≤ a ∧ a < y + 1814 + 13 * j) → K a = I a := fun a q1 q2 q3 q4 q5 q6 => by
    rw [← hK, upI_row (by omega), upI_row (by omega)]
    exact f a q2 q3 q4 q5
  have kz : ∀ k, K y k = I y k := fun k => congrFun (kf y (by omega) (by omega) (by omega) (by omega) (by omega) (by omega)) k
  refine ⟨mf_setR h hj hk (fun i q1 q2 => ?_) hd9 (fun a q1 q2 => kf a (by omega) (by omega) (by omega) (by omega) (by omega) (by omega)) (fun k _ _ _ _ => kz k) ((kz 40).trans d40) (fun a k q1 q2 q3 => ?_) (fun a q1 q2 q3 q4 q5 q6 q7 q8 => kf a q3 q4 q5 q6 q7 q8) ⟨?_, ?_, ?_, ?_, ?_, ?_, fun i hi => ⟨?_, ?_, ?_, ?_, ?_, fun k hk => ?_⟩⟩, fun a q => ⟨kf a (by omega) (by omega) (by omega) (by omega) (by omega) (by omega), rfl⟩, kz 41⟩
  · exact (if_neg (show ¬ i = c by omega)).trans (hz i q1 q2)
  · exact congrFun (kf a (by omega) (by omega) (by omega) (by omega) (by omega) (by omega)) k
  · exact (congrFun (kf _ (by omega) (by omega) (by omega) (by omega) (by omega) (by omega)) _).trans r1
  · exact (congrFun (kf _ (by omega) (by omega) (by omega) (by omega) (by omega) (by omega)) _).trans r2
  · exact (congrFun (kf _ (by omega) (by omega) (by omega) (by omega) (by omega) (by omega)) _).trans r3
  · exact (congrFun (kf _ (by omega) (by omega) (by omega) (by omega) (by omega) (by omega)) _).trans r4
  · exact (congrFun (kf _ (by omega) (by omega) (by omega) (by omega) (by omega) (by omega)) _).trans r5
  · exact (congrFun (kf _ (by omega) (by omega) (by omega) (by omega) (by omega) (by omega)) _).trans r6
  · show _ = iI ((if i = c then rMa (tRd T j) c + 1 else rMa (tRd T j) i : Nat) : Int)
    rw [← hK]
    by_cases e : i = c
    · subst e
      rw [if_pos rfl, upI_same]
    · rw [if_neg e, upI_ne (by omega), upI_row (by omega), f _ (by omega) (by omega) (by omega) (by omega)]
      exact (r7 i hi).1
  · rw [← hK, upI_row (by omega), upI_row (by omega)]
    exact (s i hi).1
  · rw [← hK, upI_row (by omega), upI_row (by omega)]
    exact (s i hi).2.1
  · rw [← hK, upI_row (by omega), upI_row (by omega)]
    exact (s i hi).2.2.1
  · rw [← hK, upI_row (by omega), upI_row (by omega)]
    exact (s i hi).2.2.2
  · have hk : k < (if i = c then rMa (tRd T j) c + 1 else rMa (tRd T j) i) := hk
    show _ = iI ((if i = c ∧ k = rMa (tRd T j) c then x else rRs (tRd T j) i k : Nat) : Int)
    rw [← hK, upI_row (by omega)]
    by_cases e : i = c
    · subst e
      rw [if_pos rfl] at hk
      by_cases e2 : k = rMa (tRd T j) i
      · rw [if_pos ⟨rfl, e2⟩, e2, upI_same]
      · rw [if_neg (fun q => e2 q.2), upI_ne (by omega), f _ (by omega) (by omega) (by omega) (by omega)]
        exact (r7 i hi).2.2.2.2.2 k (by omega)
    · rw [if_neg e] at hk
      rw [if_neg (fun q => e q.1), upI_row (by omega), f _ (by omega) (by omega) (by omega) (by omega)]
      exact (r7 i hi).2.2.2.2.2 k hk
theorem mSev_ok {r c tr so tm : Int} {a b f1 f2 f3 : Int32} (hd : 6 ≤ d) (h : mf y T (I, L, R)) (e1 : a = iI r) (e2 : b = iI c) (e3 : f1 = iI tr) (e4 : f2 = iI so) (e5 : f3 = iI tm) (h1 : i32 r) (h2 : i32 c) (h3 : i32 tr) (h4 : i32 so) (h5 : i32 tm) (hQ : mP y (I, L, R) (oSev T r c tr so tm) eI Q) : zS 232 d [zr (some y), zi a, zi b, zi f1, zi f2, zi f3] (I, L, R) Q := by
  subst e1; subst e2; subst e3; subst e4; subst e5
  have hM := h.2.1
  have k0 : R.2.1 y = some (7, 0) := hM.1
  refine zW.gz [] rfl rfl rfl (by omega) trivial ⟨_, rfl, k0⟩ rfl rfl (by decide +kernel) (by decide +kernel) ?_
  refine nobody_ok (by omega) h rfl rfl h1 h2 (fun q hq => ?_)
  refine zW.gz [] rfl rfl rfl (by omega) trivial ⟨_, rfl, k0⟩ rfl rfl (by decide +kernel) (by decide +kernel) ?_
  refine mThr_ok (k := 1) (by omega) k0 hq (zcn_I _) (fun hb => ?_) (fun hg => ?_)
  · refine zW.gbt [] rfl rfl rfl (by omega) trivial (by simp (disch := omega) only [eq_self, not_true_eq_false, not_false_eq_true, upI_same, upL_same, upI_ne, upL_ne, iI_ixN, zI_mk, zL_mk, zP_mk, zK_mk, zN_mk, zwI_up, zwL_up, zg_some, Nat.reduceMod, Nat.reduceDiv, zcn_I, iI_add, iI_sub, iI_mul, iI_neg, iI_lt, iI_le, iI_eq, iI_lt0, iI_le0, iI_gt0, iI_ge0, iI_eq0] <;> omega) ?_
    refine zW.gr [] rfl rfl rfl (by omega) trivial trivial ?_; rw [zcn_I]
    refine mP_t hQ (c := 0) (v := 0) ?_ (mf_scr h th_scr) (mgr_o (scr_o th_scr)) (upI_same _ _ _ _) 0
    exact onC_no hb
  · obtain ⟨j, k, rfl, rfl, hj, hk, e⟩ := onC_yes hg
    unfold oSev at hQ
    rw [e] at hQ
    obtain ⟨j8, ho, hz, r1, r2, r3, r4, r5, r6, r7⟩ := m_rd h hj
    have h12 := h.1.2.2.2.1.1
    have hfm := fm_lt ho
    have p20 : R.1 y 20 = some (y + 1785) := (hM.2.1 20 (by decide)).1; have k20 : R.2.1 (y + 1785) = some (23, 8) := (hM.2.1 20 (by decide)).2; have p30 : R.1 y 30 = some (y + 1923) := (hM.2.1 30 (by decide)).1; have k30 : R.2.1 (y + 1923) = some (25, 8) := (hM.2.1 30 (by decide)).2; have q30 : R.1 (y + 1923) (j) = some (y + 1924 + j) := (hM.2.2.2.2.2.2.2.2.2.2.2.2.2.1 (j) (by omega)).1.trans (congrArg some (by omega)); have j30 : R.2.1 (y + 1924 + j) = some (20, 12) := (congrArg R.2.1 (by omega)).trans (hM.2.2.2.2.2.2.2.2.2.2.2.2.2.1 (j) (by omega)).2; have p31 : R.1 y 31 = some (y + 1932) := (hM.2.1 31 (by decide)).1; have k31 : R.2.1 (y + 1932) = some (25, 8) := (hM.2.1 31 (by decide)).2; have q31 : R.1 (y + 1932) (j) = some (y + 1933 + j) := (hM.2.2.2.2.2.2.2.2.2.2.2.2.2.2 (j) (by omega)).1.trans (congrArg some (by omega)); have j31 : R.2.1 (y + 1933 + j) = some (20, 12) := (congrArg R.2.1 (by omega)).trans (hM.2.2.2.2.2.2.2.2.2.2.2.2.2.2 (j) (by omega)).2
    refine zW.gbf [] rfl rfl rfl (by omega) trivial (by simp (disch := omega) only [eq_self, not_true_eq_false, not_false_eq_true, upI_same, upL_same, upI_ne, upL_ne, iI_ixN, zI_mk, zL_mk, zP_mk, zK_mk, zN_mk, zwI_up, zwL_up, zg_some, Nat.reduceMod, Nat.reduceDiv, zcn_I, iI_add, iI_sub, iI_mul, iI_neg, iI_lt, iI_le, iI_eq, iI_lt0, iI_le0, iI_gt0, iI_ge0, iI_eq0] <;> omega) ?_
    have F : ∀ q, tru (¬ (rFm (tRd T j) = 109 ∧ opn (tRd T j) k)) q → zW 232 d 0 0 40 [some (zr (some y)), some (zi (iI (j : Int))), some (zi (iI (k : Int))), some (zi (iI tr)), some (zi (iI so)), some (zi (iI tm)), none, none] [zi q, zr (some y)] (upI I y 41 (iI 0), L, R) Q := fun q hq => by
      refine zW.gz [] rfl rfl rfl (by omega) trivial ⟨_, rfl, k0⟩ rfl rfl (by decide +kernel) (by decide +kernel) ?_
      refine mThr_ok (k := 2) (by omega) k0 hq (zcn_I _) (fun hb => ?_) (fun hb => ?_)
      · refine zW.gbf [] rfl rfl rfl (by omega) trivial (by simp (disch := omega) only [eq_self, not_true_eq_false, not_false_eq_true, upI_same, upL_same, upI_ne, upL_ne, iI_ixN, zI_mk, zL_mk, zP_mk, zK_mk, zN_mk, zwI_up, zwL_up, zg_some, Nat.reduceMod, Nat.reduceDiv, zcn_I, iI_add, iI_sub, iI_mul, iI_neg, iI_lt, iI_le, iI_eq, iI_lt0, iI_le0, iI_gt0, iI_ge0, iI_eq0] <;> omega) ?_
        refine zW.gr [] rfl rfl rfl (by omega) trivial trivial ?_; rw [zcn_I]
        exact mP_t hQ (c := 1) (v := 0) (if_neg (fun q => hb (dc_t.mp q))) (mf_scr h th2_scr) (mgr_o (scr_o th2_scr)) (upI_same _ _ _ _) 0
      · have hb := Classical.byContradiction hb
        obtain ⟨u1, u2, u3⟩ := hb
        rw [if_pos (dc_t.mpr ⟨u1, u2, u3⟩)] at hQ
        refine zW.gbt [] rfl rfl rfl (by omega) trivial (by simp (disch := omega) only [eq_self, not_true_eq_false, not_false_eq_true, upI_same, upL_same, upI_ne, upL_ne, iI_ixN, zI_mk, zL_mk, zP_mk, zK_mk, zN_mk, zwI_up, zwL_up, zg_some, Nat.reduceMod, Nat.reduceDiv, zcn_I, iI_add, iI_sub, iI_mul, iI_neg, iI_lt, iI_le, iI_eq, iI_lt0, iI_le0, iI_gt0, iI_ge0, iI_eq0] <;> omega) ?_
        obtain ⟨J0, hJ0⟩ : ∃ J, upI (upI I y 41 (iI 0)) y 41 (iI 0) = J := ⟨_, rfl⟩
        have sJ0 : scr y I L J0 L := by rw [← hJ0]; exact th2_scr
        rw [hJ0]
        have G : ∀ q, tru (¬ (2 ≤ tr ∧ tr ≤ 60) ∨ ¬ (0 ≤ so ∧ so ≤ tr) ∨ ¬ (1 ≤ tm ∧ tm ≤ 359999)) q → zW 232 d 0 0 87 [some (zr (some y)), some (zi (iI (j : Int))), some (zi (iI (k : Int))), some (zi (iI tr)), some (zi (iI so)), some (zi (iI tm)), none, none] [zi q, zr (some y)] (J0, L, R) Q := fun q hq => by
          refine zW.gz [] rfl rfl rfl (by omega) trivial ⟨_, rfl, k0⟩ rfl rfl (by decide +kernel) (by decide +kernel) ?_
          refine mThr_ok (k := 3) (by omega) k0 hq (zcn_I _) (fun hb => ?_) (fun hb => ?_)
          · refine zW.gbf [] rfl rfl rfl (by omega) trivial (by simp (disch := omega) only [eq_self, not_true_eq_false, not_false_eq_true, upI_same, upL_same, upI_ne, upL_ne, iI_ixN, zI_mk, zL_mk, zP_mk, zK_mk, zN_mk, zwI_up, zwL_up, zg_some, Nat.reduceMod, Nat.reduceDiv, zcn_I, iI_add, iI_sub, iI_mul, iI_neg, iI_lt, iI_le, iI_eq, iI_lt0, iI_le0, iI_gt0, iI_ge0, iI_eq0] <;> omega) ?_
            refine zW.gr [] rfl rfl rfl (by omega) trivial trivial ?_; rw [zcn_I]
            exact mP_t hQ (c := 2) (v := 0) (if_pos hb) (mf_scr h (scr_tr sJ0 th_scr)) (mgr_o (scr_o (scr_tr sJ0 th_scr))) (upI_same _ _ _ _) 0
          · rw [if_neg hb] at hQ
            refine zW.gbt [] rfl rfl rfl (by omega) trivial (by simp (disch := omega) only [eq_self, not_true_eq_false, not_false_eq_true, upI_same, upL_same, upI_ne, upL_ne, iI_ixN, zI_mk, zL_mk, zP_mk, zK_mk, zN_mk, zwI_up, zwL_up, zg_some, Nat.reduceMod, Nat.reduceDiv, zcn_I, iI_add, iI_sub, iI_mul, iI_neg, iI_lt, iI_le, iI_eq, iI_lt0, iI_le0, iI_gt0, iI_ge0, iI_eq0] <;> omega) ?_
            obtain ⟨tn, rfl⟩ : ∃ n : Nat, tr = n := ⟨tr.toNat, by omega⟩
            obtain ⟨sn, rfl⟩ : ∃ n : Nat, so = n := ⟨so.toNat, by omega⟩
            obtain ⟨un, rfl⟩ : ∃ n : Nat, tm = n := ⟨tm.toNat, by omega⟩
            simp only [Int.toNat_natCast] at hQ
            obtain ⟨J, hJ⟩ : ∃ J, upI J0 y 41 (iI 0) = J := ⟨_, rfl⟩
            have sJ : scr y I L J L := by rw [← hJ]; exact scr_tr sJ0 th_scr
            have mJ : mf y T (J, L, R) := mf_scr h sJ
            have tJ : J y 41 = iI 0 := by rw [← hJ]; exact upI_same _ _ _ _
            rw [hJ]
            obtain ⟨-, -, -, s1, s2, s3, s4, s5, s6, s7⟩ := m_rd mJ hj
            obtain ⟨y1, y2, y3, y4, y5, y6⟩ := ho.2.2.2.2 k (by omega)
            have hx5 := mxA_le (rFm (tRd T j))
            -- the result is known
            have E : ∀ (x : Nat) (ls : List (Option zV)), x ≤ 61 → (∀ M', mf y (tSetR T j (wSev (tRd T j) k tn sn un x) (tDy T)) M' → mgr y (I, L, R) M' → M'.1 y 41 = iI 0 → zW 232 d 0 0 168 ls [] M' Q) → zW 232 d 0 0 165 ls [zi (iI (x : Int)), zi (iI (k : Int)), zi (iI (j : Int)), zr (some y)] (upI (upI J (y + 1924 + j) k (iI (un : Int))) (y + 1933 + j) k (iI ((tn - sn : Nat) : Int)), L, R) Q := fun x ls hx61 hgo => by
              refine zW.gz [] rfl rfl rfl (by omega) trivial ⟨_, rfl, k0⟩ rfl rfl (by decide +kernel) (by decide +kernel) ?_
              refine makes_ok (m := rMa (tRd T j) k) (by omega) hM j8 (by omega) rfl rfl rfl ?_ (by have := u3.1; omega) ?_
              · rw [upI_row (by omega), upI_row (by omega)]
                exact (s7 k (by omega)).1
              · have hw : wSev (tRd T j) k tn sn un x = wTell (wRows (tRd T j) (rSp (tRd T j)) (rOv (tRd T j)) (fun i => if i = k then un else rTi (tRd T j) i) (fun i => if i = k then tn - sn else rUn (tRd T j) i)) k x := rfl
                have hkk : rOK (wTell (wRows (tRd T j) (rSp (tRd T j)) (rOv (tRd T j)) (fun i => if i = k then un else rTi (tRd T j) i) (fun i => if i = k then tn - sn else rUn (tRd T j) i)) k x) := by
                  refine rOK_tell ho.1 ho.2.1 ho.2.2.1 ho.2.2.2.1 u3.1 (by omega) (fun i hi => ?_)
                  obtain ⟨z1, z2, z3, z4, z5, z6⟩ := ho.2.2.2.2 i hi
                  refine ⟨z1, z2, ?_, ?_, ?_, z6⟩
                  · show rSp (tRd T j) i ≤ (if i = k then rMa (tRd T j) k + 1 else rMa (tRd T j) i) * 60399
                    by_cases e : i = k
                    · subst e
                      rw [if_pos rfl]
                      exact Nat.le_trans z3 (Nat.mul_le_mul_right _ (Nat.le_succ _))
                    · rw [if_neg e]
                      exact z3
                  · show (if i = k then un else rTi (tRd T j) i) ≤ 359999
                    split
                    · omega
                    · exact z4
                  · show (if i = k then tn - sn else rUn (tRd T j) i) ≤ 60
                    split
                    · omega
                    · exact z5
                obtain ⟨m1, m2, m3⟩ := mf_tell (J := upI (upI J (y + 1924 + j) k (iI (un : Int))) (y + 1933 + j) k (iI ((tn - sn : Nat) : Int))) mJ hj hk hkk (fun a q1 q2 q3 q4 => by rw [upI_row (by omega), upI_row (by omega)]) (fun i hi => by
                  obtain ⟨z1, z2, z3, z4, z5, z6⟩ := s7 i hi
                  refine ⟨?_, ?_, ?_, ?_⟩
                  · rw [upI_row (by omega), upI_row (by omega)]
                    exact z2
                  · rw [upI_row (by omega), upI_row (by omega)]
                    exact z3
                  · rw [upI_row (by omega)]
                    by_cases e : i = k
                    · rw [e, upI_same, if_pos rfl]
                    · rw [upI_ne (by omega), if_neg e]
                      exact z4
                  · by_cases e : i = k
                    · rw [e, upI_same, if_pos rfl]
                    · rw [upI_ne (by omega), upI_row (by omega), if_neg e]
                      exact z5)
                rw [← hw] at m1
                exact hgo _ m1 (mgr_tr (mgr_o (scr_o sJ)) (mgr_o m2)) (m3.trans tJ)
            have e5 : (tn : Int) - (sn : Int) = ((tn - sn : Nat) : Int) := by omega
            have H : ∀ q, tru (¬ 2 * (sn : Int) - (tn : Int) < (if tn = 2 then 1 else 0)) q → zW 232 d 0 0 125 [some (zr (some y)), some (zi (iI (j : Int))), some (zi (iI (k : Int))), some (zi (iI (tn : Int))), some (zi (iI (sn : Int))), some (zi (iI (un : Int))), some (zi (iI (2 * (sn : Int) - (tn : Int)))), none] [zi q] (J, L, R) Q := fun q hq => by
              rcases hq with ⟨g, rfl⟩ | ⟨g, rfl⟩
              · rw [if_neg g, if_neg g] at hQ
                have g0 : 0 ≤ 2 * (sn : Int) - (tn : Int) := by
                  split at g <;> omega
                refine zW.gbf [] rfl rfl rfl (by omega) (by simp (disch := omega) only [true_or, or_true, eq_self, Option.some.injEq, Prod.mk.injEq, zall_0, zall_1, zall_2, zob_iff, zar_iff, zis_iff, zkIs_some, zkHas_some, iI_vp, z01_I, z01_bz, zch_I, true_and, and_true, or_false, false_or, and_self, upI_same, upL_same, upI_ne, upL_ne, iI_ixN, zI_mk, zL_mk, zP_mk, zK_mk, zN_mk, zwI_up, zwL_up, zg_some, Nat.reduceMod, Nat.reduceDiv, zcn_I, iI_add, iI_sub, iI_mul, iI_neg, iI_lt, iI_le, iI_eq, iI_lt0, iI_le0, iI_gt0, iI_ge0, iI_eq0, k0, p30, k30, q30, j30, p31, k31, q31, j31] <;> omega) (by simp (disch := omega) only [eq_self, not_true_eq_false, not_false_eq_true, upI_same, upL_same, upI_ne, upL_ne, iI_ixN, zI_mk, zL_mk, zP_mk, zK_mk, zN_mk, zwI_up, zwL_up, zg_some, Nat.reduceMod, Nat.reduceDiv, zcn_I, iI_add, iI_sub, iI_mul, iI_neg, iI_lt, iI_le, iI_eq, iI_lt0, iI_le0, iI_gt0, iI_ge0, iI_eq0] <;> omega) ?_
                simp (disch := omega) only [upI_same, upL_same, upI_ne, upL_ne, iI_ixN, zI_mk, zL_mk, zP_mk, zK_mk, zN_mk, zwI_up, zwL_up, zg_some, Nat.reduceMod, Nat.reduceDiv, zcn_I, iI_add, iI_sub, iI_mul, iI_neg, iI_lt, iI_le, iI_eq, iI_lt0, iI_le0, iI_gt0, iI_ge0, iI_eq0, p30, q30, p31, q31, iI_sub, e5]
                refine zW.go [165] rfl (by omega) trivial ?_
                rw [zcn_I, iI_add, show 2 * (sn : Int) - (tn : Int) + 1 = ((2 * sn - tn + 1 : Nat) : Int) by omega]
                refine E _ _ (by omega) (fun M' m1 m2 m3 => ?_)
                obtain ⟨I', L', R'⟩ := M'
                refine zW.gbf [] rfl rfl rfl (by omega) trivial (by simp (disch := omega) only [eq_self, not_true_eq_false, not_false_eq_true, upI_same, upL_same, upI_ne, upL_ne, iI_ixN, zI_mk, zL_mk, zP_mk, zK_mk, zN_mk, zwI_up, zwL_up, zg_some, Nat.reduceMod, Nat.reduceDiv, zcn_I, iI_add, iI_sub, iI_mul, iI_neg, iI_lt, iI_le, iI_eq, iI_lt0, iI_le0, iI_gt0, iI_ge0, iI_eq0] <;> omega) ?_
                refine zW.go [179] rfl (by omega) trivial ?_
                refine zW.gr [] rfl rfl rfl (by omega) trivial trivial ?_
                exact mP_0 hQ rfl m1 m2 m3
              · have g := Classical.byContradiction g
                rw [if_pos g, if_pos g] at hQ
                refine zW.gbt [] rfl rfl rfl (by omega) (by simp (disch := omega) only [true_or, or_true, eq_self, Option.some.injEq, Prod.mk.injEq, zall_0, zall_1, zall_2, zob_iff, zar_iff, zis_iff, zkIs_some, zkHas_some, iI_vp, z01_I, z01_bz, zch_I, true_and, and_true, or_false, false_or, and_self, upI_same, upL_same, upI_ne, upL_ne, iI_ixN, zI_mk, zL_mk, zP_mk, zK_mk, zN_mk, zwI_up, zwL_up, zg_some, Nat.reduceMod, Nat.reduceDiv, zcn_I, iI_add, iI_sub, iI_mul, iI_neg, iI_lt, iI_le, iI_eq, iI_lt0, iI_le0, iI_gt0, iI_ge0, iI_eq0, k0, p30, k30, q30, j30, p31, k31, q31, j31] <;> omega) (by simp (disch := omega) only [eq_self, not_true_eq_false, not_false_eq_true, upI_same, upL_same, upI_ne, upL_ne, iI_ixN, zI_mk, zL_mk, zP_mk, zK_mk, zN_mk, zwI_up, zwL_up, zg_some, Nat.reduceMod, Nat.reduceDiv, zcn_I, iI_add, iI_sub, iI_mul, iI_neg, iI_lt, iI_le, iI_eq, iI_lt0, iI_le0, iI_gt0, iI_ge0, iI_eq0] <;> omega) ?_
                simp (disch := omega) only [upI_same, upL_same, upI_ne, upL_ne, iI_ixN, zI_mk, zL_mk, zP_mk, zK_mk, zN_mk, zwI_up, zwL_up, zg_some, Nat.reduceMod, Nat.reduceDiv, zcn_I, iI_add, iI_sub, iI_mul, iI_neg, iI_lt, iI_le, iI_eq, iI_lt0, iI_le0, iI_gt0, iI_ge0, iI_eq0, p30, q30, p31, q31, iI_sub, e5]
                refine zW.go [165] rfl (by omega) trivial ?_
                rw [zcn_I]
                refine E 0 _ (by omega) (fun M' m1 m2 m3 => ?_)
                obtain ⟨I', L', R'⟩ := M'
                refine zW.gbt [] rfl rfl rfl (by omega) trivial (by simp (disch := omega) only [eq_self, not_true_eq_false, not_false_eq_true, upI_same, upL_same, upI_ne, upL_ne, iI_ixN, zI_mk, zL_mk, zP_mk, zK_mk, zN_mk, zwI_up, zwL_up, zg_some, Nat.reduceMod, Nat.reduceDiv, zcn_I, iI_add, iI_sub, iI_mul, iI_neg, iI_lt, iI_le, iI_eq, iI_lt0, iI_le0, iI_gt0, iI_ge0, iI_eq0] <;> omega) ?_
                refine zW.go [179] rfl (by omega) trivial ?_
                refine zW.gr [] rfl rfl rfl (by omega) trivial trivial ?_
                rw [zcn_I]
                exact mP_0 hQ rfl m1 m2 m3
            refine zW.gb [] rfl rfl rfl (by omega) trivial (fun h' => ?_) (fun h' => ?_) <;> simp (disch := omega) only [zcn_I, iI_add, iI_sub, iI_mul, iI_neg, iI_lt, iI_le, iI_eq, iI_lt0, iI_le0, iI_gt0, iI_ge0, iI_eq0] at h' ⊢
            · exact zW.go [125] rfl (by omega) trivial (H _ (tru_f (fun q => q (by split <;> omega))))
            · refine zW.gb [] rfl rfl rfl (by omega) trivial (fun h2 => ?_) (fun h2 => ?_) <;> simp (disch := omega) only [zcn_I, iI_add, iI_sub, iI_mul, iI_neg, iI_lt, iI_le, iI_eq, iI_lt0, iI_le0, iI_gt0, iI_ge0, iI_eq0] at h2
              · exact zW.go [125] rfl (by omega) trivial (H _ (tru_t (fun q => by rw [if_neg (by omega)] at q; omega)))
              · refine zW.gb [] rfl rfl rfl (by omega) trivial (fun h3 => ?_) (fun h3 => ?_) <;> simp (disch := omega) only [zcn_I, iI_add, iI_sub, iI_mul, iI_neg, iI_lt, iI_le, iI_eq, iI_lt0, iI_le0, iI_gt0, iI_ge0, iI_eq0] at h3
                · exact zW.go [125] rfl (by omega) trivial (H _ (tru_f (fun q => q (by rw [if_pos (by omega)]; omega))))
                · exact zW.go [125] rfl (by omega) trivial (H _ (tru_t (fun q => by rw [if_pos (by omega)] at q; omega)))
        have z1 : Int32.ofInt (zldI 8047) = iI 359999 := by decide +kernel
        refine zW.gz [] rfl rfl rfl (by omega) trivial trivial rfl rfl (by decide +kernel) (by decide +kernel) ?_
        refine mIn_ok (by omega) rfl (zcn_I _) (zcn_I _) h3 ⟨by omega, by omega⟩ ⟨by omega, by omega⟩ (fun q hq => ?_)
        rcases hq with ⟨g, rfl⟩ | ⟨g, rfl⟩
        · refine zW.gbf [] rfl rfl rfl (by omega) trivial (by simp (disch := omega) only [eq_self, not_true_eq_false, not_false_eq_true, upI_same, upL_same, upI_ne, upL_ne, iI_ixN, zI_mk, zL_mk, zP_mk, zK_mk, zN_mk, zwI_up, zwL_up, zg_some, Nat.reduceMod, Nat.reduceDiv, zcn_I, iI_add, iI_sub, iI_mul, iI_neg, iI_lt, iI_le, iI_eq, iI_lt0, iI_le0, iI_gt0, iI_ge0, iI_eq0] <;> omega) ?_
          refine zW.gz [] rfl rfl rfl (by omega) trivial trivial rfl rfl (by decide +kernel) (by decide +kernel) ?_
          refine mIn_ok (by omega) rfl (zcn_I _) rfl h4 ⟨by omega, by omega⟩ ⟨by omega, by omega⟩ (fun q hq => ?_)
          rcases hq with ⟨g2, rfl⟩ | ⟨g2, rfl⟩
          · refine zW.gbf [] rfl rfl rfl (by omega) trivial (by simp (disch := omega) only [eq_self, not_true_eq_false, not_false_eq_true, upI_same, upL_same, upI_ne, upL_ne, iI_ixN, zI_mk, zL_mk, zP_mk, zK_mk, zN_mk, zwI_up, zwL_up, zg_some, Nat.reduceMod, Nat.reduceDiv, zcn_I, iI_add, iI_sub, iI_mul, iI_neg, iI_lt, iI_le, iI_eq, iI_lt0, iI_le0, iI_gt0, iI_ge0, iI_eq0] <;> omega) ?_
            refine zW.gz [] rfl rfl rfl (by omega) trivial trivial rfl rfl (by decide +kernel) (by decide +kernel) ?_
            refine mIn_ok (by omega) rfl (zcn_I _) z1 h5 ⟨by omega, by omega⟩ ⟨by omega, by omega⟩ (fun q hq => ?_)
            rcases hq with ⟨g3, rfl⟩ | ⟨g3, rfl⟩
            · refine zW.gbt [] rfl rfl rfl (by omega) trivial (by simp (disch := omega) only [eq_self, not_true_eq_false, not_false_eq_true, upI_same, upL_same, upI_ne, upL_ne, iI_ixN, zI_mk, zL_mk, zP_mk, zK_mk, zN_mk, zwI_up, zwL_up, zg_some, Nat.reduceMod, Nat.reduceDiv, zcn_I, iI_add, iI_sub, iI_mul, iI_neg, iI_lt, iI_le, iI_eq, iI_lt0, iI_le0, iI_gt0, iI_ge0, iI_eq0] <;> omega) ?_
              exact zW.go [87] rfl (by omega) trivial (G _ (tru_f (fun n => n.elim (fun n => n g) (fun n => n.elim (fun n => n g2) (fun n => n g3)))))
            · refine zW.gbf [] rfl rfl rfl (by omega) trivial (by simp (disch := omega) only [eq_self, not_true_eq_false, not_false_eq_true, upI_same, upL_same, upI_ne, upL_ne, iI_ixN, zI_mk, zL_mk, zP_mk, zK_mk, zN_mk, zwI_up, zwL_up, zg_some, Nat.reduceMod, Nat.reduceDiv, zcn_I, iI_add, iI_sub, iI_mul, iI_neg, iI_lt, iI_le, iI_eq, iI_lt0, iI_le0, iI_gt0, iI_ge0, iI_eq0] <;> omega) ?_
              exact zW.go [87] rfl (by omega) trivial (G _ (tru_t (Or.inr (Or.inr g3))))
          · refine zW.gbt [] rfl rfl rfl (by omega) trivial (by simp (disch := omega) only [eq_self, not_true_eq_false, not_false_eq_true, upI_same, upL_same, upI_ne, upL_ne, iI_ixN, zI_mk, zL_mk, zP_mk, zK_mk, zN_mk, zwI_up, zwL_up, zg_some, Nat.reduceMod, Nat.reduceDiv, zcn_I, iI_add, iI_sub, iI_mul, iI_neg, iI_lt, iI_le, iI_eq, iI_lt0, iI_le0, iI_gt0, iI_ge0, iI_eq0] <;> omega) ?_
            exact zW.go [87] rfl (by omega) trivial (G _ (tru_t (Or.inr (Or.inl g2))))
        · refine zW.gbt [] rfl rfl rfl (by omega) trivial (by simp (disch := omega) only [eq_self, not_true_eq_false, not_false_eq_true, upI_same, upL_same, upI_ne, upL_ne, iI_ixN, zI_mk, zL_mk, zP_mk, zK_mk, zN_mk, zwI_up, zwL_up, zg_some, Nat.reduceMod, Nat.reduceDiv, zcn_I, iI_add, iI_sub, iI_mul, iI_neg, iI_lt, iI_le, iI_eq, iI_lt0, iI_le0, iI_gt0, iI_ge0, iI_eq0] <;> omega) ?_
          exact zW.go [87] rfl (by omega) trivial (G _ (tru_t (Or.inl g)))
    refine zW.gb [] rfl rfl rfl (by omega) (by simp (disch := omega) only [true_or, or_true, eq_self, Option.some.injEq, Prod.mk.injEq, zall_0, zall_1, zall_2, zob_iff, zar_iff, zis_iff, zkIs_some, zkHas_some, iI_vp, z01_I, z01_bz, zch_I, true_and, and_true, or_false, false_or, and_self, upI_same, upL_same, upI_ne, upL_ne, iI_ixN, zI_mk, zL_mk, zP_mk, zK_mk, zN_mk, zwI_up, zwL_up, zg_some, Nat.reduceMod, Nat.reduceDiv, zcn_I, iI_add, iI_sub, iI_mul, iI_neg, iI_lt, iI_le, iI_eq, iI_lt0, iI_le0, iI_gt0, iI_ge0, iI_eq0, k0, p20, k20] <;> omega) (fun h' => ?_) (fun h' => ?_) <;> simp (disch := omega) only [zcn_I, iI_add, iI_sub, iI_mul, iI_neg, iI_lt, iI_le, iI_eq, iI_lt0, iI_le0, iI_gt0, iI_ge0, iI_eq0, upI_same, upL_same, upI_ne, upL_ne, iI_ixN, zI_mk, zL_mk, zP_mk, zK_mk, zN_mk, zwI_up, zwL_up, zg_some, Nat.reduceMod, Nat.reduceDiv, p20, r1] at h'
    · exact zW.go [40] rfl (by omega) trivial (F _ (tru_t (fun n => by omega)))
    · refine zW.gz [] rfl rfl rfl (by omega) trivial ⟨_, rfl, k0⟩ rfl rfl (by decide +kernel) (by decide +kernel) ?_
      refine mMay_ok (by omega) (mf_scr h th_scr) hj (by omega) rfl rfl (fun q hq => ?_)
      rcases hq with ⟨g, rfl⟩ | ⟨g, rfl⟩
      · refine zW.gbt [] rfl rfl rfl (by omega) trivial (by simp (disch := omega) only [eq_self, not_true_eq_false, not_false_eq_true, upI_same, upL_same, upI_ne, upL_ne, iI_ixN, zI_mk, zL_mk, zP_mk, zK_mk, zN_mk, zwI_up, zwL_up, zg_some, Nat.reduceMod, Nat.reduceDiv, zcn_I, iI_add, iI_sub, iI_mul, iI_neg, iI_lt, iI_le, iI_eq, iI_lt0, iI_le0, iI_gt0, iI_ge0, iI_eq0] <;> omega) ?_
        exact zW.go [40] rfl (by omega) trivial (F _ (tru_f (fun n => n ⟨by omega, g⟩)))
      · refine zW.gbf [] rfl rfl rfl (by omega) trivial (by simp (disch := omega) only [eq_self, not_true_eq_false, not_false_eq_true, upI_same, upL_same, upI_ne, upL_ne, iI_ixN, zI_mk, zL_mk, zP_mk, zK_mk, zN_mk, zwI_up, zwL_up, zg_some, Nat.reduceMod, Nat.reduceDiv, zcn_I, iI_add, iI_sub, iI_mul, iI_neg, iI_lt, iI_le, iI_eq, iI_lt0, iI_le0, iI_gt0, iI_ge0, iI_eq0] <;> omega) ?_
        exact zW.go [40] rfl (by omega) trivial (F _ (tru_t (fun n => g n.2)))
end MTEL2
