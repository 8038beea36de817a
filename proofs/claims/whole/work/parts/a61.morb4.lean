/-! The model's orbits, whole. -/
section MORB4
variable {d y : Nat} {T : tfT} {I : Nat → Nat → Int32} {L : Nat → Nat → Int64} {R : zRt} {Q : zO → zM → Prop}
theorem mOrbs_ok {p : Int} {a : Int32} (hd : 6 ≤ d) (h : mf y T (I, L, R)) (e1 : a = iI p) (h1 : i32 p) (hQ : mP y (I, L, R) (oOrbs T p) eI Q) : zS 192 d [zr (some y), zi a] (I, L, R) Q := by
  subst e1
  have hM := h.2.1
  have k0 : R.2.1 y = some (7, 0) := hM.1
  refine zW.gz [] rfl rfl rfl (by omega) trivial ⟨_, rfl, k0⟩ rfl rfl (by decide +kernel) (by decide +kernel) ?_
  refine noPz_ok (by omega) h rfl h1 (fun q hq => ?_)
  refine zW.gz [] rfl rfl rfl (by omega) trivial ⟨_, rfl, k0⟩ rfl rfl (by decide +kernel) (by decide +kernel) ?_
  refine mThr_ok (k := 1) (by omega) k0 hq (zcn_I _) (fun hb => ?_) (fun hg => ?_)
  · refine zW.gbf [] rfl rfl rfl (by omega) trivial (by simp (disch := omega) only [eq_self, not_true_eq_false, not_false_eq_true, upI_same, upL_same, upI_ne, upL_ne, iI_ixN, zI_mk, zL_mk, zP_mk, zK_mk, zN_mk, zwI_up, zwL_up, zg_some, Nat.reduceMod, Nat.reduceDiv, zcn_I, iI_add, iI_sub, iI_mul, iI_neg, iI_lt, iI_le, iI_eq, iI_lt0, iI_le0, iI_gt0, iI_ge0, iI_eq0] <;> omega) ?_
    refine zW.gr [] rfl rfl rfl (by omega) trivial trivial ?_; rw [zcn_I]
    refine mP_t hQ (c := 0) (v := 0) ?_ (mf_scr h th_scr) (mgr_o (scr_o th_scr)) (upI_same _ _ _ _) 0
    exact onP_no hb
  · obtain ⟨i, rfl, hi, e⟩ := onP_yes hg
    unfold oOrbs at hQ
    rw [e] at hQ
    have hm : mf y T (upI I y 41 (iI 0), L, R) := mf_scr h th_scr
    have hN : y + 1941 ≤ R.2.2 := h.2.2.1
    refine zW.gbt [] rfl rfl rfl (by omega) trivial (by simp (disch := omega) only [eq_self, not_true_eq_false, not_false_eq_true, upI_same, upL_same, upI_ne, upL_ne, iI_ixN, zI_mk, zL_mk, zP_mk, zK_mk, zN_mk, zwI_up, zwL_up, zg_some, Nat.reduceMod, Nat.reduceDiv, zcn_I, iI_add, iI_sub, iI_mul, iI_neg, iI_lt, iI_le, iI_eq, iI_lt0, iI_le0, iI_gt0, iI_ge0, iI_eq0] <;> omega) ?_
    refine zW.gm [] rfl rfl rfl (by omega) trivial ⟨show ¬ zcn 10 < 0 by decide, show (zcn 10).toNatClampNeg < 1000000 by decide⟩ (by decide +kernel) (by decide +kernel) (fun _ => ?_)
    simp (disch := omega) only [upI_same, upL_same, upI_ne, upL_ne, iI_ixN, zI_mk, zL_mk, zP_mk, zK_mk, zN_mk, zwI_up, zwL_up, zg_some, Nat.reduceMod, Nat.reduceDiv, znew_up, show (zcn 10).toNatClampNeg = 10 from by decide +kernel]
    obtain ⟨n, hn⟩ : ∃ n, R.2.2 = n := ⟨_, rfl⟩
    rw [hn] at hN
    rw [hn]
    have kb : (nwR R n 20 10).2.1 n = some (20, 10) := nwR_Ks rfl
    have r2 : ∀ a, a < n → (nwR R n 20 10).2.1 a = R.2.1 a := fun a q => nwR_Ko (by omega)
    have m0 : mf y T (upI I y 41 (iI 0), L, nwR R n 20 10) := mf_fr hm (fun a q1 q2 => ⟨rfl, rfl, rfl, r2 a (by omega)⟩) (by show R.2.2 ≤ n + 1; omega)
    have hM' := m0.2.1
    obtain ⟨h4, hz, w1, w2, w3, w4, w5⟩ := m_pz m0 hi
    refine zW.go [22] rfl (by omega) trivial ?_
    refine ob_id (I := upI I y 41 (iI 0)) (by omega) kb (fun I1 x f1 f2 => ?_) 10 0 (by omega) _ _ (fun _ _ => rfl) (fun p q => absurd q (Nat.not_lt_zero p)) (zcn_I _)
    refine zW.go [40] rfl (by omega) trivial ?_
    refine ob_rd (I := upI I y 41 (iI 0)) (by omega) hM' h4 hz kb hN w1 w2 w3 (fun I2 l u v g1 g2 g3 g4 => ?_) 10 0 (by omega) I1 (fun p => p) _ _ _ f1 f2 (fun p _ => ⟨Nat.le_refl _, orbR_rf (zG_is hz) p⟩) (lbP_0 _) (zcn_I _)
    refine zW.go [124] rfl (by omega) trivial ?_
    have w1' : I2 (y + 2) i = iI (pzN (tPz T i) : Int) := by rw [g1 _ (by omega)]; exact w1
    refine ob_lp (G := zG (pzR (tPz T i)) (pzT (tPz T i))) (by omega) hM' h4 hz.2.1 (zG_is hz) (fun g q => zG_pmn hz q) kb w1' g2 g3 g4 ?_ (pzN (tPz T i)) 0 (Nat.zero_add _) _ _ _ _ (zcn_I _) (zcn_I _)
    have m2 : mf y T (I2, L, nwR R n 20 10) := mf_fr m0 (fun a q1 q2 => ⟨g1 a (by omega), rfl, rfl, rfl⟩) (Nat.le_refl _)
    refine mP_0 hQ rfl m2 ⟨fun a q1 q2 => ⟨?_, rfl, rfl, r2 a (by have : a < R.2.2 := q1; omega)⟩, by show R.2.2 ≤ n + 1; omega⟩ ?_
    · have q1 : a < R.2.2 := q1
      show I2 a = I a
      rw [g1 a (by omega), upI_row (by omega)]
    · show I2 y 41 = iI 0
      rw [g1 y (by omega)]
      exact upI_same _ _ _ _
end MORB4
