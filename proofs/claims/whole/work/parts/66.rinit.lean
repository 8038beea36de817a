/-! A round is made. -/
def wNew (fm li cu : Nat) : zRd := ((fm, li, cu), (fun _ => 0), (fun _ _ => 0), (fun _ => 0), (fun _ => false), (fun _ => 0), (fun _ => 0), false, false, 0)
theorem wNew_OK {fm li cu : Nat} (h : fm = 53 ∨ fm = 51 ∨ fm = 98 ∨ fm = 102 ∨ fm = 109) (h1 : li ≤ 999999) (h2 : cu ≤ 59999) : rOK (wNew fm li cu) := ⟨h, h1, h2, Nat.zero_le _, fun c _ => ⟨Nat.zero_le _, fun k hk => absurd hk (Nat.not_lt_zero k), Nat.zero_le _, Nat.zero_le _, Nat.zero_le _, fun q => by cases q⟩⟩
theorem RLy_cg {b : Nat} {R R' : zRt} (h : ∀ a, b ≤ a → a < b + 19 → R'.2.1 a = R.2.1 a ∧ R'.1 a = R.1 a) (hG : RLy b R) : RLy b R' := by
  obtain ⟨k0, p3, p4, p5, p6, p7, p8, k1, k14, k15, k16, k17, k18, krow⟩ := hG
  have e0 := h b (by omega) (by omega)
  refine ⟨by rw [e0.1]; exact k0, by rw [e0.2]; exact p3, by rw [e0.2]; exact p4, by rw [e0.2]; exact p5, by rw [e0.2]; exact p6, by rw [e0.2]; exact p7, by rw [e0.2]; exact p8, ?_, ?_, ?_, ?_, ?_, ?_, fun i hi => ⟨?_, ?_⟩⟩
  · rw [(h _ (by omega) (by omega)).1]
    exact k1
  · rw [(h _ (by omega) (by omega)).1]
    exact k14
  · rw [(h _ (by omega) (by omega)).1]
    exact k15
  · rw [(h _ (by omega) (by omega)).1]
    exact k16
  · rw [(h _ (by omega) (by omega)).1]
    exact k17
  · rw [(h _ (by omega) (by omega)).1]
    exact k18
  · rw [(h _ (by omega) (by omega)).2]
    exact (krow i hi).1
  · rw [(h _ (by omega) (by omega)).1]
    exact (krow i hi).2
section RINIT
variable {d b fm li cu : Nat} {I : Nat → Nat → Int32} {L : Nat → Nat → Int64} {R : zRt} {Q : zO → zM → Prop}
theorem rinit_ok {x y z : Int32} (hd : 2 ≤ d) (hN : R.2.2 = b + 1) (hK : R.2.1 b = some (3, 0)) (hI : I b = fun _ => 0) (e1 : x = iI (fm : Int)) (e2 : y = iI (li : Int)) (e3 : z = iI (cu : Int)) (hfm : fm < 65536)
    (hQ : ∀ I' R', rfr b I I' → zol b R R' → R'.2.2 = b + 19 → RLy b R' → rPR b I' (wNew fm li cu) → Q (.inl none) (I', L, R')) : zS 42 d [zr (some b), zi x, zi y, zi z] (I, L, R) Q := by
  subst e1; subst e2; subst e3
  refine zW.go [4] rfl (by omega) ?_ ?_
  · exact ⟨_, rfl⟩
  refine zW.gm [] rfl rfl rfl (by omega) ?_ ?_ (by decide +kernel) (by decide +kernel) (fun f1 => ?_)
  · refine ⟨⟨_, rfl, hK⟩, ⟨_, rfl, hK⟩, ⟨_, rfl, hK⟩, ?_⟩
    exact (zch_I (by omega) (by omega)).mpr (by omega)
  · exact ⟨show ¬ zcn 12 < 0 by decide, show (zcn 12).toNatClampNeg ≤ 1000 by decide, show ¬ zcn 5 < 0 by decide, show (zcn 5).toNatClampNeg ≤ 1000 by decide⟩
  have l12 : (zcn 12).toNatClampNeg = 12 := by decide
  have l5 : (zcn 5).toNatClampNeg = 5 := by decide
  simp (disch := omega) only [Nat.add_assoc, iI_ix, Int.toNat_natCast, Int.reduceToNat, Nat.reduceAdd, znew_up, zwP_up, nwR_P, nwR_N, nwR_Ks, nwR_Ko, pwR_R, pwR_s, pwR_o, upI_same, upL_same, upI_ne, upL_ne, iI_ixN, zI_mk, zL_mk, zP_mk, zK_mk, zN_mk, zwI_up, zwL_up, zg_some, Nat.reduceMod, Nat.reduceDiv, zcn_I, hN]
  obtain ⟨R2, u1, u2, u3, u4, u5, u6⟩ := zma2_R (upI (upI (upI I b 0 (iI (fm : Int))) b 1 (iI (li : Int))) b 2 (iI (cu : Int))) L R 5 0 12 5
  rw [u1]
  simp only [Nat.add_assoc, iI_ix, Int.toNat_natCast, Int.reduceToNat, Nat.reduceAdd, znew_up, zwP_up, nwR_P, nwR_N, nwR_Ks, nwR_Ko, pwR_R, pwR_s, pwR_o, hN] at u2 u3 u4 u5 u6
  have hK2 : R2.2.1 b = some (3, 0) := by
    rw [u6 b (by omega)]
    exact hK
  refine zW.gm [] rfl rfl rfl (by omega) ?_ ⟨show ¬ zcn 12 < 0 by decide, show (zcn 12).toNatClampNeg < 1000000 by decide⟩ (by decide +kernel) (by decide +kernel) (fun f2 => ?_)
  · exact ⟨⟨_, rfl, by simp (disch := omega) only [Nat.add_assoc, iI_ix, Int.toNat_natCast, Int.reduceToNat, Nat.reduceAdd, znew_up, zwP_up, nwR_P, nwR_N, nwR_Ks, nwR_Ko, pwR_R, pwR_s, pwR_o, upI_same, upL_same, upI_ne, upL_ne, iI_ixN, zI_mk, zL_mk, zP_mk, zK_mk, zN_mk, zwI_up, zwL_up, zg_some, Nat.reduceMod, Nat.reduceDiv, zcn_I, hK2]⟩, Or.inr ⟨_, rfl⟩⟩
  simp (disch := omega) only [Nat.add_assoc, iI_ix, Int.toNat_natCast, Int.reduceToNat, Nat.reduceAdd, znew_up, zwP_up, nwR_P, nwR_N, nwR_Ks, nwR_Ko, pwR_R, pwR_s, pwR_o, upI_same, upL_same, upI_ne, upL_ne, iI_ixN, zI_mk, zL_mk, zP_mk, zK_mk, zN_mk, zwI_up, zwL_up, zg_some, Nat.reduceMod, Nat.reduceDiv, zcn_I, u2] at f2
  simp (disch := omega) only [Nat.add_assoc, iI_ix, Int.toNat_natCast, Int.reduceToNat, Nat.reduceAdd, znew_up, zwP_up, nwR_P, nwR_N, nwR_Ks, nwR_Ko, pwR_R, pwR_s, pwR_o, upI_same, upL_same, upI_ne, upL_ne, iI_ixN, zI_mk, zL_mk, zP_mk, zK_mk, zN_mk, zwI_up, zwL_up, zg_some, Nat.reduceMod, Nat.reduceDiv, zcn_I, u2]
  refine zW.gm [] rfl rfl rfl (by omega) ?_ ⟨show ¬ zcn 12 < 0 by decide, show (zcn 12).toNatClampNeg < 1000000 by decide⟩ (by decide +kernel) (by decide +kernel) (fun f3 => ?_)
  · exact ⟨⟨_, rfl, by simp (disch := omega) only [Nat.add_assoc, iI_ix, Int.toNat_natCast, Int.reduceToNat, Nat.reduceAdd, znew_up, zwP_up, nwR_P, nwR_N, nwR_Ks, nwR_Ko, pwR_R, pwR_s, pwR_o, upI_same, upL_same, upI_ne, upL_ne, iI_ixN, zI_mk, zL_mk, zP_mk, zK_mk, zN_mk, zwI_up, zwL_up, zg_some, Nat.reduceMod, Nat.reduceDiv, zcn_I, hK2]⟩, Or.inr ⟨_, rfl⟩⟩
  simp (disch := omega) only [Nat.add_assoc, iI_ix, Int.toNat_natCast, Int.reduceToNat, Nat.reduceAdd, znew_up, zwP_up, nwR_P, nwR_N, nwR_Ks, nwR_Ko, pwR_R, pwR_s, pwR_o, upI_same, upL_same, upI_ne, upL_ne, iI_ixN, zI_mk, zL_mk, zP_mk, zK_mk, zN_mk, zwI_up, zwL_up, zg_some, Nat.reduceMod, Nat.reduceDiv, zcn_I, u2] at f3
  simp (disch := omega) only [Nat.add_assoc, iI_ix, Int.toNat_natCast, Int.reduceToNat, Nat.reduceAdd, znew_up, zwP_up, nwR_P, nwR_N, nwR_Ks, nwR_Ko, pwR_R, pwR_s, pwR_o, upI_same, upL_same, upI_ne, upL_ne, iI_ixN, zI_mk, zL_mk, zP_mk, zK_mk, zN_mk, zwI_up, zwL_up, zg_some, Nat.reduceMod, Nat.reduceDiv, zcn_I, u2]
  refine zW.gm [] rfl rfl rfl (by omega) ?_ ⟨show ¬ zcn 12 < 0 by decide, show (zcn 12).toNatClampNeg < 1000000 by decide⟩ (by decide +kernel) (by decide +kernel) (fun f4 => ?_)
  · exact ⟨⟨_, rfl, by simp (disch := omega) only [Nat.add_assoc, iI_ix, Int.toNat_natCast, Int.reduceToNat, Nat.reduceAdd, znew_up, zwP_up, nwR_P, nwR_N, nwR_Ks, nwR_Ko, pwR_R, pwR_s, pwR_o, upI_same, upL_same, upI_ne, upL_ne, iI_ixN, zI_mk, zL_mk, zP_mk, zK_mk, zN_mk, zwI_up, zwL_up, zg_some, Nat.reduceMod, Nat.reduceDiv, zcn_I, hK2]⟩, Or.inr ⟨_, rfl⟩⟩
  simp (disch := omega) only [Nat.add_assoc, iI_ix, Int.toNat_natCast, Int.reduceToNat, Nat.reduceAdd, znew_up, zwP_up, nwR_P, nwR_N, nwR_Ks, nwR_Ko, pwR_R, pwR_s, pwR_o, upI_same, upL_same, upI_ne, upL_ne, iI_ixN, zI_mk, zL_mk, zP_mk, zK_mk, zN_mk, zwI_up, zwL_up, zg_some, Nat.reduceMod, Nat.reduceDiv, zcn_I, u2] at f4
  simp (disch := omega) only [Nat.add_assoc, iI_ix, Int.toNat_natCast, Int.reduceToNat, Nat.reduceAdd, znew_up, zwP_up, nwR_P, nwR_N, nwR_Ks, nwR_Ko, pwR_R, pwR_s, pwR_o, upI_same, upL_same, upI_ne, upL_ne, iI_ixN, zI_mk, zL_mk, zP_mk, zK_mk, zN_mk, zwI_up, zwL_up, zg_some, Nat.reduceMod, Nat.reduceDiv, zcn_I, u2]
  refine zW.gm [] rfl rfl rfl (by omega) ?_ ⟨show ¬ zcn 12 < 0 by decide, show (zcn 12).toNatClampNeg < 1000000 by decide⟩ (by decide +kernel) (by decide +kernel) (fun f5 => ?_)
  · exact ⟨⟨_, rfl, by simp (disch := omega) only [Nat.add_assoc, iI_ix, Int.toNat_natCast, Int.reduceToNat, Nat.reduceAdd, znew_up, zwP_up, nwR_P, nwR_N, nwR_Ks, nwR_Ko, pwR_R, pwR_s, pwR_o, upI_same, upL_same, upI_ne, upL_ne, iI_ixN, zI_mk, zL_mk, zP_mk, zK_mk, zN_mk, zwI_up, zwL_up, zg_some, Nat.reduceMod, Nat.reduceDiv, zcn_I, hK2]⟩, Or.inr ⟨_, rfl⟩⟩
  simp (disch := omega) only [Nat.add_assoc, iI_ix, Int.toNat_natCast, Int.reduceToNat, Nat.reduceAdd, znew_up, zwP_up, nwR_P, nwR_N, nwR_Ks, nwR_Ko, pwR_R, pwR_s, pwR_o, upI_same, upL_same, upI_ne, upL_ne, iI_ixN, zI_mk, zL_mk, zP_mk, zK_mk, zN_mk, zwI_up, zwL_up, zg_some, Nat.reduceMod, Nat.reduceDiv, zcn_I, u2] at f5
  simp (disch := omega) only [Nat.add_assoc, iI_ix, Int.toNat_natCast, Int.reduceToNat, Nat.reduceAdd, znew_up, zwP_up, nwR_P, nwR_N, nwR_Ks, nwR_Ko, pwR_R, pwR_s, pwR_o, upI_same, upL_same, upI_ne, upL_ne, iI_ixN, zI_mk, zL_mk, zP_mk, zK_mk, zN_mk, zwI_up, zwL_up, zg_some, Nat.reduceMod, Nat.reduceDiv, zcn_I, u2]
  refine zW.gm [] rfl rfl rfl (by omega) ?_ ⟨show ¬ zcn 12 < 0 by decide, show (zcn 12).toNatClampNeg < 1000000 by decide⟩ (by decide +kernel) (by decide +kernel) (fun f6 => ?_)
  · exact ⟨⟨_, rfl, by simp (disch := omega) only [Nat.add_assoc, iI_ix, Int.toNat_natCast, Int.reduceToNat, Nat.reduceAdd, znew_up, zwP_up, nwR_P, nwR_N, nwR_Ks, nwR_Ko, pwR_R, pwR_s, pwR_o, upI_same, upL_same, upI_ne, upL_ne, iI_ixN, zI_mk, zL_mk, zP_mk, zK_mk, zN_mk, zwI_up, zwL_up, zg_some, Nat.reduceMod, Nat.reduceDiv, zcn_I, hK2]⟩, Or.inr ⟨_, rfl⟩⟩
  simp (disch := omega) only [Nat.add_assoc, iI_ix, Int.toNat_natCast, Int.reduceToNat, Nat.reduceAdd, znew_up, zwP_up, nwR_P, nwR_N, nwR_Ks, nwR_Ko, pwR_R, pwR_s, pwR_o, upI_same, upL_same, upI_ne, upL_ne, iI_ixN, zI_mk, zL_mk, zP_mk, zK_mk, zN_mk, zwI_up, zwL_up, zg_some, Nat.reduceMod, Nat.reduceDiv, zcn_I, u2] at f6
  simp (disch := omega) only [Nat.add_assoc, iI_ix, Int.toNat_natCast, Int.reduceToNat, Nat.reduceAdd, znew_up, zwP_up, nwR_P, nwR_N, nwR_Ks, nwR_Ko, pwR_R, pwR_s, pwR_o, upI_same, upL_same, upI_ne, upL_ne, iI_ixN, zI_mk, zL_mk, zP_mk, zK_mk, zN_mk, zwI_up, zwL_up, zg_some, Nat.reduceMod, Nat.reduceDiv, zcn_I, u2]
  refine zW.gr [] rfl rfl rfl (by omega) ?_ trivial ?_
  · exact ⟨⟨_, rfl, by simp (disch := omega) only [Nat.add_assoc, iI_ix, Int.toNat_natCast, Int.reduceToNat, Nat.reduceAdd, znew_up, zwP_up, nwR_P, nwR_N, nwR_Ks, nwR_Ko, pwR_R, pwR_s, pwR_o, upI_same, upL_same, upI_ne, upL_ne, iI_ixN, zI_mk, zL_mk, zP_mk, zK_mk, zN_mk, zwI_up, zwL_up, zg_some, Nat.reduceMod, Nat.reduceDiv, zcn_I, hK2]⟩, Or.inr ⟨_, rfl⟩⟩
  simp (disch := omega) only [Nat.add_assoc, iI_ix, Int.toNat_natCast, Int.reduceToNat, Nat.reduceAdd, znew_up, zwP_up, nwR_P, nwR_N, nwR_Ks, nwR_Ko, pwR_R, pwR_s, pwR_o, upI_same, upL_same, upI_ne, upL_ne, iI_ixN, zI_mk, zL_mk, zP_mk, zK_mk, zN_mk, zwI_up, zwL_up, zg_some, Nat.reduceMod, Nat.reduceDiv, zcn_I, u2]
  have i2 := fresh_I f2
  have i3 := fresh_I f3
  have i4 := fresh_I f4
  have i5 := fresh_I f5
  have i6 := fresh_I f6
  have hb3 : ∀ j, 3 ≤ j → (upI (upI (upI I b 0 (iI (fm : Int))) b 1 (iI (li : Int))) b 2 (iI (cu : Int))) b j = iI 0 := fun j hj => by
    rw [upI_ne (by omega), upI_ne (by omega), upI_ne (by omega), hI]
    exact iI_0.symm
  refine hQ _ _ (fun a q => ?_) (fun a ha => ⟨?_, ?_⟩) ?_ ⟨?_, ?_, ?_, ?_, ?_, ?_, ?_, ?_, ?_, ?_, ?_, ?_, ?_, fun i hi => ⟨?_, ?_⟩⟩ ⟨?_, ?_, ?_, hb3 9 (by decide), hb3 10 (by decide), hb3 11 (by decide), fun c hc => ⟨?_, ?_, ?_, ?_, ?_, fun k hk => absurd hk (Nat.not_lt_zero k)⟩⟩
  · rw [upI_row (by omega), upI_row (by omega), upI_row (by omega)]
  · rw [pwR_row (by omega), nwR_P, pwR_row (by omega), nwR_P, pwR_row (by omega), nwR_P, pwR_row (by omega), nwR_P, pwR_row (by omega), nwR_P, pwR_row (by omega)]
    exact u5 a (by omega)
  · simp (disch := omega) only [Nat.add_assoc, iI_ix, Int.toNat_natCast, Int.reduceToNat, Nat.reduceAdd, znew_up, zwP_up, nwR_P, nwR_N, nwR_Ks, nwR_Ko, pwR_R, pwR_s, pwR_o, upI_same, upL_same, upI_ne, upL_ne, iI_ixN, zI_mk, zL_mk, zP_mk, zK_mk, zN_mk, zwI_up, zwL_up, zg_some, Nat.reduceMod, Nat.reduceDiv, zcn_I]
    exact u6 a (by omega)
  · simp (disch := omega) only [Nat.add_assoc, iI_ix, Int.toNat_natCast, Int.reduceToNat, Nat.reduceAdd, znew_up, zwP_up, nwR_P, nwR_N, nwR_Ks, nwR_Ko, pwR_R, pwR_s, pwR_o, upI_same, upL_same, upI_ne, upL_ne, iI_ixN, zI_mk, zL_mk, zP_mk, zK_mk, zN_mk, zwI_up, zwL_up, zg_some, Nat.reduceMod, Nat.reduceDiv, zcn_I]
  · simp (disch := omega) only [Nat.add_assoc, iI_ix, Int.toNat_natCast, Int.reduceToNat, Nat.reduceAdd, znew_up, zwP_up, nwR_P, nwR_N, nwR_Ks, nwR_Ko, pwR_R, pwR_s, pwR_o, upI_same, upL_same, upI_ne, upL_ne, iI_ixN, zI_mk, zL_mk, zP_mk, zK_mk, zN_mk, zwI_up, zwL_up, zg_some, Nat.reduceMod, Nat.reduceDiv, zcn_I]
    exact hK2
  · simp (disch := omega) only [Nat.add_assoc, iI_ix, Int.toNat_natCast, Int.reduceToNat, Nat.reduceAdd, znew_up, zwP_up, nwR_P, nwR_N, nwR_Ks, nwR_Ko, pwR_R, pwR_s, pwR_o, upI_same, upL_same, upI_ne, upL_ne, iI_ixN, zI_mk, zL_mk, zP_mk, zK_mk, zN_mk, zwI_up, zwL_up, zg_some, Nat.reduceMod, Nat.reduceDiv, zcn_I]
  · simp (disch := omega) only [Nat.add_assoc, iI_ix, Int.toNat_natCast, Int.reduceToNat, Nat.reduceAdd, znew_up, zwP_up, nwR_P, nwR_N, nwR_Ks, nwR_Ko, pwR_R, pwR_s, pwR_o, upI_same, upL_same, upI_ne, upL_ne, iI_ixN, zI_mk, zL_mk, zP_mk, zK_mk, zN_mk, zwI_up, zwL_up, zg_some, Nat.reduceMod, Nat.reduceDiv, zcn_I]
  · simp (disch := omega) only [Nat.add_assoc, iI_ix, Int.toNat_natCast, Int.reduceToNat, Nat.reduceAdd, znew_up, zwP_up, nwR_P, nwR_N, nwR_Ks, nwR_Ko, pwR_R, pwR_s, pwR_o, upI_same, upL_same, upI_ne, upL_ne, iI_ixN, zI_mk, zL_mk, zP_mk, zK_mk, zN_mk, zwI_up, zwL_up, zg_some, Nat.reduceMod, Nat.reduceDiv, zcn_I]
  · simp (disch := omega) only [Nat.add_assoc, iI_ix, Int.toNat_natCast, Int.reduceToNat, Nat.reduceAdd, znew_up, zwP_up, nwR_P, nwR_N, nwR_Ks, nwR_Ko, pwR_R, pwR_s, pwR_o, upI_same, upL_same, upI_ne, upL_ne, iI_ixN, zI_mk, zL_mk, zP_mk, zK_mk, zN_mk, zwI_up, zwL_up, zg_some, Nat.reduceMod, Nat.reduceDiv, zcn_I]
  · simp (disch := omega) only [Nat.add_assoc, iI_ix, Int.toNat_natCast, Int.reduceToNat, Nat.reduceAdd, znew_up, zwP_up, nwR_P, nwR_N, nwR_Ks, nwR_Ko, pwR_R, pwR_s, pwR_o, upI_same, upL_same, upI_ne, upL_ne, iI_ixN, zI_mk, zL_mk, zP_mk, zK_mk, zN_mk, zwI_up, zwL_up, zg_some, Nat.reduceMod, Nat.reduceDiv, zcn_I]
  · simp (disch := omega) only [Nat.add_assoc, iI_ix, Int.toNat_natCast, Int.reduceToNat, Nat.reduceAdd, znew_up, zwP_up, nwR_P, nwR_N, nwR_Ks, nwR_Ko, pwR_R, pwR_s, pwR_o, upI_same, upL_same, upI_ne, upL_ne, iI_ixN, zI_mk, zL_mk, zP_mk, zK_mk, zN_mk, zwI_up, zwL_up, zg_some, Nat.reduceMod, Nat.reduceDiv, zcn_I]
  · simp (disch := omega) only [Nat.add_assoc, iI_ix, Int.toNat_natCast, Int.reduceToNat, Nat.reduceAdd, znew_up, zwP_up, nwR_P, nwR_N, nwR_Ks, nwR_Ko, pwR_R, pwR_s, pwR_o, upI_same, upL_same, upI_ne, upL_ne, iI_ixN, zI_mk, zL_mk, zP_mk, zK_mk, zN_mk, zwI_up, zwL_up, zg_some, Nat.reduceMod, Nat.reduceDiv, zcn_I]
    exact u3
  · simp (disch := omega) only [Nat.add_assoc, iI_ix, Int.toNat_natCast, Int.reduceToNat, Nat.reduceAdd, znew_up, zwP_up, nwR_P, nwR_N, nwR_Ks, nwR_Ko, pwR_R, pwR_s, pwR_o, upI_same, upL_same, upI_ne, upL_ne, iI_ixN, zI_mk, zL_mk, zP_mk, zK_mk, zN_mk, zwI_up, zwL_up, zg_some, Nat.reduceMod, Nat.reduceDiv, zcn_I]
  · simp (disch := omega) only [Nat.add_assoc, iI_ix, Int.toNat_natCast, Int.reduceToNat, Nat.reduceAdd, znew_up, zwP_up, nwR_P, nwR_N, nwR_Ks, nwR_Ko, pwR_R, pwR_s, pwR_o, upI_same, upL_same, upI_ne, upL_ne, iI_ixN, zI_mk, zL_mk, zP_mk, zK_mk, zN_mk, zwI_up, zwL_up, zg_some, Nat.reduceMod, Nat.reduceDiv, zcn_I]
  · simp (disch := omega) only [Nat.add_assoc, iI_ix, Int.toNat_natCast, Int.reduceToNat, Nat.reduceAdd, znew_up, zwP_up, nwR_P, nwR_N, nwR_Ks, nwR_Ko, pwR_R, pwR_s, pwR_o, upI_same, upL_same, upI_ne, upL_ne, iI_ixN, zI_mk, zL_mk, zP_mk, zK_mk, zN_mk, zwI_up, zwL_up, zg_some, Nat.reduceMod, Nat.reduceDiv, zcn_I]
  · simp (disch := omega) only [Nat.add_assoc, iI_ix, Int.toNat_natCast, Int.reduceToNat, Nat.reduceAdd, znew_up, zwP_up, nwR_P, nwR_N, nwR_Ks, nwR_Ko, pwR_R, pwR_s, pwR_o, upI_same, upL_same, upI_ne, upL_ne, iI_ixN, zI_mk, zL_mk, zP_mk, zK_mk, zN_mk, zwI_up, zwL_up, zg_some, Nat.reduceMod, Nat.reduceDiv, zcn_I]
  · simp (disch := omega) only [Nat.add_assoc, iI_ix, Int.toNat_natCast, Int.reduceToNat, Nat.reduceAdd, znew_up, zwP_up, nwR_P, nwR_N, nwR_Ks, nwR_Ko, pwR_R, pwR_s, pwR_o, upI_same, upL_same, upI_ne, upL_ne, iI_ixN, zI_mk, zL_mk, zP_mk, zK_mk, zN_mk, zwI_up, zwL_up, zg_some, Nat.reduceMod, Nat.reduceDiv, zcn_I]
  · rw [pwR_row (by omega), nwR_P, pwR_row (by omega), nwR_P, pwR_row (by omega), nwR_P, pwR_row (by omega), nwR_P, pwR_row (by omega), nwR_P, pwR_row (by omega)]
    rw [(u4 i hi).2]
    congr 1
    omega
  · simp (disch := omega) only [Nat.add_assoc, iI_ix, Int.toNat_natCast, Int.reduceToNat, Nat.reduceAdd, znew_up, zwP_up, nwR_P, nwR_N, nwR_Ks, nwR_Ko, pwR_R, pwR_s, pwR_o, upI_same, upL_same, upI_ne, upL_ne, iI_ixN, zI_mk, zL_mk, zP_mk, zK_mk, zN_mk, zwI_up, zwL_up, zg_some, Nat.reduceMod, Nat.reduceDiv, zcn_I]
    exact (u4 i hi).1
  · simp (disch := omega) only [upI_same, upL_same, upI_ne, upL_ne, iI_ixN, zI_mk, zL_mk, zP_mk, zK_mk, zN_mk, zwI_up, zwL_up, zg_some, Nat.reduceMod, Nat.reduceDiv, zcn_I, iI_add, iI_sub, iI_mul, iI_neg, iI_lt, iI_le, iI_eq, iI_lt0, iI_le0, iI_gt0, iI_ge0, iI_eq0]
    rfl
  · simp (disch := omega) only [upI_same, upL_same, upI_ne, upL_ne, iI_ixN, zI_mk, zL_mk, zP_mk, zK_mk, zN_mk, zwI_up, zwL_up, zg_some, Nat.reduceMod, Nat.reduceDiv, zcn_I, iI_add, iI_sub, iI_mul, iI_neg, iI_lt, iI_le, iI_eq, iI_lt0, iI_le0, iI_gt0, iI_ge0, iI_eq0]
    rfl
  · simp (disch := omega) only [upI_same, upL_same, upI_ne, upL_ne, iI_ixN, zI_mk, zL_mk, zP_mk, zK_mk, zN_mk, zwI_up, zwL_up, zg_some, Nat.reduceMod, Nat.reduceDiv, zcn_I, iI_add, iI_sub, iI_mul, iI_neg, iI_lt, iI_le, iI_eq, iI_lt0, iI_le0, iI_gt0, iI_ge0, iI_eq0]
    rfl
  · rw [i2]
    exact iI_0.symm
  · rw [i3]
    exact iI_0.symm
  · rw [i4]
    exact iI_0.symm
  · rw [i5]
    exact iI_0.symm
  · rw [i6]
    exact iI_0.symm
end RINIT
