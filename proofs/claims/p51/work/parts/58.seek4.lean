/-! The seeker: gather, seek, its making. -/
section SEEK4
variable {d s b n r : Nat} {tn : Nat → Nat → Nat} {col st : Nat → Nat} {I : Nat → Nat → Int32} {L : Nat → Nat → Int64} {R : zRt} {Q : zO → zM → Prop}
theorem gather_ok (hd : 4 ≤ d) (hS : SL s R) (hL : ZL b R) (hz : zOK n r tn col st) (hsb : s + 6 ≤ b) (hR : zPR b I L n r tn col st)
    (hQ : ∀ I' L' t gf gd gc, sfr s I L I' L' → ceR s I' L' t → gOK tn r col t gf gd gc → Q (.inl none) (I', L', R)) : zS 78 d [zr (some s), zr (some b)] (I, L, R) Q := by
  have hS' := hS
  obtain ⟨k0, sp0, sp1, sp2, sp3, sp4, k1, k2, k3, k4, k5⟩ := hS'
  have z0 := hL.1
  have r3 := hR.2.2.1
  refine zW.gz [] rfl rfl rfl (by omega) ?_ trivial rfl rfl (Nat.le_refl _) (Nat.le_refl _) ?_
  · exact (by simp (disch := omega) only [true_or, or_true, eq_self, Option.some.injEq, Prod.mk.injEq, zall_0, zall_1, zall_2, zob_iff, zar_iff, zis_iff, zkIs_some, zkHas_some, iI_vp, z01_I, z01_bz, zch_I, true_and, and_true, or_false, false_or, and_self, upI_same, upL_same, upI_ne, upL_ne, iI_ixN, zI_mk, zL_mk, zP_mk, zK_mk, zN_mk, zwI_up, zwL_up, zg_some, Nat.reduceMod, Nat.reduceDiv, zcn_I, iI_add, iI_sub, iI_mul, iI_neg, iI_lt, iI_le, iI_eq, iI_lt0, iI_le0, iI_gt0, iI_ge0, iI_eq0, k0] <;> omega)
  · simp (disch := omega) only [upI_same, upL_same, upI_ne, upL_ne, iI_ixN, zI_mk, zL_mk, zP_mk, zK_mk, zN_mk, zwI_up, zwL_up, zg_some, Nat.reduceMod, Nat.reduceDiv, zcn_I, iI_add, iI_sub, iI_mul, iI_neg, iI_lt, iI_le, iI_eq, iI_lt0, iI_le0, iI_gt0, iI_ge0, iI_eq0, sp1, zcn_I]
    refine fill_ok (by omega) k2 (by decide) (fun I1 f1 v1 => ?_)
    refine zW.gz [] rfl rfl rfl (by omega) ?_ ?_ rfl rfl (Nat.le_refl _) (Nat.le_refl _) ?_
    · exact (by simp (disch := omega) only [true_or, or_true, eq_self, Option.some.injEq, Prod.mk.injEq, zall_0, zall_1, zall_2, zob_iff, zar_iff, zis_iff, zkIs_some, zkHas_some, iI_vp, z01_I, z01_bz, zch_I, true_and, and_true, or_false, false_or, and_self, upI_same, upL_same, upI_ne, upL_ne, iI_ixN, zI_mk, zL_mk, zP_mk, zK_mk, zN_mk, zwI_up, zwL_up, zg_some, Nat.reduceMod, Nat.reduceDiv, zcn_I, iI_add, iI_sub, iI_mul, iI_neg, iI_lt, iI_le, iI_eq, iI_lt0, iI_le0, iI_gt0, iI_ge0, iI_eq0, k0, z0] <;> omega)
    · exact ⟨_, rfl, k0⟩
    · simp (disch := omega) only [upI_same, upL_same, upI_ne, upL_ne, iI_ixN, zI_mk, zL_mk, zP_mk, zK_mk, zN_mk, zwI_up, zwL_up, zg_some, Nat.reduceMod, Nat.reduceDiv, zcn_I, iI_add, iI_sub, iI_mul, iI_neg, iI_lt, iI_le, iI_eq, iI_lt0, iI_le0, iI_gt0, iI_ge0, iI_eq0, r3, zcn_I]
      have hc0 : ceR s (upI I1 s 5 (iI 0)) L (fun _ => none) := fun c hc => ⟨fun _ => by rw [upI_row (by omega)]; exact v1 c hc, (fun k e q => by cases q)⟩
      have hT0 : gaT (fun _ => none) (fun _ => col) (fun _ => 0) 0 := ⟨(fun c k e _ q => by cases q), by decide, ct_z fun _ _ => rfl, fun i h => absurd h (Nat.not_lt_zero i), (fun c k e _ q => by cases q)⟩
      refine take_r (t := fun _ => none) (gf := fun _ => col) (gd := fun _ => 0) (gc := 0) (f := col) (v := 0) (by omega) hS hc0 ⟨by rw [upI_same]; rfl, fun i h => absurd h (Nat.not_lt_zero i)⟩ hT0 rfl rfl (zcol_nb hz) (by decide) (by decide) (fun i h _ => absurd h (Nat.not_lt_zero i)) (fun _ I2 L2 t2 f2 c2 g2 T2 => ?_)
      refine zW.go [24] rfl (by omega) trivial ?_
      have ff : sfr s I L I2 L2 := sfr_tr ⟨fun a q => by rw [upI_row (by omega)]; exact f1 a (by omega), fun _ _ => rfl⟩ f2
      have e1 : ∀ i : Nat, (if i = 0 then col else col) = col := fun i => by split <;> rfl
      have e2 : ∀ i : Nat, (if i = 0 then 0 else 0) = 0 := fun i => by split <;> rfl
      refine gat_out (I0 := I) (L0 := L) (by omega) hS hL hz hsb hR hQ 585 0 rfl I2 L2 t2 _ _ 1 _ _ ff c2 g2 ⟨T2, Nat.le_refl _, e1 0, e2 0, fun j hj => ⟨?_, fun _ => by omega, fun q => by omega, fun q => by omega⟩, fun j k h1 h2 => by omega, by omega, fun j x h => absurd h (Nat.not_lt_zero j), fun x _ h => absurd h (Nat.not_lt_zero x)⟩ (fun j hj => ?_) (by omega) rfl
      · dsimp only
        rw [e1]
        exact zcol_rf hz
      · rw [e2]
        omega
theorem seek_lp {t : zCe} {gf : Nat → Nat → Nat} {gd : Nat → Nat} {gc mo : Nat} {f : Nat → Nat} (hd : 13 ≤ d) (hS : SL s R) (hL : ZL b R) (hz : zOK n r tn col st) (hsb : s + 6 ≤ b) (hg : gOK tn r col t gf gd gc) (hf : rf f) (hmo : mo ≤ 6) (hc : ceR s I L t) (hR : zPR b I L n r tn col st)
    (h1 : ∀ k w, skF (fun n => srch tn col (2 * r) n f) (mo + 1) 0 = some (k, w) → ∀ I', wyf s 0 I I' → (∀ i, i < k → I' (s + 5) i = iI (nth w i : Int)) → Q (.inl (some (zi (iI (k : Int))))) (I', L, R))
    (h0 : skF (fun n => srch tn col (2 * r) n f) (mo + 1) 0 = none → ∀ I', wyf s 0 I I' → Q (.inl (some (zi (iI (-1))))) (I', L, R)) :
    ∀ j k, k + j = mo + 1 → ∀ (I1 : Nat → Nat → Int32) (x : Int32), wyf s 0 I I1 → skF (fun n => srch tn col (2 * r) n f) (mo + 1) 0 = skF (fun n => srch tn col (2 * r) n f) j k → x = iI (k : Int) →
      zW 75 d 0 0 20 [some (zr (some s)), some (zr (some b)), some (zi (iI (mo : Int))), some (zl (Rw f)), none, some (zi x)] [] (I1, L, R) Q
  | 0, k, hk, I1, x, fr, hs, e => by
    subst e
    refine zW.gbt [] rfl rfl rfl (by omega) trivial ?_ (zW.gr [] rfl rfl rfl (by omega) trivial trivial ?_)
    · exact (by simp (disch := omega) only [eq_self, not_true_eq_false, not_false_eq_true, upI_same, upL_same, upI_ne, upL_ne, iI_ixN, zI_mk, zL_mk, zP_mk, zK_mk, zN_mk, zwI_up, zwL_up, zg_some, Nat.reduceMod, Nat.reduceDiv, zcn_I, iI_add, iI_sub, iI_mul, iI_neg, iI_lt, iI_le, iI_eq, iI_lt0, iI_le0, iI_gt0, iI_ge0, iI_eq0] <;> omega)
    · rw [zcn_I]
      exact h0 hs I1 fr
  | j + 1, k, hk, I1, x, fr, hs, e => by
    subst e
    have hs' : skF (fun n => srch tn col (2 * r) n f) (mo + 1) 0 = (match srch tn col (2 * r) k f with | some w => some (k, w) | none => skF (fun n => srch tn col (2 * r) n f) j (k + 1)) := hs
    refine zW.gbf [] rfl rfl rfl (by omega) trivial ?_ (zW.gz [] rfl rfl rfl (by omega) trivial trivial rfl rfl (Nat.le_refl _) (Nat.le_refl _) ?_)
    · exact (by simp (disch := omega) only [eq_self, not_true_eq_false, not_false_eq_true, upI_same, upL_same, upI_ne, upL_ne, iI_ixN, zI_mk, zL_mk, zP_mk, zK_mk, zN_mk, zwI_up, zwL_up, zg_some, Nat.reduceMod, Nat.reduceDiv, zcn_I, iI_add, iI_sub, iI_mul, iI_neg, iI_lt, iI_le, iI_eq, iI_lt0, iI_le0, iI_gt0, iI_ge0, iI_eq0] <;> omega)
    · refine reaches_ok hS hL hz hsb hg k (d - 1) (by omega) 0 f _ _ _ I1 _ (by omega) hf (ceR_wy fr hc) (pz_wy hsb fr hR) rfl (zcn_I 0) rfl (fun w hw I2 f2 v2 => ?_) (fun hw I2 f2 => ?_)
      · refine zW.gbf [] rfl rfl rfl (by omega) trivial ?_ (zW.gr [] rfl rfl rfl (by omega) trivial trivial ?_)
        · exact (by simp (disch := omega) only [eq_self, not_true_eq_false, not_false_eq_true, upI_same, upL_same, upI_ne, upL_ne, iI_ixN, zI_mk, zL_mk, zP_mk, zK_mk, zN_mk, zwI_up, zwL_up, zg_some, Nat.reduceMod, Nat.reduceDiv, zcn_I, iI_add, iI_sub, iI_mul, iI_neg, iI_lt, iI_le, iI_eq, iI_lt0, iI_le0, iI_gt0, iI_ge0, iI_eq0] <;> omega)
        · rw [hw] at hs'
          refine h1 k w hs' I2 (wyf_tr fr f2) (fun i hi => ?_)
          have := v2 i hi
          rwa [Nat.zero_add] at this
      · refine zW.gbt [] rfl rfl rfl (by omega) trivial ?_ (zW.go [20] rfl (by omega) trivial ?_)
        · exact (by simp (disch := omega) only [eq_self, not_true_eq_false, not_false_eq_true, upI_same, upL_same, upI_ne, upL_ne, iI_ixN, zI_mk, zL_mk, zP_mk, zK_mk, zN_mk, zwI_up, zwL_up, zg_some, Nat.reduceMod, Nat.reduceDiv, zcn_I, iI_add, iI_sub, iI_mul, iI_neg, iI_lt, iI_le, iI_eq, iI_lt0, iI_le0, iI_gt0, iI_ge0, iI_eq0] <;> omega)
        · rw [hw] at hs'
          refine seek_lp hd hS hL hz hsb hg hf hmo hc hR h1 h0 j (k + 1) (by omega) I2 _ (wyf_tr fr f2) hs' ?_
          exact (by simp (disch := omega) only [eq_self, not_true_eq_false, not_false_eq_true, upI_same, upL_same, upI_ne, upL_ne, iI_ixN, zI_mk, zL_mk, zP_mk, zK_mk, zN_mk, zwI_up, zwL_up, zg_some, Nat.reduceMod, Nat.reduceDiv, zcn_I, iI_add, iI_sub, iI_mul, iI_neg, iI_lt, iI_le, iI_eq, iI_lt0, iI_le0, iI_gt0, iI_ge0, iI_eq0] <;> omega)
theorem seek_ok {mo : Nat} {x : Int32} (hd : 13 ≤ d) (hS : SL s R) (hL : ZL b R) (hz : zOK n r tn col st) (hsb : s + 6 ≤ b) (hR : zPR b I L n r tn col st) (e : x = iI (mo : Int)) (hmo : mo ≤ 6)
    (h1 : ∀ k w, skF (fun n => srch tn col (2 * r) n (fun p => col (st p))) (mo + 1) 0 = some (k, w) → ∀ I' L', sfr s I L I' L' → (∀ i, i < k → I' (s + 5) i = iI (nth w i : Int)) → Q (.inl (some (zi (iI (k : Int))))) (I', L', R))
    (h0 : skF (fun n => srch tn col (2 * r) n (fun p => col (st p))) (mo + 1) 0 = none → ∀ I' L', sfr s I L I' L' → Q (.inl (some (zi (iI (-1))))) (I', L', R)) : zS 75 d [zr (some s), zr (some b), zi x] (I, L, R) Q := by
  subst e
  have k0 := hS.1
  have z0 := hL.1
  refine zW.gz [] rfl rfl rfl (by omega) trivial ?_ rfl rfl (Nat.le_refl _) (Nat.le_refl _) ?_
  · exact ⟨_, rfl, k0⟩
  · refine gather_ok (by omega) hS hL hz hsb hR (fun I1 L1 t gf gd gc f1 c1 g1 => ?_)
    have hR1 := sfr_pz hsb f1 hR
    have r3 := hR1.2.2.1
    have r4 := hR1.2.2.2.1
    have hf := rf_comp (zcol_rf hz) (zst_pm hz)
    refine zW.gz [] rfl rfl rfl (by omega) ?_ trivial rfl rfl (Nat.le_refl _) (Nat.le_refl _) ?_
    · exact (by simp (disch := omega) only [true_or, or_true, eq_self, Option.some.injEq, Prod.mk.injEq, zall_0, zall_1, zall_2, zob_iff, zar_iff, zis_iff, zkIs_some, zkHas_some, iI_vp, z01_I, z01_bz, zch_I, true_and, and_true, or_false, false_or, and_self, upI_same, upL_same, upI_ne, upL_ne, iI_ixN, zI_mk, zL_mk, zP_mk, zK_mk, zN_mk, zwI_up, zwL_up, zg_some, Nat.reduceMod, Nat.reduceDiv, zcn_I, iI_add, iI_sub, iI_mul, iI_neg, iI_lt, iI_le, iI_eq, iI_lt0, iI_le0, iI_gt0, iI_ge0, iI_eq0, z0] <;> omega)
    · simp (disch := omega) only [upI_same, upL_same, upI_ne, upL_ne, iI_ixN, zI_mk, zL_mk, zP_mk, zK_mk, zN_mk, zwI_up, zwL_up, zg_some, Nat.reduceMod, Nat.reduceDiv, zcn_I, iI_add, iI_sub, iI_mul, iI_neg, iI_lt, iI_le, iI_eq, iI_lt0, iI_le0, iI_gt0, iI_ge0, iI_eq0, r3, r4]
      refine through_ok (f := col) (g := st) (by omega) (zcol_nb hz) (zst_pm hz).1 rfl rfl ?_
      refine zW.go [20] rfl (by omega) trivial ?_
      have ws : ∀ I2, wyf s 0 I1 I2 → sfr s I L I2 L1 := fun I2 w => sfr_tr f1 ⟨fun a q => w.1 a (by omega), fun _ _ => rfl⟩
      exact seek_lp (I := I1) hd hS hL hz hsb g1 hf hmo c1 hR1 (fun k w hw I2 f2 v2 => h1 k w hw I2 L1 (ws I2 f2) v2) (fun hw I2 f2 => h0 hw I2 L1 (ws I2 f2)) (mo + 1) 0 (by omega) I1 _ (wyf_rf _ _ _) rfl rfl
theorem sinit_ok (hd : 2 ≤ d) (hN : R.2.2 = s + 1) (hK : R.2.1 s = some (4, 0))
    (hQ : ∀ R', zol s R R' → R'.2.1 s = R.2.1 s → R'.2.2 = s + 6 → SL s R' → Q (.inl none) (I, L, R')) : zS 74 d [zr (some s)] (I, L, R) Q := by
  refine zW.go [4] rfl (by omega) ?_ ?_
  · exact ⟨_, rfl⟩
  refine zW.gm [] rfl rfl rfl (by omega) trivial ⟨show ¬ zcn 1024 < 0 by decide, show (zcn 1024).toNatClampNeg < 1000000 by decide⟩ (by decide +kernel) (by decide +kernel) (fun f1 => ?_)
  simp (disch := omega) only [Nat.add_assoc, iI_ix, Int.toNat_natCast, Int.reduceToNat, Nat.reduceAdd, znew_up, zwP_up, nwR_P, nwR_N, nwR_Ks, nwR_Ko, pwR_R, pwR_s, pwR_o, upI_same, upL_same, upI_ne, upL_ne, iI_ixN, zI_mk, zL_mk, zP_mk, zK_mk, zN_mk, zwI_up, zwL_up, zg_some, Nat.reduceMod, Nat.reduceDiv, zcn_I, hN]
  refine zW.gm [] rfl rfl rfl (by omega) ?_ ⟨show ¬ zcn 1024 < 0 by decide, show (zcn 1024).toNatClampNeg < 1000000 by decide⟩ (by decide +kernel) (by decide +kernel) (fun f2 => ?_)
  · exact ⟨⟨_, rfl, by simp (disch := omega) only [Nat.add_assoc, iI_ix, Int.toNat_natCast, Int.reduceToNat, Nat.reduceAdd, znew_up, zwP_up, nwR_P, nwR_N, nwR_Ks, nwR_Ko, pwR_R, pwR_s, pwR_o, upI_same, upL_same, upI_ne, upL_ne, iI_ixN, zI_mk, zL_mk, zP_mk, zK_mk, zN_mk, zwI_up, zwL_up, zg_some, Nat.reduceMod, Nat.reduceDiv, zcn_I, hK]⟩, Or.inr ⟨_, rfl⟩⟩
  simp (disch := omega) only [Nat.add_assoc, iI_ix, Int.toNat_natCast, Int.reduceToNat, Nat.reduceAdd, znew_up, zwP_up, nwR_P, nwR_N, nwR_Ks, nwR_Ko, pwR_R, pwR_s, pwR_o, upI_same, upL_same, upI_ne, upL_ne, iI_ixN, zI_mk, zL_mk, zP_mk, zK_mk, zN_mk, zwI_up, zwL_up, zg_some, Nat.reduceMod, Nat.reduceDiv, zcn_I, hN]
  refine zW.gm [] rfl rfl rfl (by omega) ?_ ⟨show ¬ zcn 585 < 0 by decide, show (zcn 585).toNatClampNeg < 1000000 by decide⟩ (by decide +kernel) (by decide +kernel) (fun f3 => ?_)
  · exact ⟨⟨_, rfl, by simp (disch := omega) only [Nat.add_assoc, iI_ix, Int.toNat_natCast, Int.reduceToNat, Nat.reduceAdd, znew_up, zwP_up, nwR_P, nwR_N, nwR_Ks, nwR_Ko, pwR_R, pwR_s, pwR_o, upI_same, upL_same, upI_ne, upL_ne, iI_ixN, zI_mk, zL_mk, zP_mk, zK_mk, zN_mk, zwI_up, zwL_up, zg_some, Nat.reduceMod, Nat.reduceDiv, zcn_I, hK]⟩, Or.inr ⟨_, rfl⟩⟩
  simp (disch := omega) only [Nat.add_assoc, iI_ix, Int.toNat_natCast, Int.reduceToNat, Nat.reduceAdd, znew_up, zwP_up, nwR_P, nwR_N, nwR_Ks, nwR_Ko, pwR_R, pwR_s, pwR_o, upI_same, upL_same, upI_ne, upL_ne, iI_ixN, zI_mk, zL_mk, zP_mk, zK_mk, zN_mk, zwI_up, zwL_up, zg_some, Nat.reduceMod, Nat.reduceDiv, zcn_I, hN]
  refine zW.gm [] rfl rfl rfl (by omega) ?_ ⟨show ¬ zcn 585 < 0 by decide, show (zcn 585).toNatClampNeg < 1000000 by decide⟩ (by decide +kernel) (by decide +kernel) (fun f4 => ?_)
  · exact ⟨⟨_, rfl, by simp (disch := omega) only [Nat.add_assoc, iI_ix, Int.toNat_natCast, Int.reduceToNat, Nat.reduceAdd, znew_up, zwP_up, nwR_P, nwR_N, nwR_Ks, nwR_Ko, pwR_R, pwR_s, pwR_o, upI_same, upL_same, upI_ne, upL_ne, iI_ixN, zI_mk, zL_mk, zP_mk, zK_mk, zN_mk, zwI_up, zwL_up, zg_some, Nat.reduceMod, Nat.reduceDiv, zcn_I, hK]⟩, Or.inr ⟨_, rfl⟩⟩
  simp (disch := omega) only [Nat.add_assoc, iI_ix, Int.toNat_natCast, Int.reduceToNat, Nat.reduceAdd, znew_up, zwP_up, nwR_P, nwR_N, nwR_Ks, nwR_Ko, pwR_R, pwR_s, pwR_o, upI_same, upL_same, upI_ne, upL_ne, iI_ixN, zI_mk, zL_mk, zP_mk, zK_mk, zN_mk, zwI_up, zwL_up, zg_some, Nat.reduceMod, Nat.reduceDiv, zcn_I, hN]
  refine zW.gm [] rfl rfl rfl (by omega) ?_ ⟨show ¬ zcn 6 < 0 by decide, show (zcn 6).toNatClampNeg < 1000000 by decide⟩ (by decide +kernel) (by decide +kernel) (fun f5 => ?_)
  · exact ⟨⟨_, rfl, by simp (disch := omega) only [Nat.add_assoc, iI_ix, Int.toNat_natCast, Int.reduceToNat, Nat.reduceAdd, znew_up, zwP_up, nwR_P, nwR_N, nwR_Ks, nwR_Ko, pwR_R, pwR_s, pwR_o, upI_same, upL_same, upI_ne, upL_ne, iI_ixN, zI_mk, zL_mk, zP_mk, zK_mk, zN_mk, zwI_up, zwL_up, zg_some, Nat.reduceMod, Nat.reduceDiv, zcn_I, hK]⟩, Or.inr ⟨_, rfl⟩⟩
  simp (disch := omega) only [Nat.add_assoc, iI_ix, Int.toNat_natCast, Int.reduceToNat, Nat.reduceAdd, znew_up, zwP_up, nwR_P, nwR_N, nwR_Ks, nwR_Ko, pwR_R, pwR_s, pwR_o, upI_same, upL_same, upI_ne, upL_ne, iI_ixN, zI_mk, zL_mk, zP_mk, zK_mk, zN_mk, zwI_up, zwL_up, zg_some, Nat.reduceMod, Nat.reduceDiv, zcn_I, hN]
  refine zW.gr [] rfl rfl rfl (by omega) ?_ trivial ?_
  · exact ⟨⟨_, rfl, by simp (disch := omega) only [Nat.add_assoc, iI_ix, Int.toNat_natCast, Int.reduceToNat, Nat.reduceAdd, znew_up, zwP_up, nwR_P, nwR_N, nwR_Ks, nwR_Ko, pwR_R, pwR_s, pwR_o, upI_same, upL_same, upI_ne, upL_ne, iI_ixN, zI_mk, zL_mk, zP_mk, zK_mk, zN_mk, zwI_up, zwL_up, zg_some, Nat.reduceMod, Nat.reduceDiv, zcn_I, hK]⟩, Or.inr ⟨_, rfl⟩⟩
  simp (disch := omega) only [Nat.add_assoc, iI_ix, Int.toNat_natCast, Int.reduceToNat, Nat.reduceAdd, znew_up, zwP_up, nwR_P, nwR_N, nwR_Ks, nwR_Ko, pwR_R, pwR_s, pwR_o, upI_same, upL_same, upI_ne, upL_ne, iI_ixN, zI_mk, zL_mk, zP_mk, zK_mk, zN_mk, zwI_up, zwL_up, zg_some, Nat.reduceMod, Nat.reduceDiv, zcn_I, hN]
  refine hQ _ (fun a ha => ⟨?_, ?_⟩) ?_ ?_ ⟨?_, ?_, ?_, ?_, ?_, ?_, ?_, ?_, ?_, ?_, ?_⟩
  · rw [pwR_row (by omega), nwR_P, pwR_row (by omega), nwR_P, pwR_row (by omega), nwR_P, pwR_row (by omega), nwR_P, pwR_row (by omega), nwR_P]
  all_goals simp (disch := omega) only [Nat.add_assoc, iI_ix, Int.toNat_natCast, Int.reduceToNat, Nat.reduceAdd, znew_up, zwP_up, nwR_P, nwR_N, nwR_Ks, nwR_Ko, pwR_R, pwR_s, pwR_o, upI_same, upL_same, upI_ne, upL_ne, iI_ixN, zI_mk, zL_mk, zP_mk, zK_mk, zN_mk, zwI_up, zwL_up, zg_some, Nat.reduceMod, Nat.reduceDiv, zcn_I, hN, hK]
theorem winit_ok {w : Nat} (hd : 2 ≤ d) (hN : R.2.2 = w + 1) (hK : R.2.1 w = some (5, 0))
    (hQ : ∀ R', zol w R R' → R'.2.1 w = R.2.1 w → R'.2.2 = w + 6 → WL w R' → Q (.inl none) (I, L, R')) : zS 81 d [zr (some w)] (I, L, R) Q := by
  refine zW.go [4] rfl (by omega) ?_ ?_
  · exact ⟨_, rfl⟩
  refine zW.gm [] rfl rfl rfl (by omega) trivial ⟨show ¬ zcn 30 < 0 by decide, show (zcn 30).toNatClampNeg < 1000000 by decide⟩ (by decide +kernel) (by decide +kernel) (fun f1 => ?_)
  simp (disch := omega) only [Nat.add_assoc, iI_ix, Int.toNat_natCast, Int.reduceToNat, Nat.reduceAdd, znew_up, zwP_up, nwR_P, nwR_N, nwR_Ks, nwR_Ko, pwR_R, pwR_s, pwR_o, upI_same, upL_same, upI_ne, upL_ne, iI_ixN, zI_mk, zL_mk, zP_mk, zK_mk, zN_mk, zwI_up, zwL_up, zg_some, Nat.reduceMod, Nat.reduceDiv, zcn_I, hN]
  refine zW.gm [] rfl rfl rfl (by omega) ?_ ⟨show ¬ zcn 120 < 0 by decide, show (zcn 120).toNatClampNeg < 1000000 by decide⟩ (by decide +kernel) (by decide +kernel) (fun f2 => ?_)
  · exact ⟨⟨_, rfl, by simp (disch := omega) only [Nat.add_assoc, iI_ix, Int.toNat_natCast, Int.reduceToNat, Nat.reduceAdd, znew_up, zwP_up, nwR_P, nwR_N, nwR_Ks, nwR_Ko, pwR_R, pwR_s, pwR_o, upI_same, upL_same, upI_ne, upL_ne, iI_ixN, zI_mk, zL_mk, zP_mk, zK_mk, zN_mk, zwI_up, zwL_up, zg_some, Nat.reduceMod, Nat.reduceDiv, zcn_I, hK]⟩, Or.inr ⟨_, rfl⟩⟩
  simp (disch := omega) only [Nat.add_assoc, iI_ix, Int.toNat_natCast, Int.reduceToNat, Nat.reduceAdd, znew_up, zwP_up, nwR_P, nwR_N, nwR_Ks, nwR_Ko, pwR_R, pwR_s, pwR_o, upI_same, upL_same, upI_ne, upL_ne, iI_ixN, zI_mk, zL_mk, zP_mk, zK_mk, zN_mk, zwI_up, zwL_up, zg_some, Nat.reduceMod, Nat.reduceDiv, zcn_I, hN]
  refine zW.gm [] rfl rfl rfl (by omega) ?_ ⟨show ¬ zcn 30 < 0 by decide, show (zcn 30).toNatClampNeg < 1000000 by decide⟩ (by decide +kernel) (by decide +kernel) (fun f3 => ?_)
  · exact ⟨⟨_, rfl, by simp (disch := omega) only [Nat.add_assoc, iI_ix, Int.toNat_natCast, Int.reduceToNat, Nat.reduceAdd, znew_up, zwP_up, nwR_P, nwR_N, nwR_Ks, nwR_Ko, pwR_R, pwR_s, pwR_o, upI_same, upL_same, upI_ne, upL_ne, iI_ixN, zI_mk, zL_mk, zP_mk, zK_mk, zN_mk, zwI_up, zwL_up, zg_some, Nat.reduceMod, Nat.reduceDiv, zcn_I, hK]⟩, Or.inr ⟨_, rfl⟩⟩
  simp (disch := omega) only [Nat.add_assoc, iI_ix, Int.toNat_natCast, Int.reduceToNat, Nat.reduceAdd, znew_up, zwP_up, nwR_P, nwR_N, nwR_Ks, nwR_Ko, pwR_R, pwR_s, pwR_o, upI_same, upL_same, upI_ne, upL_ne, iI_ixN, zI_mk, zL_mk, zP_mk, zK_mk, zN_mk, zwI_up, zwL_up, zg_some, Nat.reduceMod, Nat.reduceDiv, zcn_I, hN]
  refine zW.gm [] rfl rfl rfl (by omega) ?_ ⟨show ¬ zcn 30 < 0 by decide, show (zcn 30).toNatClampNeg < 1000000 by decide⟩ (by decide +kernel) (by decide +kernel) (fun f4 => ?_)
  · exact ⟨⟨_, rfl, by simp (disch := omega) only [Nat.add_assoc, iI_ix, Int.toNat_natCast, Int.reduceToNat, Nat.reduceAdd, znew_up, zwP_up, nwR_P, nwR_N, nwR_Ks, nwR_Ko, pwR_R, pwR_s, pwR_o, upI_same, upL_same, upI_ne, upL_ne, iI_ixN, zI_mk, zL_mk, zP_mk, zK_mk, zN_mk, zwI_up, zwL_up, zg_some, Nat.reduceMod, Nat.reduceDiv, zcn_I, hK]⟩, Or.inr ⟨_, rfl⟩⟩
  simp (disch := omega) only [Nat.add_assoc, iI_ix, Int.toNat_natCast, Int.reduceToNat, Nat.reduceAdd, znew_up, zwP_up, nwR_P, nwR_N, nwR_Ks, nwR_Ko, pwR_R, pwR_s, pwR_o, upI_same, upL_same, upI_ne, upL_ne, iI_ixN, zI_mk, zL_mk, zP_mk, zK_mk, zN_mk, zwI_up, zwL_up, zg_some, Nat.reduceMod, Nat.reduceDiv, zcn_I, hN]
  refine zW.gm [] rfl rfl rfl (by omega) ?_ ⟨show ¬ zcn 30 < 0 by decide, show (zcn 30).toNatClampNeg < 1000000 by decide⟩ (by decide +kernel) (by decide +kernel) (fun f5 => ?_)
  · exact ⟨⟨_, rfl, by simp (disch := omega) only [Nat.add_assoc, iI_ix, Int.toNat_natCast, Int.reduceToNat, Nat.reduceAdd, znew_up, zwP_up, nwR_P, nwR_N, nwR_Ks, nwR_Ko, pwR_R, pwR_s, pwR_o, upI_same, upL_same, upI_ne, upL_ne, iI_ixN, zI_mk, zL_mk, zP_mk, zK_mk, zN_mk, zwI_up, zwL_up, zg_some, Nat.reduceMod, Nat.reduceDiv, zcn_I, hK]⟩, Or.inr ⟨_, rfl⟩⟩
  simp (disch := omega) only [Nat.add_assoc, iI_ix, Int.toNat_natCast, Int.reduceToNat, Nat.reduceAdd, znew_up, zwP_up, nwR_P, nwR_N, nwR_Ks, nwR_Ko, pwR_R, pwR_s, pwR_o, upI_same, upL_same, upI_ne, upL_ne, iI_ixN, zI_mk, zL_mk, zP_mk, zK_mk, zN_mk, zwI_up, zwL_up, zg_some, Nat.reduceMod, Nat.reduceDiv, zcn_I, hN]
  refine zW.gr [] rfl rfl rfl (by omega) ?_ trivial ?_
  · exact ⟨⟨_, rfl, by simp (disch := omega) only [Nat.add_assoc, iI_ix, Int.toNat_natCast, Int.reduceToNat, Nat.reduceAdd, znew_up, zwP_up, nwR_P, nwR_N, nwR_Ks, nwR_Ko, pwR_R, pwR_s, pwR_o, upI_same, upL_same, upI_ne, upL_ne, iI_ixN, zI_mk, zL_mk, zP_mk, zK_mk, zN_mk, zwI_up, zwL_up, zg_some, Nat.reduceMod, Nat.reduceDiv, zcn_I, hK]⟩, Or.inr ⟨_, rfl⟩⟩
  simp (disch := omega) only [Nat.add_assoc, iI_ix, Int.toNat_natCast, Int.reduceToNat, Nat.reduceAdd, znew_up, zwP_up, nwR_P, nwR_N, nwR_Ks, nwR_Ko, pwR_R, pwR_s, pwR_o, upI_same, upL_same, upI_ne, upL_ne, iI_ixN, zI_mk, zL_mk, zP_mk, zK_mk, zN_mk, zwI_up, zwL_up, zg_some, Nat.reduceMod, Nat.reduceDiv, zcn_I, hN]
  refine hQ _ (fun a ha => ⟨?_, ?_⟩) ?_ ?_ ⟨?_, ?_, ?_, ?_, ?_, ?_, ?_, ?_, ?_, ?_, ?_⟩
  · rw [pwR_row (by omega), nwR_P, pwR_row (by omega), nwR_P, pwR_row (by omega), nwR_P, pwR_row (by omega), nwR_P, pwR_row (by omega), nwR_P]
  all_goals simp (disch := omega) only [Nat.add_assoc, iI_ix, Int.toNat_natCast, Int.reduceToNat, Nat.reduceAdd, znew_up, zwP_up, nwR_P, nwR_N, nwR_Ks, nwR_Ko, pwR_R, pwR_s, pwR_o, upI_same, upL_same, upI_ne, upL_ne, iI_ixN, zI_mk, zL_mk, zP_mk, zK_mk, zN_mk, zwI_up, zwL_up, zg_some, Nat.reduceMod, Nat.reduceDiv, zcn_I, hN, hK]
end SEEK4
