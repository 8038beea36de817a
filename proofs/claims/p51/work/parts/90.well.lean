/-! A puzzle of the class is measured well. -/
section WELL
variable {d b n r : Nat} {tn : Nat → Nat → Nat} {col st : Nat → Nat} {L : Nat → Nat → Int64} {R : zRt} {Q : zO → zM → Prop}
theorem zBF_all (hz : zOK n r tn col st) (h8 : szG (zG r tn) 10 ≤ 800) {k : Nat} {B : bSt} (hB : zBF k r tn col = B) {s : Nat} (hs : s < szG (zG r tn) 10) : 0 ≤ B.1 s := by
  have hG := zG_is hz
  have ht : 1 ≤ tt k := by
    unfold tt
    split <;> omega
  refine bF_reach hz h8 ht (sv := zSv r tn col) (s0 := numG (zG r tn) (fun p => p) 10) (numG_lt hG hG.2.1 10 (Nat.le_refl _)) (dc_t.mpr fun p _ => ?_) hB hs
  rw [stG_num hG hG.2.1]
theorem zB_I (hz : zOK n r tn col st) {k : Nat} {B : bSt} (hB : zBF k r tn col = B) : bI (szG (zG r tn) 10) B := by
  have h := bF_I (nx := nxG (zG r tn) tn) (ac := 2 * r) (sz := szG (zG r tn) 10) (t := tt k) (sv := zSv r tn col) (fun a s ha hs => nxG_lt hz ha hs)
  unfold zBF at hB
  rw [hB] at h
  exact h
theorem ct_full {f : Nat → Bool} : ∀ {n : Nat}, (∀ k, k < n → f k = true) → ct f n = n
  | 0, _ => rfl
  | n + 1, h => by
    show ct f n + (if f n then 1 else 0) = n + 1
    rw [ct_full (fun k hk => h k (by omega)), if_pos (h n (by omega))]
theorem walk_all (hz : zOK n r tn col st) (h8 : szG (zG r tn) 10 ≤ 800) {B : bSt} (hB : bF (nxG (zG r tn) tn) 1 (2 * r) (szG (zG r tn) 10) (fun i => i == 0) = B) : B.2.length = szG (zG r tn) 10 := by
  have hG := zG_is hz
  have hI := bF_I (t := 1) (sv := fun i => i == 0) (fun a s ha hs => nxG_lt hz ha hs)
  rw [hB] at hI
  rw [hI.1]
  refine ct_full (fun s hs => decide_eq_true ?_)
  exact bF_reach hz h8 (Nat.le_refl 1) (sv := fun i => i == 0) (s0 := 0) (szG_pos hG 10) rfl hB hs
/-- a walk leaves what is drawn and measured -/
theorem zPR_m2 {I I' : Nat → Nat → Int32} (h : zPR b I L n r tn col st) (f : mfr (b + 7) 2 I I') : zPR b I' L n r tn col st := by
  obtain ⟨h1, h2, h3, h4, h5, h6, dr, m, g1, g2, g3⟩ := h
  obtain ⟨f1, f2⟩ := f
  have e0 : I' b = I b := f1 b (by omega) (by omega) (by omega)
  refine ⟨by rw [e0]; exact h1, by rw [e0]; exact h2, h3, h4, h5, chain_fr h6 (f1 _ (by omega) (by omega) (by omega)) (fun _ _ _ => rfl), dr, m, (f2 8 (by omega)).trans g1, fun q => ?_, fun k hk => ⟨?_, fun q => ⟨((g3 k hk).2 q).1, fun s hs => ?_⟩⟩⟩
  · obtain ⟨⟨n1, n2, n3, n4, n5, n6⟩, n7⟩ := g2 q
    refine ⟨⟨n1, n2, (f2 6 (by omega)).trans n3, (f2 7 (by omega)).trans n4, fun a s ha hs => ?_, n6⟩, n7⟩
    rw [f1 _ (by omega) (by omega) (by omega)]
    exact n5 a s ha hs
  · rw [f1 _ (by omega) (by omega) (by omega)]
    exact (g3 k hk).1
  · rw [f1 _ (by omega) (by omega) (by omega)]
    exact ((g3 k hk).2 q).2 s hs
theorem zfr_m2 {I I' : Nat → Nat → Int32} (f : mfr (b + 7) 2 I I') : zfr b I L I' L := ⟨fun a q => f.1 a (by omega) (by omega) (by omega), fun _ _ => rfl⟩
theorem well_in {I : Nat → Nat → Int32} {k : Nat} {B : bSt} (hd : 4 ≤ d) (hL : ZL b R) (hz : zOK n r tn col st) (hR : zPR b I L n r tn col st) (hD : zDr b I L r tn) (hk : k < 2) (hB : zBF k r tn col = B) (hM : ∀ s, s < szG (zG r tn) 10 → I (b + 19 + k) s = iI (B.1 s))
    (hQ : ∀ v, zW 41 d 0 0 95 [some (zr (some b)), some (zi (iI (k : Int))), v] [] (I, L, R) Q) :
    ∀ m i, i + m = szG (zG r tn) 10 → ∀ (x : Int32), x = iI (i : Int) → zW 41 d 0 0 41 [some (zr (some b)), some (zi (iI (k : Int))), some (zi x)] [] (I, L, R) Q
  | 0, i, hi, x, e1 => by
    subst e1
    obtain ⟨k0, p1, p2, p3, k1, hC, hG⟩ := hL
    have gk := hG.1
    have h6 := hD.2.1.2.2.1
    have h800 := hD.2.1.1
    refine zW.gbt [] rfl rfl rfl (by omega) ?_ ?_ (hQ _)
    · exact (by simp (disch := omega) only [true_or, or_true, eq_self, Option.some.injEq, Prod.mk.injEq, zall_0, zall_1, zall_2, zob_iff, zar_iff, zis_iff, zkIs_some, zkHas_some, iI_vp, z01_I, z01_bz, zch_I, true_and, and_true, or_false, false_or, and_self, upI_same, upL_same, upI_ne, upL_ne, iI_ixN, zI_mk, zL_mk, zP_mk, zK_mk, zN_mk, zwI_up, zwL_up, zg_some, Nat.reduceMod, Nat.reduceDiv, zcn_I, iI_add, iI_sub, iI_mul, iI_neg, iI_lt, iI_le, iI_eq, iI_lt0, iI_le0, iI_gt0, iI_ge0, iI_eq0, k0, p3, gk] <;> omega)
    · exact (by simp (disch := omega) only [eq_self, not_true_eq_false, not_false_eq_true, upI_same, upL_same, upI_ne, upL_ne, iI_ixN, zI_mk, zL_mk, zP_mk, zK_mk, zN_mk, zwI_up, zwL_up, zg_some, Nat.reduceMod, Nat.reduceDiv, zcn_I, iI_add, iI_sub, iI_mul, iI_neg, iI_lt, iI_le, iI_eq, iI_lt0, iI_le0, iI_gt0, iI_ge0, iI_eq0, p3, h6] <;> omega)
  | m + 1, i, hi, x, e1 => by
    subst e1
    have hL' := hL
    obtain ⟨k0, p1, p2, p3, k1, hC, hG⟩ := hL
    have gk := hG.1
    have gp := hG.2.1
    have gk1 : R.2.1 (b + 8) = some (21, 800) := hG.2.2.2.2.2.2.1
    have gp : R.1 (b + 7) 0 = some (b + 8) := gp
    have h6 := hD.2.1.2.2.1
    have h800 := hD.2.1.1
    have hs := hD.2.2 i (by omega)
    have hsp := (zG_is hz).1 _ (stG_sp (zG_is hz) (show i < szG (zG r tn) 10 by omega)).1
    have NX : zW 41 d 0 0 89 [some (zr (some b)), some (zi (iI (k : Int))), some (zi (iI (i : Int)))] [] (I, L, R) Q := by
      refine zW.go [41] rfl (by omega) trivial ?_
      exact well_in hd ⟨k0, p1, p2, p3, k1, hC, hG⟩ hz hR hD hk hB hM hQ m (i + 1) (by omega) _ (by rw [zcn_I, iI_add]; rfl)
    refine zW.gbf [] rfl rfl rfl (by omega) ?_ ?_ (zW.gbf [] rfl rfl rfl (by omega) trivial ?_ (zW.gz [] rfl rfl rfl (by omega) ?_ ?_ rfl rfl (Nat.le_refl _) (Nat.le_refl _) ?_))
    · exact (by simp (disch := omega) only [true_or, or_true, eq_self, Option.some.injEq, Prod.mk.injEq, zall_0, zall_1, zall_2, zob_iff, zar_iff, zis_iff, zkIs_some, zkHas_some, iI_vp, z01_I, z01_bz, zch_I, true_and, and_true, or_false, false_or, and_self, upI_same, upL_same, upI_ne, upL_ne, iI_ixN, zI_mk, zL_mk, zP_mk, zK_mk, zN_mk, zwI_up, zwL_up, zg_some, Nat.reduceMod, Nat.reduceDiv, zcn_I, iI_add, iI_sub, iI_mul, iI_neg, iI_lt, iI_le, iI_eq, iI_lt0, iI_le0, iI_gt0, iI_ge0, iI_eq0, k0, p3, gk] <;> omega)
    · exact (by simp (disch := omega) only [eq_self, not_true_eq_false, not_false_eq_true, upI_same, upL_same, upI_ne, upL_ne, iI_ixN, zI_mk, zL_mk, zP_mk, zK_mk, zN_mk, zwI_up, zwL_up, zg_some, Nat.reduceMod, Nat.reduceDiv, zcn_I, iI_add, iI_sub, iI_mul, iI_neg, iI_lt, iI_le, iI_eq, iI_lt0, iI_le0, iI_gt0, iI_ge0, iI_eq0, p3, h6] <;> omega)
    · exact (by simp (disch := omega) only [eq_self, not_true_eq_false, not_false_eq_true, upI_same, upL_same, upI_ne, upL_ne, iI_ixN, zI_mk, zL_mk, zP_mk, zK_mk, zN_mk, zwI_up, zwL_up, zg_some, Nat.reduceMod, Nat.reduceDiv, zcn_I, iI_add, iI_sub, iI_mul, iI_neg, iI_lt, iI_le, iI_eq, iI_lt0, iI_le0, iI_gt0, iI_ge0, iI_eq0] <;> omega)
    · simp (disch := omega) only [upI_same, upL_same, upI_ne, upL_ne, iI_ixN, zI_mk, zL_mk, zP_mk, zK_mk, zN_mk, zwI_up, zwL_up, zg_some, Nat.reduceMod, Nat.reduceDiv, zcn_I, iI_add, iI_sub, iI_mul, iI_neg, iI_lt, iI_le, iI_eq, iI_lt0, iI_le0, iI_gt0, iI_ge0, iI_eq0, p3, gp]
      exact (by simp (disch := omega) only [true_or, or_true, eq_self, Option.some.injEq, Prod.mk.injEq, zall_0, zall_1, zall_2, zob_iff, zar_iff, zis_iff, zkIs_some, zkHas_some, iI_vp, z01_I, z01_bz, zch_I, true_and, and_true, or_false, false_or, and_self, upI_same, upL_same, upI_ne, upL_ne, iI_ixN, zI_mk, zL_mk, zP_mk, zK_mk, zN_mk, zwI_up, zwL_up, zg_some, Nat.reduceMod, Nat.reduceDiv, zcn_I, iI_add, iI_sub, iI_mul, iI_neg, iI_lt, iI_le, iI_eq, iI_lt0, iI_le0, iI_gt0, iI_ge0, iI_eq0, k0, p3, gk, gp, gk1] <;> omega)
    · exact ⟨_, rfl, k0⟩
    · simp (disch := omega) only [upI_same, upL_same, upI_ne, upL_ne, iI_ixN, zI_mk, zL_mk, zP_mk, zK_mk, zN_mk, zwI_up, zwL_up, zg_some, Nat.reduceMod, Nat.reduceDiv, zcn_I, iI_add, iI_sub, iI_mul, iI_neg, iI_lt, iI_le, iI_eq, iI_lt0, iI_le0, iI_gt0, iI_ge0, iI_eq0, p3, gp, hs]
      refine shows_ok (by omega) ⟨k0, p1, p2, p3, k1, hC, hG⟩ hz hR hsp rfl (fun h => ?_) (fun h => ?_)
      · exact zW.gbt [] rfl rfl rfl (by omega) trivial (by simp (disch := omega) only [eq_self, not_true_eq_false, not_false_eq_true, upI_same, upL_same, upI_ne, upL_ne, iI_ixN, zI_mk, zL_mk, zP_mk, zK_mk, zN_mk, zwI_up, zwL_up, zg_some, Nat.reduceMod, Nat.reduceDiv, zcn_I, iI_add, iI_sub, iI_mul, iI_neg, iI_lt, iI_le, iI_eq, iI_lt0, iI_le0, iI_gt0, iI_ge0, iI_eq0] <;> omega) NX
      · refine zW.gbf [] rfl rfl rfl (by omega) trivial (by simp (disch := omega) only [eq_self, not_true_eq_false, not_false_eq_true, upI_same, upL_same, upI_ne, upL_ne, iI_ixN, zI_mk, zL_mk, zP_mk, zK_mk, zN_mk, zwI_up, zwL_up, zg_some, Nat.reduceMod, Nat.reduceDiv, zcn_I, iI_add, iI_sub, iI_mul, iI_neg, iI_lt, iI_le, iI_eq, iI_lt0, iI_le0, iI_gt0, iI_ge0, iI_eq0] <;> omega) ?_
        refine zW.gz [] rfl rfl rfl (by omega) (by simp (disch := omega) only [true_or, or_true, eq_self, Option.some.injEq, Prod.mk.injEq, zall_0, zall_1, zall_2, zob_iff, zar_iff, zis_iff, zkIs_some, zkHas_some, iI_vp, z01_I, z01_bz, zch_I, true_and, and_true, or_false, false_or, and_self, upI_same, upL_same, upI_ne, upL_ne, iI_ixN, zI_mk, zL_mk, zP_mk, zK_mk, zN_mk, zwI_up, zwL_up, zg_some, Nat.reduceMod, Nat.reduceDiv, zcn_I, iI_add, iI_sub, iI_mul, iI_neg, iI_lt, iI_le, iI_eq, iI_lt0, iI_le0, iI_gt0, iI_ge0, iI_eq0, k0] <;> omega) ?_ rfl rfl (Nat.le_refl _) (Nat.le_refl _) ?_
        · simp (disch := omega) only [upI_same, upL_same, upI_ne, upL_ne, iI_ixN, zI_mk, zL_mk, zP_mk, zK_mk, zN_mk, zwI_up, zwL_up, zg_some, Nat.reduceMod, Nat.reduceDiv, zcn_I, iI_add, iI_sub, iI_mul, iI_neg, iI_lt, iI_le, iI_eq, iI_lt0, iI_le0, iI_gt0, iI_ge0, iI_eq0, p3]
          exact ⟨_, rfl, gk⟩
        simp (disch := omega) only [upI_same, upL_same, upI_ne, upL_ne, iI_ixN, zI_mk, zL_mk, zP_mk, zK_mk, zN_mk, zwI_up, zwL_up, zg_some, Nat.reduceMod, Nat.reduceDiv, zcn_I, iI_add, iI_sub, iI_mul, iI_neg, iI_lt, iI_le, iI_eq, iI_lt0, iI_le0, iI_gt0, iI_ge0, iI_eq0, p3]
        have hsi : i < szG (zG r tn) 10 := by omega
        have h0 := zBF_all hz h800 hB hsi
        have hrg : ∀ s, s < szG (zG r tn) 10 → -1 ≤ B.1 s ∧ B.1 s < 1000 := fun s q => by
          exact bI_rng (zB_I hz hB) h800 q
        refine near_ok (by omega) hG hk rfl rfl hD.2.1 hM hrg hsi ?_ (bF_near hz hB hsi h0 (dc_f.mpr h))
        exact zW.gbt [] rfl rfl rfl (by omega) trivial (by simp (disch := omega) only [eq_self, not_true_eq_false, not_false_eq_true, upI_same, upL_same, upI_ne, upL_ne, iI_ixN, zI_mk, zL_mk, zP_mk, zK_mk, zN_mk, zwI_up, zwL_up, zg_some, Nat.reduceMod, Nat.reduceDiv, zcn_I, iI_add, iI_sub, iI_mul, iI_neg, iI_lt, iI_le, iI_eq, iI_lt0, iI_le0, iI_gt0, iI_ge0, iI_eq0] <;> omega) NX
theorem well_lp {I0 : Nat → Nat → Int32} {L0 : Nat → Nat → Int64} (hd : 8 ≤ d) (hL : ZL b R) (hz : zOK n r tn col st) (h800 : szG (zG r tn) 10 ≤ 800)
    (hQ : ∀ I' L', zfr b I0 L0 I' L' → zPR b I' L' n r tn col st → Q (.inl (some (zi (iI 1)))) (I', L', R)) :
    ∀ (m k : Nat), k + m = 2 → ∀ (I : Nat → Nat → Int32) (L : Nat → Nat → Int64) (x : Int32) (v : Option zV), zfr b I0 L0 I L → zPR b I L n r tn col st → x = iI (k : Int) → zW 41 d 0 0 28 [some (zr (some b)), some (zi x), v] [] (I, L, R) Q
  | 0, k, hk, I, L, x, v, f, hR, e => by
    subst e
    refine zW.gbt [] rfl rfl rfl (by omega) trivial (by simp (disch := omega) only [eq_self, not_true_eq_false, not_false_eq_true, upI_same, upL_same, upI_ne, upL_ne, iI_ixN, zI_mk, zL_mk, zP_mk, zK_mk, zN_mk, zwI_up, zwL_up, zg_some, Nat.reduceMod, Nat.reduceDiv, zcn_I, iI_add, iI_sub, iI_mul, iI_neg, iI_lt, iI_le, iI_eq, iI_lt0, iI_le0, iI_gt0, iI_ge0, iI_eq0] <;> omega) ?_
    refine zW.gr [] rfl rfl rfl (by omega) trivial z01c1 ?_
    rw [zcn_I]
    exact hQ I L f hR
  | m + 1, k, hk, I, L, x, v, f, hR, e => by
    subst e
    have k0 := hL.1
    refine zW.gbf [] rfl rfl rfl (by omega) trivial (by simp (disch := omega) only [eq_self, not_true_eq_false, not_false_eq_true, upI_same, upL_same, upI_ne, upL_ne, iI_ixN, zI_mk, zL_mk, zP_mk, zK_mk, zN_mk, zwI_up, zwL_up, zg_some, Nat.reduceMod, Nat.reduceDiv, zcn_I, iI_add, iI_sub, iI_mul, iI_neg, iI_lt, iI_le, iI_eq, iI_lt0, iI_le0, iI_gt0, iI_ge0, iI_eq0] <;> omega) ?_
    refine zW.gz [] rfl rfl rfl (by omega) trivial ⟨_, rfl, k0⟩ rfl rfl (Nat.le_refl _) (Nat.le_refl _) ?_
    refine measured_ok (by omega) hL hz hR h800 (show k < 2 by omega) rfl (fun I1 L1 f1 R1 D1 M1 => ?_)
    refine zW.go [41] rfl (by omega) trivial ?_
    refine well_in (by omega) hL hz R1 D1 (show k < 2 by omega) rfl M1 (fun w => ?_) (szG (zG r tn) 10) 0 (by omega) _ (zcn_I _)
    refine zW.go [28] rfl (by omega) trivial ?_
    exact well_lp hd hL hz h800 hQ m (k + 1) (by omega) _ _ _ _ (zfr_tr f f1) R1 (by rw [zcn_I, iI_add]; rfl)
theorem well_ok {I : Nat → Nat → Int32} (hd : 8 ≤ d) (hL : ZL b R) (hz : zOK n r tn col st) (hR : zPR b I L n r tn col st) (h800 : szG (zG r tn) 10 ≤ 800)
    (hQ : ∀ I' L', zfr b I L I' L' → zPR b I' L' n r tn col st → Q (.inl (some (zi (iI 1)))) (I', L', R)) : zS 41 d [zr (some b)] (I, L, R) Q := by
  have hL' := hL
  obtain ⟨k0, p1, p2, p3, k1, hC, hG⟩ := hL'
  have gk := hG.1
  have ck := hC.1
  refine zW.gz [] rfl rfl rfl (by omega) trivial ⟨_, rfl, k0⟩ rfl rfl (Nat.le_refl _) (Nat.le_refl _) ?_
  refine drawn_ok (by omega) hL hz hR h800 (fun I1 L1 f1 R1 D1 => ?_)
  refine zW.gz [] rfl rfl rfl (by omega) (by simp (disch := omega) only [true_or, or_true, eq_self, Option.some.injEq, Prod.mk.injEq, zall_0, zall_1, zall_2, zob_iff, zar_iff, zis_iff, zkIs_some, zkHas_some, iI_vp, z01_I, z01_bz, zch_I, true_and, and_true, or_false, false_or, and_self, upI_same, upL_same, upI_ne, upL_ne, iI_ixN, zI_mk, zL_mk, zP_mk, zK_mk, zN_mk, zwI_up, zwL_up, zg_some, Nat.reduceMod, Nat.reduceDiv, zcn_I, iI_add, iI_sub, iI_mul, iI_neg, iI_lt, iI_le, iI_eq, iI_lt0, iI_le0, iI_gt0, iI_ge0, iI_eq0, k0] <;> omega) ?_ rfl rfl (Nat.le_refl _) (Nat.le_refl _) ?_
  · simp (disch := omega) only [upI_same, upL_same, upI_ne, upL_ne, iI_ixN, zI_mk, zL_mk, zP_mk, zK_mk, zN_mk, zwI_up, zwL_up, zg_some, Nat.reduceMod, Nat.reduceDiv, zcn_I, iI_add, iI_sub, iI_mul, iI_neg, iI_lt, iI_le, iI_eq, iI_lt0, iI_le0, iI_gt0, iI_ge0, iI_eq0, p3]
    exact ⟨_, rfl, gk⟩
  simp (disch := omega) only [upI_same, upL_same, upI_ne, upL_ne, iI_ixN, zI_mk, zL_mk, zP_mk, zK_mk, zN_mk, zwI_up, zwL_up, zg_some, Nat.reduceMod, Nat.reduceDiv, zcn_I, iI_add, iI_sub, iI_mul, iI_neg, iI_lt, iI_le, iI_eq, iI_lt0, iI_le0, iI_gt0, iI_ge0, iI_eq0, p3]
  refine walked_ok (by omega) hG D1.2.1 (szG_pos (zG_is hz) 10) (fun I2 f2 _ => ?_)
  rw [walk_all hz h800 rfl]
  have R2 := zPR_m2 R1 f2
  have z8 := chain_sz (zA_pm hz) R2.2.2.2.2.2.1
  have z8 : L1 (b + 2) 5 = iL (szG (zG r tn) 10 : Int) := z8
  refine zW.gbt [] rfl rfl rfl (by omega) (by simp (disch := omega) only [true_or, or_true, eq_self, Option.some.injEq, Prod.mk.injEq, zall_0, zall_1, zall_2, zob_iff, zar_iff, zis_iff, zkIs_some, zkHas_some, iI_vp, z01_I, z01_bz, zch_I, true_and, and_true, or_false, false_or, and_self, upI_same, upL_same, upI_ne, upL_ne, iI_ixN, zI_mk, zL_mk, zP_mk, zK_mk, zN_mk, zwI_up, zwL_up, zg_some, Nat.reduceMod, Nat.reduceDiv, zcn_I, iI_add, iI_sub, iI_mul, iI_neg, iI_lt, iI_le, iI_eq, iI_lt0, iI_le0, iI_gt0, iI_ge0, iI_eq0, k0, p2, ck] <;> omega) ?_ ?_
  · rw [lg_cmp_eq]
    simp (disch := omega) only [upI_same, upL_same, upI_ne, upL_ne, iI_ixN, zI_mk, zL_mk, zP_mk, zK_mk, zN_mk, zwI_up, zwL_up, zg_some, Nat.reduceMod, Nat.reduceDiv, p2, z8, iI_L]
  · refine zW.go [28] rfl (by omega) trivial ?_
    exact well_lp (by omega) hL hz h800 (fun I' L' f' R' => hQ I' L' (zfr_tr (zfr_tr f1 (zfr_m2 f2)) f') R') 2 0 rfl _ _ _ _ (zfr_rf _ _ _) R2 (zcn_I _)
end WELL
