/-! The model's groups: the state of a number, whole. -/
section MST2
variable {d y : Nat} {T : tfT} {I : Nat → Nat → Int32} {L : Nat → Nat → Int64} {R : zRt} {Q : zO → zM → Prop}
theorem st_lp {i n b : Nat} {A : (Nat → Nat) → Prop} {tb : zTb} {s : Nat → Nat} {w : Int64} (hd : 2 ≤ d) (hM : ML y R) (hi : i < 4) (hn : n ≤ 10) (hA : ∀ g, A g → pm 10 g) (hN : ∀ g, Gm A g → pm n g) (vn : I (y + 2) i = iI (n : Int)) (hG : mGr y n A I L tb) (kb : R.2.1 b = some (20, 10)) (hb1 : b ≠ y + 175) (hb2 : b ≠ y + 2) (hb3 : ¬ (y + 52 ≤ b ∧ b ≤ y + 172)) (hs : Gm A s)
    (hQ : ∀ I', (∀ a, a ≠ b → a ≠ y + 175 → I' a = I a) → (∀ p, p < 10 → I' b p = iI (s p : Int)) → Q (.inl none) (I', L, R)) :
    ∀ m k, k + m = n → ∀ (I1 : Nat → Nat → Int32) (e : Nat → Nat) (v : Int64) (x7 : Int32) (v8 v9 v10 v11 v12 : Option zV), (∀ a, a ≠ b → a ≠ y + 175 → I1 a = I a) → (∀ p, p < 10 → I1 b p = iI (e p : Int)) → Gm A e → (∀ q, q < k → e q = s q) → v = iL (numG (Gm A) s (10 - k) : Int) → x7 = iI (k : Int) → zW 183 d 0 0 29 [some (zr (some y)), some (zi (iI (i : Int))), some (zl w), none, some (zr (some b)), some (zl v), none, some (zi x7), v8, v9, v10, v11, v12] [] (I1, L, R) Q
  | 0, k, hk, I1, e, v, x7, v8, v9, v10, v11, v12, f1, f2, he, hes, ev, e7 => by
    subst ev; subst e7
    have k0 : R.2.1 y = some (7, 0) := hM.1
    have vn1 : I1 (y + 2) i = iI (n : Int) := by rw [f1 _ (by omega) (by omega)]; exact vn
    have p1 : R.1 y 1 = some (y + 2) := (hM.2.1 1 (by decide)).1; have k1 : R.2.1 (y + 2) = some (20, 4) := (hM.2.1 1 (by decide)).2
    obtain rfl : k = n := by omega
    refine zW.gbt [] rfl rfl rfl (by omega) (by simp (disch := omega) only [true_or, or_true, eq_self, Option.some.injEq, Prod.mk.injEq, zall_0, zall_1, zall_2, zob_iff, zar_iff, zis_iff, zkIs_some, zkHas_some, iI_vp, z01_I, z01_bz, zch_I, true_and, and_true, or_false, false_or, and_self, upI_same, upL_same, upI_ne, upL_ne, iI_ixN, zI_mk, zL_mk, zP_mk, zK_mk, zN_mk, zwI_up, zwL_up, zg_some, Nat.reduceMod, Nat.reduceDiv, zcn_I, iI_add, iI_sub, iI_mul, iI_neg, iI_lt, iI_le, iI_eq, iI_lt0, iI_le0, iI_gt0, iI_ge0, iI_eq0, k0, p1, k1] <;> omega) (by simp (disch := omega) only [eq_self, not_true_eq_false, not_false_eq_true, upI_same, upL_same, upI_ne, upL_ne, iI_ixN, zI_mk, zL_mk, zP_mk, zK_mk, zN_mk, zwI_up, zwL_up, zg_some, Nat.reduceMod, Nat.reduceDiv, zcn_I, iI_add, iI_sub, iI_mul, iI_neg, iI_lt, iI_le, iI_eq, iI_lt0, iI_le0, iI_gt0, iI_ge0, iI_eq0, p1, vn1] <;> omega) ?_
    refine zW.gr [] rfl rfl rfl (by omega) trivial trivial (hQ I1 f1 (fun p hp => ?_))
    rw [f2 p hp]
    by_cases q : p < k
    · rw [hes p q]
    · rw [(hN e he).2.2 p (by omega), (hN s hs).2.2 p (by omega)]
  | m + 1, k, hk, I1, e, v, x7, v8, v9, v10, v11, v12, f1, f2, he, hes, ev, e7 => by
    subst ev; subst e7
    have k0 : R.2.1 y = some (7, 0) := hM.1
    have hGi := Gm_isG (A := A) hA
    have hpe := Gm_pm hA he
    have hne := hN e he
    have vn1 : I1 (y + 2) i = iI (n : Int) := by rw [f1 _ (by omega) (by omega)]; exact vn
    have hG1 : mGr y n A I1 L tb := mGr_fr hG (fun a q1 q2 => f1 a (by omega) (by omega)) rfl
    obtain ⟨hj0, ej0, H⟩ := st_pick hn hA hN hG1 he hs (show k < n by omega) hes
    obtain ⟨j0, hj⟩ : ∃ j0, vi 10 e (s k) = j0 := ⟨_, rfl⟩
    rw [hj] at hj0 ej0 H
    have hor := ((H j0 hj0).mpr rfl).1
    obtain ⟨u, hu⟩ := Option.isSome_iff_exists.mp hor
    obtain ⟨b1, b2, b3, b4, b5⟩ := hG.1.1 _ _ _ hu
    have hun := hG.2.1 _ _ _ hu
    have t2 := (hG1.2.2.1 k j0 (by omega) (by omega)).2 u hu
    have vz := hG1.2.2.2.2.2.2 (k + 1) (by omega)
    have ek : (k : Int) + 1 = ((k + 1 : Nat) : Int) := by omega
    -- the number parted
    have e1 : numG (Gm A) s (10 - k) = clG (Gm A) s k * szG (Gm A) (10 - (k + 1)) + numG (Gm A) s (10 - (k + 1)) := by
      rw [show 10 - k = (10 - (k + 1)) + 1 by omega]
      show clG (Gm A) s (9 - (10 - (k + 1))) * szG (Gm A) (10 - (k + 1)) + numG (Gm A) s (10 - (k + 1)) = _
      rw [show 9 - (10 - (k + 1)) = k by omega]
    have e2 : numG (Gm A) s (10 - (k + 1)) < szG (Gm A) (10 - (k + 1)) := numG_lt hGi hs _ (by omega)
    have e3 : numG (Gm A) s (10 - k) < szG (Gm A) (10 - k) := numG_lt hGi hs _ (by omega)
    have e4 : szG (Gm A) (10 - k) ≤ 10 ^ 10 := Nat.le_trans (szG_le _ _) (Nat.pow_le_pow_right (by decide) (by omega))
    have e5 : szG (Gm A) (10 - (k + 1)) ≤ 10 ^ 10 := Nat.le_trans (szG_le _ _) (Nat.pow_le_pow_right (by decide) (by omega))
    have e6 : clG (Gm A) s k < cntG (Gm A) k := clG_lt hGi hs (by omega)
    have e7 : cntG (Gm A) k ≤ 10 := ct_le _ _
    obtain ⟨N, hN1⟩ : ∃ N, numG (Gm A) s (10 - k) = N := ⟨_, rfl⟩
    obtain ⟨Z, hZ1⟩ : ∃ Z, szG (Gm A) (10 - (k + 1)) = Z := ⟨_, rfl⟩
    obtain ⟨r, hr1⟩ : ∃ r, numG (Gm A) s (10 - (k + 1)) = r := ⟨_, rfl⟩
    obtain ⟨C, hC1⟩ : ∃ C, clG (Gm A) s k = C := ⟨_, rfl⟩
    rw [hN1, hZ1, hr1, hC1] at e1
    rw [hr1, hZ1] at e2
    rw [hN1] at e3
    rw [hZ1] at e5 vz
    rw [hC1] at e6 H
    have hpow : (10 : Nat) ^ 10 = 10000000000 := by decide
    rw [hpow] at e4 e5
    have hdiv : N / Z = C := by
      rw [e1, Nat.mul_comm, Nat.mul_add_div (by omega), Nat.div_eq_of_lt e2, Nat.add_zero]
    have hmod : N % Z = r := by
      rw [e1, Nat.mul_comm, Nat.mul_add_mod, Nat.mod_eq_of_lt e2]
    have ed : iL (N : Int) / iL (Z : Int) = iL (C : Int) := by
      rw [iL_div (by omega) (by omega) (by omega) (by omega)]
      exact iL_cg (by omega)
    have em : iL (N : Int) - iL (C : Int) * iL (Z : Int) = iL (r : Int) := by
      rw [← ed, iL_mod (by omega) (by omega) (by omega) (by omega)]
      exact iL_cg (by omega)
    have z0 : ¬ iL (Z : Int) = 0 := fun q => by
      rw [← iL_0, iL_eq (by omega) (by omega) (by omega) (by omega)] at q
      omega
    rw [hN1]
    have p1 : R.1 y 1 = some (y + 2) := (hM.2.1 1 (by decide)).1; have k1 : R.2.1 (y + 2) = some (20, 4) := (hM.2.1 1 (by decide)).2; have p8 : R.1 y 8 = some (y + 173) := (hM.2.1 8 (by decide)).1; have k8 : R.2.1 (y + 173) = some (21, 11) := (hM.2.1 8 (by decide)).2; have p7 : R.1 y 7 = some (y + 62) := (hM.2.1 7 (by decide)).1; have k7 : R.2.1 (y + 62) = some (26, 10) := (hM.2.1 7 (by decide)).2; have q7 : R.1 (y + 62) (k) = some (y + 63 + 11 * k) := (hM.2.2.2.2.2.2.1 (k) (by omega)).1.trans (congrArg some (by omega)); have j7 : R.2.1 (y + 63 + 11 * k) = some (25, 10) := (congrArg R.2.1 (by omega)).trans (hM.2.2.2.2.2.2.1 (k) (by omega)).2.1; have r7 : R.1 (y + 63 + 11 * k) (j0) = some (y + 64 + 11 * k + j0) := (congrFun (congrArg R.1 (show y + 63 + 11 * k = y + 62 + 1 + 11 * k by omega)) (j0)).trans ((((hM.2.2.2.2.2.2.1 (k) (by omega)).2.2 (j0) (by omega)).1).trans (congrArg some (by omega))); have s7 : R.2.1 (y + 64 + 11 * k + j0) = some (20, 10) := (congrArg R.2.1 (by omega)).trans ((hM.2.2.2.2.2.2.1 (k) (by omega)).2.2 (j0) (by omega)).2; have p10 : R.1 y 10 = some (y + 175) := (hM.2.1 10 (by decide)).1; have k10 : R.2.1 (y + 175) = some (20, 10) := (hM.2.1 10 (by decide)).2
    refine zW.gbf [] rfl rfl rfl (by omega) (by simp (disch := omega) only [true_or, or_true, eq_self, Option.some.injEq, Prod.mk.injEq, zall_0, zall_1, zall_2, zob_iff, zar_iff, zis_iff, zkIs_some, zkHas_some, iI_vp, z01_I, z01_bz, zch_I, true_and, and_true, or_false, false_or, and_self, upI_same, upL_same, upI_ne, upL_ne, iI_ixN, zI_mk, zL_mk, zP_mk, zK_mk, zN_mk, zwI_up, zwL_up, zg_some, Nat.reduceMod, Nat.reduceDiv, zcn_I, iI_add, iI_sub, iI_mul, iI_neg, iI_lt, iI_le, iI_eq, iI_lt0, iI_le0, iI_gt0, iI_ge0, iI_eq0, k0, p1, k1] <;> omega) (by simp (disch := omega) only [eq_self, not_true_eq_false, not_false_eq_true, upI_same, upL_same, upI_ne, upL_ne, iI_ixN, zI_mk, zL_mk, zP_mk, zK_mk, zN_mk, zwI_up, zwL_up, zg_some, Nat.reduceMod, Nat.reduceDiv, zcn_I, iI_add, iI_sub, iI_mul, iI_neg, iI_lt, iI_le, iI_eq, iI_lt0, iI_le0, iI_gt0, iI_ge0, iI_eq0, p1, vn1] <;> omega) ?_
    refine zW.go [76] rfl (by omega) ?_ ?_
    · simp (disch := omega) only [true_or, or_true, eq_self, Option.some.injEq, Prod.mk.injEq, zall_0, zall_1, zall_2, zob_iff, zar_iff, zis_iff, zkIs_some, zkHas_some, iI_vp, z01_I, z01_bz, zch_I, true_and, and_true, or_false, false_or, and_self, upI_same, upL_same, upI_ne, upL_ne, iI_ixN, zI_mk, zL_mk, zP_mk, zK_mk, zN_mk, zwI_up, zwL_up, zg_some, Nat.reduceMod, Nat.reduceDiv, zcn_I, iI_add, k0, p8, k8, ek, vz, z0, not_false_eq_true]
      omega
    simp (disch := omega) only [upI_same, upL_same, upI_ne, upL_ne, iI_ixN, zI_mk, zL_mk, zP_mk, zK_mk, zN_mk, zwI_up, zwL_up, zg_some, Nat.reduceMod, Nat.reduceDiv, zcn_I, iI_add, p8, ek, vz, ed, em, iL_I]
    have SJ := st_j (i := i) (w := w) (v := iL (r : Int)) (by omega) hM hi hn (show k < n by omega) vn1 hG1.2.2.1 kb f2 hpe (show C ≤ 10 by omega) hj0 H (d := d) (L := L) (Q := Q) (fun x10 w11 w12 => by
      refine zW.gz [] rfl rfl rfl (by omega) ?_ trivial rfl rfl (by decide +kernel) (by decide +kernel) ?_
      · simp (disch := omega) only [true_or, or_true, eq_self, Option.some.injEq, Prod.mk.injEq, zall_0, zall_1, zall_2, zob_iff, zar_iff, zis_iff, zkIs_some, zkHas_some, iI_vp, z01_I, z01_bz, zch_I, true_and, and_true, or_false, false_or, and_self, upI_same, upL_same, upI_ne, upL_ne, iI_ixN, zI_mk, zL_mk, zP_mk, zK_mk, zN_mk, zwI_up, zwL_up, zg_some, Nat.reduceMod, Nat.reduceDiv, k0, p1, k1, p10, k10, p7, k7, q7, j7]
        omega
      simp (disch := omega) only [upI_same, upL_same, upI_ne, upL_ne, iI_ixN, zI_mk, zL_mk, zP_mk, zK_mk, zN_mk, zwI_up, zwL_up, zg_some, Nat.reduceMod, Nat.reduceDiv, p1, vn1, p10, p7, q7, r7]
      refine behind_ok (f := e) (g := u) (by omega) rfl k10 kb s7 (by omega) (by omega) hn hn hn (by omega) f2 (fun p hp => t2 p (by omega)) (fun p hp => by have := hun.1 p hp; omega) (fun I2 g1 g2 g3 => ?_)
      have v2 : I2 (y + 2) i = iI (n : Int) := by rw [g1 _ (by omega)]; exact vn1
      have l1 : zlenOf (I2, L, R) (some (y + 175)) = 10 := zlenOf_some k10
      have l2 : zlenOf (I2, L, R) (some b) = 10 := zlenOf_some kb
      refine zW.go [29] rfl (by omega) ?_ ?_
      · simp (disch := omega) only [true_or, or_true, eq_self, Option.some.injEq, Prod.mk.injEq, zall_0, zall_1, zall_2, zob_iff, zar_iff, zis_iff, zkIs_some, zkHas_some, iI_vp, z01_I, z01_bz, zch_I, true_and, and_true, or_false, false_or, and_self, upI_same, upL_same, upI_ne, upL_ne, iI_ixN, zI_mk, zL_mk, zP_mk, zK_mk, zN_mk, zwI_up, zwL_up, zg_some, Nat.reduceMod, Nat.reduceDiv, zcn_I, iI_add, iI_sub, iI_mul, iI_neg, iI_lt, iI_le, iI_eq, iI_lt0, iI_le0, iI_gt0, iI_ge0, iI_eq0, k0, p10, k10, p1, k1, kb, v2, l1, l2, zkHas_some, Int.toNat_natCast, iI_ixN, c0i, c0n]
        omega
      simp (disch := omega) only [upI_same, upL_same, upI_ne, upL_ne, iI_ixN, zI_mk, zL_mk, zP_mk, zK_mk, zN_mk, zwI_up, zwL_up, zg_some, Nat.reduceMod, Nat.reduceDiv, zcopy_up, p10, p1, v2, c0n]
      refine st_lp hd hM hi hn hA hN vn hG kb hb1 hb2 hb3 hs hQ m (k + 1) (by omega) _ (fun p => e (u p)) _ _ _ _ _ _ _ (fun a q1 q2 => by rw [cpI_row q1, g1 a q2]; exact f1 a q1 q2) (fun p hp => ?_) (Gm_mul he (hG.2.2.2.1 _ _ _ hu)) (fun q hq => ?_) (by rw [hr1]) (by rw [zcn_I, iI_add]; rfl)
      · by_cases c : p < n
        · rw [cpI_in c]
          exact g2 p c
        · rw [cpI_out (by omega), g1 _ (by omega), f2 p hp]
          show iI (e p : Int) = iI (e (u p) : Int)
          rw [hun.2.2 p (by omega)]
      · show e (u q) = s q
        by_cases c : q = k
        · rw [c, b5]
          exact ej0
        · rw [b4 q (by omega)]
          exact hes q (by omega)) n 0 (by omega) (iI 0) v11 v12 rfl
    rw [show (if j0 < 0 then j0 else k) = k from if_neg (Nat.not_lt_zero _)] at SJ
    exact SJ
theorem mst_ok {i n b : Nat} {A : (Nat → Nat) → Prop} {tb : zTb} {s : Nat → Nat} {w : Int64} {x : Int32} (hd : 2 ≤ d) (hM : ML y R) (e : x = iI (i : Int)) (e2 : w = iL (numG (Gm A) s 10 : Int)) (hi : i < 4) (hn : n ≤ 10) (hA : ∀ g, A g → pm 10 g) (hN : ∀ g, Gm A g → pm n g) (vn : I (y + 2) i = iI (n : Int)) (hG : mGr y n A I L tb) (kb : R.2.1 b = some (20, 10)) (hb1 : b ≠ y + 175) (hb2 : b ≠ y + 2) (hb3 : ¬ (y + 52 ≤ b ∧ b ≤ y + 172)) (hs : Gm A s)
    (hQ : ∀ I', (∀ a, a ≠ b → a ≠ y + 175 → I' a = I a) → (∀ p, p < 10 → I' b p = iI (s p : Int)) → Q (.inl none) (I', L, R)) : zS 183 d [zr (some y), zi x, zl w, zr (some b)] (I, L, R) Q := by
  subst e; subst e2
  refine zW.go [3] rfl (by omega) trivial ?_
  refine st_id (by omega) kb (fun I1 x5 f1 f2 => ?_) 10 0 (by omega) I _ (fun _ _ => rfl) (fun p q => absurd q (Nat.not_lt_zero p)) (zcn_I _)
  refine zW.go [29] rfl (by omega) trivial ?_
  have hG1 : mGr y n A I1 L tb := mGr_fr hG (fun a q1 q2 => f1 a (by omega)) rfl
  exact st_lp (I := I) hd hM hi hn hA hN vn hG kb hb1 hb2 hb3 hs hQ n 0 (by omega) I1 (fun p => p) _ _ _ _ _ _ _ (fun a q _ => f1 a q) f2 (Gm_id A) (fun q h => absurd h (Nat.not_lt_zero q)) rfl (zcn_I _)
end MST2
