/-! The model's groups: the state of a number. -/
theorem low_cg {G : (Nat → Nat) → Prop} {e s : Nat → Nat} {k v : Nat} (h : ∀ i, i < k → e i = s i) : low G e k v ↔ low G s k v :=
  ⟨fun ⟨g, h1, h2, h3⟩ => ⟨g, h1, fun i hi => (h2 i hi).trans (h i hi), h3⟩, fun ⟨g, h1, h2, h3⟩ => ⟨g, h1, fun i hi => (h2 i hi).trans (h i hi).symm, h3⟩⟩
theorem st_pick {y n : Nat} {A : (Nat → Nat) → Prop} {I : Nat → Nat → Int32} {L : Nat → Nat → Int64} {tb : zTb} {e s : Nat → Nat} {k : Nat} (hn : n ≤ 10) (hA : ∀ g, A g → pm 10 g) (hN : ∀ g, Gm A g → pm n g) (h : mGr y n A I L tb) (he : Gm A e) (hs : Gm A s) (hk : k < n) (hes : ∀ i, i < k → e i = s i) : vi 10 e (s k) < n ∧ e (vi 10 e (s k)) = s k ∧ ∀ j, j < n → (((tb k j).isSome = true ∧ ct (fun m => (tb k m).isSome && decide (e m < e j)) n = clG (Gm A) s k) ↔ j = vi 10 e (s k)) := by
  have hpe := Gm_pm hA he
  have hps := Gm_pm hA hs
  have hne := hN e he
  have hns := hN s hs
  have e1 : e (vi 10 e (s k)) = s k := vi_r hpe _
  have l1 := hns.1 k hk
  have j0 : vi 10 e (s k) < n := by
    rw [vi_up hne hn]
    exact (vi_sp hne l1).1
  have or0 : (tb k (vi 10 e (s k))).isSome = true := (mGr_orb hA h (by omega)).mpr ⟨fun p => vi 10 e (s p), Gm_mul (Gm_vi hA he) hs, fun i hi => by
    show vi 10 e (s i) = i
    rw [← hes i hi, vi_l hpe], rfl⟩
  have c0 : ct (fun m => (tb k m).isSome && decide (e m < s k)) n = clG (Gm A) s k := by
    rw [ct_lowT hn hA h he hk (by omega)]
    exact ct_cg fun v _ => dc_cg (low_cg hes)
  refine ⟨j0, e1, fun j hj => ⟨fun ⟨q1, q2⟩ => ?_, fun q => ?_⟩⟩
  · apply Classical.byContradiction
    intro ne
    have hne2 : e j ≠ s k := fun q => ne (by rw [← q, vi_l hpe])
    rcases Nat.lt_or_gt_of_ne hne2 with q | q
    · have := ct_lt (a := fun m => (tb k m).isSome && decide (e m < e j)) (b := fun m => (tb k m).isSome && decide (e m < s k)) (i := j) (n := n) (fun m _ hm => by
        rw [Bool.and_eq_true] at hm ⊢
        exact ⟨hm.1, decide_eq_true (by have := of_decide_eq_true hm.2; omega)⟩) hj (by
        show ((tb k j).isSome && decide (e j < e j)) = false
        rw [decide_eq_false (by omega), Bool.and_false]) (by
        show ((tb k j).isSome && decide (e j < s k)) = true
        rw [decide_eq_true q, q1]
        rfl)
      omega
    · have := ct_lt (a := fun m => (tb k m).isSome && decide (e m < s k)) (b := fun m => (tb k m).isSome && decide (e m < e j)) (i := vi 10 e (s k)) (n := n) (fun m _ hm => by
        rw [Bool.and_eq_true] at hm ⊢
        exact ⟨hm.1, decide_eq_true (by have := of_decide_eq_true hm.2; omega)⟩) j0 (by
        show ((tb k (vi 10 e (s k))).isSome && decide (e (vi 10 e (s k)) < s k)) = false
        rw [decide_eq_false (by omega), Bool.and_false]) (by
        show ((tb k (vi 10 e (s k))).isSome && decide (e (vi 10 e (s k)) < e j)) = true
        rw [decide_eq_true (by omega), or0]
        rfl)
      omega
  · rw [q, e1]
    exact ⟨or0, c0⟩
section MST
variable {d y : Nat} {I : Nat → Nat → Int32} {L : Nat → Nat → Int64} {R : zRt} {Q : zO → zM → Prop}
theorem st_id {i b : Nat} {w : Int64} {v6 v7 v8 v9 v10 v11 v12 : Option zV} (hd : 1 ≤ d) (kb : R.2.1 b = some (20, 10))
    (hQ : ∀ I' x, (∀ a, a ≠ b → I' a = I a) → (∀ p : Nat, p < 10 → I' b p = iI (p : Int)) → zW 183 d 0 0 23 [some (zr (some y)), some (zi (iI (i : Int))), some (zl w), none, some (zr (some b)), some (zi x), v6, v7, v8, v9, v10, v11, v12] [] (I', L, R) Q) :
    ∀ m k, k + m = 10 → ∀ (I1 : Nat → Nat → Int32) (x : Int32), (∀ a, a ≠ b → I1 a = I a) → (∀ p : Nat, p < k → I1 b p = iI (p : Int)) → x = iI (k : Int) → zW 183 d 0 0 3 [some (zr (some y)), some (zi (iI (i : Int))), some (zl w), none, some (zr (some b)), some (zi x), v6, v7, v8, v9, v10, v11, v12] [] (I1, L, R) Q
  | 0, k, hk, I1, x, f1, f2, e => by
    subst e
    obtain rfl : k = 10 := by omega
    exact zW.gbt [] rfl rfl rfl (by omega) trivial (by simp (disch := omega) only [eq_self, not_true_eq_false, not_false_eq_true, upI_same, upL_same, upI_ne, upL_ne, iI_ixN, zI_mk, zL_mk, zP_mk, zK_mk, zN_mk, zwI_up, zwL_up, zg_some, Nat.reduceMod, Nat.reduceDiv, zcn_I, iI_add, iI_sub, iI_mul, iI_neg, iI_lt, iI_le, iI_eq, iI_lt0, iI_le0, iI_gt0, iI_ge0, iI_eq0] <;> omega) (hQ I1 _ f1 f2)
  | m + 1, k, hk, I1, x, f1, f2, e => by
    subst e
    refine zW.gbf [] rfl rfl rfl (by omega) trivial (by simp (disch := omega) only [eq_self, not_true_eq_false, not_false_eq_true, upI_same, upL_same, upI_ne, upL_ne, iI_ixN, zI_mk, zL_mk, zP_mk, zK_mk, zN_mk, zwI_up, zwL_up, zg_some, Nat.reduceMod, Nat.reduceDiv, zcn_I, iI_add, iI_sub, iI_mul, iI_neg, iI_lt, iI_le, iI_eq, iI_lt0, iI_le0, iI_gt0, iI_ge0, iI_eq0] <;> omega) ?_
    refine zW.go [3] rfl (by omega) (by simp (disch := omega) only [true_or, or_true, eq_self, Option.some.injEq, Prod.mk.injEq, zall_0, zall_1, zall_2, zob_iff, zar_iff, zis_iff, zkIs_some, zkHas_some, iI_vp, z01_I, z01_bz, zch_I, true_and, and_true, or_false, false_or, and_self, upI_same, upL_same, upI_ne, upL_ne, iI_ixN, zI_mk, zL_mk, zP_mk, zK_mk, zN_mk, zwI_up, zwL_up, zg_some, Nat.reduceMod, Nat.reduceDiv, zcn_I, iI_add, iI_sub, iI_mul, iI_neg, iI_lt, iI_le, iI_eq, iI_lt0, iI_le0, iI_gt0, iI_ge0, iI_eq0, kb] <;> omega) ?_
    simp (disch := omega) only [upI_same, upL_same, upI_ne, upL_ne, iI_ixN, zI_mk, zL_mk, zP_mk, zK_mk, zN_mk, zwI_up, zwL_up, zg_some, Nat.reduceMod, Nat.reduceDiv, zcn_I, iI_add, iI_sub, iI_mul, iI_neg, iI_lt, iI_le, iI_eq, iI_lt0, iI_le0, iI_gt0, iI_ge0, iI_eq0]
    refine st_id hd kb hQ m (k + 1) (by omega) _ _ (fun a q => (upI_row q).trans (f1 a q)) (fun p hp => ?_) rfl
    by_cases q : p = k
    · rw [q, upI_same]
    · rw [upI_ne (by omega)]
      exact f2 p (by omega)
theorem st_in {i n b k j : Nat} {tb : zTb} {e : Nat → Nat} {w v : Int64} {c pk : Int32} (hd : 1 ≤ d) (hM : ML y R) (hi : i < 4) (hn : n ≤ 10) (hk : k < n) (hj : j < n) (vn : I (y + 2) i = iI (n : Int)) (hT : mTb y I tb) (kb : R.2.1 b = some (20, 10)) (vb : ∀ p, p < 10 → I b p = iI (e p : Int)) (he : pm 10 e)
    (hQ : ∀ x, zW 183 d 0 0 146 [some (zr (some y)), some (zi (iI (i : Int))), some (zl w), none, some (zr (some b)), some (zl v), none, some (zi (iI (k : Int))), some (zi c), some (zi pk), some (zi (iI (j : Int))), some (zi (iI (ct (fun m => (tb k m).isSome && decide (e m < e j)) n : Int))), some (zi x)] [] (I, L, R) Q) :
    ∀ m q, q + m = n → ∀ (x11 x12 : Int32), x11 = iI (ct (fun m => (tb k m).isSome && decide (e m < e j)) q : Int) → x12 = iI (q : Int) → zW 183 d 0 0 93 [some (zr (some y)), some (zi (iI (i : Int))), some (zl w), none, some (zr (some b)), some (zl v), none, some (zi (iI (k : Int))), some (zi c), some (zi pk), some (zi (iI (j : Int))), some (zi x11), some (zi x12)] [] (I, L, R) Q
  | 0, q, hq, x11, x12, e1, e2 => by
    subst e1; subst e2
    have k0 : R.2.1 y = some (7, 0) := hM.1
    have p1 : R.1 y 1 = some (y + 2) := (hM.2.1 1 (by decide)).1; have k1 : R.2.1 (y + 2) = some (20, 4) := (hM.2.1 1 (by decide)).2
    obtain rfl : q = n := by omega
    exact zW.gbt [] rfl rfl rfl (by omega) (by simp (disch := omega) only [true_or, or_true, eq_self, Option.some.injEq, Prod.mk.injEq, zall_0, zall_1, zall_2, zob_iff, zar_iff, zis_iff, zkIs_some, zkHas_some, iI_vp, z01_I, z01_bz, zch_I, true_and, and_true, or_false, false_or, and_self, upI_same, upL_same, upI_ne, upL_ne, iI_ixN, zI_mk, zL_mk, zP_mk, zK_mk, zN_mk, zwI_up, zwL_up, zg_some, Nat.reduceMod, Nat.reduceDiv, zcn_I, iI_add, iI_sub, iI_mul, iI_neg, iI_lt, iI_le, iI_eq, iI_lt0, iI_le0, iI_gt0, iI_ge0, iI_eq0, k0, p1, k1] <;> omega) (by simp (disch := omega) only [eq_self, not_true_eq_false, not_false_eq_true, upI_same, upL_same, upI_ne, upL_ne, iI_ixN, zI_mk, zL_mk, zP_mk, zK_mk, zN_mk, zwI_up, zwL_up, zg_some, Nat.reduceMod, Nat.reduceDiv, zcn_I, iI_add, iI_sub, iI_mul, iI_neg, iI_lt, iI_le, iI_eq, iI_lt0, iI_le0, iI_gt0, iI_ge0, iI_eq0, p1, vn] <;> omega) (hQ _)
  | m + 1, q, hq, x11, x12, e1, e2 => by
    subst e1; subst e2
    have k0 : R.2.1 y = some (7, 0) := hM.1
    obtain ⟨t1, -⟩ := hT k q (by omega) (by omega)
    have v1 := vb q (by omega)
    have v2 := vb j (by omega)
    have l1 := he.1 q (by omega)
    have l2 := he.1 j (by omega)
    have p1 : R.1 y 1 = some (y + 2) := (hM.2.1 1 (by decide)).1; have k1 : R.2.1 (y + 2) = some (20, 4) := (hM.2.1 1 (by decide)).2; have p6 : R.1 y 6 = some (y + 51) := (hM.2.1 6 (by decide)).1; have k6 : R.2.1 (y + 51) = some (29, 10) := (hM.2.1 6 (by decide)).2; have q6 : R.1 (y + 51) (k) = some (y + 52 + k) := (hM.2.2.2.2.2.1 (k) (by omega)).1.trans (congrArg some (by omega)); have j6 : R.2.1 (y + 52 + k) = some (22, 10) := (congrArg R.2.1 (by omega)).trans (hM.2.2.2.2.2.1 (k) (by omega)).2
    have NX : ∀ (u : Int32) (z : Nat), u = iI (z : Int) → ct (fun m => (tb k m).isSome && decide (e m < e j)) (q + 1) = ct (fun m => (tb k m).isSome && decide (e m < e j)) q + z → zW 183 d 0 0 137 [some (zr (some y)), some (zi (iI (i : Int))), some (zl w), none, some (zr (some b)), some (zl v), none, some (zi (iI (k : Int))), some (zi c), some (zi pk), some (zi (iI (j : Int))), some (zi (iI (ct (fun m => (tb k m).isSome && decide (e m < e j)) q : Int))), some (zi (iI (q : Int)))] [zi u, zi (iI (ct (fun m => (tb k m).isSome && decide (e m < e j)) q : Int))] (I, L, R) Q := fun u z hu hz => by
      subst hu
      refine zW.go [93] rfl (by omega) trivial ?_
      exact st_in hd hM hi hn hk hj vn hT kb vb he hQ m (q + 1) (by omega) _ _ (by rw [iI_add, hz]; rfl) (by rw [zcn_I, iI_add]; rfl)
    have cs : ∀ b : Bool, ((tb k q).isSome && decide (e q < e j)) = b → ct (fun m => (tb k m).isSome && decide (e m < e j)) (q + 1) = ct (fun m => (tb k m).isSome && decide (e m < e j)) q + (if b then 1 else 0) := fun b hb => by
      rw [← hb]
      rfl
    refine zW.gbf [] rfl rfl rfl (by omega) (by simp (disch := omega) only [true_or, or_true, eq_self, Option.some.injEq, Prod.mk.injEq, zall_0, zall_1, zall_2, zob_iff, zar_iff, zis_iff, zkIs_some, zkHas_some, iI_vp, z01_I, z01_bz, zch_I, true_and, and_true, or_false, false_or, and_self, upI_same, upL_same, upI_ne, upL_ne, iI_ixN, zI_mk, zL_mk, zP_mk, zK_mk, zN_mk, zwI_up, zwL_up, zg_some, Nat.reduceMod, Nat.reduceDiv, zcn_I, iI_add, iI_sub, iI_mul, iI_neg, iI_lt, iI_le, iI_eq, iI_lt0, iI_le0, iI_gt0, iI_ge0, iI_eq0, k0, p1, k1] <;> omega) (by simp (disch := omega) only [eq_self, not_true_eq_false, not_false_eq_true, upI_same, upL_same, upI_ne, upL_ne, iI_ixN, zI_mk, zL_mk, zP_mk, zK_mk, zN_mk, zwI_up, zwL_up, zg_some, Nat.reduceMod, Nat.reduceDiv, zcn_I, iI_add, iI_sub, iI_mul, iI_neg, iI_lt, iI_le, iI_eq, iI_lt0, iI_le0, iI_gt0, iI_ge0, iI_eq0, p1, vn] <;> omega) ?_
    cases hb : tb k q with
    | none =>
      rw [hb] at t1
      refine zW.gbt [] rfl rfl rfl (by omega) (by simp (disch := omega) only [true_or, or_true, eq_self, Option.some.injEq, Prod.mk.injEq, zall_0, zall_1, zall_2, zob_iff, zar_iff, zis_iff, zkIs_some, zkHas_some, iI_vp, z01_I, z01_bz, zch_I, true_and, and_true, or_false, false_or, and_self, upI_same, upL_same, upI_ne, upL_ne, iI_ixN, zI_mk, zL_mk, zP_mk, zK_mk, zN_mk, zwI_up, zwL_up, zg_some, Nat.reduceMod, Nat.reduceDiv, zcn_I, iI_add, iI_sub, iI_mul, iI_neg, iI_lt, iI_le, iI_eq, iI_lt0, iI_le0, iI_gt0, iI_ge0, iI_eq0, k0, p6, k6, q6, j6] <;> omega) ?_ ?_
      · simp (disch := omega) only [upI_same, upL_same, upI_ne, upL_ne, iI_ixN, zI_mk, zL_mk, zP_mk, zK_mk, zN_mk, zwI_up, zwL_up, zg_some, Nat.reduceMod, Nat.reduceDiv, p6, q6, t1]
        decide +kernel
      refine zW.go [137] rfl (by omega) trivial (NX _ 0 (zcn_I _) (cs false ?_))
      rw [hb]
      rfl
    | some u =>
      rw [hb] at t1
      refine zW.gbf [] rfl rfl rfl (by omega) (by simp (disch := omega) only [true_or, or_true, eq_self, Option.some.injEq, Prod.mk.injEq, zall_0, zall_1, zall_2, zob_iff, zar_iff, zis_iff, zkIs_some, zkHas_some, iI_vp, z01_I, z01_bz, zch_I, true_and, and_true, or_false, false_or, and_self, upI_same, upL_same, upI_ne, upL_ne, iI_ixN, zI_mk, zL_mk, zP_mk, zK_mk, zN_mk, zwI_up, zwL_up, zg_some, Nat.reduceMod, Nat.reduceDiv, zcn_I, iI_add, iI_sub, iI_mul, iI_neg, iI_lt, iI_le, iI_eq, iI_lt0, iI_le0, iI_gt0, iI_ge0, iI_eq0, k0, p6, k6, q6, j6] <;> omega) ?_ ?_
      · simp (disch := omega) only [upI_same, upL_same, upI_ne, upL_ne, iI_ixN, zI_mk, zL_mk, zP_mk, zK_mk, zN_mk, zwI_up, zwL_up, zg_some, Nat.reduceMod, Nat.reduceDiv, p6, q6, t1]
        show ¬ bz true = 0
        decide +kernel
      refine zW.gb [] rfl rfl rfl (by omega) (by simp (disch := omega) only [true_or, or_true, eq_self, Option.some.injEq, Prod.mk.injEq, zall_0, zall_1, zall_2, zob_iff, zar_iff, zis_iff, zkIs_some, zkHas_some, iI_vp, z01_I, z01_bz, zch_I, true_and, and_true, or_false, false_or, and_self, upI_same, upL_same, upI_ne, upL_ne, iI_ixN, zI_mk, zL_mk, zP_mk, zK_mk, zN_mk, zwI_up, zwL_up, zg_some, Nat.reduceMod, Nat.reduceDiv, zcn_I, iI_add, iI_sub, iI_mul, iI_neg, iI_lt, iI_le, iI_eq, iI_lt0, iI_le0, iI_gt0, iI_ge0, iI_eq0, kb] <;> omega) (fun h' => ?_) (fun h' => ?_) <;> simp (disch := omega) only [zcn_I, iI_add, iI_sub, iI_mul, iI_neg, iI_lt, iI_le, iI_eq, iI_lt0, iI_le0, iI_gt0, iI_ge0, iI_eq0, upI_same, upL_same, upI_ne, upL_ne, iI_ixN, zI_mk, zL_mk, zP_mk, zK_mk, zN_mk, zwI_up, zwL_up, zg_some, Nat.reduceMod, Nat.reduceDiv, v1, v2] at h'
      · refine zW.go [137] rfl (by omega) trivial (NX _ 0 (zcn_I _) (cs false ?_))
        rw [hb, decide_eq_false (by omega)]
        rfl
      · refine zW.go [137] rfl (by omega) trivial (NX _ 1 (zcn_I _) (cs true ?_))
        rw [hb, decide_eq_true (by omega)]
        rfl
theorem st_j {i n b k C j0 : Nat} {tb : zTb} {e : Nat → Nat} {w v : Int64} (hd : 1 ≤ d) (hM : ML y R) (hi : i < 4) (hn : n ≤ 10) (hk : k < n) (vn : I (y + 2) i = iI (n : Int)) (hT : mTb y I tb) (kb : R.2.1 b = some (20, 10)) (vb : ∀ p, p < 10 → I b p = iI (e p : Int)) (he : pm 10 e) (hC : C ≤ 10) (hj0 : j0 < n) (H : ∀ j, j < n → (((tb k j).isSome = true ∧ ct (fun m => (tb k m).isSome && decide (e m < e j)) n = C) ↔ j = j0))
    (hQ : ∀ x v11 v12, zW 183 d 0 0 181 [some (zr (some y)), some (zi (iI (i : Int))), some (zl w), none, some (zr (some b)), some (zl v), none, some (zi (iI (k : Int))), some (zi (iI (C : Int))), some (zi (iI (j0 : Int))), some (zi x), v11, v12] [] (I, L, R) Q) :
    ∀ m j, j + m = n → ∀ (x10 : Int32) (v11 v12 : Option zV), x10 = iI (j : Int) → zW 183 d 0 0 76 [some (zr (some y)), some (zi (iI (i : Int))), some (zl w), none, some (zr (some b)), some (zl v), none, some (zi (iI (k : Int))), some (zi (iI (C : Int))), some (zi (iI ((if j0 < j then j0 else k : Nat) : Int))), some (zi x10), v11, v12] [] (I, L, R) Q
  | 0, j, hj, x10, v11, v12, ex => by
    subst ex
    have k0 : R.2.1 y = some (7, 0) := hM.1
    have p1 : R.1 y 1 = some (y + 2) := (hM.2.1 1 (by decide)).1; have k1 : R.2.1 (y + 2) = some (20, 4) := (hM.2.1 1 (by decide)).2
    obtain rfl : j = n := by omega
    rw [if_pos hj0]
    exact zW.gbt [] rfl rfl rfl (by omega) (by simp (disch := omega) only [true_or, or_true, eq_self, Option.some.injEq, Prod.mk.injEq, zall_0, zall_1, zall_2, zob_iff, zar_iff, zis_iff, zkIs_some, zkHas_some, iI_vp, z01_I, z01_bz, zch_I, true_and, and_true, or_false, false_or, and_self, upI_same, upL_same, upI_ne, upL_ne, iI_ixN, zI_mk, zL_mk, zP_mk, zK_mk, zN_mk, zwI_up, zwL_up, zg_some, Nat.reduceMod, Nat.reduceDiv, zcn_I, iI_add, iI_sub, iI_mul, iI_neg, iI_lt, iI_le, iI_eq, iI_lt0, iI_le0, iI_gt0, iI_ge0, iI_eq0, k0, p1, k1] <;> omega) (by simp (disch := omega) only [eq_self, not_true_eq_false, not_false_eq_true, upI_same, upL_same, upI_ne, upL_ne, iI_ixN, zI_mk, zL_mk, zP_mk, zK_mk, zN_mk, zwI_up, zwL_up, zg_some, Nat.reduceMod, Nat.reduceDiv, zcn_I, iI_add, iI_sub, iI_mul, iI_neg, iI_lt, iI_le, iI_eq, iI_lt0, iI_le0, iI_gt0, iI_ge0, iI_eq0, p1, vn] <;> omega) (hQ _ _ _)
  | m + 1, j, hj, x10, v11, v12, ex => by
    subst ex
    have k0 : R.2.1 y = some (7, 0) := hM.1
    obtain ⟨t1, -⟩ := hT k j (by omega) (by omega)
    have Hj := H j (by omega)
    have p1 : R.1 y 1 = some (y + 2) := (hM.2.1 1 (by decide)).1; have k1 : R.2.1 (y + 2) = some (20, 4) := (hM.2.1 1 (by decide)).2; have p6 : R.1 y 6 = some (y + 51) := (hM.2.1 6 (by decide)).1; have k6 : R.2.1 (y + 51) = some (29, 10) := (hM.2.1 6 (by decide)).2; have q6 : R.1 (y + 51) (k) = some (y + 52 + k) := (hM.2.2.2.2.2.1 (k) (by omega)).1.trans (congrArg some (by omega)); have j6 : R.2.1 (y + 52 + k) = some (22, 10) := (congrArg R.2.1 (by omega)).trans (hM.2.2.2.2.2.1 (k) (by omega)).2
    refine zW.gbf [] rfl rfl rfl (by omega) (by simp (disch := omega) only [true_or, or_true, eq_self, Option.some.injEq, Prod.mk.injEq, zall_0, zall_1, zall_2, zob_iff, zar_iff, zis_iff, zkIs_some, zkHas_some, iI_vp, z01_I, z01_bz, zch_I, true_and, and_true, or_false, false_or, and_self, upI_same, upL_same, upI_ne, upL_ne, iI_ixN, zI_mk, zL_mk, zP_mk, zK_mk, zN_mk, zwI_up, zwL_up, zg_some, Nat.reduceMod, Nat.reduceDiv, zcn_I, iI_add, iI_sub, iI_mul, iI_neg, iI_lt, iI_le, iI_eq, iI_lt0, iI_le0, iI_gt0, iI_ge0, iI_eq0, k0, p1, k1] <;> omega) (by simp (disch := omega) only [eq_self, not_true_eq_false, not_false_eq_true, upI_same, upL_same, upI_ne, upL_ne, iI_ixN, zI_mk, zL_mk, zP_mk, zK_mk, zN_mk, zwI_up, zwL_up, zg_some, Nat.reduceMod, Nat.reduceDiv, zcn_I, iI_add, iI_sub, iI_mul, iI_neg, iI_lt, iI_le, iI_eq, iI_lt0, iI_le0, iI_gt0, iI_ge0, iI_eq0, p1, vn] <;> omega) ?_
    refine zW.go [93] rfl (by omega) trivial ?_
    refine st_in hd hM hi hn hk (show j < n by omega) vn hT kb vb he (fun x12 => ?_) n 0 (by omega) _ _ (zcn_I _) (zcn_I _)
    have cle : ct (fun m => (tb k m).isSome && decide (e m < e j)) n ≤ n := ct_le _ _
    have NX : ∀ (u : Nat), u = (if j0 < j + 1 then j0 else k) → zW 183 d 0 0 173 [some (zr (some y)), some (zi (iI (i : Int))), some (zl w), none, some (zr (some b)), some (zl v), none, some (zi (iI (k : Int))), some (zi (iI (C : Int))), some (zi (iI ((if j0 < j then j0 else k : Nat) : Int))), some (zi (iI (j : Int))), some (zi (iI (ct (fun m => (tb k m).isSome && decide (e m < e j)) n : Int))), some (zi x12)] [zi (iI (u : Int))] (I, L, R) Q := fun u hu => by
      subst hu
      refine zW.go [76] rfl (by omega) trivial ?_
      exact st_j hd hM hi hn hk vn hT kb vb he hC hj0 H hQ m (j + 1) (by omega) _ _ _ (by rw [zcn_I, iI_add]; rfl)
    cases hb : tb k j with
    | none =>
      rw [hb] at t1 Hj
      refine zW.gbt [] rfl rfl rfl (by omega) (by simp (disch := omega) only [true_or, or_true, eq_self, Option.some.injEq, Prod.mk.injEq, zall_0, zall_1, zall_2, zob_iff, zar_iff, zis_iff, zkIs_some, zkHas_some, iI_vp, z01_I, z01_bz, zch_I, true_and, and_true, or_false, false_or, and_self, upI_same, upL_same, upI_ne, upL_ne, iI_ixN, zI_mk, zL_mk, zP_mk, zK_mk, zN_mk, zwI_up, zwL_up, zg_some, Nat.reduceMod, Nat.reduceDiv, zcn_I, iI_add, iI_sub, iI_mul, iI_neg, iI_lt, iI_le, iI_eq, iI_lt0, iI_le0, iI_gt0, iI_ge0, iI_eq0, k0, p6, k6, q6, j6] <;> omega) ?_ ?_
      · simp (disch := omega) only [upI_same, upL_same, upI_ne, upL_ne, iI_ixN, zI_mk, zL_mk, zP_mk, zK_mk, zN_mk, zwI_up, zwL_up, zg_some, Nat.reduceMod, Nat.reduceDiv, p6, q6, t1]
        decide +kernel
      refine zW.go [173] rfl (by omega) trivial (NX _ ?_)
      have : j ≠ j0 := fun q => by
        have := (Hj.mpr q).1
        cases this
      by_cases q : j0 < j
      · rw [if_pos q, if_pos (by omega)]
      · rw [if_neg q, if_neg (by omega)]
    | some u =>
      rw [hb] at t1 Hj
      refine zW.gbf [] rfl rfl rfl (by omega) (by simp (disch := omega) only [true_or, or_true, eq_self, Option.some.injEq, Prod.mk.injEq, zall_0, zall_1, zall_2, zob_iff, zar_iff, zis_iff, zkIs_some, zkHas_some, iI_vp, z01_I, z01_bz, zch_I, true_and, and_true, or_false, false_or, and_self, upI_same, upL_same, upI_ne, upL_ne, iI_ixN, zI_mk, zL_mk, zP_mk, zK_mk, zN_mk, zwI_up, zwL_up, zg_some, Nat.reduceMod, Nat.reduceDiv, zcn_I, iI_add, iI_sub, iI_mul, iI_neg, iI_lt, iI_le, iI_eq, iI_lt0, iI_le0, iI_gt0, iI_ge0, iI_eq0, k0, p6, k6, q6, j6] <;> omega) ?_ ?_
      · simp (disch := omega) only [upI_same, upL_same, upI_ne, upL_ne, iI_ixN, zI_mk, zL_mk, zP_mk, zK_mk, zN_mk, zwI_up, zwL_up, zg_some, Nat.reduceMod, Nat.reduceDiv, p6, q6, t1]
        show ¬ bz true = 0
        decide +kernel
      refine zW.gb [] rfl rfl rfl (by omega) trivial (fun h' => ?_) (fun h' => ?_) <;> simp (disch := omega) only [zcn_I, iI_add, iI_sub, iI_mul, iI_neg, iI_lt, iI_le, iI_eq, iI_lt0, iI_le0, iI_gt0, iI_ge0, iI_eq0] at h'
      · refine zW.go [173] rfl (by omega) trivial (NX _ ?_)
        have : j ≠ j0 := fun q => by
          have := (Hj.mpr q).2
          omega
        by_cases q : j0 < j
        · rw [if_pos q, if_pos (by omega)]
        · rw [if_neg q, if_neg (by omega)]
      · refine zW.go [173] rfl (by omega) trivial (NX _ ?_)
        have := Hj.mp ⟨rfl, by omega⟩
        rw [if_pos (by omega)]
        exact this
end MST
