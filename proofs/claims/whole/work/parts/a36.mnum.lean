/-! The model's groups: members, their numbers. -/
theorem mGr_mem {y n : Nat} {A : (Nat → Nat) → Prop} {I : Nat → Nat → Int32} {L : Nat → Nat → Int64} {tb : zTb} (hA : ∀ g, A g → pm 10 g) (h : mGr y n A I L tb) {f : Nat → Nat} : Gm A f ↔ pm 10 f ∧ Fl tb 10 f := Fl_Gm h.1 h.2.2.2.2.1 hA h.2.2.2.2.2.1 h.2.2.2.1
theorem mGr_orb {y n : Nat} {A : (Nat → Nat) → Prop} {I : Nat → Nat → Int32} {L : Nat → Nat → Int64} {tb : zTb} (hA : ∀ g, A g → pm 10 g) (h : mGr y n A I L tb) {k j : Nat} (hk : k < 10) : (tb k j).isSome = true ↔ orb (Gm A) k j := by
  rw [Option.isSome_iff_exists]
  exact orb_tb h.1 h.2.2.2.2.1 hA h.2.2.2.2.2.1 h.2.2.2.1 hk
theorem ct_low {G : (Nat → Nat) → Prop} (hG : isG G) {e : Nat → Nat} (he : G e) {k w : Nat} (hw : w ≤ 10) : ct (fun m => dc (orb G k m) && decide (e m < w)) 10 = ct (fun v => dc (low G e k v)) w := by
  have hp := hG.1 e he
  have h1 := ct_perm (b := fun v => dc (low G e k v) && decide (v < w)) 10 e hp.1 (fun p q hp' hq' q' => hp.2.1 p q hp' hq' q')
  have h2 : ct (fun m => dc (orb G k m) && decide (e m < w)) 10 = ct (fun j => (fun v => dc (low G e k v) && decide (v < w)) (e j)) 10 := ct_cg fun j _ => by
    show (dc (orb G k j) && decide (e j < w)) = (dc (low G e k (e j)) && decide (e j < w))
    rw [dc_cg (low_orb hG he)]
  rw [h2, h1]
  have h3 := ct_more (b := fun v => dc (low G e k v) && decide (v < w)) (n := w) (m := 10 - w) (fun v q1 q2 => by
    show (dc (low G e k v) && decide (v < w)) = false
    rw [decide_eq_false (by omega), Bool.and_false])
  rw [show w + (10 - w) = 10 by omega] at h3
  rw [h3]
  exact ct_cg fun v hv => by
    show (dc (low G e k v) && decide (v < w)) = _
    rw [decide_eq_true hv, Bool.and_true]
theorem ct_lowT {y n : Nat} {A : (Nat → Nat) → Prop} {I : Nat → Nat → Int32} {L : Nat → Nat → Int64} {tb : zTb} (hn : n ≤ 10) (hA : ∀ g, A g → pm 10 g) (h : mGr y n A I L tb) {e : Nat → Nat} (he : Gm A e) {k w : Nat} (hk : k < n) (hw : w ≤ 10) : ct (fun m => (tb k m).isSome && decide (e m < w)) n = ct (fun v => dc (low (Gm A) e k v)) w := by
  rw [← ct_low (Gm_isG hA) he hw]
  have h1 := ct_more (b := fun m => (tb k m).isSome && decide (e m < w)) (n := n) (m := 10 - n) (fun j q1 q2 => by
    have : (tb k j).isSome = false := by
      cases hb : tb k j with
      | none => rfl
      | some u =>
        have h1 := (h.1.1 _ _ _ hb).2.2.2.2
        have h2 := (h.2.1 _ _ _ hb).1 k hk
        omega
    show ((tb k j).isSome && decide (e j < w)) = false
    rw [this, Bool.false_and])
  rw [show n + (10 - n) = 10 by omega] at h1
  rw [← h1]
  exact ct_cg fun m hm => by
    show ((tb k m).isSome && decide (e m < w)) = (dc (orb (Gm A) k m) && decide (e m < w))
    rw [bl_iff ((mGr_orb hA h (show k < 10 by omega)).trans dc_t.symm)]
section MNUM
variable {d y : Nat} {T : tfT} {I : Nat → Nat → Int32} {L : Nat → Nat → Int64} {R : zRt} {Q : zO → zM → Prop}
theorem mmem_ok {i n b : Nat} {A : (Nat → Nat) → Prop} {tb : zTb} {s : Nat → Nat} {x : Int32} (hd : 2 ≤ d) (hM : ML y R) (e : x = iI (i : Int)) (hi : i < 4) (hn : n ≤ 10) (hA : ∀ g, A g → pm 10 g) (vn : I (y + 2) i = iI (n : Int)) (hG : mGr y n A I L tb) (kb : R.2.1 b = some (20, 10)) (vb : ∀ p, p < 10 → I b p = iI (s p : Int)) (hs : pm n s)
    (hQ : ∀ q I', (∀ a, a ≠ y + 174 → a ≠ y + 176 → I' a = I a) → tru (Gm A s) q → Q (.inl (some (zi q))) (I', L, R)) : zS 181 d [zr (some y), zi x, zr (some b)] (I, L, R) Q := by
  subst e
  have k0 : R.2.1 y = some (7, 0) := hM.1
  have p1 : R.1 y 1 = some (y + 2) := (hM.2.1 1 (by decide)).1; have k1 : R.2.1 (y + 2) = some (20, 4) := (hM.2.1 1 (by decide)).2; have p9 : R.1 y 9 = some (y + 174) := (hM.2.1 9 (by decide)).1; have k9 : R.2.1 (y + 174) = some (20, 10) := (hM.2.1 9 (by decide)).2
  have l1 : zlenOf (I, L, R) (some (y + 174)) = 10 := zlenOf_some k9
  have l2 : zlenOf (I, L, R) (some b) = 10 := zlenOf_some kb
  refine zW.gz [] rfl rfl rfl (by omega) ?_ ⟨_, rfl, k0⟩ rfl rfl (by decide +kernel) (by decide +kernel) ?_
  · simp (disch := omega) only [true_or, or_true, eq_self, Option.some.injEq, Prod.mk.injEq, zall_0, zall_1, zall_2, zob_iff, zar_iff, zis_iff, zkIs_some, zkHas_some, iI_vp, z01_I, z01_bz, zch_I, true_and, and_true, or_false, false_or, and_self, upI_same, upL_same, upI_ne, upL_ne, iI_ixN, zI_mk, zL_mk, zP_mk, zK_mk, zN_mk, zwI_up, zwL_up, zg_some, Nat.reduceMod, Nat.reduceDiv, zcn_I, iI_add, iI_sub, iI_mul, iI_neg, iI_lt, iI_le, iI_eq, iI_lt0, iI_le0, iI_gt0, iI_ge0, iI_eq0, k0, p9, k9, p1, k1, kb, vn, l1, l2, zkHas_some, Int.toNat_natCast, iI_ixN, c0i, c0n]
    omega
  simp (disch := omega) only [upI_same, upL_same, upI_ne, upL_ne, iI_ixN, zI_mk, zL_mk, zP_mk, zK_mk, zN_mk, zwI_up, zwL_up, zg_some, Nat.reduceMod, Nat.reduceDiv, zcopy_up, p9, p1, vn, c0n]
  have hs10 := pm_up hs hn
  refine msift_ok (r := s) (by omega) hM rfl hi hn hG.1 hG.2.1 (mTb_fr hG.2.2.1 (fun a q1 q2 => cpI_row (by omega))) (by rw [cpI_row (by omega)]; exact vn) hs (fun p hp => (cpI_in hp).trans (vb p (by omega))) (fun I1 f hF => ?_) (fun k r' I1 hk f hr' v9' hf ht hF hA' => ?_)
  · refine zW.gbf [] rfl rfl rfl (by omega) trivial (by simp (disch := omega) only [eq_self, not_true_eq_false, not_false_eq_true, upI_same, upL_same, upI_ne, upL_ne, iI_ixN, zI_mk, zL_mk, zP_mk, zK_mk, zN_mk, zwI_up, zwL_up, zg_some, Nat.reduceMod, Nat.reduceDiv, zcn_I, iI_add, iI_sub, iI_mul, iI_neg, iI_lt, iI_le, iI_eq, iI_lt0, iI_le0, iI_gt0, iI_ge0, iI_eq0] <;> omega) ?_
    refine zW.go [29] rfl (by omega) trivial ?_
    refine zW.gr [] rfl rfl rfl (by omega) trivial z01c1 ?_
    exact hQ _ I1 (fun a q1 q2 => (f.1 a q1 q2).trans (cpI_row q1)) (tru_t ((mGr_mem hA hG).mpr ⟨hs10, hF⟩))
  · refine zW.gbt [] rfl rfl rfl (by omega) trivial (by simp (disch := omega) only [eq_self, not_true_eq_false, not_false_eq_true, upI_same, upL_same, upI_ne, upL_ne, iI_ixN, zI_mk, zL_mk, zP_mk, zK_mk, zN_mk, zwI_up, zwL_up, zg_some, Nat.reduceMod, Nat.reduceDiv, zcn_I, iI_add, iI_sub, iI_mul, iI_neg, iI_lt, iI_le, iI_eq, iI_lt0, iI_le0, iI_gt0, iI_ge0, iI_eq0] <;> omega) ?_
    refine zW.go [29] rfl (by omega) trivial ?_
    refine zW.gr [] rfl rfl rfl (by omega) trivial z01c0 ?_
    refine hQ _ I1 (fun a q1 q2 => (f.1 a q1 q2).trans (cpI_row q1)) (tru_f (fun q => ?_))
    have h1 := (hF tb (fun _ _ _ h => h)).mp ((mGr_mem hA hG).mp q).2
    rw [show 10 - k = (9 - k) + 1 by omega] at h1
    obtain ⟨u, h2, -⟩ := h1
    rw [show 9 - (9 - k) = k by omega, ht] at h2
    cases h2
theorem numG_0 {n : Nat} {A : (Nat → Nat) → Prop} {tb : zTb} (hn : n ≤ 10) (hA : ∀ g, A g → pm 10 g) (hG : mGr y n A I L tb) {s : Nat → Nat} (hs : Gm A s) : ∀ m, m ≤ 10 - n → numG (Gm A) s m = 0
  | 0, _ => rfl
  | m + 1, h => by
    have h1 := numG_0 hn hA hG hs m (by omega)
    have h2 := clG_lt (Gm_isG hA) hs (k := 9 - m) (by omega)
    rw [← cT_orb hA hG.1 hG.2.2.2.2.1 hG.2.2.2.2.2.1 hG.2.2.2.1 (by omega), cT_1 hG.1 hG.2.1 (by omega) (by omega)] at h2
    have h3 : clG (Gm A) s (9 - m) = 0 := by omega
    show clG (Gm A) s (9 - m) * szG (Gm A) m + numG (Gm A) s m = 0
    rw [h1, h3, Nat.zero_mul]
theorem num_in {i n b k : Nat} {tb : zTb} {s : Nat → Nat} {P : Int64} (hd : 1 ≤ d) (hM : ML y R) (hi : i < 4) (hn : n ≤ 10) (hk : k < n) (vn : I (y + 2) i = iI (n : Int)) (hT : mTb y I tb) (kb : R.2.1 b = some (20, 10)) (vb : ∀ p, p < n → I b p = iI (s p : Int)) (hs : pm 10 s)
    (hQ : ∀ x, zW 182 d 0 0 73 [some (zr (some y)), some (zi (iI (i : Int))), some (zr (some b)), some (zl P), none, some (zi (iI (k : Int))), some (zi (iI (ct (fun m => (tb k m).isSome && decide (s m < s k)) n : Int))), some (zi x)] [] (I, L, R) Q) :
    ∀ m j, j + m = n → ∀ (x6 x7 : Int32), x6 = iI (ct (fun m => (tb k m).isSome && decide (s m < s k)) j : Int) → x7 = iI (j : Int) → zW 182 d 0 0 22 [some (zr (some y)), some (zi (iI (i : Int))), some (zr (some b)), some (zl P), none, some (zi (iI (k : Int))), some (zi x6), some (zi x7)] [] (I, L, R) Q
  | 0, j, hj, x6, x7, e6, e7 => by
    subst e6; subst e7
    have k0 : R.2.1 y = some (7, 0) := hM.1
    have p1 : R.1 y 1 = some (y + 2) := (hM.2.1 1 (by decide)).1; have k1 : R.2.1 (y + 2) = some (20, 4) := (hM.2.1 1 (by decide)).2
    obtain rfl : j = n := by omega
    exact zW.gbt [] rfl rfl rfl (by omega) (by simp (disch := omega) only [true_or, or_true, eq_self, Option.some.injEq, Prod.mk.injEq, zall_0, zall_1, zall_2, zob_iff, zar_iff, zis_iff, zkIs_some, zkHas_some, iI_vp, z01_I, z01_bz, zch_I, true_and, and_true, or_false, false_or, and_self, upI_same, upL_same, upI_ne, upL_ne, iI_ixN, zI_mk, zL_mk, zP_mk, zK_mk, zN_mk, zwI_up, zwL_up, zg_some, Nat.reduceMod, Nat.reduceDiv, zcn_I, iI_add, iI_sub, iI_mul, iI_neg, iI_lt, iI_le, iI_eq, iI_lt0, iI_le0, iI_gt0, iI_ge0, iI_eq0, k0, p1, k1] <;> omega) (by simp (disch := omega) only [eq_self, not_true_eq_false, not_false_eq_true, upI_same, upL_same, upI_ne, upL_ne, iI_ixN, zI_mk, zL_mk, zP_mk, zK_mk, zN_mk, zwI_up, zwL_up, zg_some, Nat.reduceMod, Nat.reduceDiv, zcn_I, iI_add, iI_sub, iI_mul, iI_neg, iI_lt, iI_le, iI_eq, iI_lt0, iI_le0, iI_gt0, iI_ge0, iI_eq0, p1, vn] <;> omega) (hQ _)
  | m + 1, j, hj, x6, x7, e6, e7 => by
    subst e6; subst e7
    have k0 : R.2.1 y = some (7, 0) := hM.1
    obtain ⟨t1, -⟩ := hT k j (by omega) (by omega)
    have v1 := vb j (by omega)
    have v2 := vb k (by omega)
    have l1 := hs.1 j (by omega)
    have l2 := hs.1 k (by omega)
    have p1 : R.1 y 1 = some (y + 2) := (hM.2.1 1 (by decide)).1; have k1 : R.2.1 (y + 2) = some (20, 4) := (hM.2.1 1 (by decide)).2; have p6 : R.1 y 6 = some (y + 51) := (hM.2.1 6 (by decide)).1; have k6 : R.2.1 (y + 51) = some (29, 10) := (hM.2.1 6 (by decide)).2; have q6 : R.1 (y + 51) (k) = some (y + 52 + k) := (hM.2.2.2.2.2.1 (k) (by omega)).1.trans (congrArg some (by omega)); have j6 : R.2.1 (y + 52 + k) = some (22, 10) := (congrArg R.2.1 (by omega)).trans (hM.2.2.2.2.2.1 (k) (by omega)).2
    have NX : ∀ (u : Int32) (e : Nat), u = iI (e : Int) → ct (fun m => (tb k m).isSome && decide (s m < s k)) (j + 1) = ct (fun m => (tb k m).isSome && decide (s m < s k)) j + e → zW 182 d 0 0 64 [some (zr (some y)), some (zi (iI (i : Int))), some (zr (some b)), some (zl P), none, some (zi (iI (k : Int))), some (zi (iI (ct (fun m => (tb k m).isSome && decide (s m < s k)) j : Int))), some (zi (iI (j : Int)))] [zi u, zi (iI (ct (fun m => (tb k m).isSome && decide (s m < s k)) j : Int))] (I, L, R) Q := fun u e hu he => by
      subst hu
      refine zW.go [22] rfl (by omega) trivial ?_
      exact num_in hd hM hi hn hk vn hT kb vb hs hQ m (j + 1) (by omega) _ _ (by rw [iI_add, he]; rfl) (by rw [zcn_I, iI_add]; rfl)
    have cs : ∀ b : Bool, ((tb k j).isSome && decide (s j < s k)) = b → ct (fun m => (tb k m).isSome && decide (s m < s k)) (j + 1) = ct (fun m => (tb k m).isSome && decide (s m < s k)) j + (if b then 1 else 0) := fun b hb => by
      rw [← hb]
      rfl
    refine zW.gbf [] rfl rfl rfl (by omega) (by simp (disch := omega) only [true_or, or_true, eq_self, Option.some.injEq, Prod.mk.injEq, zall_0, zall_1, zall_2, zob_iff, zar_iff, zis_iff, zkIs_some, zkHas_some, iI_vp, z01_I, z01_bz, zch_I, true_and, and_true, or_false, false_or, and_self, upI_same, upL_same, upI_ne, upL_ne, iI_ixN, zI_mk, zL_mk, zP_mk, zK_mk, zN_mk, zwI_up, zwL_up, zg_some, Nat.reduceMod, Nat.reduceDiv, zcn_I, iI_add, iI_sub, iI_mul, iI_neg, iI_lt, iI_le, iI_eq, iI_lt0, iI_le0, iI_gt0, iI_ge0, iI_eq0, k0, p1, k1] <;> omega) (by simp (disch := omega) only [eq_self, not_true_eq_false, not_false_eq_true, upI_same, upL_same, upI_ne, upL_ne, iI_ixN, zI_mk, zL_mk, zP_mk, zK_mk, zN_mk, zwI_up, zwL_up, zg_some, Nat.reduceMod, Nat.reduceDiv, zcn_I, iI_add, iI_sub, iI_mul, iI_neg, iI_lt, iI_le, iI_eq, iI_lt0, iI_le0, iI_gt0, iI_ge0, iI_eq0, p1, vn] <;> omega) ?_
    cases hb : tb k j with
    | none =>
      rw [hb] at t1
      refine zW.gbt [] rfl rfl rfl (by omega) (by simp (disch := omega) only [true_or, or_true, eq_self, Option.some.injEq, Prod.mk.injEq, zall_0, zall_1, zall_2, zob_iff, zar_iff, zis_iff, zkIs_some, zkHas_some, iI_vp, z01_I, z01_bz, zch_I, true_and, and_true, or_false, false_or, and_self, upI_same, upL_same, upI_ne, upL_ne, iI_ixN, zI_mk, zL_mk, zP_mk, zK_mk, zN_mk, zwI_up, zwL_up, zg_some, Nat.reduceMod, Nat.reduceDiv, zcn_I, iI_add, iI_sub, iI_mul, iI_neg, iI_lt, iI_le, iI_eq, iI_lt0, iI_le0, iI_gt0, iI_ge0, iI_eq0, k0, p6, k6, q6, j6] <;> omega) ?_ ?_
      · simp (disch := omega) only [upI_same, upL_same, upI_ne, upL_ne, iI_ixN, zI_mk, zL_mk, zP_mk, zK_mk, zN_mk, zwI_up, zwL_up, zg_some, Nat.reduceMod, Nat.reduceDiv, p6, q6, t1]
        decide +kernel
      refine zW.go [64] rfl (by omega) trivial (NX _ 0 (zcn_I _) (cs false ?_))
      rw [hb]
      rfl
    | some u =>
      rw [hb] at t1
      refine zW.gbf [] rfl rfl rfl (by omega) (by simp (disch := omega) only [true_or, or_true, eq_self, Option.some.injEq, Prod.mk.injEq, zall_0, zall_1, zall_2, zob_iff, zar_iff, zis_iff, zkIs_some, zkHas_some, iI_vp, z01_I, z01_bz, zch_I, true_and, and_true, or_false, false_or, and_self, upI_same, upL_same, upI_ne, upL_ne, iI_ixN, zI_mk, zL_mk, zP_mk, zK_mk, zN_mk, zwI_up, zwL_up, zg_some, Nat.reduceMod, Nat.reduceDiv, zcn_I, iI_add, iI_sub, iI_mul, iI_neg, iI_lt, iI_le, iI_eq, iI_lt0, iI_le0, iI_gt0, iI_ge0, iI_eq0, k0, p6, k6, q6, j6] <;> omega) ?_ ?_
      · simp (disch := omega) only [upI_same, upL_same, upI_ne, upL_ne, iI_ixN, zI_mk, zL_mk, zP_mk, zK_mk, zN_mk, zwI_up, zwL_up, zg_some, Nat.reduceMod, Nat.reduceDiv, p6, q6, t1]
        show ¬ bz true = 0
        decide +kernel
      refine zW.gb [] rfl rfl rfl (by omega) (by simp (disch := omega) only [true_or, or_true, eq_self, Option.some.injEq, Prod.mk.injEq, zall_0, zall_1, zall_2, zob_iff, zar_iff, zis_iff, zkIs_some, zkHas_some, iI_vp, z01_I, z01_bz, zch_I, true_and, and_true, or_false, false_or, and_self, upI_same, upL_same, upI_ne, upL_ne, iI_ixN, zI_mk, zL_mk, zP_mk, zK_mk, zN_mk, zwI_up, zwL_up, zg_some, Nat.reduceMod, Nat.reduceDiv, zcn_I, iI_add, iI_sub, iI_mul, iI_neg, iI_lt, iI_le, iI_eq, iI_lt0, iI_le0, iI_gt0, iI_ge0, iI_eq0, kb] <;> omega) (fun h' => ?_) (fun h' => ?_) <;> simp (disch := omega) only [zcn_I, iI_add, iI_sub, iI_mul, iI_neg, iI_lt, iI_le, iI_eq, iI_lt0, iI_le0, iI_gt0, iI_ge0, iI_eq0, upI_same, upL_same, upI_ne, upL_ne, iI_ixN, zI_mk, zL_mk, zP_mk, zK_mk, zN_mk, zwI_up, zwL_up, zg_some, Nat.reduceMod, Nat.reduceDiv, v1, v2] at h'
      · refine zW.go [64] rfl (by omega) trivial (NX _ 0 (zcn_I _) (cs false ?_))
        rw [hb, decide_eq_false (by omega)]
        rfl
      · refine zW.go [64] rfl (by omega) trivial (NX _ 1 (zcn_I _) (cs true ?_))
        rw [hb, decide_eq_true (by omega)]
        rfl
theorem num_lp {i n b : Nat} {A : (Nat → Nat) → Prop} {tb : zTb} {s : Nat → Nat} (hd : 1 ≤ d) (hM : ML y R) (hi : i < 4) (hn : n ≤ 10) (hA : ∀ g, A g → pm 10 g) (vn : I (y + 2) i = iI (n : Int)) (hG : mGr y n A I L tb) (kb : R.2.1 b = some (20, 10)) (vb : ∀ p, p < n → I b p = iI (s p : Int)) (hs : Gm A s)
    (hQ : Q (.inl (some (zl (iL (numG (Gm A) s 10 : Int))))) (I, L, R)) :
    ∀ m k, k + m = n → ∀ (P : Nat) (x5 : Int32) (v6 v7 : Option zV), P + numG (Gm A) s (10 - k) = numG (Gm A) s 10 → x5 = iI (k : Int) → zW 182 d 0 0 5 [some (zr (some y)), some (zi (iI (i : Int))), some (zr (some b)), some (zl (iL (P : Int))), none, some (zi x5), v6, v7] [] (I, L, R) Q
  | 0, k, hk, P, x5, v6, v7, hP, e => by
    subst e
    have k0 : R.2.1 y = some (7, 0) := hM.1
    have p1 : R.1 y 1 = some (y + 2) := (hM.2.1 1 (by decide)).1; have k1 : R.2.1 (y + 2) = some (20, 4) := (hM.2.1 1 (by decide)).2
    obtain rfl : k = n := by omega
    refine zW.gbt [] rfl rfl rfl (by omega) (by simp (disch := omega) only [true_or, or_true, eq_self, Option.some.injEq, Prod.mk.injEq, zall_0, zall_1, zall_2, zob_iff, zar_iff, zis_iff, zkIs_some, zkHas_some, iI_vp, z01_I, z01_bz, zch_I, true_and, and_true, or_false, false_or, and_self, upI_same, upL_same, upI_ne, upL_ne, iI_ixN, zI_mk, zL_mk, zP_mk, zK_mk, zN_mk, zwI_up, zwL_up, zg_some, Nat.reduceMod, Nat.reduceDiv, zcn_I, iI_add, iI_sub, iI_mul, iI_neg, iI_lt, iI_le, iI_eq, iI_lt0, iI_le0, iI_gt0, iI_ge0, iI_eq0, k0, p1, k1] <;> omega) (by simp (disch := omega) only [eq_self, not_true_eq_false, not_false_eq_true, upI_same, upL_same, upI_ne, upL_ne, iI_ixN, zI_mk, zL_mk, zP_mk, zK_mk, zN_mk, zwI_up, zwL_up, zg_some, Nat.reduceMod, Nat.reduceDiv, zcn_I, iI_add, iI_sub, iI_mul, iI_neg, iI_lt, iI_le, iI_eq, iI_lt0, iI_le0, iI_gt0, iI_ge0, iI_eq0, p1, vn] <;> omega) ?_
    refine zW.gr [] rfl rfl rfl (by omega) trivial trivial ?_
    have h0 := numG_0 hn hA hG hs (10 - k) (Nat.le_refl _)
    rw [show P = numG (Gm A) s 10 by omega]
    exact hQ
  | m + 1, k, hk, P, x5, v6, v7, hP, e => by
    subst e
    have k0 : R.2.1 y = some (7, 0) := hM.1
    have hpm := Gm_pm hA hs
    have vz := hG.2.2.2.2.2.2 (k + 1) (by omega)
    have ek : (k : Int) + 1 = ((k + 1 : Nat) : Int) := by omega
    have hc : ct (fun m => (tb k m).isSome && decide (s m < s k)) n = clG (Gm A) s k := ct_lowT hn hA hG hs (by omega) (by have := hpm.1 k (by omega); omega)
    have p1 : R.1 y 1 = some (y + 2) := (hM.2.1 1 (by decide)).1; have k1 : R.2.1 (y + 2) = some (20, 4) := (hM.2.1 1 (by decide)).2; have p8 : R.1 y 8 = some (y + 173) := (hM.2.1 8 (by decide)).1; have k8 : R.2.1 (y + 173) = some (21, 11) := (hM.2.1 8 (by decide)).2
    refine zW.gbf [] rfl rfl rfl (by omega) (by simp (disch := omega) only [true_or, or_true, eq_self, Option.some.injEq, Prod.mk.injEq, zall_0, zall_1, zall_2, zob_iff, zar_iff, zis_iff, zkIs_some, zkHas_some, iI_vp, z01_I, z01_bz, zch_I, true_and, and_true, or_false, false_or, and_self, upI_same, upL_same, upI_ne, upL_ne, iI_ixN, zI_mk, zL_mk, zP_mk, zK_mk, zN_mk, zwI_up, zwL_up, zg_some, Nat.reduceMod, Nat.reduceDiv, zcn_I, iI_add, iI_sub, iI_mul, iI_neg, iI_lt, iI_le, iI_eq, iI_lt0, iI_le0, iI_gt0, iI_ge0, iI_eq0, k0, p1, k1] <;> omega) (by simp (disch := omega) only [eq_self, not_true_eq_false, not_false_eq_true, upI_same, upL_same, upI_ne, upL_ne, iI_ixN, zI_mk, zL_mk, zP_mk, zK_mk, zN_mk, zwI_up, zwL_up, zg_some, Nat.reduceMod, Nat.reduceDiv, zcn_I, iI_add, iI_sub, iI_mul, iI_neg, iI_lt, iI_le, iI_eq, iI_lt0, iI_le0, iI_gt0, iI_ge0, iI_eq0, p1, vn] <;> omega) ?_
    refine zW.go [22] rfl (by omega) trivial ?_
    refine num_in hd hM hi hn (by omega) vn hG.2.2.1 kb vb hpm (fun x7 => ?_) n 0 (by omega) _ _ (zcn_I _) (zcn_I _)
    have cle : ct (fun m => (tb k m).isSome && decide (s m < s k)) n ≤ n := ct_le _ _
    refine zW.go [5] rfl (by omega) ?_ ?_
    · simp (disch := omega) only [true_or, or_true, eq_self, Option.some.injEq, Prod.mk.injEq, zall_0, zall_1, zall_2, zob_iff, zar_iff, zis_iff, zkIs_some, zkHas_some, iI_vp, z01_I, z01_bz, zch_I, true_and, and_true, or_false, false_or, and_self, upI_same, upL_same, upI_ne, upL_ne, iI_ixN, zI_mk, zL_mk, zP_mk, zK_mk, zN_mk, zwI_up, zwL_up, zg_some, Nat.reduceMod, Nat.reduceDiv, zcn_I, iI_add, iI_sub, iI_mul, iI_neg, iI_lt, iI_le, iI_eq, iI_lt0, iI_le0, iI_gt0, iI_ge0, iI_eq0, k0, p8, k8, ek]
      omega
    simp (disch := omega) only [upI_same, upL_same, upI_ne, upL_ne, iI_ixN, zI_mk, zL_mk, zP_mk, zK_mk, zN_mk, zwI_up, zwL_up, zg_some, Nat.reduceMod, Nat.reduceDiv, zcn_I, iI_add, iI_sub, iI_mul, iI_neg, iI_lt, iI_le, iI_eq, iI_lt0, iI_le0, iI_gt0, iI_ge0, iI_eq0, p8, ek, vz, iI_L, iL_mul, iL_add]
    rw [hc, ← Int.natCast_mul, ← Int.natCast_add]
    refine num_lp hd hM hi hn hA vn hG kb vb hs hQ m (k + 1) (by omega) _ _ _ _ ?_ rfl
    have e1 : numG (Gm A) s (10 - k) = clG (Gm A) s k * szG (Gm A) (10 - (k + 1)) + numG (Gm A) s (10 - (k + 1)) := by
      rw [show 10 - k = (10 - (k + 1)) + 1 by omega]
      show clG (Gm A) s (9 - (10 - (k + 1))) * szG (Gm A) (10 - (k + 1)) + numG (Gm A) s (10 - (k + 1)) = _
      rw [show 9 - (10 - (k + 1)) = k by omega]
    omega
theorem mnum_ok {i n b : Nat} {A : (Nat → Nat) → Prop} {tb : zTb} {s : Nat → Nat} {x : Int32} (hd : 1 ≤ d) (hM : ML y R) (e : x = iI (i : Int)) (hi : i < 4) (hn : n ≤ 10) (hA : ∀ g, A g → pm 10 g) (vn : I (y + 2) i = iI (n : Int)) (hG : mGr y n A I L tb) (kb : R.2.1 b = some (20, 10)) (vb : ∀ p, p < n → I b p = iI (s p : Int)) (hs : Gm A s)
    (hQ : Q (.inl (some (zl (iL (numG (Gm A) s 10 : Int))))) (I, L, R)) : zS 182 d [zr (some y), zi x, zr (some b)] (I, L, R) Q := by
  subst e
  refine zW.go [5] rfl (by omega) trivial ?_
  exact num_lp hd hM hi hn hA vn hG kb vb hs hQ n 0 (by omega) 0 _ _ _ (Nat.zero_add _) (zcn_I _)
end MNUM
