/-! The graph over the memory: spread, measure, countWalked. -/
theorem bF_eq (nx : Nat → Nat → Nat) (t ac sz : Nat) (sv : Nat → Bool) : bQ nx t ac 800 (bS sv sz) = bF nx t ac sz sv := rfl
section SPREAD
variable {d g : Nat} {I : Nat → Nat → Int32} {L : Nat → Nat → Int64} {R : zRt} {Q : zO → zM → Prop}
/-- how often at once -/
def tt (k : Nat) : Nat := if k = 1 then 8 else 1
theorem tt_le (k : Nat) : tt k ≤ 8 := by
  unfold tt
  split <;> decide
theorem spr_in {k sz ac f a i : Nat} {nx : Nat → Nat → Nat} {I0 : Nat → Nat → Int32} {B : bSt} {x2 : Int32} (hd : 2 ≤ d) (hL : GL g R) (hk : k < 3) (hN : gN g I0 sz ac nx) (ha : a < ac)
    (hQ : ∀ I', mfr g k I0 I' → bM g k I' sz B → ∀ v w, zW 18 d 0 0 100 [some (zr (some g)), some (zi (iI (k : Int))), some (zi x2), some (zi (iI (f : Int))), some (zi (iI (a : Int))), v, w] [] (I', L, R) Q) :
    ∀ n t, t + n = tt k → ∀ (I1 : Nat → Nat → Int32) (to : Nat) (b : bSt) (x y : Int32), mfr g k I0 I1 → bM g k I1 sz b → bI sz b → i < b.2.length → nth b.2 i = f → to < sz → bW (nx a) f n to b = B → x = iI (to : Int) → y = iI (t : Int) →
      zW 18 d 0 0 50 [some (zr (some g)), some (zi (iI (k : Int))), some (zi x2), some (zi (iI (f : Int))), some (zi (iI (a : Int))), some (zi x), some (zi y)] [] (I1, L, R) Q
  | 0, t, ht, I1, to, b, x, y, r1, r2, hb, hi, hf, hto, hB, e1, e2 => by
    subst e1; subst e2
    refine zW.gz [] rfl rfl rfl hd trivial trivial rfl rfl (Nat.le_refl _) (Nat.le_refl _) ?_
    refine once_ok (k := k) (by omega) hk rfl ?_
    have ht' : t = (if k = 1 then 8 else 1) := ht
    have htt := tt_le k
    unfold tt at htt
    rw [← ht']
    refine zW.gbt [] rfl rfl rfl (by omega) trivial ?_ (hQ I1 r1 (by rw [← hB]; exact r2) _ _)
    exact (by simp (disch := omega) only [eq_self, not_true_eq_false, not_false_eq_true, upI_same, upL_same, upI_ne, upL_ne, iI_ixN, zI_mk, zL_mk, zP_mk, zK_mk, zN_mk, zwI_up, zwL_up, zg_some, Nat.reduceMod, Nat.reduceDiv, zcn_I, iI_add, iI_sub, iI_mul, iI_neg, iI_lt, iI_le, iI_eq, iI_lt0, iI_le0, iI_gt0, iI_ge0, iI_eq0] <;> omega)
  | n + 1, t, ht, I1, to, b, x, y, r1, r2, hb, hi, hf, hto, hB, e1, e2 => by
    subst e1; subst e2
    obtain ⟨n1, n2, n3, n4, n5, n6⟩ := gN_fr hk hN r1
    have hN1 := gN_fr hk hN r1
    have hL' := hL
    obtain ⟨k0, p0, p1, p2, p3, p4, k1, k2, k3, k4, k5, k6, k7⟩ := hL'
    obtain ⟨p7, k8⟩ := k7 k hk
    obtain ⟨p6, k9⟩ := k6 a (by omega)
    have htt := tt_le k
    have hfs : f < sz := by
      have := (hb.2.1 i hi).1
      rwa [hf] at this
    refine zW.gz [] rfl rfl rfl hd trivial trivial rfl rfl (Nat.le_refl _) (Nat.le_refl _) ?_
    refine once_ok (k := k) (by omega) hk rfl ?_
    rw [show (if k = 1 then 8 else 1) = tt k from rfl]
    refine zW.gbf [] rfl rfl rfl (by omega) trivial ?_ ?_
    · exact (by simp (disch := omega) only [eq_self, not_true_eq_false, not_false_eq_true, upI_same, upL_same, upI_ne, upL_ne, iI_ixN, zI_mk, zL_mk, zP_mk, zK_mk, zN_mk, zwI_up, zwL_up, zg_some, Nat.reduceMod, Nat.reduceDiv, zcn_I, iI_add, iI_sub, iI_mul, iI_neg, iI_lt, iI_le, iI_eq, iI_lt0, iI_le0, iI_gt0, iI_ge0, iI_eq0] <;> omega)
    by_cases hf2 : to = f
    · refine zW.gbt [] rfl rfl rfl (by omega) trivial ?_ (hQ I1 r1 ?_ _ _)
      · exact (by simp (disch := omega) only [eq_self, not_true_eq_false, not_false_eq_true, upI_same, upL_same, upI_ne, upL_ne, iI_ixN, zI_mk, zL_mk, zP_mk, zK_mk, zN_mk, zwI_up, zwL_up, zg_some, Nat.reduceMod, Nat.reduceDiv, zcn_I, iI_add, iI_sub, iI_mul, iI_neg, iI_lt, iI_le, iI_eq, iI_lt0, iI_le0, iI_gt0, iI_ge0, iI_eq0] <;> omega)
      · have : bW (nx a) f (n + 1) to b = b := if_pos hf2
        rw [← hB, this]
        exact r2
    · have hB' : bW (nx a) f n (nx a to) (bR to (b.1 f + 1) b) = B := by
        rw [← hB]
        exact (if_neg hf2).symm
      obtain ⟨a1, a2, a3⟩ := hb.2.1 i hi
      rw [hf] at a2 a3
      have hle := bI_le hb
      have mf := r2.1 f hfs
      refine zW.gbf [] rfl rfl rfl (by omega) trivial ?_ (zW.gz [] rfl rfl rfl hd ?_ ?_ rfl rfl (Nat.le_refl _) (Nat.le_refl _) ?_)
      · exact (by simp (disch := omega) only [eq_self, not_true_eq_false, not_false_eq_true, upI_same, upL_same, upI_ne, upL_ne, iI_ixN, zI_mk, zL_mk, zP_mk, zK_mk, zN_mk, zwI_up, zwL_up, zg_some, Nat.reduceMod, Nat.reduceDiv, zcn_I, iI_add, iI_sub, iI_mul, iI_neg, iI_lt, iI_le, iI_eq, iI_lt0, iI_le0, iI_gt0, iI_ge0, iI_eq0] <;> omega)
      · simp (disch := omega) only [upI_same, upL_same, upI_ne, upL_ne, iI_ixN, zI_mk, zL_mk, zP_mk, zK_mk, zN_mk, zwI_up, zwL_up, zg_some, Nat.reduceMod, Nat.reduceDiv, zcn_I, iI_add, iI_sub, iI_mul, iI_neg, iI_lt, iI_le, iI_eq, iI_lt0, iI_le0, iI_gt0, iI_ge0, iI_eq0, p2, p7]
        exact (by simp (disch := omega) only [true_or, or_true, eq_self, Option.some.injEq, Prod.mk.injEq, zall_0, zall_1, zall_2, zob_iff, zar_iff, zis_iff, zkIs_some, zkHas_some, iI_vp, z01_I, z01_bz, zch_I, true_and, and_true, or_false, false_or, and_self, upI_same, upL_same, upI_ne, upL_ne, iI_ixN, zI_mk, zL_mk, zP_mk, zK_mk, zN_mk, zwI_up, zwL_up, zg_some, Nat.reduceMod, Nat.reduceDiv, zcn_I, iI_add, iI_sub, iI_mul, iI_neg, iI_lt, iI_le, iI_eq, iI_lt0, iI_le0, iI_gt0, iI_ge0, iI_eq0, k0, p2, k3, p7, k8] <;> omega)
      · exact ⟨_, rfl, k0⟩
      · simp (disch := omega) only [upI_same, upL_same, upI_ne, upL_ne, iI_ixN, zI_mk, zL_mk, zP_mk, zK_mk, zN_mk, zwI_up, zwL_up, zg_some, Nat.reduceMod, Nat.reduceDiv, zcn_I, iI_add, iI_sub, iI_mul, iI_neg, iI_lt, iI_le, iI_eq, iI_lt0, iI_le0, iI_gt0, iI_ge0, iI_eq0, p2, p7, mf]
        refine reach_ok (k := k) (s := to) (v := b.1 f + 1) (by omega) hL hk n1 n3 rfl rfl ?_ hto hb r2 (fun I2 f2 m2 => ?_)
        · exact (by simp (disch := omega) only [eq_self, not_true_eq_false, not_false_eq_true, upI_same, upL_same, upI_ne, upL_ne, iI_ixN, zI_mk, zL_mk, zP_mk, zK_mk, zN_mk, zwI_up, zwL_up, zg_some, Nat.reduceMod, Nat.reduceDiv, zcn_I, iI_add, iI_sub, iI_mul, iI_neg, iI_lt, iI_le, iI_eq, iI_lt0, iI_le0, iI_gt0, iI_ge0, iI_eq0] <;> omega)
        · have h5 := (gN_fr hk hN1 f2).2.2.2.2.1 a to ha hto
          have hle2 := bR_le to (b.1 f + 1) b
          refine zW.go [50] rfl (by omega) ?_ ?_
          · simp (disch := omega) only [upI_same, upL_same, upI_ne, upL_ne, iI_ixN, zI_mk, zL_mk, zP_mk, zK_mk, zN_mk, zwI_up, zwL_up, zg_some, Nat.reduceMod, Nat.reduceDiv, zcn_I, iI_add, iI_sub, iI_mul, iI_neg, iI_lt, iI_le, iI_eq, iI_lt0, iI_le0, iI_gt0, iI_ge0, iI_eq0, p1, p6]
            exact (by simp (disch := omega) only [true_or, or_true, eq_self, Option.some.injEq, Prod.mk.injEq, zall_0, zall_1, zall_2, zob_iff, zar_iff, zis_iff, zkIs_some, zkHas_some, iI_vp, z01_I, z01_bz, zch_I, true_and, and_true, or_false, false_or, and_self, upI_same, upL_same, upI_ne, upL_ne, iI_ixN, zI_mk, zL_mk, zP_mk, zK_mk, zN_mk, zwI_up, zwL_up, zg_some, Nat.reduceMod, Nat.reduceDiv, zcn_I, iI_add, iI_sub, iI_mul, iI_neg, iI_lt, iI_le, iI_eq, iI_lt0, iI_le0, iI_gt0, iI_ge0, iI_eq0, k0, p1, k2, p6, k9] <;> omega)
          · simp (disch := omega) only [upI_same, upL_same, upI_ne, upL_ne, iI_ixN, zI_mk, zL_mk, zP_mk, zK_mk, zN_mk, zwI_up, zwL_up, zg_some, Nat.reduceMod, Nat.reduceDiv, zcn_I, iI_add, iI_sub, iI_mul, iI_neg, iI_lt, iI_le, iI_eq, iI_lt0, iI_le0, iI_gt0, iI_ge0, iI_eq0, p1, p6, h5]
            refine spr_in (i := i) hd hL hk hN ha hQ n (t + 1) (by omega) I2 (nx a to) (bR to (b.1 f + 1) b) _ _ (mfr_tr r1 f2) m2 (bR_I hb hto (by omega) (by omega)) (by have := bLe_len hle2; omega) (by rw [bLe_nth hle2 hi, hf]) (n6 a to ha hto) hB' rfl ?_
            exact (by simp (disch := omega) only [eq_self, not_true_eq_false, not_false_eq_true, upI_same, upL_same, upI_ne, upL_ne, iI_ixN, zI_mk, zL_mk, zP_mk, zK_mk, zN_mk, zwI_up, zwL_up, zg_some, Nat.reduceMod, Nat.reduceDiv, zcn_I, iI_add, iI_sub, iI_mul, iI_neg, iI_lt, iI_le, iI_eq, iI_lt0, iI_le0, iI_gt0, iI_ge0, iI_eq0] <;> omega)
theorem spr_mid {k sz ac f i : Nat} {nx : Nat → Nat → Nat} {I0 : Nat → Nat → Int32} {b0 : bSt} {x2 : Int32} (hd : 2 ≤ d) (hL : GL g R) (hk : k < 3) (hN : gN g I0 sz ac nx) (hb0 : bI sz b0) (hi0 : i < b0.2.length) (hf0 : nth b0.2 i = f)
    (hQ : ∀ I', mfr g k I0 I' → bM g k I' sz (bA nx (tt k) f ac b0) → ∀ u v w, zW 18 d 0 0 106 [some (zr (some g)), some (zi (iI (k : Int))), some (zi x2), some (zi (iI (f : Int))), u, v, w] [] (I', L, R) Q) :
    ∀ n a, a + n = ac → ∀ (I1 : Nat → Nat → Int32) (x : Int32) (v w : Option zV), mfr g k I0 I1 → bM g k I1 sz (bA nx (tt k) f a b0) → x = iI (a : Int) →
      zW 18 d 0 0 27 [some (zr (some g)), some (zi (iI (k : Int))), some (zi x2), some (zi (iI (f : Int))), some (zi x), v, w] [] (I1, L, R) Q
  | 0, a, ha, I1, x, v, w, r1, r2, e => by
    subst e
    obtain rfl : a = ac := by omega
    obtain ⟨n1, n2, n3, n4, n5, n6⟩ := gN_fr hk hN r1
    have hL' := hL
    obtain ⟨k0, p0, p1, p2, p3, p4, k1, k2, k3, k4, k5, k6, k7⟩ := hL'
    refine zW.gbt [] rfl rfl rfl (by omega) ?_ ?_ (hQ I1 r1 r2 _ _ _)
    · exact (by simp (disch := omega) only [true_or, or_true, eq_self, Option.some.injEq, Prod.mk.injEq, zall_0, zall_1, zall_2, zob_iff, zar_iff, zis_iff, zkIs_some, zkHas_some, iI_vp, z01_I, z01_bz, zch_I, true_and, and_true, or_false, false_or, and_self, upI_same, upL_same, upI_ne, upL_ne, iI_ixN, zI_mk, zL_mk, zP_mk, zK_mk, zN_mk, zwI_up, zwL_up, zg_some, Nat.reduceMod, Nat.reduceDiv, zcn_I, iI_add, iI_sub, iI_mul, iI_neg, iI_lt, iI_le, iI_eq, iI_lt0, iI_le0, iI_gt0, iI_ge0, iI_eq0, k0] <;> omega)
    · exact (by simp (disch := omega) only [eq_self, not_true_eq_false, not_false_eq_true, upI_same, upL_same, upI_ne, upL_ne, iI_ixN, zI_mk, zL_mk, zP_mk, zK_mk, zN_mk, zwI_up, zwL_up, zg_some, Nat.reduceMod, Nat.reduceDiv, zcn_I, iI_add, iI_sub, iI_mul, iI_neg, iI_lt, iI_le, iI_eq, iI_lt0, iI_le0, iI_gt0, iI_ge0, iI_eq0, n4] <;> omega)
  | n + 1, a, ha, I1, x, v, w, r1, r2, e => by
    subst e
    obtain ⟨n1, n2, n3, n4, n5, n6⟩ := gN_fr hk hN r1
    have hL' := hL
    obtain ⟨k0, p0, p1, p2, p3, p4, k1, k2, k3, k4, k5, k6, k7⟩ := hL'
    obtain ⟨p6, k9⟩ := k6 a (by omega)
    have hfs : f < sz := by
      have := (hb0.2.1 i hi0).1
      rwa [hf0] at this
    have h5 := n5 a f (by omega) hfs
    have hle := bA_le nx (tt k) f a b0
    have hbi := bA_I (ac := ac) (t := tt k) n6 a b0 (by omega) hb0 hi0 hf0
    refine zW.gbf [] rfl rfl rfl (by omega) ?_ ?_ (zW.go [50] rfl (by omega) ?_ ?_)
    · exact (by simp (disch := omega) only [true_or, or_true, eq_self, Option.some.injEq, Prod.mk.injEq, zall_0, zall_1, zall_2, zob_iff, zar_iff, zis_iff, zkIs_some, zkHas_some, iI_vp, z01_I, z01_bz, zch_I, true_and, and_true, or_false, false_or, and_self, upI_same, upL_same, upI_ne, upL_ne, iI_ixN, zI_mk, zL_mk, zP_mk, zK_mk, zN_mk, zwI_up, zwL_up, zg_some, Nat.reduceMod, Nat.reduceDiv, zcn_I, iI_add, iI_sub, iI_mul, iI_neg, iI_lt, iI_le, iI_eq, iI_lt0, iI_le0, iI_gt0, iI_ge0, iI_eq0, k0] <;> omega)
    · exact (by simp (disch := omega) only [eq_self, not_true_eq_false, not_false_eq_true, upI_same, upL_same, upI_ne, upL_ne, iI_ixN, zI_mk, zL_mk, zP_mk, zK_mk, zN_mk, zwI_up, zwL_up, zg_some, Nat.reduceMod, Nat.reduceDiv, zcn_I, iI_add, iI_sub, iI_mul, iI_neg, iI_lt, iI_le, iI_eq, iI_lt0, iI_le0, iI_gt0, iI_ge0, iI_eq0, n4] <;> omega)
    · simp (disch := omega) only [upI_same, upL_same, upI_ne, upL_ne, iI_ixN, zI_mk, zL_mk, zP_mk, zK_mk, zN_mk, zwI_up, zwL_up, zg_some, Nat.reduceMod, Nat.reduceDiv, zcn_I, iI_add, iI_sub, iI_mul, iI_neg, iI_lt, iI_le, iI_eq, iI_lt0, iI_le0, iI_gt0, iI_ge0, iI_eq0, p1, p6]
      exact (by simp (disch := omega) only [true_or, or_true, eq_self, Option.some.injEq, Prod.mk.injEq, zall_0, zall_1, zall_2, zob_iff, zar_iff, zis_iff, zkIs_some, zkHas_some, iI_vp, z01_I, z01_bz, zch_I, true_and, and_true, or_false, false_or, and_self, upI_same, upL_same, upI_ne, upL_ne, iI_ixN, zI_mk, zL_mk, zP_mk, zK_mk, zN_mk, zwI_up, zwL_up, zg_some, Nat.reduceMod, Nat.reduceDiv, zcn_I, iI_add, iI_sub, iI_mul, iI_neg, iI_lt, iI_le, iI_eq, iI_lt0, iI_le0, iI_gt0, iI_ge0, iI_eq0, k0, p1, k2, p6, k9] <;> omega)
    · simp (disch := omega) only [upI_same, upL_same, upI_ne, upL_ne, iI_ixN, zI_mk, zL_mk, zP_mk, zK_mk, zN_mk, zwI_up, zwL_up, zg_some, Nat.reduceMod, Nat.reduceDiv, zcn_I, iI_add, iI_sub, iI_mul, iI_neg, iI_lt, iI_le, iI_eq, iI_lt0, iI_le0, iI_gt0, iI_ge0, iI_eq0, p1, p6, h5]
      refine spr_in (f := f) (a := a) (i := i) (B := bA nx (tt k) f (a + 1) b0) hd hL hk hN (by omega) (fun I' q1 q2 v' w' => ?_) (tt k) 0 (by omega) I1 (nx a f) (bA nx (tt k) f a b0) _ _ r1 r2 hbi (by have := bLe_len hle; omega) (by rw [bLe_nth hle hi0, hf0]) (n6 a f (by omega) hfs) rfl rfl rfl
      refine zW.go [27] rfl (by omega) trivial ?_
      refine spr_mid hd hL hk hN hb0 hi0 hf0 hQ n (a + 1) (by omega) I' _ _ _ q1 q2 ?_
      exact (by simp (disch := omega) only [eq_self, not_true_eq_false, not_false_eq_true, upI_same, upL_same, upI_ne, upL_ne, iI_ixN, zI_mk, zL_mk, zP_mk, zK_mk, zN_mk, zwI_up, zwL_up, zg_some, Nat.reduceMod, Nat.reduceDiv, zcn_I, iI_add, iI_sub, iI_mul, iI_neg, iI_lt, iI_le, iI_eq, iI_lt0, iI_le0, iI_gt0, iI_ge0, iI_eq0] <;> omega)
theorem spr_out {k sz ac : Nat} {nx : Nat → Nat → Nat} {I0 : Nat → Nat → Int32} {b0 : bSt} (hd : 2 ≤ d) (hL : GL g R) (hk : k < 3) (hN : gN g I0 sz ac nx) (hb0 : bI sz b0)
    (hQ : ∀ I', mfr g k I0 I' → bM g k I' sz (bQ nx (tt k) ac 800 b0) → Q (.inl none) (I', L, R)) :
    ∀ n i, i + n = 800 → ∀ (I1 : Nat → Nat → Int32) (x : Int32) (u v w z : Option zV), mfr g k I0 I1 → bM g k I1 sz (bQ nx (tt k) ac i b0) → x = iI (i : Int) →
      zW 18 d 0 0 2 [some (zr (some g)), some (zi (iI (k : Int))), some (zi x), u, v, w, z] [] (I1, L, R) Q := by
  intro n i hn I1 x u v w z r1 r2 e
  have hL' := hL
  obtain ⟨k0, p0, p1, p2, p3, p4, k1, k2, k3, k4, k5, k6, k7⟩ := hL'
  induction n generalizing i I1 x u v w z with
  | zero =>
    subst e
    obtain rfl : i = 800 := by omega
    have hbi := bQ_I (t := tt k) hN.2.2.2.2.2 800 b0 hb0
    have hle := bI_le hbi
    have m3 := r2.2.2
    have h800 := hN.1
    refine zW.gbt [] rfl rfl rfl (by omega) ?_ ?_ (zW.gr [] rfl rfl rfl (by omega) trivial trivial (hQ I1 r1 r2))
    · exact (by simp (disch := omega) only [true_or, or_true, eq_self, Option.some.injEq, Prod.mk.injEq, zall_0, zall_1, zall_2, zob_iff, zar_iff, zis_iff, zkIs_some, zkHas_some, iI_vp, z01_I, z01_bz, zch_I, true_and, and_true, or_false, false_or, and_self, upI_same, upL_same, upI_ne, upL_ne, iI_ixN, zI_mk, zL_mk, zP_mk, zK_mk, zN_mk, zwI_up, zwL_up, zg_some, Nat.reduceMod, Nat.reduceDiv, zcn_I, iI_add, iI_sub, iI_mul, iI_neg, iI_lt, iI_le, iI_eq, iI_lt0, iI_le0, iI_gt0, iI_ge0, iI_eq0, k0] <;> omega)
    · exact (by simp (disch := omega) only [eq_self, not_true_eq_false, not_false_eq_true, upI_same, upL_same, upI_ne, upL_ne, iI_ixN, zI_mk, zL_mk, zP_mk, zK_mk, zN_mk, zwI_up, zwL_up, zg_some, Nat.reduceMod, Nat.reduceDiv, zcn_I, iI_add, iI_sub, iI_mul, iI_neg, iI_lt, iI_le, iI_eq, iI_lt0, iI_le0, iI_gt0, iI_ge0, iI_eq0, m3] <;> omega)
  | succ n ih =>
    subst e
    have hbi := bQ_I (t := tt k) hN.2.2.2.2.2 i b0 hb0
    have hle := bI_le hbi
    have m3 := r2.2.2
    have h800 := hN.1
    by_cases hlt : i < (bQ nx (tt k) ac i b0).2.length
    · have hq := r2.2.1 i hlt
      have hstep : bQ nx (tt k) ac (i + 1) b0 = bA nx (tt k) (nth (bQ nx (tt k) ac i b0).2 i) ac (bQ nx (tt k) ac i b0) := if_pos hlt
      have hfs := (hbi.2.1 i hlt).1
      refine zW.gbf [] rfl rfl rfl (by omega) ?_ ?_ (zW.gbf [] rfl rfl rfl (by omega) trivial ?_ (zW.go [27] rfl (by omega) ?_ ?_))
      · exact (by simp (disch := omega) only [true_or, or_true, eq_self, Option.some.injEq, Prod.mk.injEq, zall_0, zall_1, zall_2, zob_iff, zar_iff, zis_iff, zkIs_some, zkHas_some, iI_vp, z01_I, z01_bz, zch_I, true_and, and_true, or_false, false_or, and_self, upI_same, upL_same, upI_ne, upL_ne, iI_ixN, zI_mk, zL_mk, zP_mk, zK_mk, zN_mk, zwI_up, zwL_up, zg_some, Nat.reduceMod, Nat.reduceDiv, zcn_I, iI_add, iI_sub, iI_mul, iI_neg, iI_lt, iI_le, iI_eq, iI_lt0, iI_le0, iI_gt0, iI_ge0, iI_eq0, k0] <;> omega)
      · exact (by simp (disch := omega) only [eq_self, not_true_eq_false, not_false_eq_true, upI_same, upL_same, upI_ne, upL_ne, iI_ixN, zI_mk, zL_mk, zP_mk, zK_mk, zN_mk, zwI_up, zwL_up, zg_some, Nat.reduceMod, Nat.reduceDiv, zcn_I, iI_add, iI_sub, iI_mul, iI_neg, iI_lt, iI_le, iI_eq, iI_lt0, iI_le0, iI_gt0, iI_ge0, iI_eq0, m3] <;> omega)
      · exact (by simp (disch := omega) only [eq_self, not_true_eq_false, not_false_eq_true, upI_same, upL_same, upI_ne, upL_ne, iI_ixN, zI_mk, zL_mk, zP_mk, zK_mk, zN_mk, zwI_up, zwL_up, zg_some, Nat.reduceMod, Nat.reduceDiv, zcn_I, iI_add, iI_sub, iI_mul, iI_neg, iI_lt, iI_le, iI_eq, iI_lt0, iI_le0, iI_gt0, iI_ge0, iI_eq0] <;> omega)
      · exact (by simp (disch := omega) only [true_or, or_true, eq_self, Option.some.injEq, Prod.mk.injEq, zall_0, zall_1, zall_2, zob_iff, zar_iff, zis_iff, zkIs_some, zkHas_some, iI_vp, z01_I, z01_bz, zch_I, true_and, and_true, or_false, false_or, and_self, upI_same, upL_same, upI_ne, upL_ne, iI_ixN, zI_mk, zL_mk, zP_mk, zK_mk, zN_mk, zwI_up, zwL_up, zg_some, Nat.reduceMod, Nat.reduceDiv, zcn_I, iI_add, iI_sub, iI_mul, iI_neg, iI_lt, iI_le, iI_eq, iI_lt0, iI_le0, iI_gt0, iI_ge0, iI_eq0, k0, p4, k5] <;> omega)
      · simp (disch := omega) only [upI_same, upL_same, upI_ne, upL_ne, iI_ixN, zI_mk, zL_mk, zP_mk, zK_mk, zN_mk, zwI_up, zwL_up, zg_some, Nat.reduceMod, Nat.reduceDiv, zcn_I, iI_add, iI_sub, iI_mul, iI_neg, iI_lt, iI_le, iI_eq, iI_lt0, iI_le0, iI_gt0, iI_ge0, iI_eq0, p4, hq]
        refine spr_mid (f := nth (bQ nx (tt k) ac i b0).2 i) (i := i) (b0 := bQ nx (tt k) ac i b0) hd hL hk hN hbi hlt rfl (fun I' q1 q2 u' v' w' => ?_) ac 0 (by omega) I1 _ _ _ r1 r2 rfl
        refine zW.go [2] rfl (by omega) trivial ?_
        refine ih (i + 1) (by omega) I' _ _ _ _ _ q1 (by rw [hstep]; exact q2) ?_
        exact (by simp (disch := omega) only [eq_self, not_true_eq_false, not_false_eq_true, upI_same, upL_same, upI_ne, upL_ne, iI_ixN, zI_mk, zL_mk, zP_mk, zK_mk, zN_mk, zwI_up, zwL_up, zg_some, Nat.reduceMod, Nat.reduceDiv, zcn_I, iI_add, iI_sub, iI_mul, iI_neg, iI_lt, iI_le, iI_eq, iI_lt0, iI_le0, iI_gt0, iI_ge0, iI_eq0] <;> omega)
    · have hend := bQ_end (t := tt k) (ac := ac) (nx := nx) (b := b0) (i := i) (by omega) (n + 1)
      rw [show i + (n + 1) = 800 by omega] at hend
      refine zW.gbt [] rfl rfl rfl (by omega) ?_ ?_ (zW.gr [] rfl rfl rfl (by omega) trivial trivial (hQ I1 r1 (by rw [hend]; exact r2)))
      · exact (by simp (disch := omega) only [true_or, or_true, eq_self, Option.some.injEq, Prod.mk.injEq, zall_0, zall_1, zall_2, zob_iff, zar_iff, zis_iff, zkIs_some, zkHas_some, iI_vp, z01_I, z01_bz, zch_I, true_and, and_true, or_false, false_or, and_self, upI_same, upL_same, upI_ne, upL_ne, iI_ixN, zI_mk, zL_mk, zP_mk, zK_mk, zN_mk, zwI_up, zwL_up, zg_some, Nat.reduceMod, Nat.reduceDiv, zcn_I, iI_add, iI_sub, iI_mul, iI_neg, iI_lt, iI_le, iI_eq, iI_lt0, iI_le0, iI_gt0, iI_ge0, iI_eq0, k0] <;> omega)
      · exact (by simp (disch := omega) only [eq_self, not_true_eq_false, not_false_eq_true, upI_same, upL_same, upI_ne, upL_ne, iI_ixN, zI_mk, zL_mk, zP_mk, zK_mk, zN_mk, zwI_up, zwL_up, zg_some, Nat.reduceMod, Nat.reduceDiv, zcn_I, iI_add, iI_sub, iI_mul, iI_neg, iI_lt, iI_le, iI_eq, iI_lt0, iI_le0, iI_gt0, iI_ge0, iI_eq0, m3] <;> omega)
theorem spread_ok {k sz ac : Nat} {nx : Nat → Nat → Nat} {b : bSt} {x : Int32} (hd : 2 ≤ d) (hL : GL g R) (hk : k < 3) (e : x = iI (k : Int)) (hN : gN g I sz ac nx) (hb : bI sz b) (hm : bM g k I sz b)
    (hQ : ∀ I', mfr g k I I' → bM g k I' sz (bQ nx (tt k) ac 800 b) → Q (.inl none) (I', L, R)) : zS 18 d [zr (some g), zi x] (I, L, R) Q := by
  subst e
  refine zW.go [2] rfl (by omega) trivial ?_
  exact spr_out hd hL hk hN hb hQ 800 0 rfl I _ _ _ _ _ (mfr_rf _ _ _) hm rfl
/-- how many are walked to from the first one -/
theorem walked_ok {sz ac : Nat} {nx : Nat → Nat → Nat} (hd : 3 ≤ d) (hL : GL g R) (hN : gN g I sz ac nx) (h1 : 1 ≤ sz)
    (hQ : ∀ I', mfr g 2 I I' → bM g 2 I' sz (bF nx 1 ac sz (fun i => i == 0)) → Q (.inl (some (zi (iI ((bF nx 1 ac sz (fun i => i == 0)).2.length : Int))))) (I', L, R)) : zS 15 d [zr (some g)] (I, L, R) Q := by
  have hL' := hL
  obtain ⟨k0, p0, p1, p2, p3, p4, k1, k2, k3, k4, k5, k6, k7⟩ := hL'
  have hS1 : ∀ n, bS (fun i => i == 0) (n + 1) = bR 0 0 (bS (fun _ => false) 0) := by
    intro n
    induction n with
    | zero => rfl
    | succ n ih => exact (if_neg (by simp)).trans ih
  obtain ⟨m, rfl⟩ : ∃ m, sz = m + 1 := ⟨sz - 1, by omega⟩
  have hI0 : bI (m + 1) (bS (fun _ => false) 0) := (bS_I (fun _ => false) 0 (Nat.zero_le _)).1
  refine zW.gz [] rfl rfl rfl (by omega) trivial ?_ rfl rfl (Nat.le_refl _) (Nat.le_refl _) ?_
  · exact ⟨_, rfl, k0⟩
  · refine clear_ok (k := 2) (sz := m + 1) (by omega) hL (by decide) (zcn_I 2) hN.1 (fun I1 f1 b1 => ?_)
    refine zW.gz [] rfl rfl rfl (by omega) trivial ?_ rfl rfl (Nat.le_refl _) (Nat.le_refl _) ?_
    · exact ⟨_, rfl, k0⟩
    · have hN1 := gN_fr (by decide) hN f1
      refine reach_ok (k := 2) (sz := m + 1) (s := 0) (v := 0) (by omega) hL (by decide) hN1.1 hN1.2.2.1 (zcn_I 2) (zcn_I 0) (zcn_I 0) (by omega) hI0 b1 (fun I2 f2 b2 => ?_)
      refine zW.gz [] rfl rfl rfl (by omega) trivial ?_ rfl rfl (Nat.le_refl _) (Nat.le_refl _) ?_
      · exact ⟨_, rfl, k0⟩
      · have hN2 := gN_fr (by decide) hN1 f2
        refine spread_ok (k := 2) (sz := m + 1) (by omega) hL (by decide) (zcn_I 2) hN2 (bR_I hI0 (by omega) (Int.le_refl 0) (by omega)) b2 (fun I3 f3 b3 => ?_)
        refine zW.gr [] rfl rfl rfl (by omega) ?_ trivial ?_
        · exact (by simp (disch := omega) only [true_or, or_true, eq_self, Option.some.injEq, Prod.mk.injEq, zall_0, zall_1, zall_2, zob_iff, zar_iff, zis_iff, zkIs_some, zkHas_some, iI_vp, z01_I, z01_bz, zch_I, true_and, and_true, or_false, false_or, and_self, upI_same, upL_same, upI_ne, upL_ne, iI_ixN, zI_mk, zL_mk, zP_mk, zK_mk, zN_mk, zwI_up, zwL_up, zg_some, Nat.reduceMod, Nat.reduceDiv, zcn_I, iI_add, iI_sub, iI_mul, iI_neg, iI_lt, iI_le, iI_eq, iI_lt0, iI_le0, iI_gt0, iI_ge0, iI_eq0, k0] <;> omega)
        · have m3 := b3.2.2
          rw [← hS1 m, show tt 2 = 1 from rfl, bF_eq] at b3 m3
          simp (disch := omega) only [upI_same, upL_same, upI_ne, upL_ne, iI_ixN, zI_mk, zL_mk, zP_mk, zK_mk, zN_mk, zwI_up, zwL_up, zg_some, Nat.reduceMod, Nat.reduceDiv, zcn_I, iI_add, iI_sub, iI_mul, iI_neg, iI_lt, iI_le, iI_eq, iI_lt0, iI_le0, iI_gt0, iI_ge0, iI_eq0, m3]
          exact hQ I3 (mfr_tr (mfr_tr f1 f2) f3) b3
/-- a measuring changes depths of its count, the queue, and says so -/
def gfr (g k : Nat) (I I' : Nat → Nat → Int32) : Prop := (∀ b, b ≠ g → b ≠ g + 12 + k → b ≠ g + 15 → b ≠ g + 16 → I' b = I b) ∧ (∀ j, j ≠ 5 → I' g j = I g j) ∧ ∀ j, j ≠ k → I' (g + 15) j = I (g + 15) j
theorem gfr_of {k : Nat} (hk : k < 3) {I I' : Nat → Nat → Int32} (h : mfr g k I I') : gfr g k I I' := ⟨fun b a1 a2 _ a4 => h.1 b a1 a2 a4, h.2, fun j _ => congrFun (h.1 _ (by omega) (by omega) (by omega)) j⟩
theorem meas_lp {k sz ac : Nat} {nx : Nat → Nat → Nat} {st : Nat → Nat → Nat} {pt : Nat → Nat} {I0 : Nat → Nat → Int32} (hd : 4 ≤ d) (hL : GL g R) (hk : k < 2) (hN : gN g I0 sz ac nx) (hst : ∀ i, i < sz → L (g + 1) i = Rw (st i) ∧ pm 10 (st i)) (hpt : nb pt)
    {sv : Nat → Bool} (hsv : ∀ i, i < sz → sv i = dc (∀ p, p < 10 → pt (st i p) = pt p)) {B : bSt} (hB : bQ nx (tt k) ac 800 (bS sv sz) = B) (hQ : ∀ I', gfr g k I0 I' → (∀ s, s < sz → I' (g + 12 + k) s = iI (B.1 s)) → I' (g + 15) k = iI 1 → Q (.inl none) (I', L, R)) :
    ∀ n i, i + n = sz → ∀ (I1 : Nat → Nat → Int32) (x : Int32), mfr g k I0 I1 → bM g k I1 sz (bS sv i) → x = iI (i : Int) →
      zW 14 d 0 0 18 [some (zr (some g)), some (zi (iI (k : Int))), some (zl (Rw pt)), none, some (zi x)] [] (I1, L, R) Q
  | 0, i, hi, I1, x, r1, r2, e => by
    subst e
    obtain rfl : i = sz := by omega
    have hN1 := gN_fr (by omega) hN r1
    obtain ⟨n1, n2, n3, n4, n5, n6⟩ := hN1
    have hL' := hL
    obtain ⟨k0, p0, p1, p2, p3, p4, k1, k2, k3, k4, k5, k6, k7⟩ := hL'
    refine zW.gbt [] rfl rfl rfl (by omega) ?_ ?_ (zW.gz [] rfl rfl rfl (by omega) trivial ?_ rfl rfl (Nat.le_refl _) (Nat.le_refl _) ?_)
    · exact (by simp (disch := omega) only [true_or, or_true, eq_self, Option.some.injEq, Prod.mk.injEq, zall_0, zall_1, zall_2, zob_iff, zar_iff, zis_iff, zkIs_some, zkHas_some, iI_vp, z01_I, z01_bz, zch_I, true_and, and_true, or_false, false_or, and_self, upI_same, upL_same, upI_ne, upL_ne, iI_ixN, zI_mk, zL_mk, zP_mk, zK_mk, zN_mk, zwI_up, zwL_up, zg_some, Nat.reduceMod, Nat.reduceDiv, zcn_I, iI_add, iI_sub, iI_mul, iI_neg, iI_lt, iI_le, iI_eq, iI_lt0, iI_le0, iI_gt0, iI_ge0, iI_eq0, k0] <;> omega)
    · exact (by simp (disch := omega) only [eq_self, not_true_eq_false, not_false_eq_true, upI_same, upL_same, upI_ne, upL_ne, iI_ixN, zI_mk, zL_mk, zP_mk, zK_mk, zN_mk, zwI_up, zwL_up, zg_some, Nat.reduceMod, Nat.reduceDiv, zcn_I, iI_add, iI_sub, iI_mul, iI_neg, iI_lt, iI_le, iI_eq, iI_lt0, iI_le0, iI_gt0, iI_ge0, iI_eq0, n3] <;> omega)
    · exact ⟨_, rfl, k0⟩
    · refine spread_ok (k := k) (by omega) hL (by omega) rfl ⟨n1, n2, n3, n4, n5, n6⟩ (bS_I _ _ (Nat.le_refl _)).1 r2 (fun I2 f2 b2 => ?_)
      rw [hB] at b2
      refine zW.gr [] rfl rfl rfl (by omega) ?_ trivial ?_
      · exact (by simp (disch := omega) only [true_or, or_true, eq_self, Option.some.injEq, Prod.mk.injEq, zall_0, zall_1, zall_2, zob_iff, zar_iff, zis_iff, zkIs_some, zkHas_some, iI_vp, z01_I, z01_bz, zch_I, true_and, and_true, or_false, false_or, and_self, upI_same, upL_same, upI_ne, upL_ne, iI_ixN, zI_mk, zL_mk, zP_mk, zK_mk, zN_mk, zwI_up, zwL_up, zg_some, Nat.reduceMod, Nat.reduceDiv, zcn_I, iI_add, iI_sub, iI_mul, iI_neg, iI_lt, iI_le, iI_eq, iI_lt0, iI_le0, iI_gt0, iI_ge0, iI_eq0, k0, p3, k4] <;> omega)
      · simp (disch := omega) only [upI_same, upL_same, upI_ne, upL_ne, iI_ixN, zI_mk, zL_mk, zP_mk, zK_mk, zN_mk, zwI_up, zwL_up, zg_some, Nat.reduceMod, Nat.reduceDiv, zcn_I, iI_add, iI_sub, iI_mul, iI_neg, iI_lt, iI_le, iI_eq, iI_lt0, iI_le0, iI_gt0, iI_ge0, iI_eq0, p3, zcn_I]
        have f3 := gfr_of (by omega) (mfr_tr r1 f2)
        refine hQ _ ⟨fun b q1 q2 q3 q4 => ?_, fun j q => ?_, fun j q => ?_⟩ (fun s hs => ?_) ?_
        · rw [upI_row q3]
          exact f3.1 b q1 q2 q3 q4
        · rw [upI_ne (by omega)]
          exact f3.2.1 j q
        · rw [upI_ne (by omega)]
          exact f3.2.2 j q
        · rw [upI_row (by omega)]
          exact b2.1 s hs
        · rw [upI_same]
  | n + 1, i, hi, I1, x, r1, r2, e => by
    subst e
    have hN1 := gN_fr (by omega) hN r1
    obtain ⟨n1, n2, n3, n4, n5, n6⟩ := hN1
    have hL' := hL
    obtain ⟨k0, p0, p1, p2, p3, p4, k1, k2, k3, k4, k5, k6, k7⟩ := hL'
    obtain ⟨st1, st2⟩ := hst i (by omega)
    refine zW.gbf [] rfl rfl rfl (by omega) ?_ ?_ (zW.gz [] rfl rfl rfl (by omega) ?_ trivial rfl rfl (Nat.le_refl _) (Nat.le_refl _) ?_)
    · exact (by simp (disch := omega) only [true_or, or_true, eq_self, Option.some.injEq, Prod.mk.injEq, zall_0, zall_1, zall_2, zob_iff, zar_iff, zis_iff, zkIs_some, zkHas_some, iI_vp, z01_I, z01_bz, zch_I, true_and, and_true, or_false, false_or, and_self, upI_same, upL_same, upI_ne, upL_ne, iI_ixN, zI_mk, zL_mk, zP_mk, zK_mk, zN_mk, zwI_up, zwL_up, zg_some, Nat.reduceMod, Nat.reduceDiv, zcn_I, iI_add, iI_sub, iI_mul, iI_neg, iI_lt, iI_le, iI_eq, iI_lt0, iI_le0, iI_gt0, iI_ge0, iI_eq0, k0] <;> omega)
    · exact (by simp (disch := omega) only [eq_self, not_true_eq_false, not_false_eq_true, upI_same, upL_same, upI_ne, upL_ne, iI_ixN, zI_mk, zL_mk, zP_mk, zK_mk, zN_mk, zwI_up, zwL_up, zg_some, Nat.reduceMod, Nat.reduceDiv, zcn_I, iI_add, iI_sub, iI_mul, iI_neg, iI_lt, iI_le, iI_eq, iI_lt0, iI_le0, iI_gt0, iI_ge0, iI_eq0, n3] <;> omega)
    · exact (by simp (disch := omega) only [true_or, or_true, eq_self, Option.some.injEq, Prod.mk.injEq, zall_0, zall_1, zall_2, zob_iff, zar_iff, zis_iff, zkIs_some, zkHas_some, iI_vp, z01_I, z01_bz, zch_I, true_and, and_true, or_false, false_or, and_self, upI_same, upL_same, upI_ne, upL_ne, iI_ixN, zI_mk, zL_mk, zP_mk, zK_mk, zN_mk, zwI_up, zwL_up, zg_some, Nat.reduceMod, Nat.reduceDiv, zcn_I, iI_add, iI_sub, iI_mul, iI_neg, iI_lt, iI_le, iI_eq, iI_lt0, iI_le0, iI_gt0, iI_ge0, iI_eq0, k0, p0, k1] <;> omega)
    · simp (disch := omega) only [upI_same, upL_same, upI_ne, upL_ne, iI_ixN, zI_mk, zL_mk, zP_mk, zK_mk, zN_mk, zwI_up, zwL_up, zg_some, Nat.reduceMod, Nat.reduceDiv, zcn_I, iI_add, iI_sub, iI_mul, iI_neg, iI_lt, iI_le, iI_eq, iI_lt0, iI_le0, iI_gt0, iI_ge0, iI_eq0, p0, st1]
      refine through_ok (f := pt) (g := st i) (by omega) hpt st2.1 rfl rfl ?_
      have hnp : nb (fun p => pt (st i p)) := fun p hp => hpt _ (st2.1 p hp)
      refine zW.gb [] rfl rfl rfl (by omega) trivial (fun h => ?_) (fun h => ?_)
      · rw [lg_cmp_eq, Rw_eq hnp hpt] at h
        refine zW.go [18] rfl (by omega) trivial ?_
        refine meas_lp hd hL hk hN hst hpt hsv hB hQ n (i + 1) (by omega) I1 _ r1 ?_ ?_
        · show bM g k I1 sz (if sv i then _ else _)
          rw [hsv i (by omega), dc_f.mpr h]
          exact r2
        · exact (by simp (disch := omega) only [eq_self, not_true_eq_false, not_false_eq_true, upI_same, upL_same, upI_ne, upL_ne, iI_ixN, zI_mk, zL_mk, zP_mk, zK_mk, zN_mk, zwI_up, zwL_up, zg_some, Nat.reduceMod, Nat.reduceDiv, zcn_I, iI_add, iI_sub, iI_mul, iI_neg, iI_lt, iI_le, iI_eq, iI_lt0, iI_le0, iI_gt0, iI_ge0, iI_eq0] <;> omega)
      · have h := Classical.not_not.mp h
        rw [lg_cmp_eq, Rw_eq hnp hpt] at h
        refine zW.gz [] rfl rfl rfl (by omega) trivial ?_ rfl rfl (Nat.le_refl _) (Nat.le_refl _) ?_
        · exact ⟨_, rfl, k0⟩
        · refine reach_ok (k := k) (sz := sz) (s := i) (v := 0) (by omega) hL (by omega) n1 n3 rfl rfl (zcn_I 0) (by omega) (bS_I _ _ (by omega)).1 r2 (fun I2 f2 b2 => ?_)
          refine zW.go [18] rfl (by omega) trivial ?_
          refine meas_lp hd hL hk hN hst hpt hsv hB hQ n (i + 1) (by omega) I2 _ (mfr_tr r1 f2) ?_ ?_
          · show bM g k I2 sz (if sv i then _ else _)
            rw [hsv i (by omega), dc_t.mpr h]
            exact b2
          · exact (by simp (disch := omega) only [eq_self, not_true_eq_false, not_false_eq_true, upI_same, upL_same, upI_ne, upL_ne, iI_ixN, zI_mk, zL_mk, zP_mk, zK_mk, zN_mk, zwI_up, zwL_up, zg_some, Nat.reduceMod, Nat.reduceDiv, zcn_I, iI_add, iI_sub, iI_mul, iI_neg, iI_lt, iI_le, iI_eq, iI_lt0, iI_le0, iI_gt0, iI_ge0, iI_eq0] <;> omega)
theorem measure_ok {k sz ac : Nat} {nx : Nat → Nat → Nat} {st : Nat → Nat → Nat} {pt : Nat → Nat} {m : Bool} {x : Int32} {o : Int64} (hd : 4 ≤ d) (hL : GL g R) (hk : k < 2) (e1 : x = iI (k : Int)) (e2 : o = Rw pt) (hN : gN g I sz ac nx) (hst : ∀ i, i < sz → L (g + 1) i = Rw (st i) ∧ pm 10 (st i)) (hpt : nb pt) (hm : I (g + 15) k = bz m)
    (hmd : m = true → ∀ s, s < sz → I (g + 12 + k) s = iI ((bF nx (tt k) ac sz (fun i => dc (∀ p, p < 10 → pt (st i p) = pt p))).1 s))
    (hQ : ∀ I', gfr g k I I' → (∀ s, s < sz → I' (g + 12 + k) s = iI ((bF nx (tt k) ac sz (fun i => dc (∀ p, p < 10 → pt (st i p) = pt p))).1 s)) → I' (g + 15) k = iI 1 → Q (.inl none) (I', L, R)) : zS 14 d [zr (some g), zi x, zl o] (I, L, R) Q := by
  subst e1; subst e2
  have hL' := hL
  obtain ⟨k0, p0, p1, p2, p3, p4, k1, k2, k3, k4, k5, k6, k7⟩ := hL'
  cases m with
  | true =>
    refine zW.gbf [] rfl rfl rfl (by omega) ?_ ?_ (zW.gr [] rfl rfl rfl (by omega) trivial trivial (hQ I ⟨fun _ _ _ _ _ => rfl, fun _ _ => rfl, fun _ _ => rfl⟩ (hmd rfl) hm))
    · exact (by simp (disch := omega) only [true_or, or_true, eq_self, Option.some.injEq, Prod.mk.injEq, zall_0, zall_1, zall_2, zob_iff, zar_iff, zis_iff, zkIs_some, zkHas_some, iI_vp, z01_I, z01_bz, zch_I, true_and, and_true, or_false, false_or, and_self, upI_same, upL_same, upI_ne, upL_ne, iI_ixN, zI_mk, zL_mk, zP_mk, zK_mk, zN_mk, zwI_up, zwL_up, zg_some, Nat.reduceMod, Nat.reduceDiv, zcn_I, iI_add, iI_sub, iI_mul, iI_neg, iI_lt, iI_le, iI_eq, iI_lt0, iI_le0, iI_gt0, iI_ge0, iI_eq0, k0, p3, k4] <;> omega)
    · exact (by simp (disch := omega) only [eq_self, not_true_eq_false, not_false_eq_true, upI_same, upL_same, upI_ne, upL_ne, iI_ixN, zI_mk, zL_mk, zP_mk, zK_mk, zN_mk, zwI_up, zwL_up, zg_some, Nat.reduceMod, Nat.reduceDiv, zcn_I, iI_add, iI_sub, iI_mul, iI_neg, iI_lt, iI_le, iI_eq, iI_lt0, iI_le0, iI_gt0, iI_ge0, iI_eq0, p3, hm, bz_t] <;> omega)
  | false =>
    refine zW.gbt [] rfl rfl rfl (by omega) ?_ ?_ (zW.gz [] rfl rfl rfl (by omega) trivial ?_ rfl rfl (Nat.le_refl _) (Nat.le_refl _) ?_)
    · exact (by simp (disch := omega) only [true_or, or_true, eq_self, Option.some.injEq, Prod.mk.injEq, zall_0, zall_1, zall_2, zob_iff, zar_iff, zis_iff, zkIs_some, zkHas_some, iI_vp, z01_I, z01_bz, zch_I, true_and, and_true, or_false, false_or, and_self, upI_same, upL_same, upI_ne, upL_ne, iI_ixN, zI_mk, zL_mk, zP_mk, zK_mk, zN_mk, zwI_up, zwL_up, zg_some, Nat.reduceMod, Nat.reduceDiv, zcn_I, iI_add, iI_sub, iI_mul, iI_neg, iI_lt, iI_le, iI_eq, iI_lt0, iI_le0, iI_gt0, iI_ge0, iI_eq0, k0, p3, k4] <;> omega)
    · exact (by simp (disch := omega) only [eq_self, not_true_eq_false, not_false_eq_true, upI_same, upL_same, upI_ne, upL_ne, iI_ixN, zI_mk, zL_mk, zP_mk, zK_mk, zN_mk, zwI_up, zwL_up, zg_some, Nat.reduceMod, Nat.reduceDiv, zcn_I, iI_add, iI_sub, iI_mul, iI_neg, iI_lt, iI_le, iI_eq, iI_lt0, iI_le0, iI_gt0, iI_ge0, iI_eq0, p3, hm, bz_f] <;> omega)
    · exact ⟨_, rfl, k0⟩
    · refine clear_ok (k := k) (sz := sz) (by omega) hL (by omega) rfl hN.1 (fun I1 f1 b1 => ?_)
      refine zW.go [18] rfl (by omega) trivial ?_
      exact meas_lp hd hL hk hN hst hpt (fun _ _ => rfl) (B := bF nx (tt k) ac sz (fun i => dc (∀ p, p < 10 → pt (st i p) = pt p))) (bF_eq nx (tt k) ac sz _) hQ sz 0 (by omega) I1 _ f1 b1 rfl
end SPREAD
