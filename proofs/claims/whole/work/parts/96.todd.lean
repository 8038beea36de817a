/-! The class asks for odd rings. -/
section TODD
variable {d : Nat} {Q : zO → zM → Prop} {M0 : zM}
theorem oddr_x {f : Nat → Nat} {k M i : Nat} {A : Nat → Bool} {b : Bool} (hd : 2 ≤ d) (hi : i ≤ 10) (hb : bts M A) (hk : k < 10) (hA : A k = true)
    (hQ : zW 73 d 0 0 79 [some (zl (Rw f)), none, some (zi (iI (M : Int))), some (zi (bz b)), some (zi (iI (k : Int))), some (zi (iI (k : Int))), some (zi (iI (i : Int)))] [] M0 Q) : zW 73 d 0 0 21 [some (zl (Rw f)), none, some (zi (iI (M : Int))), some (zi (bz b)), some (zi (iI (k : Int))), some (zi (iI (k : Int))), some (zi (iI (i : Int)))] [] M0 Q := by
  by_cases h : i = 10
  · exact zW.gbt [] rfl rfl rfl (by omega) trivial (by simp (disch := omega) only [eq_self, not_true_eq_false, not_false_eq_true, upI_same, upL_same, upI_ne, upL_ne, iI_ixN, zI_mk, zL_mk, zP_mk, zK_mk, zN_mk, zwI_up, zwL_up, zg_some, Nat.reduceMod, Nat.reduceDiv, zcn_I, iI_add, iI_sub, iI_mul, iI_neg, iI_lt, iI_le, iI_eq, iI_lt0, iI_le0, iI_gt0, iI_ge0, iI_eq0] <;> omega) hQ
  · refine zW.gbf [] rfl rfl rfl (by omega) trivial (by simp (disch := omega) only [eq_self, not_true_eq_false, not_false_eq_true, upI_same, upL_same, upI_ne, upL_ne, iI_ixN, zI_mk, zL_mk, zP_mk, zK_mk, zN_mk, zwI_up, zwL_up, zg_some, Nat.reduceMod, Nat.reduceDiv, zcn_I, iI_add, iI_sub, iI_mul, iI_neg, iI_lt, iI_le, iI_eq, iI_lt0, iI_le0, iI_gt0, iI_ge0, iI_eq0] <;> omega) ?_
    refine zW.gbt [] rfl rfl rfl (by omega) trivial ?_ hQ
    rw [zcn_I, bit_at hb hk, hA]
    decide +kernel
theorem oddr_in {f : Nat → Nat} {k : Nat} (hd : 2 ≤ d) (hf : pm 10 f) (hk : k < 10)
    (hQ : ∀ (M : Nat) (A : Nat → Bool) (u w : Int32), bts M A → (∀ p, p < k + 1 → A p = true) → clo f A → prd f A → zW 73 d 0 0 79 [some (zl (Rw f)), none, some (zi (iI (M : Int))), some (zi (bz (ip (rs f A) 10))), some (zi (iI (k : Int))), some (zi u), some (zi w)] [] M0 Q) :
    ∀ n i, i + n = 10 → ∀ (M : Nat) (A : Nat → Bool) (q : Nat) (s o u w : Int32), bts M A → cyJ f k A q → i ≤ ct A 10 → s = iI (M : Int) → o = bz (ip (rsq f A q k) 10) → u = iI (q : Int) → w = iI (i : Int) → zW 73 d 0 0 21 [some (zl (Rw f)), none, some (zi s), some (zi o), some (zi (iI (k : Int))), some (zi u), some (zi w)] [] M0 Q
  | 0, i, hi, M, A, q, s, o, u, w, hb, hj, hc, e1, e2, e3, e4 => by
    have := ct_9 hj.2.1 hj.1
    omega
  | n + 1, i, hi, M, A, q, s, o, u, w, hb, hj, hc, e1, e2, e3, e4 => by
    subst e1; subst e2; subst e3; subst e4
    have hq := hj.2.1
    have hM := hb.1
    have hfq := hf.1 q hq
    have hor := bts_or hb hq
    refine zW.gbf [] rfl rfl rfl (by omega) trivial (by simp (disch := omega) only [eq_self, not_true_eq_false, not_false_eq_true, upI_same, upL_same, upI_ne, upL_ne, iI_ixN, zI_mk, zL_mk, zP_mk, zK_mk, zN_mk, zwI_up, zwL_up, zg_some, Nat.reduceMod, Nat.reduceDiv, zcn_I, iI_add, iI_sub, iI_mul, iI_neg, iI_lt, iI_le, iI_eq, iI_lt0, iI_le0, iI_gt0, iI_ge0, iI_eq0] <;> omega) ?_
    refine zW.gbf [] rfl rfl rfl (by omega) trivial ?_ ?_
    · intro h
      refine h ?_
      rw [zcn_I, bit_at hb hq, hj.1]
      decide +kernel
    refine zW.gz [] rfl rfl rfl (by omega) trivial trivial rfl rfl (Nat.le_refl _) (Nat.le_refl _) ?_
    refine at_ok (f := f) (p := q) (by omega) (pm_nb hf) hq rfl rfl ?_
    rw [zcn_I, pw2i (by omega), iI_or]
    by_cases e : f q = k
    · refine zW.gbt [] rfl rfl rfl (by omega) trivial (by simp (disch := omega) only [eq_self, not_true_eq_false, not_false_eq_true, upI_same, upL_same, upI_ne, upL_ne, iI_ixN, zI_mk, zL_mk, zP_mk, zK_mk, zN_mk, zwI_up, zwL_up, zg_some, Nat.reduceMod, Nat.reduceDiv, zcn_I, iI_add, iI_sub, iI_mul, iI_neg, iI_lt, iI_le, iI_eq, iI_lt0, iI_le0, iI_gt0, iI_ge0, iI_eq0] <;> omega) ?_
      refine zW.go [21] rfl (by omega) trivial ?_
      obtain ⟨g1, g2, g3⟩ := cyJ_end hj e
      rw [rsq_end e, e, zcn_I, iI_add, show iI ((i : Int) + 1) = iI ((i + 1 : Nat) : Int) from iI_cg (by omega)]
      exact oddr_x hd (by omega) hor hk (g1 k (by omega)) (hQ _ _ _ _ hor g1 g2 g3)
    · refine zW.gbf [] rfl rfl rfl (by omega) trivial (by simp (disch := omega) only [eq_self, not_true_eq_false, not_false_eq_true, upI_same, upL_same, upI_ne, upL_ne, iI_ixN, zI_mk, zL_mk, zP_mk, zK_mk, zN_mk, zwI_up, zwL_up, zg_some, Nat.reduceMod, Nat.reduceDiv, zcn_I, iI_add, iI_sub, iI_mul, iI_neg, iI_lt, iI_le, iI_eq, iI_lt0, iI_le0, iI_gt0, iI_ge0, iI_eq0] <;> omega) ?_
      have hs := rsq_s hf hj e
      have hct := ct_fuB hq hj.1
      cases ho : ip (rsq f A q k) 10 with
      | true =>
        rw [ho] at hs
        refine zW.gbt [] rfl rfl rfl (by omega) trivial (by simp (disch := omega) only [eq_self, not_true_eq_false, not_false_eq_true, upI_same, upL_same, upI_ne, upL_ne, iI_ixN, zI_mk, zL_mk, zP_mk, zK_mk, zN_mk, zwI_up, zwL_up, zg_some, Nat.reduceMod, Nat.reduceDiv, zcn_I, iI_add, iI_sub, iI_mul, iI_neg, iI_lt, iI_le, iI_eq, iI_lt0, iI_le0, iI_gt0, iI_ge0, iI_eq0, bz_t] <;> omega) ?_
        refine zW.go [21] rfl (by omega) trivial ?_
        exact oddr_in hd hf hk hQ n (i + 1) (by omega) _ _ _ _ _ _ _ hor (cyJ_s hf hj e) (by omega) rfl (by rw [hs, zcn_I]; rfl) rfl (by rw [zcn_I, iI_add]; rfl)
      | false =>
        rw [ho] at hs
        refine zW.gbf [] rfl rfl rfl (by omega) trivial (by simp (disch := omega) only [eq_self, not_true_eq_false, not_false_eq_true, upI_same, upL_same, upI_ne, upL_ne, iI_ixN, zI_mk, zL_mk, zP_mk, zK_mk, zN_mk, zwI_up, zwL_up, zg_some, Nat.reduceMod, Nat.reduceDiv, zcn_I, iI_add, iI_sub, iI_mul, iI_neg, iI_lt, iI_le, iI_eq, iI_lt0, iI_le0, iI_gt0, iI_ge0, iI_eq0, bz_f] <;> omega) ?_
        refine zW.go [21] rfl (by omega) trivial ?_
        exact oddr_in hd hf hk hQ n (i + 1) (by omega) _ _ _ _ _ _ _ hor (cyJ_s hf hj e) (by omega) rfl (by rw [hs, zcn_I]; rfl) rfl (by rw [zcn_I, iI_add]; rfl)
theorem oddr_lp {f : Nat → Nat} (hd : 2 ≤ d) (hf : pm 10 f) (hQ : Q (.inl (some (zi (bz (ip f 10))))) M0) :
    ∀ n k, k + n = 10 → ∀ (M : Nat) (A : Nat → Bool) (s o y : Int32) (u w : Option zV), bts M A → (∀ p, p < k → A p = true) → clo f A → prd f A → s = iI (M : Int) → o = bz (ip (rs f A) 10) → y = iI (k : Int) → zW 73 d 0 0 7 [some (zl (Rw f)), none, some (zi s), some (zi o), some (zi y), u, w] [] M0 Q
  | 0, k, hk, M, A, s, o, y, u, w, hb, h1, h2, h3, e1, e2, e3 => by
    subst e1; subst e2; subst e3
    refine zW.gbt [] rfl rfl rfl (by omega) trivial (by simp (disch := omega) only [eq_self, not_true_eq_false, not_false_eq_true, upI_same, upL_same, upI_ne, upL_ne, iI_ixN, zI_mk, zL_mk, zP_mk, zK_mk, zN_mk, zwI_up, zwL_up, zg_some, Nat.reduceMod, Nat.reduceDiv, zcn_I, iI_add, iI_sub, iI_mul, iI_neg, iI_lt, iI_le, iI_eq, iI_lt0, iI_le0, iI_gt0, iI_ge0, iI_eq0] <;> omega) ?_
    refine zW.gr [] rfl rfl rfl (by omega) trivial (z01_b _) ?_
    have e : rs f A = f := funext fun p => by
      unfold rs
      by_cases c : p < 10
      · rw [if_pos (h1 p (by omega))]
      · split
        · rfl
        · exact (hf.2.2 p (by omega)).symm
    rw [e]
    exact hQ
  | n + 1, k, hk, M, A, s, o, y, u, w, hb, h1, h2, h3, e1, e2, e3 => by
    subst e1; subst e2; subst e3
    have NX : ∀ (M : Nat) (A : Nat → Bool) (u w : Int32), bts M A → (∀ p, p < k + 1 → A p = true) → clo f A → prd f A → zW 73 d 0 0 79 [some (zl (Rw f)), none, some (zi (iI (M : Int))), some (zi (bz (ip (rs f A) 10))), some (zi (iI (k : Int))), some (zi u), some (zi w)] [] M0 Q := fun M A u w q1 q2 q3 q4 => by
      refine zW.go [7] rfl (by omega) trivial ?_
      exact oddr_lp hd hf hQ n (k + 1) (by omega) _ _ _ _ _ _ _ q1 q2 q3 q4 rfl rfl (by rw [zcn_I, iI_add]; rfl)
    refine zW.gbf [] rfl rfl rfl (by omega) trivial (by simp (disch := omega) only [eq_self, not_true_eq_false, not_false_eq_true, upI_same, upL_same, upI_ne, upL_ne, iI_ixN, zI_mk, zL_mk, zP_mk, zK_mk, zN_mk, zwI_up, zwL_up, zg_some, Nat.reduceMod, Nat.reduceDiv, zcn_I, iI_add, iI_sub, iI_mul, iI_neg, iI_lt, iI_le, iI_eq, iI_lt0, iI_le0, iI_gt0, iI_ge0, iI_eq0] <;> omega) ?_
    refine zW.go [21] rfl (by omega) trivial ?_
    cases hA : A k with
    | true =>
      rw [zcn_I, show iI 0 = iI ((0 : Nat) : Int) from rfl]
      refine oddr_x hd (by omega) hb (by omega) hA (NX _ _ _ _ hb (fun p hp => ?_) h2 h3)
      by_cases c : p = k
      · rw [c]
        exact hA
      · exact h1 p (by omega)
    | false =>
      refine oddr_in hd hf (by omega) NX 10 0 rfl M A k _ _ _ _ hb (cyJ_0 (by omega) hA h1 h2 h3) (Nat.zero_le _) rfl (by rw [rsq_0 hA]) rfl (zcn_I _)
theorem oddr_ok {f : Nat → Nat} {o : Int64} (hd : 2 ≤ d) (hf : pm 10 f) (e : o = Rw f) (hQ : Q (.inl (some (zi (bz (ip f 10))))) M0) : zS 73 d [zl o] M0 Q := by
  subst e
  refine zW.go [7] rfl (by omega) trivial ?_
  refine oddr_lp hd hf hQ 10 0 rfl 0 (fun _ => false) _ _ _ _ _ bts_0 (fun p q => absurd q (Nat.not_lt_zero p)) (fun p _ q => by cases q) (fun p _ q => by cases q) (zcn_I _) ?_ (zcn_I _)
  have e : rs f (fun _ => false) = fun p => p := rfl
  rw [e, ip_id, zcn_I]
  rfl
end TODD
section TODD2
variable {d x z b n r : Nat} {tn : Nat → Nat → Nat} {col st : Nat → Nat} {T : tfT} {I : Nat → Nat → Int32} {L : Nat → Nat → Int64} {R : zRt} {Q : zO → zM → Prop}
def anyO (r : Nat) (tn : Nat → Nat → Nat) : Prop := ∃ i, i < r ∧ ip (tn (2 * i)) 10 = true
theorem hasO_lp (hd : 3 ≤ d) (hL : ZL b R) (hz : zOK n r tn col st) (hR : zPR b I L n r tn col st) (h1 : anyO r tn → Q (.inl (some (zi (iI 1)))) (I, L, R)) (h0 : ¬ anyO r tn → Q (.inl (some (zi (iI 0)))) (I, L, R)) :
    ∀ m k, k + m = r → (∀ j, j < k → ip (tn (2 * j)) 10 = false) → ∀ y : Int32, y = iI (k : Int) → zW 33 d 0 0 2 [some (zr (some b)), some (zi y)] [] (I, L, R) Q
  | 0, k, hk, hj, y, e => by
    subst e
    have k0 := hL.1
    have r2 := hR.2.1
    have hr4 := hz.2.2.1
    refine zW.gbt [] rfl rfl rfl (by omega) (by simp (disch := omega) only [true_or, or_true, eq_self, Option.some.injEq, Prod.mk.injEq, zall_0, zall_1, zall_2, zob_iff, zar_iff, zis_iff, zkIs_some, zkHas_some, iI_vp, z01_I, z01_bz, zch_I, true_and, and_true, or_false, false_or, and_self, upI_same, upL_same, upI_ne, upL_ne, iI_ixN, zI_mk, zL_mk, zP_mk, zK_mk, zN_mk, zwI_up, zwL_up, zg_some, Nat.reduceMod, Nat.reduceDiv, zcn_I, iI_add, iI_sub, iI_mul, iI_neg, iI_lt, iI_le, iI_eq, iI_lt0, iI_le0, iI_gt0, iI_ge0, iI_eq0, k0] <;> omega) (by simp (disch := omega) only [eq_self, not_true_eq_false, not_false_eq_true, upI_same, upL_same, upI_ne, upL_ne, iI_ixN, zI_mk, zL_mk, zP_mk, zK_mk, zN_mk, zwI_up, zwL_up, zg_some, Nat.reduceMod, Nat.reduceDiv, zcn_I, iI_add, iI_sub, iI_mul, iI_neg, iI_lt, iI_le, iI_eq, iI_lt0, iI_le0, iI_gt0, iI_ge0, iI_eq0, r2] <;> omega) ?_
    refine zW.gr [] rfl rfl rfl (by omega) trivial z01c0 ?_
    rw [zcn_I]
    exact h0 (fun ⟨j, q1, q2⟩ => by rw [hj j (by omega)] at q2; cases q2)
  | m + 1, k, hk, hj, y, e => by
    subst e
    obtain ⟨k0, p1, p2, p3, k1, hC, hG⟩ := hL
    have r2 := hR.2.1
    have hr4 := hz.2.2.1
    have ha := hR.2.2.2.2.1 (2 * k) (by omega)
    have hp := ztn_pm hz (show 2 * k < 2 * r by omega)
    refine zW.gbf [] rfl rfl rfl (by omega) (by simp (disch := omega) only [true_or, or_true, eq_self, Option.some.injEq, Prod.mk.injEq, zall_0, zall_1, zall_2, zob_iff, zar_iff, zis_iff, zkIs_some, zkHas_some, iI_vp, z01_I, z01_bz, zch_I, true_and, and_true, or_false, false_or, and_self, upI_same, upL_same, upI_ne, upL_ne, iI_ixN, zI_mk, zL_mk, zP_mk, zK_mk, zN_mk, zwI_up, zwL_up, zg_some, Nat.reduceMod, Nat.reduceDiv, zcn_I, iI_add, iI_sub, iI_mul, iI_neg, iI_lt, iI_le, iI_eq, iI_lt0, iI_le0, iI_gt0, iI_ge0, iI_eq0, k0] <;> omega) (by simp (disch := omega) only [eq_self, not_true_eq_false, not_false_eq_true, upI_same, upL_same, upI_ne, upL_ne, iI_ixN, zI_mk, zL_mk, zP_mk, zK_mk, zN_mk, zwI_up, zwL_up, zg_some, Nat.reduceMod, Nat.reduceDiv, zcn_I, iI_add, iI_sub, iI_mul, iI_neg, iI_lt, iI_le, iI_eq, iI_lt0, iI_le0, iI_gt0, iI_ge0, iI_eq0, r2] <;> omega) ?_
    refine zW.gbf [] rfl rfl rfl (by omega) trivial (by simp (disch := omega) only [eq_self, not_true_eq_false, not_false_eq_true, upI_same, upL_same, upI_ne, upL_ne, iI_ixN, zI_mk, zL_mk, zP_mk, zK_mk, zN_mk, zwI_up, zwL_up, zg_some, Nat.reduceMod, Nat.reduceDiv, zcn_I, iI_add, iI_sub, iI_mul, iI_neg, iI_lt, iI_le, iI_eq, iI_lt0, iI_le0, iI_gt0, iI_ge0, iI_eq0] <;> omega) ?_
    have e2 : zcn 2 * iI (k : Int) = iI ((2 * k : Nat) : Int) := by
      rw [zcn_I, iI_mul]
      exact iI_cg (by omega)
    refine zW.gz [] rfl rfl rfl (by omega) ?_ trivial rfl rfl (Nat.le_refl _) (Nat.le_refl _) ?_
    · rw [e2]
      exact (by simp (disch := omega) only [true_or, or_true, eq_self, Option.some.injEq, Prod.mk.injEq, zall_0, zall_1, zall_2, zob_iff, zar_iff, zis_iff, zkIs_some, zkHas_some, iI_vp, z01_I, z01_bz, zch_I, true_and, and_true, or_false, false_or, and_self, upI_same, upL_same, upI_ne, upL_ne, iI_ixN, zI_mk, zL_mk, zP_mk, zK_mk, zN_mk, zwI_up, zwL_up, zg_some, Nat.reduceMod, Nat.reduceDiv, zcn_I, iI_add, iI_sub, iI_mul, iI_neg, iI_lt, iI_le, iI_eq, iI_lt0, iI_le0, iI_gt0, iI_ge0, iI_eq0, k0, p1, k1] <;> omega)
    rw [e2]
    simp (disch := omega) only [upI_same, upL_same, upI_ne, upL_ne, iI_ixN, zI_mk, zL_mk, zP_mk, zK_mk, zN_mk, zwI_up, zwL_up, zg_some, Nat.reduceMod, Nat.reduceDiv, zcn_I, iI_add, iI_sub, iI_mul, iI_neg, iI_lt, iI_le, iI_eq, iI_lt0, iI_le0, iI_gt0, iI_ge0, iI_eq0, p1, ha]
    refine oddr_ok (f := tn (2 * k)) (by omega) hp rfl ?_
    cases ho : ip (tn (2 * k)) 10 with
    | true =>
      refine zW.gbf [] rfl rfl rfl (by omega) trivial (by simp (disch := omega) only [eq_self, not_true_eq_false, not_false_eq_true, upI_same, upL_same, upI_ne, upL_ne, iI_ixN, zI_mk, zL_mk, zP_mk, zK_mk, zN_mk, zwI_up, zwL_up, zg_some, Nat.reduceMod, Nat.reduceDiv, zcn_I, iI_add, iI_sub, iI_mul, iI_neg, iI_lt, iI_le, iI_eq, iI_lt0, iI_le0, iI_gt0, iI_ge0, iI_eq0, bz_t] <;> omega) ?_
      refine zW.gr [] rfl rfl rfl (by omega) trivial z01c1 ?_
      rw [zcn_I]
      exact h1 ⟨k, by omega, ho⟩
    | false =>
      refine zW.gbt [] rfl rfl rfl (by omega) trivial (by simp (disch := omega) only [eq_self, not_true_eq_false, not_false_eq_true, upI_same, upL_same, upI_ne, upL_ne, iI_ixN, zI_mk, zL_mk, zP_mk, zK_mk, zN_mk, zwI_up, zwL_up, zg_some, Nat.reduceMod, Nat.reduceDiv, zcn_I, iI_add, iI_sub, iI_mul, iI_neg, iI_lt, iI_le, iI_eq, iI_lt0, iI_le0, iI_gt0, iI_ge0, iI_eq0, bz_f] <;> omega) ?_
      refine zW.go [2] rfl (by omega) trivial ?_
      refine hasO_lp hd ⟨k0, p1, p2, p3, k1, hC, hG⟩ hz hR h1 h0 m (k + 1) (by omega) (fun j q => ?_) _ (by rw [zcn_I, iI_add]; rfl)
      by_cases c : j = k
      · rw [c]
        exact ho
      · exact hj j (by omega)
noncomputable def oOdd (T : tfT) (p : Int) : tRes := onP T p fun i => (0, b01 (anyO (pzR (tPz T i)) (pzT (tPz T i))), T)
theorem isOdd_ok {p : Int} {a : Int32} (hd : 8 ≤ d) (h : tfx x z T (I, L, R)) (e1 : a = iI p) (h1 : i32 p) (hQ : tP x z (I, L, R) (oOdd T p) [3] eI Q) : zS 113 d [zr (some x), zi a] (I, L, R) Q := by
  subst e1
  have hT := h
  obtain ⟨pb, rb, hf⟩ := h
  refine zW.gc [] rfl rfl rfl (by omega) trivial ⟨_, rfl, tf_k0 hf⟩ (by decide +kernel) (by decide +kernel) ?_
  refine findP_ok (by omega) hf rfl h1 (fun hb N hN => ?_) (fun i hi hp => ?_)
  · exact tP_t hQ hT (if_pos hb) hN
  · subst hi
    unfold oOdd at hQ
    rw [onP_i hp] at hQ
    obtain ⟨hL, hz, hR⟩ := tf_pz hf hp
    have b0 := hL.1
    refine zW.gz [] rfl rfl rfl (by omega) trivial ⟨_, rfl, b0⟩ rfl rfl (by decide +kernel) (by decide +kernel) ?_
    refine zS.of (zW.go [2] rfl (by omega) trivial ?_)
    refine hasO_lp (by omega) hL hz hR (fun g => ?_) (fun g => ?_) (pzR (tPz T i)) 0 (by omega) (fun j q => absurd q (Nat.not_lt_zero j)) _ (zcn_I _)
    · refine zW.gr [] rfl rfl rfl (by omega) trivial z01_1 ?_
      rw [b01_t g] at hQ
      exact tP_0 hQ rfl hT tfr_rf
    · refine zW.gr [] rfl rfl rfl (by omega) trivial z01_0 ?_
      rw [b01_f g] at hQ
      exact tP_0 hQ rfl hT tfr_rf
end TODD2
