/-! The model spells: a turn added, turns back, signs taken. -/
/-- what is spelled, as it stands -/
def spR (y : Nat) (I : Nat → Nat → Int32) (l : List Nat) : Prop := I y 37 = iI (l.length : Int) ∧ hl (I (y + 1783)) l
/-- a reading's writes -/
def pfr (y : Nat) (I I' : Nat → Nat → Int32) : Prop := (∀ a, a ≠ y → a ≠ y + 1783 → I' a = I a) ∧ ∀ k, k ≠ 36 → k ≠ 37 → I' y k = I y k
theorem pfr_rf (y : Nat) (I : Nat → Nat → Int32) : pfr y I I := ⟨fun _ _ _ => rfl, fun _ _ _ => rfl⟩
theorem pfr_tr {y : Nat} {I I1 I2 : Nat → Nat → Int32} (h : pfr y I I1) (k : pfr y I1 I2) : pfr y I I2 := ⟨fun a q1 q2 => (k.1 a q1 q2).trans (h.1 a q1 q2), fun j q1 q2 => (k.2 j q1 q2).trans (h.2 j q1 q2)⟩
theorem pfr_scr {y : Nat} {I I' : Nat → Nat → Int32} {L : Nat → Nat → Int64} (h : pfr y I I') : scr y I L I' L := ⟨fun a q => h.1 a (fun e => q (Or.inl e)) (fun e => q (Or.inr (Or.inr (Or.inr e)))), fun k q1 q2 _ => h.2 k q1 q2, fun _ _ => rfl⟩
theorem pfr_u {y : Nat} {I : Nat → Nat → Int32} {v : Int32} : pfr y I (upI I y 36 v) := ⟨fun a q1 _ => upI_row q1, fun k q1 _ => upI_ne (by omega)⟩
/-- only turns were spelled -/
def tfrm (y : Nat) (I I' : Nat → Nat → Int32) : Prop := (∀ a, a ≠ y → a ≠ y + 1783 → I' a = I a) ∧ ∀ k, k ≠ 37 → I' y k = I y k
theorem tfrm_rf (y : Nat) (I : Nat → Nat → Int32) : tfrm y I I := ⟨fun _ _ _ => rfl, fun _ _ => rfl⟩
theorem tfrm_tr {y : Nat} {I I1 I2 : Nat → Nat → Int32} (h : tfrm y I I1) (k : tfrm y I1 I2) : tfrm y I I2 := ⟨fun a q1 q2 => (k.1 a q1 q2).trans (h.1 a q1 q2), fun j q1 => (k.2 j q1).trans (h.2 j q1)⟩
theorem tfrm_p {y : Nat} {I I' : Nat → Nat → Int32} (h : tfrm y I I') : pfr y I I' := ⟨h.1, fun k _ q => h.2 k q⟩
theorem nth_mod (l : List Nat) (i : Nat) : nth l i = nth l i := rfl
section MSPL
variable {d y : Nat} {I : Nat → Nat → Int32} {L : Nat → Nat → Int64} {R : zRt} {Q : zO → zM → Prop}
theorem spells_ok {x : Int32} {t : Nat} {l : List Nat} (hd : 1 ≤ d) (hM : ML y R) (e : x = iI (t : Int)) (hl : spR y I l) (hn : l.length ≤ 120) (h1 : l.length < 120 → ∀ I', tfrm y I I' → spR y I' (l ++ [t]) → Q (.inl (some (zi (iI 1)))) (I', L, R)) (h0 : l.length = 120 → Q (.inl (some (zi (iI 0)))) (I, L, R)) : zS 212 d [zr (some y), zi x] (I, L, R) Q := by
  subst e
  have k0 : R.2.1 y = some (7, 0) := hM.1
  obtain ⟨l1, l2⟩ := hl
  have p18 : R.1 y 18 = some (y + 1783) := (hM.2.1 18 (by decide)).1; have k18 : R.2.1 (y + 1783) = some (20, 120) := (hM.2.1 18 (by decide)).2
  refine zW.gb [] rfl rfl rfl hd (by simp (disch := omega) only [true_or, or_true, eq_self, Option.some.injEq, Prod.mk.injEq, zall_0, zall_1, zall_2, zob_iff, zar_iff, zis_iff, zkIs_some, zkHas_some, iI_vp, z01_I, z01_bz, zch_I, true_and, and_true, or_false, false_or, and_self, upI_same, upL_same, upI_ne, upL_ne, iI_ixN, zI_mk, zL_mk, zP_mk, zK_mk, zN_mk, zwI_up, zwL_up, zg_some, Nat.reduceMod, Nat.reduceDiv, zcn_I, iI_add, iI_sub, iI_mul, iI_neg, iI_lt, iI_le, iI_eq, iI_lt0, iI_le0, iI_gt0, iI_ge0, iI_eq0, k0] <;> omega) (fun h => ?_) (fun h => ?_)
  · simp (disch := omega) only [zcn_I, iI_add, iI_sub, iI_mul, iI_neg, iI_lt, iI_le, iI_eq, iI_lt0, iI_le0, iI_gt0, iI_ge0, iI_eq0, upI_same, upL_same, upI_ne, upL_ne, iI_ixN, zI_mk, zL_mk, zP_mk, zK_mk, zN_mk, zwI_up, zwL_up, zg_some, Nat.reduceMod, Nat.reduceDiv, l1] at h
    refine zW.gr [] rfl rfl rfl hd ?_ z01c1 ?_
    · simp (disch := omega) only [true_or, or_true, eq_self, Option.some.injEq, Prod.mk.injEq, zall_0, zall_1, zall_2, zob_iff, zar_iff, zis_iff, zkIs_some, zkHas_some, iI_vp, z01_I, z01_bz, zch_I, true_and, and_true, or_false, false_or, and_self, upI_same, upL_same, upI_ne, upL_ne, iI_ixN, zI_mk, zL_mk, zP_mk, zK_mk, zN_mk, zwI_up, zwL_up, zg_some, Nat.reduceMod, Nat.reduceDiv, zcn_I, iI_add, iI_sub, iI_mul, iI_neg, iI_lt, iI_le, iI_eq, iI_lt0, iI_le0, iI_gt0, iI_ge0, iI_eq0, k0, p18, k18, l1]
      omega
    simp (disch := omega) only [upI_same, upL_same, upI_ne, upL_ne, iI_ixN, zI_mk, zL_mk, zP_mk, zK_mk, zN_mk, zwI_up, zwL_up, zg_some, Nat.reduceMod, Nat.reduceDiv, p18, l1, iI_add, zcn_I]
    refine h1 (by omega) _ ⟨fun b q1 q2 => ?_, fun k q => ?_⟩ ⟨?_, ?_⟩
    · rw [upI_row q1, upI_row q2]
    · rw [upI_ne (by omega), upI_ne (by omega)]
    · rw [upI_same, List.length_append]
      rfl
    · rw [upI_row (by omega)]
      exact hl_snoc l2
  · simp (disch := omega) only [zcn_I, iI_add, iI_sub, iI_mul, iI_neg, iI_lt, iI_le, iI_eq, iI_lt0, iI_le0, iI_gt0, iI_ge0, iI_eq0, upI_same, upL_same, upI_ne, upL_ne, iI_ixN, zI_mk, zL_mk, zP_mk, zK_mk, zN_mk, zwI_up, zwL_up, zg_some, Nat.reduceMod, Nat.reduceDiv, l1] at h
    refine zW.gr [] rfl rfl rfl hd trivial z01c0 ?_
    rw [zcn_I]
    exact h0 (by omega)
theorem spBack_lp {f t : Nat} {l : List Nat} (hd : 2 ≤ d) (hM : ML y R) (hl8 : ∀ x, x ∈ l → x < 8) (hft : f ≤ t) (ht : t ≤ l.length) (hn : l.length ≤ 120)
    (h1 : ∀ l', spA l (bk l f t) = some l' → ∀ I', tfrm y I I' → spR y I' l' → Q (.inl (some (zi (iI 1)))) (I', L, R)) (h0 : spA l (bk l f t) = none → ∀ I', tfrm y I I' → Q (.inl (some (zi (iI 0)))) (I', L, R)) :
    ∀ n i, f + n = i → i ≤ t → l.length + (t - i) ≤ 120 → ∀ (I1 : Nat → Nat → Int32) (b x : Int32), tfrm y I I1 → spR y I1 (l ++ bk l i t) → b = iI 1 → x = iI ((i : Int) - 1) → zW 213 d 0 0 7 [some (zr (some y)), some (zi (iI (f : Int))), some (zi (iI (t : Int))), some (zi b), some (zi x)] [] (I1, L, R) Q
  | 0, i, hi, hit, hle, I1, b, x, r1, r2, eb, e => by
    subst e; subst eb
    obtain rfl : f = i := by omega
    refine zW.gbt [] rfl rfl rfl (by omega) trivial (by simp (disch := omega) only [eq_self, not_true_eq_false, not_false_eq_true, upI_same, upL_same, upI_ne, upL_ne, iI_ixN, zI_mk, zL_mk, zP_mk, zK_mk, zN_mk, zwI_up, zwL_up, zg_some, Nat.reduceMod, Nat.reduceDiv, zcn_I, iI_add, iI_sub, iI_mul, iI_neg, iI_lt, iI_le, iI_eq, iI_lt0, iI_le0, iI_gt0, iI_ge0, iI_eq0] <;> omega) ?_
    refine zW.gr [] rfl rfl rfl (by omega) trivial z01_1 ?_
    refine h1 _ (spA_of ?_) _ r1 r2
    rw [bk_len ht]
    omega
  | n + 1, i, hi, hit, hle, I1, b, x, r1, r2, eb, e => by
    subst e; subst eb
    have k0 : R.2.1 y = some (7, 0) := hM.1
    have hlen : (l ++ bk l i t).length = l.length + (t - i) := by rw [List.length_append, bk_len ht]
    have r2' := r2
    obtain ⟨l1, l2⟩ := r2'
    have hrd : I1 (y + 1783) (i - 1) = iI (nth l (i - 1) : Int) := by
      rw [l2 (i - 1) (by omega), nth_l (by omega)]
    have ht8 := hl8 _ (nth_mem (l := l) (i := i - 1) (by omega))
    have e1 : (i : Int) - 1 = ((i - 1 : Nat) : Int) := by omega
    have p18 : R.1 y 18 = some (y + 1783) := (hM.2.1 18 (by decide)).1; have k18 : R.2.1 (y + 1783) = some (20, 120) := (hM.2.1 18 (by decide)).2
    refine zW.gbf [] rfl rfl rfl (by omega) trivial (by simp (disch := omega) only [eq_self, not_true_eq_false, not_false_eq_true, upI_same, upL_same, upI_ne, upL_ne, iI_ixN, zI_mk, zL_mk, zP_mk, zK_mk, zN_mk, zwI_up, zwL_up, zg_some, Nat.reduceMod, Nat.reduceDiv, zcn_I, iI_add, iI_sub, iI_mul, iI_neg, iI_lt, iI_le, iI_eq, iI_lt0, iI_le0, iI_gt0, iI_ge0, iI_eq0] <;> omega) ?_
    refine zW.gbf [] rfl rfl rfl (by omega) trivial (by simp (disch := omega) only [eq_self, not_true_eq_false, not_false_eq_true, upI_same, upL_same, upI_ne, upL_ne, iI_ixN, zI_mk, zL_mk, zP_mk, zK_mk, zN_mk, zwI_up, zwL_up, zg_some, Nat.reduceMod, Nat.reduceDiv, zcn_I, iI_add, iI_sub, iI_mul, iI_neg, iI_lt, iI_le, iI_eq, iI_lt0, iI_le0, iI_gt0, iI_ge0, iI_eq0] <;> omega) ?_
    rw [e1]
    refine zW.gz [] rfl rfl rfl hd (by simp (disch := omega) only [true_or, or_true, eq_self, Option.some.injEq, Prod.mk.injEq, zall_0, zall_1, zall_2, zob_iff, zar_iff, zis_iff, zkIs_some, zkHas_some, iI_vp, z01_I, z01_bz, zch_I, true_and, and_true, or_false, false_or, and_self, upI_same, upL_same, upI_ne, upL_ne, iI_ixN, zI_mk, zL_mk, zP_mk, zK_mk, zN_mk, zwI_up, zwL_up, zg_some, Nat.reduceMod, Nat.reduceDiv, zcn_I, iI_add, iI_sub, iI_mul, iI_neg, iI_lt, iI_le, iI_eq, iI_lt0, iI_le0, iI_gt0, iI_ge0, iI_eq0, k0, p18, k18] <;> omega) ⟨_, rfl, k0⟩ rfl rfl (by decide +kernel) (by decide +kernel) ?_
    simp (disch := omega) only [upI_same, upL_same, upI_ne, upL_ne, iI_ixN, zI_mk, zL_mk, zP_mk, zK_mk, zN_mk, zwI_up, zwL_up, zg_some, Nat.reduceMod, Nat.reduceDiv, zcn_I, iI_add, iI_sub, iI_mul, iI_neg, iI_lt, iI_le, iI_eq, iI_lt0, iI_le0, iI_gt0, iI_ge0, iI_eq0, p18, hrd, zcn_I]
    rw [fl_I _ ht8]
    refine spells_ok (t := fl (nth l (i - 1))) (l := l ++ bk l i t) (by omega) hM rfl r2 (by omega) (fun h I2 q1 q2 => ?_) (fun h => ?_)
    · refine zW.go [7] rfl (by omega) trivial ?_
      refine spBack_lp hd hM hl8 hft ht hn h1 h0 n (i - 1) (by omega) (by omega) (by omega) I2 _ _ (tfrm_tr r1 q1) ?_ rfl ?_
      · rw [bk_step ht (by omega : i - 1 < t), show i - 1 + 1 = i by omega, ← List.append_assoc]
        exact q2
      · rw [zcn_I, iI_add]
        exact iI_cg (by omega)
    · refine zW.go [7] rfl (by omega) trivial ?_
      have hno : spA l (bk l f t) = none := spA_no (by
        rw [bk_len ht]
        omega)
      refine zW.gb [] rfl rfl rfl (by omega) trivial (fun _ => ?_) (fun _ => ?_)
      · exact zW.gr [] rfl rfl rfl (by omega) trivial z01_0 (h0 hno _ r1)
      · refine zW.gbt [] rfl rfl rfl (by omega) trivial (by simp (disch := omega) only [eq_self, not_true_eq_false, not_false_eq_true, upI_same, upL_same, upI_ne, upL_ne, iI_ixN, zI_mk, zL_mk, zP_mk, zK_mk, zN_mk, zwI_up, zwL_up, zg_some, Nat.reduceMod, Nat.reduceDiv, zcn_I, iI_add, iI_sub, iI_mul, iI_neg, iI_lt, iI_le, iI_eq, iI_lt0, iI_le0, iI_gt0, iI_ge0, iI_eq0] <;> omega) ?_
        exact zW.gr [] rfl rfl rfl (by omega) trivial z01_0 (h0 hno _ r1)
theorem spBack_ok {f t : Nat} {l : List Nat} {x z : Int32} (hd : 2 ≤ d) (hM : ML y R) (e1 : x = iI (f : Int)) (e2 : z = iI (t : Int)) (hl8 : ∀ x, x ∈ l → x < 8) (hft : f ≤ t) (ht : t ≤ l.length) (hn : l.length ≤ 120) (hl : spR y I l)
    (h1 : ∀ l', spA l (bk l f t) = some l' → ∀ I', tfrm y I I' → spR y I' l' → Q (.inl (some (zi (iI 1)))) (I', L, R)) (h0 : spA l (bk l f t) = none → ∀ I', tfrm y I I' → Q (.inl (some (zi (iI 0)))) (I', L, R)) : zS 213 d [zr (some y), zi x, zi z] (I, L, R) Q := by
  subst e1; subst e2
  refine zW.go [7] rfl (by omega) trivial ?_
  refine spBack_lp hd hM hl8 hft ht hn h1 h0 (t - f) t (by omega) (Nat.le_refl _) (by omega) I _ _ (tfrm_rf y I) ?_ (zcn_I _) ?_
  · rw [bk_self, List.append_nil]
    exact hl
  · rw [zcn_I, iI_sub]
/-- the signs and the place -/
def rdR (y : Nat) (I : Nat → Nat → Int32) (sg : List Nat) (i : Nat) : Prop := I y 35 = iI (sg.length : Int) ∧ hl (I (y + 1782)) sg ∧ sg.length ≤ 30 ∧ (∀ c, c ∈ sg → c < 65536) ∧ I y 36 = iI (i : Int) ∧ i ≤ sg.length
theorem rdR_fr {I' : Nat → Nat → Int32} {sg : List Nat} {i j : Nat} (h : rdR y I sg i) (f : pfr y I I') (e : I' y 36 = iI (j : Int)) (hj : j ≤ sg.length) : rdR y I' sg j := ⟨(f.2 35 (by omega) (by omega)).trans h.1, by rw [f.1 _ (by omega) (by omega)]; exact h.2.1, h.2.2.1, h.2.2.2.1, e, hj⟩
theorem rdR_t {I' : Nat → Nat → Int32} {sg : List Nat} {i : Nat} (h : rdR y I sg i) (f : tfrm y I I') : rdR y I' sg i := rdR_fr h (tfrm_p f) ((f.2 36 (by omega)).trans h.2.2.2.2.1) h.2.2.2.2.2
theorem isNow_ok {c : Nat} {x : Int32} {sg : List Nat} {i : Nat} (hd : 1 ≤ d) (hM : ML y R) (e : x = iI (c : Int)) (hc : c < 65536) (h : rdR y I sg i) (hQ : ∀ q, tru (i < sg.length ∧ nth sg i = c) q → Q (.inl (some (zi q))) (I, L, R)) : zS 210 d [zr (some y), zi x] (I, L, R) Q := by
  subst e
  have k0 : R.2.1 y = some (7, 0) := hM.1
  obtain ⟨l1, l2, l3, l4, l5, l6⟩ := h
  have p17 : R.1 y 17 = some (y + 1782) := (hM.2.1 17 (by decide)).1; have k17 : R.2.1 (y + 1782) = some (23, 30) := (hM.2.1 17 (by decide)).2
  refine zW.gb [] rfl rfl rfl hd (by simp (disch := omega) only [true_or, or_true, eq_self, Option.some.injEq, Prod.mk.injEq, zall_0, zall_1, zall_2, zob_iff, zar_iff, zis_iff, zkIs_some, zkHas_some, iI_vp, z01_I, z01_bz, zch_I, true_and, and_true, or_false, false_or, and_self, upI_same, upL_same, upI_ne, upL_ne, iI_ixN, zI_mk, zL_mk, zP_mk, zK_mk, zN_mk, zwI_up, zwL_up, zg_some, Nat.reduceMod, Nat.reduceDiv, zcn_I, iI_add, iI_sub, iI_mul, iI_neg, iI_lt, iI_le, iI_eq, iI_lt0, iI_le0, iI_gt0, iI_ge0, iI_eq0, k0] <;> omega) (fun h => ?_) (fun h => ?_)
  · simp (disch := omega) only [zcn_I, iI_add, iI_sub, iI_mul, iI_neg, iI_lt, iI_le, iI_eq, iI_lt0, iI_le0, iI_gt0, iI_ge0, iI_eq0, upI_same, upL_same, upI_ne, upL_ne, iI_ixN, zI_mk, zL_mk, zP_mk, zK_mk, zN_mk, zwI_up, zwL_up, zg_some, Nat.reduceMod, Nat.reduceDiv, l1, l5] at h
    exact zW.gr [] rfl rfl rfl hd trivial z01c0 (hQ _ (tru_f (by omega)))
  · simp (disch := omega) only [zcn_I, iI_add, iI_sub, iI_mul, iI_neg, iI_lt, iI_le, iI_eq, iI_lt0, iI_le0, iI_gt0, iI_ge0, iI_eq0, upI_same, upL_same, upI_ne, upL_ne, iI_ixN, zI_mk, zL_mk, zP_mk, zK_mk, zN_mk, zwI_up, zwL_up, zg_some, Nat.reduceMod, Nat.reduceDiv, l1, l5] at h
    have v := l2 i (by omega)
    have v65 := l4 _ (nth_mem (l := sg) (i := i) (by omega))
    refine zW.gb [] rfl rfl rfl hd ?_ (fun h2 => ?_) (fun h2 => ?_)
    · simp (disch := omega) only [true_or, or_true, eq_self, Option.some.injEq, Prod.mk.injEq, zall_0, zall_1, zall_2, zob_iff, zar_iff, zis_iff, zkIs_some, zkHas_some, iI_vp, z01_I, z01_bz, zch_I, true_and, and_true, or_false, false_or, and_self, upI_same, upL_same, upI_ne, upL_ne, iI_ixN, zI_mk, zL_mk, zP_mk, zK_mk, zN_mk, zwI_up, zwL_up, zg_some, Nat.reduceMod, Nat.reduceDiv, zcn_I, iI_add, iI_sub, iI_mul, iI_neg, iI_lt, iI_le, iI_eq, iI_lt0, iI_le0, iI_gt0, iI_ge0, iI_eq0, k0, p17, k17, l5]
      omega
    · simp (disch := omega) only [zcn_I, iI_add, iI_sub, iI_mul, iI_neg, iI_lt, iI_le, iI_eq, iI_lt0, iI_le0, iI_gt0, iI_ge0, iI_eq0, upI_same, upL_same, upI_ne, upL_ne, iI_ixN, zI_mk, zL_mk, zP_mk, zK_mk, zN_mk, zwI_up, zwL_up, zg_some, Nat.reduceMod, Nat.reduceDiv, p17, l5, v] at h2
      exact zW.gr [] rfl rfl rfl hd trivial z01c0 (hQ _ (tru_f (by omega)))
    · simp (disch := omega) only [zcn_I, iI_add, iI_sub, iI_mul, iI_neg, iI_lt, iI_le, iI_eq, iI_lt0, iI_le0, iI_gt0, iI_ge0, iI_eq0, upI_same, upL_same, upI_ne, upL_ne, iI_ixN, zI_mk, zL_mk, zP_mk, zK_mk, zN_mk, zwI_up, zwL_up, zg_some, Nat.reduceMod, Nat.reduceDiv, p17, l5, v] at h2
      exact zW.gr [] rfl rfl rfl hd trivial z01c1 (hQ _ (tru_t (by omega)))
theorem takes_ok {c : Nat} {x : Int32} {sg : List Nat} {i : Nat} (hd : 2 ≤ d) (hM : ML y R) (e : x = iI (c : Int)) (hc : c < 65536) (h : rdR y I sg i) (h1 : i < sg.length → nth sg i = c → Q (.inl (some (zi (iI 1)))) (upI I y 36 (iI ((i + 1 : Nat) : Int)), L, R)) (h0 : ¬ (i < sg.length ∧ nth sg i = c) → Q (.inl (some (zi (iI 0)))) (upI I y 36 (iI (i : Int)), L, R)) : zS 211 d [zr (some y), zi x] (I, L, R) Q := by
  have k0 : R.2.1 y = some (7, 0) := hM.1
  have l5 := h.2.2.2.2.1
  refine zW.gz [] rfl rfl rfl (by omega) trivial ⟨_, rfl, k0⟩ rfl rfl (by decide +kernel) (by decide +kernel) ?_
  refine isNow_ok (by omega) hM e hc h (fun q hq => ?_)
  rcases hq with ⟨g, rfl⟩ | ⟨g, rfl⟩
  · refine zW.gbf [] rfl rfl rfl (by omega) (by simp (disch := omega) only [true_or, or_true, eq_self, Option.some.injEq, Prod.mk.injEq, zall_0, zall_1, zall_2, zob_iff, zar_iff, zis_iff, zkIs_some, zkHas_some, iI_vp, z01_I, z01_bz, zch_I, true_and, and_true, or_false, false_or, and_self, upI_same, upL_same, upI_ne, upL_ne, iI_ixN, zI_mk, zL_mk, zP_mk, zK_mk, zN_mk, zwI_up, zwL_up, zg_some, Nat.reduceMod, Nat.reduceDiv, zcn_I, iI_add, iI_sub, iI_mul, iI_neg, iI_lt, iI_le, iI_eq, iI_lt0, iI_le0, iI_gt0, iI_ge0, iI_eq0, k0] <;> omega) (by simp (disch := omega) only [eq_self, not_true_eq_false, not_false_eq_true, upI_same, upL_same, upI_ne, upL_ne, iI_ixN, zI_mk, zL_mk, zP_mk, zK_mk, zN_mk, zwI_up, zwL_up, zg_some, Nat.reduceMod, Nat.reduceDiv, zcn_I, iI_add, iI_sub, iI_mul, iI_neg, iI_lt, iI_le, iI_eq, iI_lt0, iI_le0, iI_gt0, iI_ge0, iI_eq0] <;> omega) ?_
    refine zW.gr [] rfl rfl rfl (by omega) (by simp (disch := omega) only [true_or, or_true, eq_self, Option.some.injEq, Prod.mk.injEq, zall_0, zall_1, zall_2, zob_iff, zar_iff, zis_iff, zkIs_some, zkHas_some, iI_vp, z01_I, z01_bz, zch_I, true_and, and_true, or_false, false_or, and_self, upI_same, upL_same, upI_ne, upL_ne, iI_ixN, zI_mk, zL_mk, zP_mk, zK_mk, zN_mk, zwI_up, zwL_up, zg_some, Nat.reduceMod, Nat.reduceDiv, zcn_I, iI_add, iI_sub, iI_mul, iI_neg, iI_lt, iI_le, iI_eq, iI_lt0, iI_le0, iI_gt0, iI_ge0, iI_eq0, k0] <;> omega) z01_1 ?_
    simp (disch := omega) only [upI_same, upL_same, upI_ne, upL_ne, iI_ixN, zI_mk, zL_mk, zP_mk, zK_mk, zN_mk, zwI_up, zwL_up, zg_some, Nat.reduceMod, Nat.reduceDiv, l5, iI_add, zcn_I]
    exact h1 g.1 g.2
  · refine zW.gbt [] rfl rfl rfl (by omega) (by simp (disch := omega) only [true_or, or_true, eq_self, Option.some.injEq, Prod.mk.injEq, zall_0, zall_1, zall_2, zob_iff, zar_iff, zis_iff, zkIs_some, zkHas_some, iI_vp, z01_I, z01_bz, zch_I, true_and, and_true, or_false, false_or, and_self, upI_same, upL_same, upI_ne, upL_ne, iI_ixN, zI_mk, zL_mk, zP_mk, zK_mk, zN_mk, zwI_up, zwL_up, zg_some, Nat.reduceMod, Nat.reduceDiv, zcn_I, iI_add, iI_sub, iI_mul, iI_neg, iI_lt, iI_le, iI_eq, iI_lt0, iI_le0, iI_gt0, iI_ge0, iI_eq0, k0] <;> omega) (by simp (disch := omega) only [eq_self, not_true_eq_false, not_false_eq_true, upI_same, upL_same, upI_ne, upL_ne, iI_ixN, zI_mk, zL_mk, zP_mk, zK_mk, zN_mk, zwI_up, zwL_up, zg_some, Nat.reduceMod, Nat.reduceDiv, zcn_I, iI_add, iI_sub, iI_mul, iI_neg, iI_lt, iI_le, iI_eq, iI_lt0, iI_le0, iI_gt0, iI_ge0, iI_eq0] <;> omega) ?_
    refine zW.gr [] rfl rfl rfl (by omega) (by simp (disch := omega) only [true_or, or_true, eq_self, Option.some.injEq, Prod.mk.injEq, zall_0, zall_1, zall_2, zob_iff, zar_iff, zis_iff, zkIs_some, zkHas_some, iI_vp, z01_I, z01_bz, zch_I, true_and, and_true, or_false, false_or, and_self, upI_same, upL_same, upI_ne, upL_ne, iI_ixN, zI_mk, zL_mk, zP_mk, zK_mk, zN_mk, zwI_up, zwL_up, zg_some, Nat.reduceMod, Nat.reduceDiv, zcn_I, iI_add, iI_sub, iI_mul, iI_neg, iI_lt, iI_le, iI_eq, iI_lt0, iI_le0, iI_gt0, iI_ge0, iI_eq0, k0] <;> omega) z01_0 ?_
    simp (disch := omega) only [upI_same, upL_same, upI_ne, upL_ne, iI_ixN, zI_mk, zL_mk, zP_mk, zK_mk, zN_mk, zwI_up, zwL_up, zg_some, Nat.reduceMod, Nat.reduceDiv, l5, iI_add, zcn_I]
    rw [show (i : Int) + 0 = (i : Int) by omega]
    exact h0 g
end MSPL
