/-! repeat, goBack, open, divide, shut, take, spell. -/
theorem nth_dropl {l m : List Nat} {p j : Nat} (h : p + j < l.length) : nth (l ++ m) (p + j) = nth (l.drop p) j := by rw [nth_l h, nth_drop]
theorem take_snoc {l : List Nat} {j : Nat} (h : j < l.length) : l.take (j + 1) = l.take j ++ [nth l j] := by
  refine nth_ext (by rw [List.length_append, List.length_take, List.length_take]; show _ = _ + 1; omega) fun i hi => ?_
  rw [List.length_take] at hi
  rw [nth_take (by omega)]
  by_cases c : i < j
  · rw [nth_l (by rw [List.length_take]; omega), nth_take c]
  · rw [nth_ri (by rw [List.length_take]; omega), List.length_take, show i - min j l.length = 0 by omega, nth_0]
    congr 1
    omega
theorem upI_get {I : Nat → Nat → Int32} {a k b j : Nat} {x : Int32} : upI I a k x b j = if b = a ∧ j = k then x else I b j := rfl
section WORD2
variable {d w : Nat} {L : Nat → Nat → Int64} {R : zRt} {Q : zO → zM → Prop}
theorem rep_in {I0 : Nat → Nat → Int32} {p : Nat} {l B : List Nat} {k c : Int32} (hd : 2 ≤ d) (hW : WL w R) (hp : p ≤ l.length) (hn : l.length ≤ 120) (h8 : ∀ x, x ∈ l → x < 8) (hB : ∃ m, B = l ++ m)
    (hk : B.length + (l.length - p) ≤ 120 → ∀ I', lfr w I0 I' → lR w I' (B ++ l.drop p) → ∀ v, zW 91 d 0 0 67 [some (zr (some w)), some (zi k), some (zi (iI (l.length : Int))), some (zi c), v] [] (I', L, R) Q)
    (h0 : 120 < B.length + (l.length - p) → ∀ I', lfr w I0 I' → Q (.inl (some (zi (iI 0)))) (I', L, R)) :
    ∀ n j, j + n = l.length - p → B.length + j ≤ 120 → ∀ (I1 : Nat → Nat → Int32) (x : Int32), lfr w I0 I1 → lR w I1 (B ++ (l.drop p).take j) → x = iI ((p + j : Nat) : Int) → zW 91 d 0 0 32 [some (zr (some w)), some (zi k), some (zi (iI (l.length : Int))), some (zi c), some (zi x)] [] (I1, L, R) Q
  | 0, j, hj, hb, I1, x, r1, r2, e => by
    subst e
    refine zW.gbt [] rfl rfl rfl (by omega) trivial ?_ ?_
    · exact (by simp (disch := omega) only [eq_self, not_true_eq_false, not_false_eq_true, upI_same, upL_same, upI_ne, upL_ne, iI_ixN, zI_mk, zL_mk, zP_mk, zK_mk, zN_mk, zwI_up, zwL_up, zg_some, Nat.reduceMod, Nat.reduceDiv, zcn_I, iI_add, iI_sub, iI_mul, iI_neg, iI_lt, iI_le, iI_eq, iI_lt0, iI_le0, iI_gt0, iI_ge0, iI_eq0] <;> omega)
    · rw [List.take_of_length_le (by rw [List.length_drop]; omega)] at r2
      exact hk (by omega) _ r1 r2 _
  | n + 1, j, hj, hb, I1, x, r1, r2, e => by
    subst e
    obtain ⟨m, hm⟩ := hB
    have hlen : (B ++ (l.drop p).take j).length = B.length + j := by rw [List.length_append, List.length_take, List.length_drop]; omega
    have r2' := r2
    obtain ⟨l1, l2⟩ := r2'
    have hBl : l.length ≤ B.length := by rw [hm, List.length_append]; omega
    have hrd : I1 (w + 2) (p + j) = iI (nth (l.drop p) j : Int) := by
      rw [l2 (p + j) (by omega), nth_l (by omega), hm, nth_dropl (by omega)]
    have ht8 := h8 _ (List.mem_of_mem_drop (nth_mem (l := l.drop p) (i := j) (by rw [List.length_drop]; omega)))
    have hW' := hW
    obtain ⟨k0, p0, p1, p2, p3, p4, k1, k2, k3, k4, k5⟩ := hW'
    refine zW.gbf [] rfl rfl rfl (by omega) trivial ?_ (zW.gbf [] rfl rfl rfl (by omega) trivial ?_ (zW.gz [] rfl rfl rfl hd ?_ ?_ rfl rfl (Nat.le_refl _) (Nat.le_refl _) ?_))
    · exact (by simp (disch := omega) only [eq_self, not_true_eq_false, not_false_eq_true, upI_same, upL_same, upI_ne, upL_ne, iI_ixN, zI_mk, zL_mk, zP_mk, zK_mk, zN_mk, zwI_up, zwL_up, zg_some, Nat.reduceMod, Nat.reduceDiv, zcn_I, iI_add, iI_sub, iI_mul, iI_neg, iI_lt, iI_le, iI_eq, iI_lt0, iI_le0, iI_gt0, iI_ge0, iI_eq0] <;> omega)
    · exact (by simp (disch := omega) only [eq_self, not_true_eq_false, not_false_eq_true, upI_same, upL_same, upI_ne, upL_ne, iI_ixN, zI_mk, zL_mk, zP_mk, zK_mk, zN_mk, zwI_up, zwL_up, zg_some, Nat.reduceMod, Nat.reduceDiv, zcn_I, iI_add, iI_sub, iI_mul, iI_neg, iI_lt, iI_le, iI_eq, iI_lt0, iI_le0, iI_gt0, iI_ge0, iI_eq0] <;> omega)
    · exact (by simp (disch := omega) only [true_or, or_true, eq_self, Option.some.injEq, Prod.mk.injEq, zall_0, zall_1, zall_2, zob_iff, zar_iff, zis_iff, zkIs_some, zkHas_some, iI_vp, z01_I, z01_bz, zch_I, true_and, and_true, or_false, false_or, and_self, upI_same, upL_same, upI_ne, upL_ne, iI_ixN, zI_mk, zL_mk, zP_mk, zK_mk, zN_mk, zwI_up, zwL_up, zg_some, Nat.reduceMod, Nat.reduceDiv, zcn_I, iI_add, iI_sub, iI_mul, iI_neg, iI_lt, iI_le, iI_eq, iI_lt0, iI_le0, iI_gt0, iI_ge0, iI_eq0, k0, p1, k2] <;> omega)
    · exact ⟨_, rfl, k0⟩
    · refine add_ok (t := nth (l.drop p) j) (l := B ++ (l.drop p).take j) (by omega) hW ?_ r2 (by omega) (fun h I2 q1 q2 => ?_) (fun h => ?_)
      · simp (disch := omega) only [upI_same, upL_same, upI_ne, upL_ne, iI_ixN, zI_mk, zL_mk, zP_mk, zK_mk, zN_mk, zwI_up, zwL_up, zg_some, Nat.reduceMod, Nat.reduceDiv, zcn_I, iI_add, iI_sub, iI_mul, iI_neg, iI_lt, iI_le, iI_eq, iI_lt0, iI_le0, iI_gt0, iI_ge0, iI_eq0, p1]
        exact hrd
      · refine zW.gbt [] rfl rfl rfl (by omega) trivial ?_ (zW.go [32] rfl (by omega) trivial ?_)
        · exact (by simp (disch := omega) only [eq_self, not_true_eq_false, not_false_eq_true, upI_same, upL_same, upI_ne, upL_ne, iI_ixN, zI_mk, zL_mk, zP_mk, zK_mk, zN_mk, zwI_up, zwL_up, zg_some, Nat.reduceMod, Nat.reduceDiv, zcn_I, iI_add, iI_sub, iI_mul, iI_neg, iI_lt, iI_le, iI_eq, iI_lt0, iI_le0, iI_gt0, iI_ge0, iI_eq0] <;> omega)
        · refine rep_in hd hW hp hn h8 ⟨m, hm⟩ hk h0 n (j + 1) (by omega) (by omega) I2 _ (lfr_tr r1 q1) ?_ ?_
          · rw [take_snoc (by rw [List.length_drop]; omega), ← List.append_assoc]
            exact q2
          · exact (by simp (disch := omega) only [eq_self, not_true_eq_false, not_false_eq_true, upI_same, upL_same, upI_ne, upL_ne, iI_ixN, zI_mk, zL_mk, zP_mk, zK_mk, zN_mk, zwI_up, zwL_up, zg_some, Nat.reduceMod, Nat.reduceDiv, zcn_I, iI_add, iI_sub, iI_mul, iI_neg, iI_lt, iI_le, iI_eq, iI_lt0, iI_le0, iI_gt0, iI_ge0, iI_eq0] <;> omega)
      · refine zW.gbf [] rfl rfl rfl (by omega) trivial ?_ (zW.gr [] rfl rfl rfl (by omega) trivial z01c0 ?_)
        · exact (by simp (disch := omega) only [eq_self, not_true_eq_false, not_false_eq_true, upI_same, upL_same, upI_ne, upL_ne, iI_ixN, zI_mk, zL_mk, zP_mk, zK_mk, zN_mk, zwI_up, zwL_up, zg_some, Nat.reduceMod, Nat.reduceDiv, zcn_I, iI_add, iI_sub, iI_mul, iI_neg, iI_lt, iI_le, iI_eq, iI_lt0, iI_le0, iI_gt0, iI_ge0, iI_eq0] <;> omega)
        · rw [zcn_I]
          exact h0 (by omega) _ r1
theorem rep_out {I0 : Nat → Nat → Int32} {p k : Nat} {l : List Nat} (hd : 2 ≤ d) (hW : WL w R) (hp : p ≤ l.length) (hn : l.length ≤ 120) (h8 : ∀ x, x ∈ l → x < 8) (hk1 : 1 ≤ k) (hk9 : k ≤ 9) (hI8 : I0 w 8 = iI (p : Int))
    (h1 : ∀ l', spA l (rp (k - 1) (l.drop p)) = some l' → ∀ I', lfr w I0 I' → lR w I' l' → Q (.inl (some (zi (iI 1)))) (I', L, R))
    (h0 : spA l (rp (k - 1) (l.drop p)) = none → ∀ I', lfr w I0 I' → Q (.inl (some (zi (iI 0)))) (I', L, R)) :
    ∀ n c, c + n = k - 1 → ∀ (I1 : Nat → Nat → Int32) (x : Int32) (v : Option zV), (l ++ rp c (l.drop p)).length ≤ 120 → lfr w I0 I1 → lR w I1 (l ++ rp c (l.drop p)) → x = iI ((c + 1 : Nat) : Int) → zW 91 d 0 0 21 [some (zr (some w)), some (zi (iI (k : Int))), some (zi (iI (l.length : Int))), some (zi x), v] [] (I1, L, R) Q
  | 0, c, hc, I1, x, v, hb, r1, r2, e => by
    subst e
    obtain rfl : c = k - 1 := by omega
    refine zW.gbt [] rfl rfl rfl (by omega) trivial ?_ (zW.gr [] rfl rfl rfl (by omega) trivial z01c1 ?_)
    · exact (by simp (disch := omega) only [eq_self, not_true_eq_false, not_false_eq_true, upI_same, upL_same, upI_ne, upL_ne, iI_ixN, zI_mk, zL_mk, zP_mk, zK_mk, zN_mk, zwI_up, zwL_up, zg_some, Nat.reduceMod, Nat.reduceDiv, zcn_I, iI_add, iI_sub, iI_mul, iI_neg, iI_lt, iI_le, iI_eq, iI_lt0, iI_le0, iI_gt0, iI_ge0, iI_eq0] <;> omega)
    · rw [zcn_I]
      rw [List.length_append] at hb
      exact h1 _ (spA_of hb) _ r1 r2
  | n + 1, c, hc, I1, x, v, hb, r1, r2, e => by
    subst e
    have hW' := hW
    obtain ⟨k0, p0, p1, p2, p3, p4, k1, k2, k3, k4, k5⟩ := hW'
    have e8 : I1 w 8 = iI ((p + 0 : Nat) : Int) := (r1.2 8 (by decide)).trans hI8
    refine zW.gbf [] rfl rfl rfl (by omega) trivial ?_ (zW.go [32] rfl (by omega) ?_ ?_)
    · exact (by simp (disch := omega) only [eq_self, not_true_eq_false, not_false_eq_true, upI_same, upL_same, upI_ne, upL_ne, iI_ixN, zI_mk, zL_mk, zP_mk, zK_mk, zN_mk, zwI_up, zwL_up, zg_some, Nat.reduceMod, Nat.reduceDiv, zcn_I, iI_add, iI_sub, iI_mul, iI_neg, iI_lt, iI_le, iI_eq, iI_lt0, iI_le0, iI_gt0, iI_ge0, iI_eq0] <;> omega)
    · exact (by simp (disch := omega) only [true_or, or_true, eq_self, Option.some.injEq, Prod.mk.injEq, zall_0, zall_1, zall_2, zob_iff, zar_iff, zis_iff, zkIs_some, zkHas_some, iI_vp, z01_I, z01_bz, zch_I, true_and, and_true, or_false, false_or, and_self, upI_same, upL_same, upI_ne, upL_ne, iI_ixN, zI_mk, zL_mk, zP_mk, zK_mk, zN_mk, zwI_up, zwL_up, zg_some, Nat.reduceMod, Nat.reduceDiv, zcn_I, iI_add, iI_sub, iI_mul, iI_neg, iI_lt, iI_le, iI_eq, iI_lt0, iI_le0, iI_gt0, iI_ge0, iI_eq0, k0] <;> omega)
    · refine rep_in (I0 := I0) (p := p) (l := l) (B := l ++ rp c (l.drop p)) hd hW hp hn h8 ⟨_, rfl⟩ (fun qb I' q1 q2 v' => ?_) (fun q I' q1 => ?_) (l.length - p) 0 (by omega) (by omega) I1 _ r1 ?_ ?_
      · refine zW.go [21] rfl (by omega) trivial ?_
        have hlen : (l ++ rp c (l.drop p) ++ l.drop p).length = (l ++ rp (c + 1) (l.drop p)).length := by
          rw [List.append_assoc]
          rfl
        refine rep_out hd hW hp hn h8 hk1 hk9 hI8 h1 h0 n (c + 1) (by omega) I' _ _ ?_ q1 ?_ ?_
        · rw [← hlen, List.length_append, List.length_drop]
          exact qb
        · rw [List.append_assoc] at q2
          exact q2
        · exact (by simp (disch := omega) only [eq_self, not_true_eq_false, not_false_eq_true, upI_same, upL_same, upI_ne, upL_ne, iI_ixN, zI_mk, zL_mk, zP_mk, zK_mk, zN_mk, zwI_up, zwL_up, zg_some, Nat.reduceMod, Nat.reduceDiv, zcn_I, iI_add, iI_sub, iI_mul, iI_neg, iI_lt, iI_le, iI_eq, iI_lt0, iI_le0, iI_gt0, iI_ge0, iI_eq0] <;> omega)
      · refine h0 (spA_no ?_) _ q1
        rw [List.length_append, rp_len, List.length_drop] at q
        rw [rp_len, List.length_drop]
        have : (c + 1) * (l.length - p) ≤ (k - 1) * (l.length - p) := Nat.mul_le_mul_right _ (by omega)
        rw [Nat.succ_mul] at this
        omega
      · rw [List.take_zero, List.append_nil]
        exact r2
      · simp (disch := omega) only [upI_same, upL_same, upI_ne, upL_ne, iI_ixN, zI_mk, zL_mk, zP_mk, zK_mk, zN_mk, zwI_up, zwL_up, zg_some, Nat.reduceMod, Nat.reduceDiv, zcn_I, iI_add, iI_sub, iI_mul, iI_neg, iI_lt, iI_le, iI_eq, iI_lt0, iI_le0, iI_gt0, iI_ge0, iI_eq0]
        exact e8
/-- a part once more and more -/
theorem repeat_ok {I : Nat → Nat → Int32} {p k : Nat} {l : List Nat} {cr : Bool} {x : Int32} (hd : 3 ≤ d) (hW : WL w R) (e : x = iI (k : Int)) (hl : lR w I l) (hn : l.length ≤ 120) (h8 : ∀ x, x ∈ l → x < 8) (hk1 : 1 ≤ k) (hk9 : k ≤ 9) (hI9 : I w 9 = bz cr) (hI8 : cr = true → I w 8 = iI (p : Int) ∧ p ≤ l.length)
    (hf : cr = false → Q (.inl (some (zi (iI 0)))) (I, L, R))
    (h1 : cr = true → ∀ l', spA l (rp (k - 1) (l.drop p)) = some l' → ∀ I', lfr w (upI I w 9 (iI 0)) I' → lR w I' l' → Q (.inl (some (zi (iI 1)))) (I', L, R))
    (h0 : cr = true → spA l (rp (k - 1) (l.drop p)) = none → ∀ I', lfr w (upI I w 9 (iI 0)) I' → Q (.inl (some (zi (iI 0)))) (I', L, R)) : zS 91 d [zr (some w), zi x] (I, L, R) Q := by
  subst e
  have hW' := hW
  obtain ⟨k0, p0, p1, p2, p3, p4, k1, k2, k3, k4, k5⟩ := hW'
  cases cr with
  | false =>
    refine zW.gbf [] rfl rfl rfl (by omega) ?_ ?_ (zW.gr [] rfl rfl rfl (by omega) trivial z01c0 ?_)
    · exact (by simp (disch := omega) only [true_or, or_true, eq_self, Option.some.injEq, Prod.mk.injEq, zall_0, zall_1, zall_2, zob_iff, zar_iff, zis_iff, zkIs_some, zkHas_some, iI_vp, z01_I, z01_bz, zch_I, true_and, and_true, or_false, false_or, and_self, upI_same, upL_same, upI_ne, upL_ne, iI_ixN, zI_mk, zL_mk, zP_mk, zK_mk, zN_mk, zwI_up, zwL_up, zg_some, Nat.reduceMod, Nat.reduceDiv, zcn_I, iI_add, iI_sub, iI_mul, iI_neg, iI_lt, iI_le, iI_eq, iI_lt0, iI_le0, iI_gt0, iI_ge0, iI_eq0, k0] <;> omega)
    · exact (by simp (disch := omega) only [eq_self, not_true_eq_false, not_false_eq_true, upI_same, upL_same, upI_ne, upL_ne, iI_ixN, zI_mk, zL_mk, zP_mk, zK_mk, zN_mk, zwI_up, zwL_up, zg_some, Nat.reduceMod, Nat.reduceDiv, zcn_I, iI_add, iI_sub, iI_mul, iI_neg, iI_lt, iI_le, iI_eq, iI_lt0, iI_le0, iI_gt0, iI_ge0, iI_eq0, hI9, bz_f] <;> omega)
    · rw [zcn_I]
      exact hf rfl
  | true =>
    refine zW.gbt [] rfl rfl rfl (by omega) ?_ ?_ (zW.go [21] rfl (by omega) ?_ ?_)
    · exact (by simp (disch := omega) only [true_or, or_true, eq_self, Option.some.injEq, Prod.mk.injEq, zall_0, zall_1, zall_2, zob_iff, zar_iff, zis_iff, zkIs_some, zkHas_some, iI_vp, z01_I, z01_bz, zch_I, true_and, and_true, or_false, false_or, and_self, upI_same, upL_same, upI_ne, upL_ne, iI_ixN, zI_mk, zL_mk, zP_mk, zK_mk, zN_mk, zwI_up, zwL_up, zg_some, Nat.reduceMod, Nat.reduceDiv, zcn_I, iI_add, iI_sub, iI_mul, iI_neg, iI_lt, iI_le, iI_eq, iI_lt0, iI_le0, iI_gt0, iI_ge0, iI_eq0, k0] <;> omega)
    · exact (by simp (disch := omega) only [eq_self, not_true_eq_false, not_false_eq_true, upI_same, upL_same, upI_ne, upL_ne, iI_ixN, zI_mk, zL_mk, zP_mk, zK_mk, zN_mk, zwI_up, zwL_up, zg_some, Nat.reduceMod, Nat.reduceDiv, zcn_I, iI_add, iI_sub, iI_mul, iI_neg, iI_lt, iI_le, iI_eq, iI_lt0, iI_le0, iI_gt0, iI_ge0, iI_eq0, hI9, bz_t] <;> omega)
    · exact (by simp (disch := omega) only [true_or, or_true, eq_self, Option.some.injEq, Prod.mk.injEq, zall_0, zall_1, zall_2, zob_iff, zar_iff, zis_iff, zkIs_some, zkHas_some, iI_vp, z01_I, z01_bz, zch_I, true_and, and_true, or_false, false_or, and_self, upI_same, upL_same, upI_ne, upL_ne, iI_ixN, zI_mk, zL_mk, zP_mk, zK_mk, zN_mk, zwI_up, zwL_up, zg_some, Nat.reduceMod, Nat.reduceDiv, zcn_I, iI_add, iI_sub, iI_mul, iI_neg, iI_lt, iI_le, iI_eq, iI_lt0, iI_le0, iI_gt0, iI_ge0, iI_eq0, k0] <;> omega)
    · obtain ⟨a1, a2⟩ := hI8 rfl
      obtain ⟨l1, l2⟩ := hl
      simp (disch := omega) only [upI_same, upL_same, upI_ne, upL_ne, iI_ixN, zI_mk, zL_mk, zP_mk, zK_mk, zN_mk, zwI_up, zwL_up, zg_some, Nat.reduceMod, Nat.reduceDiv, zcn_I, iI_add, iI_sub, iI_mul, iI_neg, iI_lt, iI_le, iI_eq, iI_lt0, iI_le0, iI_gt0, iI_ge0, iI_eq0, l1]
      refine rep_out (I0 := upI I w 9 (iI 0)) (p := p) (l := l) (by omega) hW a2 hn h8 hk1 hk9 ?_ (h1 rfl) (h0 rfl) (k - 1) 0 (by omega) _ _ _ ?_ (lfr_rf _ _) ?_ rfl
      · simp (disch := omega) only [upI_same, upL_same, upI_ne, upL_ne, iI_ixN, zI_mk, zL_mk, zP_mk, zK_mk, zN_mk, zwI_up, zwL_up, zg_some, Nat.reduceMod, Nat.reduceDiv, zcn_I, iI_add, iI_sub, iI_mul, iI_neg, iI_lt, iI_le, iI_eq, iI_lt0, iI_le0, iI_gt0, iI_ge0, iI_eq0]
        exact a1
      · rw [show rp 0 (l.drop p) = [] from rfl, List.append_nil]
        exact hn
      · rw [show rp 0 (l.drop p) = [] from rfl, List.append_nil]
        refine ⟨?_, ?_⟩
        · simp (disch := omega) only [upI_same, upL_same, upI_ne, upL_ne, iI_ixN, zI_mk, zL_mk, zP_mk, zK_mk, zN_mk, zwI_up, zwL_up, zg_some, Nat.reduceMod, Nat.reduceDiv, zcn_I, iI_add, iI_sub, iI_mul, iI_neg, iI_lt, iI_le, iI_eq, iI_lt0, iI_le0, iI_gt0, iI_ge0, iI_eq0]
          exact l1
        · rw [upI_row (by omega)]
          exact l2
/-- turns of a part, as they stand when j pairs have been changed -/
def gbc (l : List Nat) (p j i : Nat) : Nat := if (p ≤ i ∧ i < p + j) ∨ (l.length ≤ i + j) then fl (nth l (p + l.length - 1 - i)) else nth l i
theorem goBack_lp {I0 : Nat → Nat → Int32} {p : Nat} {l : List Nat} (hd : 1 ≤ d) (hW : WL w R) (hp : p ≤ l.length) (hn : l.length ≤ 120) (h8 : ∀ x, x ∈ l → x < 8) (hI6 : I0 w 6 = iI (l.length : Int))
    (h1 : ∀ I', lfr w I0 I' → lR w I' (l.take p ++ bk l p l.length) → Q (.inl (some (zi (iI 1)))) (I', L, R)) :
    ∀ n j, 2 * j + n = l.length - p + 1 → ∀ (I1 : Nat → Nat → Int32) (x y : Int32) (v : Option zV), (∀ b, b ≠ w + 2 → I1 b = I0 b) → (∀ i, i < l.length → I1 (w + 2) i = iI (gbc l p j i : Int)) → x = iI ((p + j : Nat) : Int) → y = iI ((l.length : Int) - 1 - (j : Int)) → zW 92 d 0 0 25 [some (zr (some w)), some (zi x), some (zi y), v] [] (I1, L, R) Q := by
  intro n
  induction n using Nat.strongRecOn with
  | ind n ih =>
    intro j hj I1 x y v r1 r2 e1 e2
    subst e1; subst e2
    by_cases hlt : n ≤ 1
    · have hlen : (l.take p ++ bk l p l.length).length = l.length := by rw [List.length_append, List.length_take, bk_len (Nat.le_refl _)]; omega
      refine zW.gbt [] rfl rfl rfl hd trivial ?_ (zW.gr [] rfl rfl rfl hd trivial z01c1 ?_)
      · exact (by simp (disch := omega) only [eq_self, not_true_eq_false, not_false_eq_true, upI_same, upL_same, upI_ne, upL_ne, iI_ixN, zI_mk, zL_mk, zP_mk, zK_mk, zN_mk, zwI_up, zwL_up, zg_some, Nat.reduceMod, Nat.reduceDiv, zcn_I, iI_add, iI_sub, iI_mul, iI_neg, iI_lt, iI_le, iI_eq, iI_lt0, iI_le0, iI_gt0, iI_ge0, iI_eq0] <;> omega)
      · rw [zcn_I]
        refine h1 _ ⟨fun b q1 q2 => r1 b q2, fun k _ => congrFun (r1 w (by omega)) k⟩ ⟨?_, fun i hi => ?_⟩
        · rw [hlen, ← hI6]
          exact congrFun (r1 w (by omega)) 6
        · rw [hlen] at hi
          rw [r2 i hi]
          refine iI_cg (congrArg Nat.cast ?_)
          unfold gbc
          by_cases c : i < p
          · rw [if_neg (by omega), nth_l (by rw [List.length_take]; omega), nth_take c]
          · rw [if_pos (by omega), nth_ri (by rw [List.length_take]; omega), List.length_take, bk_nth (Nat.le_refl _) (by omega)]
            congr 2
            omega
    · obtain ⟨k0, p0, p1, p2, p3, p4, k1, k2, k3, k4, k5⟩ := hW
      have b1 : I1 (w + 2) (p + j) = iI (nth l (p + j) : Int) := by
        rw [r2 _ (by omega)]
        unfold gbc
        rw [if_neg (by omega)]
      have b2 : I1 (w + 2) (l.length - 1 - j) = iI (nth l (l.length - 1 - j) : Int) := by
        rw [r2 _ (by omega)]
        unfold gbc
        rw [if_neg (by omega)]
      have f1 := fl_I _ (h8 _ (nth_mem (l := l) (i := p + j) (by omega)))
      have f2 := fl_I _ (h8 _ (nth_mem (l := l) (i := l.length - 1 - j) (by omega)))
      have e1 : (l.length : Int) - 1 - (j : Int) = ((l.length - 1 - j : Nat) : Int) := by omega
      rw [e1]
      refine zW.gbf [] rfl rfl rfl hd trivial ?_ (zW.gbf [] rfl rfl rfl hd trivial ?_ (zW.gbf [] rfl rfl rfl hd trivial ?_ (zW.go [25] rfl hd ?_ ?_)))
      · exact (by simp (disch := omega) only [eq_self, not_true_eq_false, not_false_eq_true, upI_same, upL_same, upI_ne, upL_ne, iI_ixN, zI_mk, zL_mk, zP_mk, zK_mk, zN_mk, zwI_up, zwL_up, zg_some, Nat.reduceMod, Nat.reduceDiv, zcn_I, iI_add, iI_sub, iI_mul, iI_neg, iI_lt, iI_le, iI_eq, iI_lt0, iI_le0, iI_gt0, iI_ge0, iI_eq0] <;> omega)
      · exact (by simp (disch := omega) only [eq_self, not_true_eq_false, not_false_eq_true, upI_same, upL_same, upI_ne, upL_ne, iI_ixN, zI_mk, zL_mk, zP_mk, zK_mk, zN_mk, zwI_up, zwL_up, zg_some, Nat.reduceMod, Nat.reduceDiv, zcn_I, iI_add, iI_sub, iI_mul, iI_neg, iI_lt, iI_le, iI_eq, iI_lt0, iI_le0, iI_gt0, iI_ge0, iI_eq0] <;> omega)
      · exact (by simp (disch := omega) only [eq_self, not_true_eq_false, not_false_eq_true, upI_same, upL_same, upI_ne, upL_ne, iI_ixN, zI_mk, zL_mk, zP_mk, zK_mk, zN_mk, zwI_up, zwL_up, zg_some, Nat.reduceMod, Nat.reduceDiv, zcn_I, iI_add, iI_sub, iI_mul, iI_neg, iI_lt, iI_le, iI_eq, iI_lt0, iI_le0, iI_gt0, iI_ge0, iI_eq0] <;> omega)
      · exact (by simp (disch := omega) only [true_or, or_true, eq_self, Option.some.injEq, Prod.mk.injEq, zall_0, zall_1, zall_2, zob_iff, zar_iff, zis_iff, zkIs_some, zkHas_some, iI_vp, z01_I, z01_bz, zch_I, true_and, and_true, or_false, false_or, and_self, upI_same, upL_same, upI_ne, upL_ne, iI_ixN, zI_mk, zL_mk, zP_mk, zK_mk, zN_mk, zwI_up, zwL_up, zg_some, Nat.reduceMod, Nat.reduceDiv, zcn_I, iI_add, iI_sub, iI_mul, iI_neg, iI_lt, iI_le, iI_eq, iI_lt0, iI_le0, iI_gt0, iI_ge0, iI_eq0, k0, p1, k2] <;> omega)
      · have g1 : I1 (w + 2) (p + j) ^^^ iI 1 = iI (fl (nth l (p + j)) : Int) := by rw [b1, f1]
        have g2 : I1 (w + 2) (l.length - 1 - j) ^^^ iI 1 = iI (fl (nth l (l.length - 1 - j)) : Int) := by rw [b2, f2]
        simp (disch := omega) only [upI_same, upL_same, upI_ne, upL_ne, iI_ixN, zI_mk, zL_mk, zP_mk, zK_mk, zN_mk, zwI_up, zwL_up, zg_some, Nat.reduceMod, Nat.reduceDiv, zcn_I, p1, g1, g2]
        refine ih (n - 2) (by omega) (j + 1) (by omega) _ _ _ _ (fun b q => ?_) (fun i hi => ?_) ?_ ?_
        · rw [upI_row q, upI_row q]
          exact r1 b q
        · by_cases c1 : i = l.length - 1 - j
          · rw [c1, upI_same]
            unfold gbc
            rw [if_pos (by omega)]
            congr 3
            congr 1
            omega
          · rw [upI_ne (by omega)]
            by_cases c2 : i = p + j
            · rw [c2, upI_same]
              unfold gbc
              rw [if_pos (by omega)]
              congr 3
              congr 1
              omega
            · rw [upI_ne (by omega), r2 i hi]
              unfold gbc
              by_cases c3 : (p ≤ i ∧ i < p + j) ∨ (l.length ≤ i + j)
              · rw [if_pos c3, if_pos (by omega)]
              · rw [if_neg c3, if_neg (by omega)]
        · exact (by simp (disch := omega) only [eq_self, not_true_eq_false, not_false_eq_true, upI_same, upL_same, upI_ne, upL_ne, iI_ixN, zI_mk, zL_mk, zP_mk, zK_mk, zN_mk, zwI_up, zwL_up, zg_some, Nat.reduceMod, Nat.reduceDiv, zcn_I, iI_add, iI_sub, iI_mul, iI_neg, iI_lt, iI_le, iI_eq, iI_lt0, iI_le0, iI_gt0, iI_ge0, iI_eq0] <;> omega)
        · exact (by simp (disch := omega) only [eq_self, not_true_eq_false, not_false_eq_true, upI_same, upL_same, upI_ne, upL_ne, iI_ixN, zI_mk, zL_mk, zP_mk, zK_mk, zN_mk, zwI_up, zwL_up, zg_some, Nat.reduceMod, Nat.reduceDiv, zcn_I, iI_add, iI_sub, iI_mul, iI_neg, iI_lt, iI_le, iI_eq, iI_lt0, iI_le0, iI_gt0, iI_ge0, iI_eq0] <;> omega)
theorem goBack_ok {I : Nat → Nat → Int32} {p : Nat} {l : List Nat} {cb : Bool} (hd : 3 ≤ d) (hW : WL w R) (hl : lR w I l) (hn : l.length ≤ 120) (h8 : ∀ x, x ∈ l → x < 8) (hI10 : I w 10 = bz cb) (hI8 : cb = true → I w 8 = iI (p : Int) ∧ p ≤ l.length)
    (hf : cb = false → Q (.inl (some (zi (iI 0)))) (I, L, R))
    (h1 : cb = true → ∀ I', lfr w (upI (upI I w 9 (iI 0)) w 10 (iI 0)) I' → lR w I' (l.take p ++ bk l p l.length) → Q (.inl (some (zi (iI 1)))) (I', L, R)) : zS 92 d [zr (some w)] (I, L, R) Q := by
  have hW' := hW
  obtain ⟨k0, p0, p1, p2, p3, p4, k1, k2, k3, k4, k5⟩ := hW'
  cases cb with
  | false =>
    refine zW.gbf [] rfl rfl rfl (by omega) ?_ ?_ (zW.gr [] rfl rfl rfl (by omega) trivial z01c0 ?_)
    · exact (by simp (disch := omega) only [true_or, or_true, eq_self, Option.some.injEq, Prod.mk.injEq, zall_0, zall_1, zall_2, zob_iff, zar_iff, zis_iff, zkIs_some, zkHas_some, iI_vp, z01_I, z01_bz, zch_I, true_and, and_true, or_false, false_or, and_self, upI_same, upL_same, upI_ne, upL_ne, iI_ixN, zI_mk, zL_mk, zP_mk, zK_mk, zN_mk, zwI_up, zwL_up, zg_some, Nat.reduceMod, Nat.reduceDiv, zcn_I, iI_add, iI_sub, iI_mul, iI_neg, iI_lt, iI_le, iI_eq, iI_lt0, iI_le0, iI_gt0, iI_ge0, iI_eq0, k0] <;> omega)
    · exact (by simp (disch := omega) only [eq_self, not_true_eq_false, not_false_eq_true, upI_same, upL_same, upI_ne, upL_ne, iI_ixN, zI_mk, zL_mk, zP_mk, zK_mk, zN_mk, zwI_up, zwL_up, zg_some, Nat.reduceMod, Nat.reduceDiv, zcn_I, iI_add, iI_sub, iI_mul, iI_neg, iI_lt, iI_le, iI_eq, iI_lt0, iI_le0, iI_gt0, iI_ge0, iI_eq0, hI10, bz_f] <;> omega)
    · rw [zcn_I]
      exact hf rfl
  | true =>
    obtain ⟨a1, a2⟩ := hI8 rfl
    obtain ⟨l1, l2⟩ := hl
    refine zW.gbt [] rfl rfl rfl (by omega) ?_ ?_ (zW.gz [] rfl rfl rfl (by omega) trivial ?_ rfl rfl (Nat.le_refl _) (Nat.le_refl _) ?_)
    · exact (by simp (disch := omega) only [true_or, or_true, eq_self, Option.some.injEq, Prod.mk.injEq, zall_0, zall_1, zall_2, zob_iff, zar_iff, zis_iff, zkIs_some, zkHas_some, iI_vp, z01_I, z01_bz, zch_I, true_and, and_true, or_false, false_or, and_self, upI_same, upL_same, upI_ne, upL_ne, iI_ixN, zI_mk, zL_mk, zP_mk, zK_mk, zN_mk, zwI_up, zwL_up, zg_some, Nat.reduceMod, Nat.reduceDiv, zcn_I, iI_add, iI_sub, iI_mul, iI_neg, iI_lt, iI_le, iI_eq, iI_lt0, iI_le0, iI_gt0, iI_ge0, iI_eq0, k0] <;> omega)
    · exact (by simp (disch := omega) only [eq_self, not_true_eq_false, not_false_eq_true, upI_same, upL_same, upI_ne, upL_ne, iI_ixN, zI_mk, zL_mk, zP_mk, zK_mk, zN_mk, zwI_up, zwL_up, zg_some, Nat.reduceMod, Nat.reduceDiv, zcn_I, iI_add, iI_sub, iI_mul, iI_neg, iI_lt, iI_le, iI_eq, iI_lt0, iI_le0, iI_gt0, iI_ge0, iI_eq0, hI10, bz_t] <;> omega)
    · exact ⟨_, rfl, k0⟩
    · refine endPart_ok (by omega) hW ?_
      refine zW.go [25] rfl (by omega) ?_ ?_
      · exact (by simp (disch := omega) only [true_or, or_true, eq_self, Option.some.injEq, Prod.mk.injEq, zall_0, zall_1, zall_2, zob_iff, zar_iff, zis_iff, zkIs_some, zkHas_some, iI_vp, z01_I, z01_bz, zch_I, true_and, and_true, or_false, false_or, and_self, upI_same, upL_same, upI_ne, upL_ne, iI_ixN, zI_mk, zL_mk, zP_mk, zK_mk, zN_mk, zwI_up, zwL_up, zg_some, Nat.reduceMod, Nat.reduceDiv, zcn_I, iI_add, iI_sub, iI_mul, iI_neg, iI_lt, iI_le, iI_eq, iI_lt0, iI_le0, iI_gt0, iI_ge0, iI_eq0, k0] <;> omega)
      · simp (disch := omega) only [upI_same, upL_same, upI_ne, upL_ne, iI_ixN, zI_mk, zL_mk, zP_mk, zK_mk, zN_mk, zwI_up, zwL_up, zg_some, Nat.reduceMod, Nat.reduceDiv, zcn_I, iI_add, iI_sub, iI_mul, iI_neg, iI_lt, iI_le, iI_eq, iI_lt0, iI_le0, iI_gt0, iI_ge0, iI_eq0, l1, a1]
        refine goBack_lp (p := p) (l := l) (by omega) hW a2 hn h8 ?_ (h1 rfl) (l.length - p + 1) 0 (by omega) _ _ _ _ (fun _ _ => rfl) (fun i hi => ?_) rfl ?_
        · simp (disch := omega) only [upI_same, upL_same, upI_ne, upL_ne, iI_ixN, zI_mk, zL_mk, zP_mk, zK_mk, zN_mk, zwI_up, zwL_up, zg_some, Nat.reduceMod, Nat.reduceDiv, zcn_I, iI_add, iI_sub, iI_mul, iI_neg, iI_lt, iI_le, iI_eq, iI_lt0, iI_le0, iI_gt0, iI_ge0, iI_eq0]
          exact l1
        · rw [upI_row (by omega), upI_row (by omega), l2 i hi]
          unfold gbc
          rw [if_neg (by omega)]
        · exact (by simp (disch := omega) only [eq_self, not_true_eq_false, not_false_eq_true, upI_same, upL_same, upI_ne, upL_ne, iI_ixN, zI_mk, zL_mk, zP_mk, zK_mk, zN_mk, zwI_up, zwL_up, zg_some, Nat.reduceMod, Nat.reduceDiv, zcn_I, iI_add, iI_sub, iI_mul, iI_neg, iI_lt, iI_le, iI_eq, iI_lt0, iI_le0, iI_gt0, iI_ge0, iI_eq0] <;> omega)
end WORD2
