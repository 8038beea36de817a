/-! The model reads a part: what stands behind it. -/
section MPART
variable {d y : Nat} {L : Nat → Nat → Int64} {R : zRt} {Q : zO → zM → Prop}
theorem partC0 {I : Nat → Nat → Int32} {a b c : Int32} {v5 v6 v7 : Option zV} (hd : 1 ≤ d) (hQ : Q (.inl (some (zi (iI 0)))) (I, L, R)) : zW 215 d 0 0 300 [some (zr (some y)), some (zi a), some (zi b), some (zi (iI 0)), some (zi c), v5, v6, v7] [] (I, L, R) Q := by
  refine zW.gbt [] rfl rfl rfl (by omega) trivial (by simp (disch := omega) only [eq_self, not_true_eq_false, not_false_eq_true, upI_same, upL_same, upI_ne, upL_ne, iI_ixN, zI_mk, zL_mk, zP_mk, zK_mk, zN_mk, zwI_up, zwL_up, zg_some, Nat.reduceMod, Nat.reduceDiv, zcn_I, iI_add, iI_sub, iI_mul, iI_neg, iI_lt, iI_le, iI_eq, iI_lt0, iI_le0, iI_gt0, iI_ge0, iI_eq0] <;> omega) ?_
  exact zW.gr [] rfl rfl rfl (by omega) trivial z01_0 hQ
theorem rev_lp {I0 : Nat → Nat → Int32} {p : Nat} {l : List Nat} {s t : Int32} (hd : 1 ≤ d) (hM : ML y R) (hp : p ≤ l.length) (hn : l.length ≤ 120) (h8 : ∀ x, x ∈ l → x < 8) (hI6 : I0 y 37 = iI (l.length : Int))
    (h1 : ∀ I', (∀ b, b ≠ y + 1783 → I' b = I0 b) → spR y I' (l.take p ++ bk l p l.length) → Q (.inl (some (zi (iI 1)))) (I', L, R)) :
    ∀ n j, 2 * j + n = l.length - p + 1 → ∀ (I1 : Nat → Nat → Int32) (x : Int32) (v : Option zV), (∀ b, b ≠ y + 1783 → I1 b = I0 b) → (∀ i, i < l.length → I1 (y + 1783) i = iI (gbc l p j i : Int)) → x = iI (j : Int) → zW 215 d 0 0 324 [some (zr (some y)), some (zi (iI (p : Int))), some (zi s), some (zi (iI 1)), some (zi t), some (zi (iI ((l.length : Int) - 1))), some (zi x), v] [] (I1, L, R) Q := by
  intro n
  induction n using Nat.strongRecOn with
  | ind n ih =>
    intro j hj I1 x v r1 r2 e1
    subst e1
    have k0 : R.2.1 y = some (7, 0) := hM.1
    by_cases hlt : n ≤ 1
    · have hlen : (l.take p ++ bk l p l.length).length = l.length := by rw [List.length_append, List.length_take, bk_len (Nat.le_refl _)]; omega
      refine zW.gbt [] rfl rfl rfl hd trivial ?_ (zW.gr [] rfl rfl rfl hd trivial z01_1 ?_)
      · rw [iI_add, iI_sub, iI_lt (by omega) (by omega) (by omega) (by omega)]
        omega
      · refine h1 _ r1 ⟨?_, fun i hi => ?_⟩
        · rw [hlen, ← hI6]
          exact congrFun (r1 y (by omega)) 37
        · rw [hlen] at hi
          rw [r2 i hi]
          refine iI_cg (congrArg Nat.cast ?_)
          unfold gbc
          by_cases c : i < p
          · rw [if_neg (by omega), nth_l (by rw [List.length_take]; omega), nth_take c]
          · rw [if_pos (by omega), nth_ri (by rw [List.length_take]; omega), List.length_take, bk_nth (Nat.le_refl _) (by omega)]
            congr 2
            omega
    · have b1 : I1 (y + 1783) (p + j) = iI (nth l (p + j) : Int) := by
        rw [r2 _ (by omega)]
        unfold gbc
        rw [if_neg (by omega)]
      have b2 : I1 (y + 1783) (l.length - 1 - j) = iI (nth l (l.length - 1 - j) : Int) := by
        rw [r2 _ (by omega)]
        unfold gbc
        rw [if_neg (by omega)]
      have f1 := fl_I _ (h8 _ (nth_mem (l := l) (i := p + j) (by omega)))
      have f2 := fl_I _ (h8 _ (nth_mem (l := l) (i := l.length - 1 - j) (by omega)))
      have e1 : iI (p : Int) + iI (j : Int) = iI ((p + j : Nat) : Int) := by rw [iI_add]; rfl
      have e2 : iI ((l.length : Int) - 1) - iI (j : Int) = iI ((l.length - 1 - j : Nat) : Int) := by
        rw [iI_sub]
        exact iI_cg (by omega)
      have p18 : R.1 y 18 = some (y + 1783) := (hM.2.1 18 (by decide)).1; have k18 : R.2.1 (y + 1783) = some (20, 120) := (hM.2.1 18 (by decide)).2
      refine zW.gbf [] rfl rfl rfl hd trivial ?_ (zW.go [324] rfl hd ?_ ?_)
      · rw [e1, e2, iI_lt (by omega) (by omega) (by omega) (by omega)]
        omega
      · rw [e1, e2]
        exact (by simp (disch := omega) only [true_or, or_true, eq_self, Option.some.injEq, Prod.mk.injEq, zall_0, zall_1, zall_2, zob_iff, zar_iff, zis_iff, zkIs_some, zkHas_some, iI_vp, z01_I, z01_bz, zch_I, true_and, and_true, or_false, false_or, and_self, upI_same, upL_same, upI_ne, upL_ne, iI_ixN, zI_mk, zL_mk, zP_mk, zK_mk, zN_mk, zwI_up, zwL_up, zg_some, Nat.reduceMod, Nat.reduceDiv, zcn_I, iI_add, iI_sub, iI_mul, iI_neg, iI_lt, iI_le, iI_eq, iI_lt0, iI_le0, iI_gt0, iI_ge0, iI_eq0, k0, p18, k18] <;> omega)
      · rw [e1, e2]
        have g1 : I1 (y + 1783) (p + j) ^^^ iI 1 = iI (fl (nth l (p + j)) : Int) := by rw [b1, f1]
        have g2 : I1 (y + 1783) (l.length - 1 - j) ^^^ iI 1 = iI (fl (nth l (l.length - 1 - j)) : Int) := by rw [b2, f2]
        simp (disch := omega) only [upI_same, upL_same, upI_ne, upL_ne, iI_ixN, zI_mk, zL_mk, zP_mk, zK_mk, zN_mk, zwI_up, zwL_up, zg_some, Nat.reduceMod, Nat.reduceDiv, zcn_I, p18, g1, g2]
        refine ih (n - 2) (by omega) (j + 1) (by omega) _ _ _ (fun b q => ?_) (fun i hi => ?_) (by rw [iI_add]; rfl)
        · rw [upI_row q, upI_row q]
          exact r1 b q
        · by_cases c1 : i = l.length - 1 - j
          · rw [c1, upI_same]
            unfold gbc
            rw [if_pos (by omega)]
            congr 3
            congr 1
            omega
          · rw [upI_ne (by omega)]
            by_cases c2 : i = p + j
            · rw [c2, upI_same]
              unfold gbc
              rw [if_pos (by omega)]
              congr 3
              congr 1
              omega
            · rw [upI_ne (by omega), r2 i hi]
              unfold gbc
              by_cases c3 : (p ≤ i ∧ i < p + j) ∨ l.length ≤ i + j
              · rw [if_pos c3, if_pos (by omega)]
              · rw [if_neg c3, if_neg (by omega)]
theorem partC {I : Nat → Nat → Int32} {sg l : List Nat} {p j : Nat} {s t : Int32} {v5 v6 v7 : Option zV} (hd : 3 ≤ d) (hM : ML y R) (hr : rdR y I sg j) (hs : spR y I l) (hp : p ≤ l.length) (hn : l.length ≤ 120) (h8 : ∀ x, x ∈ l → x < 8)
    (hN : ¬ (j < sg.length ∧ nth sg j = 45) → ∀ I', pfr y I I' → rdR y I' sg j → spR y I' l → Q (.inl (some (zi (iI 1)))) (I', L, R))
    (hY : j < sg.length → nth sg j = 45 → ∀ I', pfr y I I' → rdR y I' sg (j + 1) → spR y I' (l.take p ++ bk l p l.length) → Q (.inl (some (zi (iI 1)))) (I', L, R)) :
    zW 215 d 0 0 300 [some (zr (some y)), some (zi (iI (p : Int))), some (zi s), some (zi (iI 1)), some (zi t), v5, v6, v7] [] (I, L, R) Q := by
  have k0 : R.2.1 y = some (7, 0) := hM.1
  refine zW.gbf [] rfl rfl rfl (by omega) trivial (by simp (disch := omega) only [eq_self, not_true_eq_false, not_false_eq_true, upI_same, upL_same, upI_ne, upL_ne, iI_ixN, zI_mk, zL_mk, zP_mk, zK_mk, zN_mk, zwI_up, zwL_up, zg_some, Nat.reduceMod, Nat.reduceDiv, zcn_I, iI_add, iI_sub, iI_mul, iI_neg, iI_lt, iI_le, iI_eq, iI_lt0, iI_le0, iI_gt0, iI_ge0, iI_eq0] <;> omega) ?_
  refine zW.gz [] rfl rfl rfl (by omega) trivial ⟨_, rfl, k0⟩ rfl rfl (by decide +kernel) (by decide +kernel) ?_
  refine takes_ok (c := 45) (by omega) hM (zcn_I _) (by decide) hr (fun g1 g2 => ?_) (fun g => ?_)
  · have f : pfr y I (upI I y 36 (iI ((j + 1 : Nat) : Int))) := pfr_u
    have v37 : (upI I y 36 (iI ((j + 1 : Nat) : Int))) y 37 = iI (l.length : Int) := by
      rw [upI_ne (by omega)]
      exact hs.1
    refine zW.gbf [] rfl rfl rfl (by omega) trivial (by simp (disch := omega) only [eq_self, not_true_eq_false, not_false_eq_true, upI_same, upL_same, upI_ne, upL_ne, iI_ixN, zI_mk, zL_mk, zP_mk, zK_mk, zN_mk, zwI_up, zwL_up, zg_some, Nat.reduceMod, Nat.reduceDiv, zcn_I, iI_add, iI_sub, iI_mul, iI_neg, iI_lt, iI_le, iI_eq, iI_lt0, iI_le0, iI_gt0, iI_ge0, iI_eq0] <;> omega) ?_
    refine zW.go [324] rfl (by omega) (by simp (disch := omega) only [true_or, or_true, eq_self, Option.some.injEq, Prod.mk.injEq, zall_0, zall_1, zall_2, zob_iff, zar_iff, zis_iff, zkIs_some, zkHas_some, iI_vp, z01_I, z01_bz, zch_I, true_and, and_true, or_false, false_or, and_self, upI_same, upL_same, upI_ne, upL_ne, iI_ixN, zI_mk, zL_mk, zP_mk, zK_mk, zN_mk, zwI_up, zwL_up, zg_some, Nat.reduceMod, Nat.reduceDiv, zcn_I, iI_add, iI_sub, iI_mul, iI_neg, iI_lt, iI_le, iI_eq, iI_lt0, iI_le0, iI_gt0, iI_ge0, iI_eq0, k0] <;> omega) ?_
    simp (disch := omega) only [upI_same, upL_same, upI_ne, upL_ne, iI_ixN, zI_mk, zL_mk, zP_mk, zK_mk, zN_mk, zwI_up, zwL_up, zg_some, Nat.reduceMod, Nat.reduceDiv, hs.1, zcn_I, iI_sub]
    refine rev_lp (by omega) hM hp hn h8 v37 (fun I' r1 r2 => ?_) (l.length - p + 1) 0 (by omega) _ _ _ (fun _ _ => rfl) (fun i hi => ?_) rfl
    · have f2 : pfr y I I' := pfr_tr f ⟨fun a _ q => r1 a q, fun k _ _ => by rw [r1 y (by omega)]⟩
      exact hY g1 g2 I' f2 (rdR_fr hr f2 (by rw [r1 y (by omega), upI_same]) (by omega)) r2
    · rw [upI_row (by omega), hs.2 i hi]
      refine iI_cg (congrArg Nat.cast ?_)
      unfold gbc
      rw [if_neg (by omega)]
  · refine zW.gbt [] rfl rfl rfl (by omega) trivial (by simp (disch := omega) only [eq_self, not_true_eq_false, not_false_eq_true, upI_same, upL_same, upI_ne, upL_ne, iI_ixN, zI_mk, zL_mk, zP_mk, zK_mk, zN_mk, zwI_up, zwL_up, zg_some, Nat.reduceMod, Nat.reduceDiv, zcn_I, iI_add, iI_sub, iI_mul, iI_neg, iI_lt, iI_le, iI_eq, iI_lt0, iI_le0, iI_gt0, iI_ge0, iI_eq0] <;> omega) ?_
    refine zW.gr [] rfl rfl rfl (by omega) trivial z01_1 ?_
    exact hN g _ pfr_u (rdR_fr hr pfr_u (upI_same _ _ _ _) hr.2.2.2.2.2) ⟨by rw [upI_ne (by omega)]; exact hs.1, by rw [upI_row (by omega)]; exact hs.2⟩
/-- copies that aren't made any more -/
theorem dig0_lp {I : Nat → Nat → Int32} {a b c : Int32} {k : Nat} (hd : 1 ≤ d) (hk : k ≤ 9) (hQ : Q (.inl (some (zi (iI 0)))) (I, L, R)) :
    ∀ n m, m + n = k → ∀ (x : Int32) (v : Option zV), x = iI (m : Int) → zW 215 d 0 0 255 [some (zr (some y)), some (zi a), some (zi b), some (zi (iI 0)), some (zi c), some (zi (iI (k : Int))), some (zi x), v] [] (I, L, R) Q
  | 0, m, hm, x, v, e => by
    subst e
    refine zW.gbt [] rfl rfl rfl (by omega) trivial (by simp (disch := omega) only [eq_self, not_true_eq_false, not_false_eq_true, upI_same, upL_same, upI_ne, upL_ne, iI_ixN, zI_mk, zL_mk, zP_mk, zK_mk, zN_mk, zwI_up, zwL_up, zg_some, Nat.reduceMod, Nat.reduceDiv, zcn_I, iI_add, iI_sub, iI_mul, iI_neg, iI_lt, iI_le, iI_eq, iI_lt0, iI_le0, iI_gt0, iI_ge0, iI_eq0] <;> omega) ?_
    exact partC0 hd hQ
  | n + 1, m, hm, x, v, e => by
    subst e
    have NX : ∀ w : Int32, zW 215 d 0 0 294 [some (zr (some y)), some (zi a), some (zi b), some (zi (iI 0)), some (zi c), some (zi (iI (k : Int))), some (zi (iI (m : Int))), some (zi w)] [] (I, L, R) Q := fun w => by
      refine zW.go [255] rfl (by omega) trivial ?_
      exact dig0_lp hd hk hQ n (m + 1) (by omega) _ _ (by rw [zcn_I, iI_add]; rfl)
    refine zW.gbf [] rfl rfl rfl (by omega) trivial (by simp (disch := omega) only [eq_self, not_true_eq_false, not_false_eq_true, upI_same, upL_same, upI_ne, upL_ne, iI_ixN, zI_mk, zL_mk, zP_mk, zK_mk, zN_mk, zwI_up, zwL_up, zg_some, Nat.reduceMod, Nat.reduceDiv, zcn_I, iI_add, iI_sub, iI_mul, iI_neg, iI_lt, iI_le, iI_eq, iI_lt0, iI_le0, iI_gt0, iI_ge0, iI_eq0] <;> omega) ?_
    refine zW.gb [] rfl rfl rfl (by omega) trivial (fun _ => NX _) (fun _ => ?_)
    exact zW.gbt [] rfl rfl rfl (by omega) trivial (by simp (disch := omega) only [eq_self, not_true_eq_false, not_false_eq_true, upI_same, upL_same, upI_ne, upL_ne, iI_ixN, zI_mk, zL_mk, zP_mk, zK_mk, zN_mk, zwI_up, zwL_up, zg_some, Nat.reduceMod, Nat.reduceDiv, zcn_I, iI_add, iI_sub, iI_mul, iI_neg, iI_lt, iI_le, iI_eq, iI_lt0, iI_le0, iI_gt0, iI_ge0, iI_eq0] <;> omega) (NX _)
theorem dig_in {I0 : Nat → Nat → Int32} {p : Nat} {l B : List Nat} {s : Int32} {k m : Nat} (hd : 2 ≤ d) (hM : ML y R) (hp : p ≤ l.length) (hn : l.length ≤ 120) (h8 : ∀ x, x ∈ l → x < 8) (hB : ∃ m, B = l ++ m) (hk9 : k ≤ 9) (hmk : m < k)
    (hk : B.length + (l.length - p) ≤ 120 → ∀ I', tfrm y I0 I' → spR y I' (B ++ l.drop p) → ∀ v, zW 215 d 0 0 294 [some (zr (some y)), some (zi (iI (p : Int))), some (zi s), some (zi (iI 1)), some (zi (iI (l.length : Int))), some (zi (iI (k : Int))), some (zi (iI (m : Int))), v] [] (I', L, R) Q)
    (h0 : 120 < B.length + (l.length - p) → ∀ I', tfrm y I0 I' → Q (.inl (some (zi (iI 0)))) (I', L, R)) :
    ∀ n j, j + n = l.length - p → B.length + j ≤ 120 → ∀ (I1 : Nat → Nat → Int32) (x b : Int32), tfrm y I0 I1 → spR y I1 (B ++ (l.drop p).take j) → x = iI ((p + j : Nat) : Int) → b = iI 1 → zW 215 d 0 0 265 [some (zr (some y)), some (zi (iI (p : Int))), some (zi s), some (zi b), some (zi (iI (l.length : Int))), some (zi (iI (k : Int))), some (zi (iI (m : Int))), some (zi x)] [] (I1, L, R) Q
  | 0, j, hj, hb, I1, x, b, r1, r2, e, eb => by
    subst e; subst eb
    refine zW.gbt [] rfl rfl rfl (by omega) trivial (by simp (disch := omega) only [eq_self, not_true_eq_false, not_false_eq_true, upI_same, upL_same, upI_ne, upL_ne, iI_ixN, zI_mk, zL_mk, zP_mk, zK_mk, zN_mk, zwI_up, zwL_up, zg_some, Nat.reduceMod, Nat.reduceDiv, zcn_I, iI_add, iI_sub, iI_mul, iI_neg, iI_lt, iI_le, iI_eq, iI_lt0, iI_le0, iI_gt0, iI_ge0, iI_eq0] <;> omega) ?_
    rw [List.take_of_length_le (by rw [List.length_drop]; omega)] at r2
    exact hk (by omega) _ r1 r2 _
  | n + 1, j, hj, hb, I1, x, b, r1, r2, e, eb => by
    subst e; subst eb
    have k0 : R.2.1 y = some (7, 0) := hM.1
    obtain ⟨mm, hm⟩ := hB
    have hlen : (B ++ (l.drop p).take j).length = B.length + j := by rw [List.length_append, List.length_take, List.length_drop]; omega
    have r2' := r2
    obtain ⟨l1, l2⟩ := r2'
    have hBl : l.length ≤ B.length := by rw [hm, List.length_append]; omega
    have hrd : I1 (y + 1783) (p + j) = iI (nth (l.drop p) j : Int) := by
      rw [l2 (p + j) (by omega), nth_l (by omega), hm, nth_dropl (by omega)]
    have ht8 := h8 _ (List.mem_of_mem_drop (nth_mem (l := l.drop p) (i := j) (by rw [List.length_drop]; omega)))
    have p18 : R.1 y 18 = some (y + 1783) := (hM.2.1 18 (by decide)).1; have k18 : R.2.1 (y + 1783) = some (20, 120) := (hM.2.1 18 (by decide)).2
    refine zW.gbf [] rfl rfl rfl (by omega) trivial (by simp (disch := omega) only [eq_self, not_true_eq_false, not_false_eq_true, upI_same, upL_same, upI_ne, upL_ne, iI_ixN, zI_mk, zL_mk, zP_mk, zK_mk, zN_mk, zwI_up, zwL_up, zg_some, Nat.reduceMod, Nat.reduceDiv, zcn_I, iI_add, iI_sub, iI_mul, iI_neg, iI_lt, iI_le, iI_eq, iI_lt0, iI_le0, iI_gt0, iI_ge0, iI_eq0] <;> omega) ?_
    refine zW.gbf [] rfl rfl rfl (by omega) trivial (by simp (disch := omega) only [eq_self, not_true_eq_false, not_false_eq_true, upI_same, upL_same, upI_ne, upL_ne, iI_ixN, zI_mk, zL_mk, zP_mk, zK_mk, zN_mk, zwI_up, zwL_up, zg_some, Nat.reduceMod, Nat.reduceDiv, zcn_I, iI_add, iI_sub, iI_mul, iI_neg, iI_lt, iI_le, iI_eq, iI_lt0, iI_le0, iI_gt0, iI_ge0, iI_eq0] <;> omega) ?_
    refine zW.gz [] rfl rfl rfl hd ?_ ⟨_, rfl, k0⟩ rfl rfl (by decide +kernel) (by decide +kernel) ?_
    · exact (by simp (disch := omega) only [true_or, or_true, eq_self, Option.some.injEq, Prod.mk.injEq, zall_0, zall_1, zall_2, zob_iff, zar_iff, zis_iff, zkIs_some, zkHas_some, iI_vp, z01_I, z01_bz, zch_I, true_and, and_true, or_false, false_or, and_self, upI_same, upL_same, upI_ne, upL_ne, iI_ixN, zI_mk, zL_mk, zP_mk, zK_mk, zN_mk, zwI_up, zwL_up, zg_some, Nat.reduceMod, Nat.reduceDiv, zcn_I, iI_add, iI_sub, iI_mul, iI_neg, iI_lt, iI_le, iI_eq, iI_lt0, iI_le0, iI_gt0, iI_ge0, iI_eq0, k0, p18, k18] <;> omega)
    simp (disch := omega) only [upI_same, upL_same, upI_ne, upL_ne, iI_ixN, zI_mk, zL_mk, zP_mk, zK_mk, zN_mk, zwI_up, zwL_up, zg_some, Nat.reduceMod, Nat.reduceDiv, zcn_I, iI_add, iI_sub, iI_mul, iI_neg, iI_lt, iI_le, iI_eq, iI_lt0, iI_le0, iI_gt0, iI_ge0, iI_eq0, p18, hrd]
    refine spells_ok (t := nth (l.drop p) j) (l := B ++ (l.drop p).take j) (by omega) hM rfl r2 (by omega) (fun h I2 q1 q2 => ?_) (fun h => ?_)
    · refine zW.go [265] rfl (by omega) trivial ?_
      refine dig_in hd hM hp hn h8 ⟨mm, hm⟩ hk9 hmk hk h0 n (j + 1) (by omega) (by omega) I2 _ _ (tfrm_tr r1 q1) ?_ (by rw [zcn_I, iI_add]; rfl) rfl
      rw [take_snoc (by rw [List.length_drop]; omega), ← List.append_assoc]
      exact q2
    · refine zW.go [265] rfl (by omega) trivial ?_
      have NX : ∀ w : Int32, zW 215 d 0 0 294 [some (zr (some y)), some (zi (iI (p : Int))), some (zi s), some (zi (iI 0)), some (zi (iI (l.length : Int))), some (zi (iI (k : Int))), some (zi (iI (m : Int))), some (zi w)] [] (I1, L, R) Q := fun w => by
        refine zW.go [255] rfl (by omega) trivial ?_
        exact dig0_lp (by omega) hk9 (h0 (by omega) _ r1) (k - (m + 1)) (m + 1) (by omega) _ _ (by rw [zcn_I, iI_add]; rfl)
      refine zW.gb [] rfl rfl rfl (by omega) trivial (fun _ => NX _) (fun _ => ?_)
      exact zW.gbt [] rfl rfl rfl (by omega) trivial (by simp (disch := omega) only [eq_self, not_true_eq_false, not_false_eq_true, upI_same, upL_same, upI_ne, upL_ne, iI_ixN, zI_mk, zL_mk, zP_mk, zK_mk, zN_mk, zwI_up, zwL_up, zg_some, Nat.reduceMod, Nat.reduceDiv, zcn_I, iI_add, iI_sub, iI_mul, iI_neg, iI_lt, iI_le, iI_eq, iI_lt0, iI_le0, iI_gt0, iI_ge0, iI_eq0] <;> omega) (NX _)
theorem dig_out {I0 : Nat → Nat → Int32} {p k : Nat} {l : List Nat} {s : Int32} (hd : 2 ≤ d) (hM : ML y R) (hp : p ≤ l.length) (hn : l.length ≤ 120) (h8 : ∀ x, x ∈ l → x < 8) (hk1 : 1 ≤ k) (hk9 : k ≤ 9)
    (h1 : ∀ l', spA l (rp (k - 1) (l.drop p)) = some l' → ∀ I', tfrm y I0 I' → spR y I' l' → ∀ u v, zW 215 d 0 0 300 [some (zr (some y)), some (zi (iI (p : Int))), some (zi s), some (zi (iI 1)), some (zi (iI (l.length : Int))), some (zi (iI (k : Int))), u, v] [] (I', L, R) Q)
    (h0 : spA l (rp (k - 1) (l.drop p)) = none → ∀ I', tfrm y I0 I' → Q (.inl (some (zi (iI 0)))) (I', L, R)) :
    ∀ n c, c + n = k - 1 → ∀ (I1 : Nat → Nat → Int32) (x : Int32) (v : Option zV), (l ++ rp c (l.drop p)).length ≤ 120 → tfrm y I0 I1 → spR y I1 (l ++ rp c (l.drop p)) → x = iI ((c + 1 : Nat) : Int) → zW 215 d 0 0 255 [some (zr (some y)), some (zi (iI (p : Int))), some (zi s), some (zi (iI 1)), some (zi (iI (l.length : Int))), some (zi (iI (k : Int))), some (zi x), v] [] (I1, L, R) Q
  | 0, c, hc, I1, x, v, hle, r1, r2, e => by
    subst e
    refine zW.gbt [] rfl rfl rfl (by omega) trivial (by simp (disch := omega) only [eq_self, not_true_eq_false, not_false_eq_true, upI_same, upL_same, upI_ne, upL_ne, iI_ixN, zI_mk, zL_mk, zP_mk, zK_mk, zN_mk, zwI_up, zwL_up, zg_some, Nat.reduceMod, Nat.reduceDiv, zcn_I, iI_add, iI_sub, iI_mul, iI_neg, iI_lt, iI_le, iI_eq, iI_lt0, iI_le0, iI_gt0, iI_ge0, iI_eq0] <;> omega) ?_
    rw [show c = k - 1 by omega] at r2 hle
    exact h1 _ (spA_of (by rw [List.length_append] at hle; exact hle)) _ r1 r2 _ _
  | n + 1, c, hc, I1, x, v, hle, r1, r2, e => by
    subst e
    have hlen : (l ++ rp c (l.drop p)).length = l.length + c * (l.length - p) := by rw [List.length_append, rp_len, List.length_drop]
    refine zW.gbf [] rfl rfl rfl (by omega) trivial (by simp (disch := omega) only [eq_self, not_true_eq_false, not_false_eq_true, upI_same, upL_same, upI_ne, upL_ne, iI_ixN, zI_mk, zL_mk, zP_mk, zK_mk, zN_mk, zwI_up, zwL_up, zg_some, Nat.reduceMod, Nat.reduceDiv, zcn_I, iI_add, iI_sub, iI_mul, iI_neg, iI_lt, iI_le, iI_eq, iI_lt0, iI_le0, iI_gt0, iI_ge0, iI_eq0] <;> omega) ?_
    refine zW.go [265] rfl (by omega) trivial ?_
    refine dig_in (I0 := I0) (B := l ++ rp c (l.drop p)) (m := c + 1) hd hM hp hn h8 ⟨_, rfl⟩ hk9 (by omega) (fun hb I' q1 q2 v => ?_) (fun hb I' q1 => ?_) (l.length - p) 0 (by omega) (by omega) I1 _ _ r1 (by rw [List.take_zero, List.append_nil]; exact r2) (by rw [Nat.add_zero]) rfl
    · refine zW.go [255] rfl (by omega) trivial ?_
      refine dig_out hd hM hp hn h8 hk1 hk9 h1 h0 n (c + 1) (by omega) I' _ _ ?_ q1 ?_ (by rw [zcn_I, iI_add]; rfl)
      · rw [List.length_append, rp_len, List.length_drop, Nat.add_mul, Nat.one_mul]
        rw [hlen] at hb
        omega
      · rw [List.append_assoc] at q2
        exact q2
    · refine h0 (spA_no ?_) I' q1
      rw [rp_len, List.length_drop]
      rw [hlen] at hb
      have : (c + 1) * (l.length - p) ≤ (k - 1) * (l.length - p) := Nat.mul_le_mul_right _ (by omega)
      rw [Nat.add_mul, Nat.one_mul] at this
      omega
end MPART
