/-! spell, countRuns, ringsUsed, isSign. -/
theorem mkN_snoc (w : wSt) : ∀ (a : List Nat) (c : Nat), mkN (a ++ [c]) w = (mkN a w).bind (mk1 c) := by
  intro a c
  induction a generalizing w with
  | nil =>
    show (mk1 c w).bind (fun w' => some w') = mk1 c w
    cases mk1 c w <;> rfl
  | cons x t ih =>
    show (mk1 x w).bind (fun w' => mkN (t ++ [c]) w') = ((mk1 x w).bind (fun w' => mkN t w')).bind (mk1 c)
    cases h : mk1 x w with
    | none => rfl
    | some w1 => exact ih w1
theorem mkN_app (w : wSt) (a b : List Nat) : mkN (a ++ b) w = (mkN a w).bind (mkN b) := by
  induction a generalizing w with
  | nil => rfl
  | cons x t ih =>
    show (mk1 x w).bind (fun w' => mkN (t ++ b) w') = ((mk1 x w).bind (fun w' => mkN t w')).bind (mkN b)
    cases h : mk1 x w with
    | none => rfl
    | some w1 => exact ih w1
theorem take_at {l : List Nat} {j : Nat} (h : j < l.length) : l = l.take j ++ (nth l j :: l.drop (j + 1)) := by
  have e : nth l j = l[j] := by
    unfold nth
    rw [List.getElem?_eq_getElem h]
    rfl
  rw [e, ← List.drop_eq_getElem_cons h, List.take_append_drop]
/-- runs of turns of one ring -/
def rn (l : List Nat) (i : Nat) : Bool := i == 0 || nth l i / 2 != nth l (i - 1) / 2
section WORD5
variable {d w : Nat} {I : Nat → Nat → Int32} {L : Nat → Nat → Int64} {R : zRt} {Q : zO → zM → Prop}
/-- the signs as they stand -/
def sgR (w : Nat) (I : Nat → Nat → Int32) (sg : List Nat) : Prop := sg.length ≤ 30 ∧ I w 5 = iI (sg.length : Int) ∧ hl (I (w + 1)) sg ∧ ∀ c, c ∈ sg → c < 65536
theorem sgR_fr {w : Nat} {I I' : Nat → Nat → Int32} {sg : List Nat} (f : wfr w I I') (h : sgR w I sg) : sgR w I' sg := ⟨h.1, f.2.trans h.2.1, by rw [f.1 (w + 1) (by omega) (by omega)]; exact h.2.2.1, h.2.2.2⟩
theorem spell_lp {sg : List Nat} (hd : 5 ≤ d) (hW : WL w R) (hs : sgR w I sg)
    (h1 : ∀ l, spell sg = some l → ∀ I', wfr w I I' → lR w I' l → Q (.inl (some (zi (iI (l.length : Int))))) (I', L, R))
    (h0 : spell sg = none → ∀ I', wfr w I I' → Q (.inl (some (zi (iI (-1))))) (I', L, R)) :
    ∀ n i, i + n = sg.length → ∀ (I1 : Nat → Nat → Int32) (x : Int32) (st : wSt), wfr w I I1 → mkN (sg.take i) w0 = some st → wR w I1 st → st.2.1.length ≤ i → (∀ q, q ∈ st.2.1 → q.1 < 65536) → x = iI (i : Int) → zW 85 d 0 0 16 [some (zr (some w)), some (zi x)] [] (I1, L, R) Q
  | 0, i, hi, I1, x, st, f, hm, hr, hk, ho, e => by
    subst e
    obtain rfl : i = sg.length := by omega
    obtain ⟨s1, s2, s3, s4⟩ := sgR_fr f hs
    have hW' := hW
    obtain ⟨k0, p0, p1, p2, p3, p4, k1, k2, k3, k4, k5⟩ := hW'
    have r2 := hr.2.1
    have hwk := mkN_ok w0_ok hm
    rw [List.take_length] at hm
    refine zW.gbt [] rfl rfl rfl (by omega) ?_ ?_ (zW.gb [] rfl rfl rfl (by omega) ?_ (fun h => ?_) (fun h => ?_))
    · exact (by simp (disch := omega) only [true_or, or_true, eq_self, Option.some.injEq, Prod.mk.injEq, zall_0, zall_1, zall_2, zob_iff, zar_iff, zis_iff, zkIs_some, zkHas_some, iI_vp, z01_I, z01_bz, zch_I, true_and, and_true, or_false, false_or, and_self, upI_same, upL_same, upI_ne, upL_ne, iI_ixN, zI_mk, zL_mk, zP_mk, zK_mk, zN_mk, zwI_up, zwL_up, zg_some, Nat.reduceMod, Nat.reduceDiv, zcn_I, iI_add, iI_sub, iI_mul, iI_neg, iI_lt, iI_le, iI_eq, iI_lt0, iI_le0, iI_gt0, iI_ge0, iI_eq0, k0] <;> omega)
    · exact (by simp (disch := omega) only [eq_self, not_true_eq_false, not_false_eq_true, upI_same, upL_same, upI_ne, upL_ne, iI_ixN, zI_mk, zL_mk, zP_mk, zK_mk, zN_mk, zwI_up, zwL_up, zg_some, Nat.reduceMod, Nat.reduceDiv, zcn_I, iI_add, iI_sub, iI_mul, iI_neg, iI_lt, iI_le, iI_eq, iI_lt0, iI_le0, iI_gt0, iI_ge0, iI_eq0, s2] <;> omega)
    · exact (by simp (disch := omega) only [true_or, or_true, eq_self, Option.some.injEq, Prod.mk.injEq, zall_0, zall_1, zall_2, zob_iff, zar_iff, zis_iff, zkIs_some, zkHas_some, iI_vp, z01_I, z01_bz, zch_I, true_and, and_true, or_false, false_or, and_self, upI_same, upL_same, upI_ne, upL_ne, iI_ixN, zI_mk, zL_mk, zP_mk, zK_mk, zN_mk, zwI_up, zwL_up, zg_some, Nat.reduceMod, Nat.reduceDiv, zcn_I, iI_add, iI_sub, iI_mul, iI_neg, iI_lt, iI_le, iI_eq, iI_lt0, iI_le0, iI_gt0, iI_ge0, iI_eq0, k0] <;> omega)
    · simp (disch := omega) only [upI_same, upL_same, upI_ne, upL_ne, iI_ixN, zI_mk, zL_mk, zP_mk, zK_mk, zN_mk, zwI_up, zwL_up, zg_some, Nat.reduceMod, Nat.reduceDiv, zcn_I, r2] at h
      rw [iI_eq0 (by omega) (by omega)] at h
      refine zW.gr [] rfl rfl rfl (by omega) trivial trivial ?_
      rw [zcn_I]
      refine h0 ?_ _ f
      unfold spell
      rw [hm, Option.bind_some]
      exact if_neg (fun q => by rw [q] at h; exact h rfl)
    · simp (disch := omega) only [upI_same, upL_same, upI_ne, upL_ne, iI_ixN, zI_mk, zL_mk, zP_mk, zK_mk, zN_mk, zwI_up, zwL_up, zg_some, Nat.reduceMod, Nat.reduceDiv, zcn_I, r2] at h
      rw [iI_eq0 (by omega) (by omega)] at h
      have hnil : st.2.1 = [] := List.length_eq_zero_iff.mp (by omega)
      refine zW.gr [] rfl rfl rfl (by omega) ?_ trivial ?_
      · exact (by simp (disch := omega) only [true_or, or_true, eq_self, Option.some.injEq, Prod.mk.injEq, zall_0, zall_1, zall_2, zob_iff, zar_iff, zis_iff, zkIs_some, zkHas_some, iI_vp, z01_I, z01_bz, zch_I, true_and, and_true, or_false, false_or, and_self, upI_same, upL_same, upI_ne, upL_ne, iI_ixN, zI_mk, zL_mk, zP_mk, zK_mk, zN_mk, zwI_up, zwL_up, zg_some, Nat.reduceMod, Nat.reduceDiv, zcn_I, iI_add, iI_sub, iI_mul, iI_neg, iI_lt, iI_le, iI_eq, iI_lt0, iI_le0, iI_gt0, iI_ge0, iI_eq0, k0] <;> omega)
      · have l1 := hr.1.1
        simp (disch := omega) only [upI_same, upL_same, upI_ne, upL_ne, iI_ixN, zI_mk, zL_mk, zP_mk, zK_mk, zN_mk, zwI_up, zwL_up, zg_some, Nat.reduceMod, Nat.reduceDiv, zcn_I, iI_add, iI_sub, iI_mul, iI_neg, iI_lt, iI_le, iI_eq, iI_lt0, iI_le0, iI_gt0, iI_ge0, iI_eq0, l1]
        refine h1 st.1 ?_ _ f hr.1
        unfold spell
        rw [hm, Option.bind_some]
        exact if_pos hnil
  | n + 1, i, hi, I1, x, st, f, hm, hr, hk, ho, e => by
    subst e
    obtain ⟨s1, s2, s3, s4⟩ := sgR_fr f hs
    have hW' := hW
    obtain ⟨k0, p0, p1, p2, p3, p4, k1, k2, k3, k4, k5⟩ := hW'
    have hil : i < sg.length := by omega
    have hrd := s3 i hil
    have hcc := s4 _ (nth_mem hil)
    have hwk := mkN_ok w0_ok hm
    refine zW.gbf [] rfl rfl rfl (by omega) ?_ ?_ (zW.gbf [] rfl rfl rfl (by omega) trivial ?_ (zW.gz [] rfl rfl rfl (by omega) ?_ ?_ rfl rfl (Nat.le_refl _) (Nat.le_refl _) ?_))
    · exact (by simp (disch := omega) only [true_or, or_true, eq_self, Option.some.injEq, Prod.mk.injEq, zall_0, zall_1, zall_2, zob_iff, zar_iff, zis_iff, zkIs_some, zkHas_some, iI_vp, z01_I, z01_bz, zch_I, true_and, and_true, or_false, false_or, and_self, upI_same, upL_same, upI_ne, upL_ne, iI_ixN, zI_mk, zL_mk, zP_mk, zK_mk, zN_mk, zwI_up, zwL_up, zg_some, Nat.reduceMod, Nat.reduceDiv, zcn_I, iI_add, iI_sub, iI_mul, iI_neg, iI_lt, iI_le, iI_eq, iI_lt0, iI_le0, iI_gt0, iI_ge0, iI_eq0, k0] <;> omega)
    · exact (by simp (disch := omega) only [eq_self, not_true_eq_false, not_false_eq_true, upI_same, upL_same, upI_ne, upL_ne, iI_ixN, zI_mk, zL_mk, zP_mk, zK_mk, zN_mk, zwI_up, zwL_up, zg_some, Nat.reduceMod, Nat.reduceDiv, zcn_I, iI_add, iI_sub, iI_mul, iI_neg, iI_lt, iI_le, iI_eq, iI_lt0, iI_le0, iI_gt0, iI_ge0, iI_eq0, s2] <;> omega)
    · exact (by simp (disch := omega) only [eq_self, not_true_eq_false, not_false_eq_true, upI_same, upL_same, upI_ne, upL_ne, iI_ixN, zI_mk, zL_mk, zP_mk, zK_mk, zN_mk, zwI_up, zwL_up, zg_some, Nat.reduceMod, Nat.reduceDiv, zcn_I, iI_add, iI_sub, iI_mul, iI_neg, iI_lt, iI_le, iI_eq, iI_lt0, iI_le0, iI_gt0, iI_ge0, iI_eq0] <;> omega)
    · exact (by simp (disch := omega) only [true_or, or_true, eq_self, Option.some.injEq, Prod.mk.injEq, zall_0, zall_1, zall_2, zob_iff, zar_iff, zis_iff, zkIs_some, zkHas_some, iI_vp, z01_I, z01_bz, zch_I, true_and, and_true, or_false, false_or, and_self, upI_same, upL_same, upI_ne, upL_ne, iI_ixN, zI_mk, zL_mk, zP_mk, zK_mk, zN_mk, zwI_up, zwL_up, zg_some, Nat.reduceMod, Nat.reduceDiv, zcn_I, iI_add, iI_sub, iI_mul, iI_neg, iI_lt, iI_le, iI_eq, iI_lt0, iI_le0, iI_gt0, iI_ge0, iI_eq0, k0, p0, k1] <;> omega)
    · exact ⟨_, rfl, k0⟩
    · simp (disch := omega) only [upI_same, upL_same, upI_ne, upL_ne, iI_ixN, zI_mk, zL_mk, zP_mk, zK_mk, zN_mk, zwI_up, zwL_up, zg_some, Nat.reduceMod, Nat.reduceDiv, zcn_I, iI_add, iI_sub, iI_mul, iI_neg, iI_lt, iI_le, iI_eq, iI_lt0, iI_le0, iI_gt0, iI_ge0, iI_eq0, p0, hrd]
      refine take_ok (st := st) (c := nth sg i) (by omega) hW rfl hcc hr hwk (by omega) ho (fun st' g I' f1 m1 => ?_) (fun g I' f1 => ?_)
      · have g2 := mk1_sk g
        refine zW.gbt [] rfl rfl rfl (by omega) trivial ?_ (zW.go [16] rfl (by omega) trivial ?_)
        · exact (by simp (disch := omega) only [eq_self, not_true_eq_false, not_false_eq_true, upI_same, upL_same, upI_ne, upL_ne, iI_ixN, zI_mk, zL_mk, zP_mk, zK_mk, zN_mk, zwI_up, zwL_up, zg_some, Nat.reduceMod, Nat.reduceDiv, zcn_I, iI_add, iI_sub, iI_mul, iI_neg, iI_lt, iI_le, iI_eq, iI_lt0, iI_le0, iI_gt0, iI_ge0, iI_eq0] <;> omega)
        · refine spell_lp hd hW hs h1 h0 n (i + 1) (by omega) I' _ st' (wfr_tr f f1) ?_ m1 (by omega) (g2.2 ho hcc) ?_
          · rw [take_snoc hil, mkN_snoc, hm]
            exact g
          · exact (by simp (disch := omega) only [eq_self, not_true_eq_false, not_false_eq_true, upI_same, upL_same, upI_ne, upL_ne, iI_ixN, zI_mk, zL_mk, zP_mk, zK_mk, zN_mk, zwI_up, zwL_up, zg_some, Nat.reduceMod, Nat.reduceDiv, zcn_I, iI_add, iI_sub, iI_mul, iI_neg, iI_lt, iI_le, iI_eq, iI_lt0, iI_le0, iI_gt0, iI_ge0, iI_eq0] <;> omega)
      · refine zW.gbf [] rfl rfl rfl (by omega) trivial ?_ (zW.gr [] rfl rfl rfl (by omega) trivial trivial ?_)
        · exact (by simp (disch := omega) only [eq_self, not_true_eq_false, not_false_eq_true, upI_same, upL_same, upI_ne, upL_ne, iI_ixN, zI_mk, zL_mk, zP_mk, zK_mk, zN_mk, zwI_up, zwL_up, zg_some, Nat.reduceMod, Nat.reduceDiv, zcn_I, iI_add, iI_sub, iI_mul, iI_neg, iI_lt, iI_le, iI_eq, iI_lt0, iI_le0, iI_gt0, iI_ge0, iI_eq0] <;> omega)
        · rw [zcn_I]
          refine h0 ?_ _ (wfr_tr f f1)
          unfold spell
          rw [take_at hil, mkN_app, hm, Option.bind_some]
          show ((mk1 (nth sg i) st).bind _).bind _ = none
          rw [g]
          rfl
theorem spell_oks {sg : List Nat} (hd : 5 ≤ d) (hW : WL w R) (hs : sgR w I sg)
    (h1 : ∀ l, spell sg = some l → ∀ I', wfr w I I' → lR w I' l → Q (.inl (some (zi (iI (l.length : Int))))) (I', L, R))
    (h0 : spell sg = none → ∀ I', wfr w I I' → Q (.inl (some (zi (iI (-1))))) (I', L, R)) : zS 85 d [zr (some w)] (I, L, R) Q := by
  have hW' := hW
  obtain ⟨k0, p0, p1, p2, p3, p4, k1, k2, k3, k4, k5⟩ := hW'
  refine zW.gz [] rfl rfl rfl (by omega) ?_ ?_ rfl rfl (Nat.le_refl _) (Nat.le_refl _) ?_
  · exact (by simp (disch := omega) only [true_or, or_true, eq_self, Option.some.injEq, Prod.mk.injEq, zall_0, zall_1, zall_2, zob_iff, zar_iff, zis_iff, zkIs_some, zkHas_some, iI_vp, z01_I, z01_bz, zch_I, true_and, and_true, or_false, false_or, and_self, upI_same, upL_same, upI_ne, upL_ne, iI_ixN, zI_mk, zL_mk, zP_mk, zK_mk, zN_mk, zwI_up, zwL_up, zg_some, Nat.reduceMod, Nat.reduceDiv, zcn_I, iI_add, iI_sub, iI_mul, iI_neg, iI_lt, iI_le, iI_eq, iI_lt0, iI_le0, iI_gt0, iI_ge0, iI_eq0, k0] <;> omega)
  · exact ⟨_, rfl, k0⟩
  · simp (disch := omega) only [upI_same, upL_same, upI_ne, upL_ne, iI_ixN, zI_mk, zL_mk, zP_mk, zK_mk, zN_mk, zwI_up, zwL_up, zg_some, Nat.reduceMod, Nat.reduceDiv, zcn_I, iI_add, iI_sub, iI_mul, iI_neg, iI_lt, iI_le, iI_eq, iI_lt0, iI_le0, iI_gt0, iI_ge0, iI_eq0]
    refine endPart_ok (by omega) hW ?_
    refine zW.go [16] rfl (by omega) trivial ?_
    refine spell_lp hd hW hs h1 h0 sg.length 0 (by omega) _ _ w0 ⟨fun b q1 q2 => ?_, ?_⟩ rfl ⟨⟨?_, fun i hi => absurd hi (Nat.not_lt_zero i)⟩, ?_, trivial, fun q => by simp [w0] at q, ?_, ?_⟩ (Nat.le_refl _) (fun q hq => by cases hq) rfl
    · rw [upI_row q1, upI_row q1, upI_row q1, upI_row q1]
    · simp (disch := omega) only [upI_same, upL_same, upI_ne, upL_ne, iI_ixN, zI_mk, zL_mk, zP_mk, zK_mk, zN_mk, zwI_up, zwL_up, zg_some, Nat.reduceMod, Nat.reduceDiv, zcn_I, iI_add, iI_sub, iI_mul, iI_neg, iI_lt, iI_le, iI_eq, iI_lt0, iI_le0, iI_gt0, iI_ge0, iI_eq0]
    · simp (disch := omega) only [upI_same, upL_same, upI_ne, upL_ne, iI_ixN, zI_mk, zL_mk, zP_mk, zK_mk, zN_mk, zwI_up, zwL_up, zg_some, Nat.reduceMod, Nat.reduceDiv, zcn_I, iI_add, iI_sub, iI_mul, iI_neg, iI_lt, iI_le, iI_eq, iI_lt0, iI_le0, iI_gt0, iI_ge0, iI_eq0]
      rfl
    · simp (disch := omega) only [upI_same, upL_same, upI_ne, upL_ne, iI_ixN, zI_mk, zL_mk, zP_mk, zK_mk, zN_mk, zwI_up, zwL_up, zg_some, Nat.reduceMod, Nat.reduceDiv, zcn_I, iI_add, iI_sub, iI_mul, iI_neg, iI_lt, iI_le, iI_eq, iI_lt0, iI_le0, iI_gt0, iI_ge0, iI_eq0]
      rfl
    · simp (disch := omega) only [upI_same, upL_same, upI_ne, upL_ne, iI_ixN, zI_mk, zL_mk, zP_mk, zK_mk, zN_mk, zwI_up, zwL_up, zg_some, Nat.reduceMod, Nat.reduceDiv, zcn_I, iI_add, iI_sub, iI_mul, iI_neg, iI_lt, iI_le, iI_eq, iI_lt0, iI_le0, iI_gt0, iI_ge0, iI_eq0]
      rfl
    · simp (disch := omega) only [upI_same, upL_same, upI_ne, upL_ne, iI_ixN, zI_mk, zL_mk, zP_mk, zK_mk, zN_mk, zwI_up, zwL_up, zg_some, Nat.reduceMod, Nat.reduceDiv, zcn_I, iI_add, iI_sub, iI_mul, iI_neg, iI_lt, iI_le, iI_eq, iI_lt0, iI_le0, iI_gt0, iI_ge0, iI_eq0]
      rfl
theorem runs_lp {l : List Nat} (hd : 1 ≤ d) (hW : WL w R) (hl : lR w I l) (hn : l.length ≤ 120) (h8 : ∀ t, t ∈ l → t < 8) (hQ : Q (.inl (some (zi (iI (ct (rn l) l.length : Nat))))) (I, L, R)) :
    ∀ n i, i + n = l.length → ∀ (r x : Int32), r = iI (ct (rn l) i : Nat) → x = iI (i : Int) → zW 96 d 0 0 4 [some (zr (some w)), some (zi r), some (zi x)] [] (I, L, R) Q
  | 0, i, hi, r, x, e1, e2 => by
    subst e1; subst e2
    obtain rfl : i = l.length := by omega
    have hW' := hW
    obtain ⟨k0, p0, p1, p2, p3, p4, k1, k2, k3, k4, k5⟩ := hW'
    have l1 := hl.1
    refine zW.gbt [] rfl rfl rfl hd ?_ ?_ (zW.gr [] rfl rfl rfl hd trivial trivial hQ)
    · exact (by simp (disch := omega) only [true_or, or_true, eq_self, Option.some.injEq, Prod.mk.injEq, zall_0, zall_1, zall_2, zob_iff, zar_iff, zis_iff, zkIs_some, zkHas_some, iI_vp, z01_I, z01_bz, zch_I, true_and, and_true, or_false, false_or, and_self, upI_same, upL_same, upI_ne, upL_ne, iI_ixN, zI_mk, zL_mk, zP_mk, zK_mk, zN_mk, zwI_up, zwL_up, zg_some, Nat.reduceMod, Nat.reduceDiv, zcn_I, iI_add, iI_sub, iI_mul, iI_neg, iI_lt, iI_le, iI_eq, iI_lt0, iI_le0, iI_gt0, iI_ge0, iI_eq0, k0] <;> omega)
    · exact (by simp (disch := omega) only [eq_self, not_true_eq_false, not_false_eq_true, upI_same, upL_same, upI_ne, upL_ne, iI_ixN, zI_mk, zL_mk, zP_mk, zK_mk, zN_mk, zwI_up, zwL_up, zg_some, Nat.reduceMod, Nat.reduceDiv, zcn_I, iI_add, iI_sub, iI_mul, iI_neg, iI_lt, iI_le, iI_eq, iI_lt0, iI_le0, iI_gt0, iI_ge0, iI_eq0, l1] <;> omega)
  | n + 1, i, hi, r, x, e1, e2 => by
    subst e1; subst e2
    have hW' := hW
    obtain ⟨k0, p0, p1, p2, p3, p4, k1, k2, k3, k4, k5⟩ := hW'
    have l1 := hl.1
    have hil : i < l.length := by omega
    have hrd := hl.2 i hil
    have ht8 := h8 _ (nth_mem hil)
    have hh1 := hf_I _ ht8
    refine zW.gbf [] rfl rfl rfl hd ?_ ?_ (zW.gbf [] rfl rfl rfl hd trivial ?_ ?_)
    · exact (by simp (disch := omega) only [true_or, or_true, eq_self, Option.some.injEq, Prod.mk.injEq, zall_0, zall_1, zall_2, zob_iff, zar_iff, zis_iff, zkIs_some, zkHas_some, iI_vp, z01_I, z01_bz, zch_I, true_and, and_true, or_false, false_or, and_self, upI_same, upL_same, upI_ne, upL_ne, iI_ixN, zI_mk, zL_mk, zP_mk, zK_mk, zN_mk, zwI_up, zwL_up, zg_some, Nat.reduceMod, Nat.reduceDiv, zcn_I, iI_add, iI_sub, iI_mul, iI_neg, iI_lt, iI_le, iI_eq, iI_lt0, iI_le0, iI_gt0, iI_ge0, iI_eq0, k0] <;> omega)
    · exact (by simp (disch := omega) only [eq_self, not_true_eq_false, not_false_eq_true, upI_same, upL_same, upI_ne, upL_ne, iI_ixN, zI_mk, zL_mk, zP_mk, zK_mk, zN_mk, zwI_up, zwL_up, zg_some, Nat.reduceMod, Nat.reduceDiv, zcn_I, iI_add, iI_sub, iI_mul, iI_neg, iI_lt, iI_le, iI_eq, iI_lt0, iI_le0, iI_gt0, iI_ge0, iI_eq0, l1] <;> omega)
    · exact (by simp (disch := omega) only [eq_self, not_true_eq_false, not_false_eq_true, upI_same, upL_same, upI_ne, upL_ne, iI_ixN, zI_mk, zL_mk, zP_mk, zK_mk, zN_mk, zwI_up, zwL_up, zg_some, Nat.reduceMod, Nat.reduceDiv, zcn_I, iI_add, iI_sub, iI_mul, iI_neg, iI_lt, iI_le, iI_eq, iI_lt0, iI_le0, iI_gt0, iI_ge0, iI_eq0] <;> omega)
    · by_cases c0 : i = 0
      · subst c0
        refine zW.gbt [] rfl rfl rfl hd trivial ?_ (zW.go [4] rfl hd trivial ?_)
        · exact (by simp (disch := omega) only [eq_self, not_true_eq_false, not_false_eq_true, upI_same, upL_same, upI_ne, upL_ne, iI_ixN, zI_mk, zL_mk, zP_mk, zK_mk, zN_mk, zwI_up, zwL_up, zg_some, Nat.reduceMod, Nat.reduceDiv, zcn_I, iI_add, iI_sub, iI_mul, iI_neg, iI_lt, iI_le, iI_eq, iI_lt0, iI_le0, iI_gt0, iI_ge0, iI_eq0] <;> omega)
        · refine runs_lp hd hW hl hn h8 hQ n 1 (by omega) _ _ ?_ ?_
          · rw [zcn_I, iI_add]
            rfl
          · exact (by simp (disch := omega) only [eq_self, not_true_eq_false, not_false_eq_true, upI_same, upL_same, upI_ne, upL_ne, iI_ixN, zI_mk, zL_mk, zP_mk, zK_mk, zN_mk, zwI_up, zwL_up, zg_some, Nat.reduceMod, Nat.reduceDiv, zcn_I, iI_add, iI_sub, iI_mul, iI_neg, iI_lt, iI_le, iI_eq, iI_lt0, iI_le0, iI_gt0, iI_ge0, iI_eq0] <;> omega)
      · have hrd2 := hl.2 (i - 1) (by omega)
        have ht82 := h8 _ (nth_mem (show i - 1 < l.length by omega))
        have hh2 := hf_I _ ht82
        have e1 : (i : Int) - 1 = ((i - 1 : Nat) : Int) := by omega
        refine zW.gbf [] rfl rfl rfl hd trivial ?_ (zW.gb [] rfl rfl rfl hd ?_ (fun h => ?_) (fun h => ?_))
        · exact (by simp (disch := omega) only [eq_self, not_true_eq_false, not_false_eq_true, upI_same, upL_same, upI_ne, upL_ne, iI_ixN, zI_mk, zL_mk, zP_mk, zK_mk, zN_mk, zwI_up, zwL_up, zg_some, Nat.reduceMod, Nat.reduceDiv, zcn_I, iI_add, iI_sub, iI_mul, iI_neg, iI_lt, iI_le, iI_eq, iI_lt0, iI_le0, iI_gt0, iI_ge0, iI_eq0] <;> omega)
        · simp (disch := omega) only [upI_same, upL_same, upI_ne, upL_ne, iI_ixN, zI_mk, zL_mk, zP_mk, zK_mk, zN_mk, zwI_up, zwL_up, zg_some, Nat.reduceMod, Nat.reduceDiv, zcn_I, iI_add, iI_sub, iI_mul, iI_neg, iI_lt, iI_le, iI_eq, iI_lt0, iI_le0, iI_gt0, iI_ge0, iI_eq0, e1]
          exact (by simp (disch := omega) only [true_or, or_true, eq_self, Option.some.injEq, Prod.mk.injEq, zall_0, zall_1, zall_2, zob_iff, zar_iff, zis_iff, zkIs_some, zkHas_some, iI_vp, z01_I, z01_bz, zch_I, true_and, and_true, or_false, false_or, and_self, upI_same, upL_same, upI_ne, upL_ne, iI_ixN, zI_mk, zL_mk, zP_mk, zK_mk, zN_mk, zwI_up, zwL_up, zg_some, Nat.reduceMod, Nat.reduceDiv, zcn_I, iI_add, iI_sub, iI_mul, iI_neg, iI_lt, iI_le, iI_eq, iI_lt0, iI_le0, iI_gt0, iI_ge0, iI_eq0, k0, p1, k2] <;> omega)
        · simp (disch := omega) only [upI_same, upL_same, upI_ne, upL_ne, iI_ixN, zI_mk, zL_mk, zP_mk, zK_mk, zN_mk, zwI_up, zwL_up, zg_some, Nat.reduceMod, Nat.reduceDiv, zcn_I, iI_sub, e1, p1, hrd, hrd2, hh1, hh2] at h
          rw [iI_eq (by omega) (by omega) (by omega) (by omega)] at h
          refine zW.go [4] rfl hd trivial ?_
          refine runs_lp hd hW hl hn h8 hQ n (i + 1) (by omega) _ _ ?_ ?_
          · have b : rn l i = false := by
              have : nth l i / 2 = nth l (i - 1) / 2 := by omega
              simp [rn, c0, this]
            rw [zcn_I, iI_add, ct, b]
            rfl
          · exact (by simp (disch := omega) only [eq_self, not_true_eq_false, not_false_eq_true, upI_same, upL_same, upI_ne, upL_ne, iI_ixN, zI_mk, zL_mk, zP_mk, zK_mk, zN_mk, zwI_up, zwL_up, zg_some, Nat.reduceMod, Nat.reduceDiv, zcn_I, iI_add, iI_sub, iI_mul, iI_neg, iI_lt, iI_le, iI_eq, iI_lt0, iI_le0, iI_gt0, iI_ge0, iI_eq0] <;> omega)
        · simp (disch := omega) only [upI_same, upL_same, upI_ne, upL_ne, iI_ixN, zI_mk, zL_mk, zP_mk, zK_mk, zN_mk, zwI_up, zwL_up, zg_some, Nat.reduceMod, Nat.reduceDiv, zcn_I, iI_sub, e1, p1, hrd, hrd2, hh1, hh2] at h
          rw [iI_eq (by omega) (by omega) (by omega) (by omega)] at h
          refine zW.go [4] rfl hd trivial ?_
          refine runs_lp hd hW hl hn h8 hQ n (i + 1) (by omega) _ _ ?_ ?_
          · have b : rn l i = true := by
              have : nth l i / 2 ≠ nth l (i - 1) / 2 := by omega
              simp [rn, this]
            rw [zcn_I, iI_add, ct, b]
            rfl
          · exact (by simp (disch := omega) only [eq_self, not_true_eq_false, not_false_eq_true, upI_same, upL_same, upI_ne, upL_ne, iI_ixN, zI_mk, zL_mk, zP_mk, zK_mk, zN_mk, zwI_up, zwL_up, zg_some, Nat.reduceMod, Nat.reduceDiv, zcn_I, iI_add, iI_sub, iI_mul, iI_neg, iI_lt, iI_le, iI_eq, iI_lt0, iI_le0, iI_gt0, iI_ge0, iI_eq0] <;> omega)
theorem runs_ok {l : List Nat} (hd : 1 ≤ d) (hW : WL w R) (hl : lR w I l) (hn : l.length ≤ 120) (h8 : ∀ t, t ∈ l → t < 8) (hQ : Q (.inl (some (zi (iI (ct (rn l) l.length : Nat))))) (I, L, R)) : zS 96 d [zr (some w)] (I, L, R) Q := by
  refine zW.go [4] rfl hd trivial ?_
  exact runs_lp hd hW hl hn h8 hQ l.length 0 (by omega) _ _ rfl rfl
theorem rings_lp {l : List Nat} (hd : 1 ≤ d) (hW : WL w R) (hl : lR w I l) (hn : l.length ≤ 120) (h8 : ∀ t, t ∈ l → t < 8) (hQ : ∀ r, r ≤ 4 → (∀ k, r ≤ k ↔ ∀ t, t ∈ l → t / 2 < k) → Q (.inl (some (zi (iI (r : Nat))))) (I, L, R)) :
    ∀ n i, i + n = l.length → ∀ (r : Nat) (y x : Int32), r ≤ 4 → (∀ k, r ≤ k ↔ ∀ j, j < i → nth l j / 2 < k) → y = iI (r : Int) → x = iI (i : Int) → zW 97 d 0 0 4 [some (zr (some w)), some (zi y), some (zi x)] [] (I, L, R) Q
  | 0, i, hi, r, y, x, hr4, hr, e1, e2 => by
    subst e1; subst e2
    obtain rfl : i = l.length := by omega
    have hW' := hW
    obtain ⟨k0, p0, p1, p2, p3, p4, k1, k2, k3, k4, k5⟩ := hW'
    have l1 := hl.1
    refine zW.gbt [] rfl rfl rfl hd ?_ ?_ (zW.gr [] rfl rfl rfl hd trivial trivial (hQ r hr4 fun k => (hr k).trans ⟨fun h t ht => ?_, fun h j hj => h _ (nth_mem hj)⟩))
    · exact (by simp (disch := omega) only [true_or, or_true, eq_self, Option.some.injEq, Prod.mk.injEq, zall_0, zall_1, zall_2, zob_iff, zar_iff, zis_iff, zkIs_some, zkHas_some, iI_vp, z01_I, z01_bz, zch_I, true_and, and_true, or_false, false_or, and_self, upI_same, upL_same, upI_ne, upL_ne, iI_ixN, zI_mk, zL_mk, zP_mk, zK_mk, zN_mk, zwI_up, zwL_up, zg_some, Nat.reduceMod, Nat.reduceDiv, zcn_I, iI_add, iI_sub, iI_mul, iI_neg, iI_lt, iI_le, iI_eq, iI_lt0, iI_le0, iI_gt0, iI_ge0, iI_eq0, k0] <;> omega)
    · exact (by simp (disch := omega) only [eq_self, not_true_eq_false, not_false_eq_true, upI_same, upL_same, upI_ne, upL_ne, iI_ixN, zI_mk, zL_mk, zP_mk, zK_mk, zN_mk, zwI_up, zwL_up, zg_some, Nat.reduceMod, Nat.reduceDiv, zcn_I, iI_add, iI_sub, iI_mul, iI_neg, iI_lt, iI_le, iI_eq, iI_lt0, iI_le0, iI_gt0, iI_ge0, iI_eq0, l1] <;> omega)
    · obtain ⟨j, hj, rfl⟩ := List.getElem_of_mem ht
      have := h j hj
      unfold nth at this
      rwa [List.getElem?_eq_getElem hj] at this
  | n + 1, i, hi, r, y, x, hr4, hr, e1, e2 => by
    subst e1; subst e2
    have hW' := hW
    obtain ⟨k0, p0, p1, p2, p3, p4, k1, k2, k3, k4, k5⟩ := hW'
    have l1 := hl.1
    have hil : i < l.length := by omega
    have hrd := hl.2 i hil
    have ht8 := h8 _ (nth_mem hil)
    have hh1 := hf_I _ ht8
    refine zW.gbf [] rfl rfl rfl hd ?_ ?_ (zW.gbf [] rfl rfl rfl hd trivial ?_ (zW.go [4] rfl hd ?_ ?_))
    · exact (by simp (disch := omega) only [true_or, or_true, eq_self, Option.some.injEq, Prod.mk.injEq, zall_0, zall_1, zall_2, zob_iff, zar_iff, zis_iff, zkIs_some, zkHas_some, iI_vp, z01_I, z01_bz, zch_I, true_and, and_true, or_false, false_or, and_self, upI_same, upL_same, upI_ne, upL_ne, iI_ixN, zI_mk, zL_mk, zP_mk, zK_mk, zN_mk, zwI_up, zwL_up, zg_some, Nat.reduceMod, Nat.reduceDiv, zcn_I, iI_add, iI_sub, iI_mul, iI_neg, iI_lt, iI_le, iI_eq, iI_lt0, iI_le0, iI_gt0, iI_ge0, iI_eq0, k0] <;> omega)
    · exact (by simp (disch := omega) only [eq_self, not_true_eq_false, not_false_eq_true, upI_same, upL_same, upI_ne, upL_ne, iI_ixN, zI_mk, zL_mk, zP_mk, zK_mk, zN_mk, zwI_up, zwL_up, zg_some, Nat.reduceMod, Nat.reduceDiv, zcn_I, iI_add, iI_sub, iI_mul, iI_neg, iI_lt, iI_le, iI_eq, iI_lt0, iI_le0, iI_gt0, iI_ge0, iI_eq0, l1] <;> omega)
    · exact (by simp (disch := omega) only [eq_self, not_true_eq_false, not_false_eq_true, upI_same, upL_same, upI_ne, upL_ne, iI_ixN, zI_mk, zL_mk, zP_mk, zK_mk, zN_mk, zwI_up, zwL_up, zg_some, Nat.reduceMod, Nat.reduceDiv, zcn_I, iI_add, iI_sub, iI_mul, iI_neg, iI_lt, iI_le, iI_eq, iI_lt0, iI_le0, iI_gt0, iI_ge0, iI_eq0] <;> omega)
    · exact (by simp (disch := omega) only [true_or, or_true, eq_self, Option.some.injEq, Prod.mk.injEq, zall_0, zall_1, zall_2, zob_iff, zar_iff, zis_iff, zkIs_some, zkHas_some, iI_vp, z01_I, z01_bz, zch_I, true_and, and_true, or_false, false_or, and_self, upI_same, upL_same, upI_ne, upL_ne, iI_ixN, zI_mk, zL_mk, zP_mk, zK_mk, zN_mk, zwI_up, zwL_up, zg_some, Nat.reduceMod, Nat.reduceDiv, zcn_I, iI_add, iI_sub, iI_mul, iI_neg, iI_lt, iI_le, iI_eq, iI_lt0, iI_le0, iI_gt0, iI_ge0, iI_eq0, k0, p1, k2] <;> omega)
    · simp (disch := omega) only [upI_same, upL_same, upI_ne, upL_ne, iI_ixN, zI_mk, zL_mk, zP_mk, zK_mk, zN_mk, zwI_up, zwL_up, zg_some, Nat.reduceMod, Nat.reduceDiv, zcn_I, iI_add, p1, hrd, hh1, iI_max]
      refine rings_lp hd hW hl hn h8 hQ n (i + 1) (by omega) (if r < nth l i / 2 + 1 then nth l i / 2 + 1 else r) _ _ ?_ (fun k => ⟨fun h j hj => ?_, fun h => ?_⟩) ?_ ?_
      · split <;> omega
      · by_cases e : j = i
        · subst e
          split at h <;> omega
        · exact (hr k).mp (by split at h <;> omega) j (by omega)
      · have a1 := (hr k).mpr fun j hj => h j (by omega)
        have a2 := h i (by omega)
        split <;> omega
      · refine iI_cg ?_
        split <;> split <;> omega
      · exact (by simp (disch := omega) only [eq_self, not_true_eq_false, not_false_eq_true, upI_same, upL_same, upI_ne, upL_ne, iI_ixN, zI_mk, zL_mk, zP_mk, zK_mk, zN_mk, zwI_up, zwL_up, zg_some, Nat.reduceMod, Nat.reduceDiv, zcn_I, iI_add, iI_sub, iI_mul, iI_neg, iI_lt, iI_le, iI_eq, iI_lt0, iI_le0, iI_gt0, iI_ge0, iI_eq0] <;> omega)
theorem rings_ok {l : List Nat} (hd : 1 ≤ d) (hW : WL w R) (hl : lR w I l) (hn : l.length ≤ 120) (h8 : ∀ t, t ∈ l → t < 8) (hQ : ∀ r, r ≤ 4 → (∀ k, r ≤ k ↔ ∀ t, t ∈ l → t / 2 < k) → Q (.inl (some (zi (iI (r : Nat))))) (I, L, R)) : zS 97 d [zr (some w)] (I, L, R) Q := by
  refine zW.go [4] rfl hd trivial ?_
  exact rings_lp hd hW hl hn h8 hQ l.length 0 (by omega) 0 _ _ (by decide) (fun k => ⟨fun _ j hj => absurd hj (Nat.not_lt_zero j), fun _ => Nat.zero_le k⟩) rfl rfl
def isg (n : Int) : Prop := n = 45 ∨ n = 60 ∨ n = 62 ∨ n = 91 ∨ n = 124 ∨ n = 93 ∨ (65 ≤ n ∧ n ≤ 68) ∨ (50 ≤ n ∧ n ≤ 57)
theorem isSign_ok {n : Int} {x : Int32} {M : zM} (hd : 2 ≤ d) (e : x = iI n) (h0 : 0 ≤ n) (h1 : n < 65536) (t : isg n → Q (.inl (some (zi (iI 1)))) M) (f : ¬ isg n → Q (.inl (some (zi (iI 0)))) M) : zS 82 d [zi x] M Q := by
  subst e
  have T : isg n → ∀ v, zW 82 d 0 0 36 [some (zi (iI n)), v] [] M Q := by
    intro g v
    refine zW.gbt [] rfl rfl rfl (by omega) trivial ?_ (zW.gr [] rfl rfl rfl (by omega) trivial z01c1 ?_)
    · exact (by simp (disch := omega) only [eq_self, not_true_eq_false, not_false_eq_true, upI_same, upL_same, upI_ne, upL_ne, iI_ixN, zI_mk, zL_mk, zP_mk, zK_mk, zN_mk, zwI_up, zwL_up, zg_some, Nat.reduceMod, Nat.reduceDiv, zcn_I, iI_add, iI_sub, iI_mul, iI_neg, iI_lt, iI_le, iI_eq, iI_lt0, iI_le0, iI_gt0, iI_ge0, iI_eq0] <;> omega)
    · rw [zcn_I]
      exact t g
  unfold isg at t f T
  refine zW.gb [] rfl rfl rfl (by omega) trivial (fun h => T (by simp (disch := omega) only [upI_same, upL_same, upI_ne, upL_ne, iI_ixN, zI_mk, zL_mk, zP_mk, zK_mk, zN_mk, zwI_up, zwL_up, zg_some, Nat.reduceMod, Nat.reduceDiv, zcn_I, iI_add, iI_sub, iI_mul, iI_neg, iI_lt, iI_le, iI_eq, iI_lt0, iI_le0, iI_gt0, iI_ge0, iI_eq0] at h; omega) _) (fun h => ?_)
  refine zW.gb [] rfl rfl rfl (by omega) trivial (fun h' => T (by simp (disch := omega) only [zcn_I, iI_add, iI_sub, iI_mul, iI_neg, iI_lt, iI_le, iI_eq, iI_lt0, iI_le0, iI_gt0, iI_ge0, iI_eq0] at h'; omega) _) (fun h' => ?_)
  refine zW.gb [] rfl rfl rfl (by omega) trivial (fun h2 => T (by simp (disch := omega) only [zcn_I, iI_add, iI_sub, iI_mul, iI_neg, iI_lt, iI_le, iI_eq, iI_lt0, iI_le0, iI_gt0, iI_ge0, iI_eq0] at h2; omega) _) (fun h2 => ?_)
  refine zW.gb [] rfl rfl rfl (by omega) trivial (fun h3 => T (by simp (disch := omega) only [zcn_I, iI_add, iI_sub, iI_mul, iI_neg, iI_lt, iI_le, iI_eq, iI_lt0, iI_le0, iI_gt0, iI_ge0, iI_eq0] at h3; omega) _) (fun h3 => ?_)
  refine zW.gb [] rfl rfl rfl (by omega) trivial (fun h4 => T (by simp (disch := omega) only [zcn_I, iI_add, iI_sub, iI_mul, iI_neg, iI_lt, iI_le, iI_eq, iI_lt0, iI_le0, iI_gt0, iI_ge0, iI_eq0] at h4; omega) _) (fun h4 => ?_)
  refine zW.gb [] rfl rfl rfl (by omega) trivial (fun h5 => ?_) (fun h5 => T (by simp (disch := omega) only [zcn_I, iI_add, iI_sub, iI_mul, iI_neg, iI_lt, iI_le, iI_eq, iI_lt0, iI_le0, iI_gt0, iI_ge0, iI_eq0] at h5; omega) _)
  simp (disch := omega) only [zcn_I, iI_add, iI_sub, iI_mul, iI_neg, iI_lt, iI_le, iI_eq, iI_lt0, iI_le0, iI_gt0, iI_ge0, iI_eq0] at h h' h2 h3 h4 h5
  refine zW.gbf [] rfl rfl rfl (by omega) trivial ?_ (zW.gz [] rfl rfl rfl (by omega) trivial trivial rfl rfl (Nat.le_refl _) (Nat.le_refl _) ?_)
  · exact (by simp (disch := omega) only [eq_self, not_true_eq_false, not_false_eq_true, upI_same, upL_same, upI_ne, upL_ne, iI_ixN, zI_mk, zL_mk, zP_mk, zK_mk, zN_mk, zwI_up, zwL_up, zg_some, Nat.reduceMod, Nat.reduceDiv, zcn_I, iI_add, iI_sub, iI_mul, iI_neg, iI_lt, iI_le, iI_eq, iI_lt0, iI_le0, iI_gt0, iI_ge0, iI_eq0] <;> omega)
  · refine isLetter_ok (n := n) (by omega) rfl h0 h1 (fun g => ?_) (fun g => ?_)
    · refine zW.gbt [] rfl rfl rfl (by omega) trivial ?_ (zW.gr [] rfl rfl rfl (by omega) trivial z01c1 ?_)
      · exact (by simp (disch := omega) only [eq_self, not_true_eq_false, not_false_eq_true, upI_same, upL_same, upI_ne, upL_ne, iI_ixN, zI_mk, zL_mk, zP_mk, zK_mk, zN_mk, zwI_up, zwL_up, zg_some, Nat.reduceMod, Nat.reduceDiv, zcn_I, iI_add, iI_sub, iI_mul, iI_neg, iI_lt, iI_le, iI_eq, iI_lt0, iI_le0, iI_gt0, iI_ge0, iI_eq0] <;> omega)
      · rw [zcn_I]
        exact t (by omega)
    · refine zW.gbf [] rfl rfl rfl (by omega) trivial ?_ (zW.gz [] rfl rfl rfl (by omega) trivial trivial rfl rfl (Nat.le_refl _) (Nat.le_refl _) ?_)
      · exact (by simp (disch := omega) only [eq_self, not_true_eq_false, not_false_eq_true, upI_same, upL_same, upI_ne, upL_ne, iI_ixN, zI_mk, zL_mk, zP_mk, zK_mk, zN_mk, zwI_up, zwL_up, zg_some, Nat.reduceMod, Nat.reduceDiv, zcn_I, iI_add, iI_sub, iI_mul, iI_neg, iI_lt, iI_le, iI_eq, iI_lt0, iI_le0, iI_gt0, iI_ge0, iI_eq0] <;> omega)
      · refine isDigit_ok (n := n) (by omega) rfl h0 h1 (fun g2 => ?_) (fun g2 => ?_)
        · refine zW.gbf [] rfl rfl rfl (by omega) trivial ?_ (zW.gr [] rfl rfl rfl (by omega) trivial z01c1 ?_)
          · exact (by simp (disch := omega) only [eq_self, not_true_eq_false, not_false_eq_true, upI_same, upL_same, upI_ne, upL_ne, iI_ixN, zI_mk, zL_mk, zP_mk, zK_mk, zN_mk, zwI_up, zwL_up, zg_some, Nat.reduceMod, Nat.reduceDiv, zcn_I, iI_add, iI_sub, iI_mul, iI_neg, iI_lt, iI_le, iI_eq, iI_lt0, iI_le0, iI_gt0, iI_ge0, iI_eq0] <;> omega)
          · rw [zcn_I]
            exact t (by omega)
        · refine zW.gbt [] rfl rfl rfl (by omega) trivial ?_ (zW.gr [] rfl rfl rfl (by omega) trivial z01c0 ?_)
          · exact (by simp (disch := omega) only [eq_self, not_true_eq_false, not_false_eq_true, upI_same, upL_same, upI_ne, upL_ne, iI_ixN, zI_mk, zL_mk, zP_mk, zK_mk, zN_mk, zwI_up, zwL_up, zg_some, Nat.reduceMod, Nat.reduceDiv, zcn_I, iI_add, iI_sub, iI_mul, iI_neg, iI_lt, iI_le, iI_eq, iI_lt0, iI_le0, iI_gt0, iI_ge0, iI_eq0] <;> omega)
          · rw [zcn_I]
            exact f (by omega)
end WORD5
