/-! The class's own rows. -/
section TOWN
variable {d x z : Nat} {pb rb : Nat → Nat} {T : tfT} {I : Nat → Nat → Int32} {L : Nat → Nat → Int64} {R : zRt} {Q : zO → zM → Prop}
theorem tf_slf {I' : Nat → Nat → Int32} {ty : List Nat} {u : List Nat × Nat × (Nat → Nat)} {dy : Nat} (h : tf x z pb rb T (I, L, R)) (f : ∀ a, ¬ (x ≤ a ∧ a < x + 17) → I' a = I a) (hO : tOK ((ty, T.1.2), u, T.2.2.1, T.2.2.2.1, dy)) (h1 : I' x 1 = iI (ty.length : Int) ∧ hl (I' (x + 1)) ty) (h3 : I' x 3 = I x 3) (hs : sgR (x + 3) I' u.1) (h7 : I' x 7 = iI (u.2.1 : Int) ∧ ∀ c, c < u.2.1 → I' (x + 15) c = iI (u.2.2 c : Int)) (h9 : I' x 9 = I x 9) (h10 : I' x 10 = iI (dy : Int)) : tf x z pb rb ((ty, T.1.2), u, T.2.2.1, T.2.2.2.1, dy) (I', L, R) ∧ tfr x z (I, L, R) (I', L, R) := by
  obtain ⟨k1, k2, k3, ⟨a1, a2⟩, ⟨b1, b2⟩, c, ⟨d1, d2⟩, ⟨e1, e2⟩, g⟩ := h
  have k3' := k3
  obtain ⟨l1, l2, l3, l4, l5⟩ := k3'
  refine ⟨⟨hO, k2, k3, h1, ⟨h3.trans b1, fun k hk => zPR_fr (b2 k hk) (fun a q1 q2 => f a (by have := (l3 k hk).1; omega)) (fun a q1 q2 => rfl)⟩, hs, h7, ⟨h9.trans e1, fun j hj => rPR_fr (e2 j hj) (fun a q1 q2 => f a (by have := (l4 j hj).1; omega))⟩, h10⟩, ⟨fun a q1 q2 => ⟨f a q2, rfl, rfl, rfl⟩, Nat.le_refl _⟩⟩
def oWipeP (T : tfT) : tRes := (0, ((tTy T).length : Int), (([], T.1.2), T.2.1, T.2.2.1, T.2.2.2.1, T.2.2.2.2))
theorem wipeP_ok (hd : 1 ≤ d) (h : tfx x z T (I, L, R)) (hQ : tP x z (I, L, R) (oWipeP T) [] eI Q) : zS 100 d [zr (some x)] (I, L, R) Q := by
  obtain ⟨pb, rb, hf⟩ := h
  have k0 := tf_k0 hf
  have hf' := hf
  obtain ⟨k1, k2, k3, ⟨a1, a2⟩, ⟨b1, b2⟩, c, ⟨d1, d2⟩, ⟨e1, e2⟩, g⟩ := hf'
  have a1' : I x 1 = iI ((tTy T).length : Int) := a1
  refine zW.gr [] rfl rfl rfl (by omega) (by simp (disch := omega) only [true_or, or_true, eq_self, Option.some.injEq, Prod.mk.injEq, zall_0, zall_1, zall_2, zob_iff, zar_iff, zis_iff, zkIs_some, zkHas_some, iI_vp, z01_I, z01_bz, zch_I, true_and, and_true, or_false, false_or, and_self, upI_same, upL_same, upI_ne, upL_ne, iI_ixN, zI_mk, zL_mk, zP_mk, zK_mk, zN_mk, zwI_up, zwL_up, zg_some, Nat.reduceMod, Nat.reduceDiv, zcn_I, iI_add, iI_sub, iI_mul, iI_neg, iI_lt, iI_le, iI_eq, iI_lt0, iI_le0, iI_gt0, iI_ge0, iI_eq0, k0] <;> omega) trivial ?_
  simp (disch := omega) only [upI_same, upL_same, upI_ne, upL_ne, iI_ixN, zI_mk, zL_mk, zP_mk, zK_mk, zN_mk, zwI_up, zwL_up, zg_some, Nat.reduceMod, Nat.reduceDiv, zcn_I, iI_add, iI_sub, iI_mul, iI_neg, iI_lt, iI_le, iI_eq, iI_lt0, iI_le0, iI_gt0, iI_ge0, iI_eq0, a1']
  have g' : I x 10 = iI (tDy T : Int) := g
  have c1 : I (x + 3) 5 = iI ((tSg T).length : Int) := c.2.1
  have c2 : hl (I (x + 3 + 1)) (tSg T) := c.2.2.1
  have d1' : I x 7 = iI (tCn T : Int) := d1
  have d2' : ∀ c, c < tCn T → I (x + 15) c = iI (tRg T c : Int) := d2
  obtain ⟨q1, q2⟩ := tf_slf (I' := upI I x 1 (iI 0)) (ty := []) (u := T.2.1) (dy := T.2.2.2.2) hf (fun a q => upI_row (by omega)) ⟨⟨Nat.zero_le _, fun i hi => absurd hi (Nat.not_lt_zero _), fun i j _ hj => absurd hj (Nat.not_lt_zero _)⟩, k1.2⟩ ⟨upI_same _ _ _ _, fun i hi => absurd hi (Nat.not_lt_zero _)⟩ (by simp (disch := omega) only [upI_same, upL_same, upI_ne, upL_ne, iI_ixN, zI_mk, zL_mk, zP_mk, zK_mk, zN_mk, zwI_up, zwL_up, zg_some, Nat.reduceMod, Nat.reduceDiv, zcn_I, iI_add, iI_sub, iI_mul, iI_neg, iI_lt, iI_le, iI_eq, iI_lt0, iI_le0, iI_gt0, iI_ge0, iI_eq0]) ⟨c.1, by simp (disch := omega) only [upI_same, upL_same, upI_ne, upL_ne, iI_ixN, zI_mk, zL_mk, zP_mk, zK_mk, zN_mk, zwI_up, zwL_up, zg_some, Nat.reduceMod, Nat.reduceDiv, zcn_I, iI_add, iI_sub, iI_mul, iI_neg, iI_lt, iI_le, iI_eq, iI_lt0, iI_le0, iI_gt0, iI_ge0, iI_eq0]; exact c1, fun i hi => by simp (disch := omega) only [upI_same, upL_same, upI_ne, upL_ne, iI_ixN, zI_mk, zL_mk, zP_mk, zK_mk, zN_mk, zwI_up, zwL_up, zg_some, Nat.reduceMod, Nat.reduceDiv, zcn_I, iI_add, iI_sub, iI_mul, iI_neg, iI_lt, iI_le, iI_eq, iI_lt0, iI_le0, iI_gt0, iI_ge0, iI_eq0]; exact c2 i hi, c.2.2.2⟩ ⟨by simp (disch := omega) only [upI_same, upL_same, upI_ne, upL_ne, iI_ixN, zI_mk, zL_mk, zP_mk, zK_mk, zN_mk, zwI_up, zwL_up, zg_some, Nat.reduceMod, Nat.reduceDiv, zcn_I, iI_add, iI_sub, iI_mul, iI_neg, iI_lt, iI_le, iI_eq, iI_lt0, iI_le0, iI_gt0, iI_ge0, iI_eq0]; exact d1', fun i hi => by simp (disch := omega) only [upI_same, upL_same, upI_ne, upL_ne, iI_ixN, zI_mk, zL_mk, zP_mk, zK_mk, zN_mk, zwI_up, zwL_up, zg_some, Nat.reduceMod, Nat.reduceDiv, zcn_I, iI_add, iI_sub, iI_mul, iI_neg, iI_lt, iI_le, iI_eq, iI_lt0, iI_le0, iI_gt0, iI_ge0, iI_eq0]; exact d2' i hi⟩ (by simp (disch := omega) only [upI_same, upL_same, upI_ne, upL_ne, iI_ixN, zI_mk, zL_mk, zP_mk, zK_mk, zN_mk, zwI_up, zwL_up, zg_some, Nat.reduceMod, Nat.reduceDiv, zcn_I, iI_add, iI_sub, iI_mul, iI_neg, iI_lt, iI_le, iI_eq, iI_lt0, iI_le0, iI_gt0, iI_ge0, iI_eq0]) (by simp (disch := omega) only [upI_same, upL_same, upI_ne, upL_ne, iI_ixN, zI_mk, zL_mk, zP_mk, zK_mk, zN_mk, zwI_up, zwL_up, zg_some, Nat.reduceMod, Nat.reduceDiv, zcn_I, iI_add, iI_sub, iI_mul, iI_neg, iI_lt, iI_le, iI_eq, iI_lt0, iI_le0, iI_gt0, iI_ge0, iI_eq0]; exact g')
  exact tP_0 hQ rfl ⟨_, _, q1⟩ q2
theorem own_ok (h : tf x z pb rb T (I, L, R)) : (I x 1 = iI ((tTy T).length : Int) ∧ hl (I (x + 1)) (tTy T)) ∧ (I x 7 = iI (tCn T : Int) ∧ ∀ c, c < tCn T → I (x + 15) c = iI (tRg T c : Int)) ∧ (I (x + 3) 5 = iI ((tSg T).length : Int) ∧ hl (I (x + 3 + 1)) (tSg T)) ∧ I x 10 = iI (tDy T : Int) := ⟨h.2.2.2.1, h.2.2.2.2.2.2.1, ⟨h.2.2.2.2.2.1.2.1, h.2.2.2.2.2.1.2.2.1⟩, h.2.2.2.2.2.2.2.2⟩
def oWipe (T : tfT) : tRes := (0, ((tSg T).length : Int), (T.1, ([], T.2.1.2), T.2.2.1, T.2.2.2.1, T.2.2.2.2))
theorem wipe_ok (hd : 1 ≤ d) (h : tfx x z T (I, L, R)) (hQ : tP x z (I, L, R) (oWipe T) [] eI Q) : zS 125 d [zr (some x)] (I, L, R) Q := by
  obtain ⟨pb, rb, hf⟩ := h
  obtain ⟨k0, p4, hW, hs⟩ := wd_ok hf
  have w0 := hW.1
  obtain ⟨⟨a1, a2⟩, ⟨b1, b2⟩, ⟨c1, c2⟩, g⟩ := own_ok hf
  have k1 := hf.1
  refine zW.gr [] rfl rfl rfl (by omega) (by simp (disch := omega) only [true_or, or_true, eq_self, Option.some.injEq, Prod.mk.injEq, zall_0, zall_1, zall_2, zob_iff, zar_iff, zis_iff, zkIs_some, zkHas_some, iI_vp, z01_I, z01_bz, zch_I, true_and, and_true, or_false, false_or, and_self, upI_same, upL_same, upI_ne, upL_ne, iI_ixN, zI_mk, zL_mk, zP_mk, zK_mk, zN_mk, zwI_up, zwL_up, zg_some, Nat.reduceMod, Nat.reduceDiv, zcn_I, iI_add, iI_sub, iI_mul, iI_neg, iI_lt, iI_le, iI_eq, iI_lt0, iI_le0, iI_gt0, iI_ge0, iI_eq0, k0, p4, w0] <;> omega) trivial ?_
  simp (disch := omega) only [upI_same, upL_same, upI_ne, upL_ne, iI_ixN, zI_mk, zL_mk, zP_mk, zK_mk, zN_mk, zwI_up, zwL_up, zg_some, Nat.reduceMod, Nat.reduceDiv, zcn_I, iI_add, iI_sub, iI_mul, iI_neg, iI_lt, iI_le, iI_eq, iI_lt0, iI_le0, iI_gt0, iI_ge0, iI_eq0, p4, c1]
  obtain ⟨q1, q2⟩ := tf_slf (I' := upI I (x + 3) 5 (iI 0)) (ty := tTy T) (u := ([], T.2.1.2)) (dy := T.2.2.2.2) hf (fun a q => upI_row (by omega)) ⟨k1.1, k1.2.1, ⟨Nat.zero_le _, fun c hc => by cases hc⟩, k1.2.2.2⟩ ⟨by simp (disch := omega) only [upI_same, upL_same, upI_ne, upL_ne, iI_ixN, zI_mk, zL_mk, zP_mk, zK_mk, zN_mk, zwI_up, zwL_up, zg_some, Nat.reduceMod, Nat.reduceDiv, zcn_I, iI_add, iI_sub, iI_mul, iI_neg, iI_lt, iI_le, iI_eq, iI_lt0, iI_le0, iI_gt0, iI_ge0, iI_eq0]; exact a1, fun i hi => by simp (disch := omega) only [upI_same, upL_same, upI_ne, upL_ne, iI_ixN, zI_mk, zL_mk, zP_mk, zK_mk, zN_mk, zwI_up, zwL_up, zg_some, Nat.reduceMod, Nat.reduceDiv, zcn_I, iI_add, iI_sub, iI_mul, iI_neg, iI_lt, iI_le, iI_eq, iI_lt0, iI_le0, iI_gt0, iI_ge0, iI_eq0]; exact a2 i hi⟩ (by simp (disch := omega) only [upI_same, upL_same, upI_ne, upL_ne, iI_ixN, zI_mk, zL_mk, zP_mk, zK_mk, zN_mk, zwI_up, zwL_up, zg_some, Nat.reduceMod, Nat.reduceDiv, zcn_I, iI_add, iI_sub, iI_mul, iI_neg, iI_lt, iI_le, iI_eq, iI_lt0, iI_le0, iI_gt0, iI_ge0, iI_eq0]) ⟨Nat.zero_le _, upI_same _ _ _ _, fun i hi => absurd hi (Nat.not_lt_zero _), fun c hc => by cases hc⟩ ⟨by simp (disch := omega) only [upI_same, upL_same, upI_ne, upL_ne, iI_ixN, zI_mk, zL_mk, zP_mk, zK_mk, zN_mk, zwI_up, zwL_up, zg_some, Nat.reduceMod, Nat.reduceDiv, zcn_I, iI_add, iI_sub, iI_mul, iI_neg, iI_lt, iI_le, iI_eq, iI_lt0, iI_le0, iI_gt0, iI_ge0, iI_eq0]; exact b1, fun i hi => by simp (disch := omega) only [upI_same, upL_same, upI_ne, upL_ne, iI_ixN, zI_mk, zL_mk, zP_mk, zK_mk, zN_mk, zwI_up, zwL_up, zg_some, Nat.reduceMod, Nat.reduceDiv, zcn_I, iI_add, iI_sub, iI_mul, iI_neg, iI_lt, iI_le, iI_eq, iI_lt0, iI_le0, iI_gt0, iI_ge0, iI_eq0]; exact b2 i hi⟩ (by simp (disch := omega) only [upI_same, upL_same, upI_ne, upL_ne, iI_ixN, zI_mk, zL_mk, zP_mk, zK_mk, zN_mk, zwI_up, zwL_up, zg_some, Nat.reduceMod, Nat.reduceDiv, zcn_I, iI_add, iI_sub, iI_mul, iI_neg, iI_lt, iI_le, iI_eq, iI_lt0, iI_le0, iI_gt0, iI_ge0, iI_eq0]) (by simp (disch := omega) only [upI_same, upL_same, upI_ne, upL_ne, iI_ixN, zI_mk, zL_mk, zP_mk, zK_mk, zN_mk, zwI_up, zwL_up, zg_some, Nat.reduceMod, Nat.reduceDiv, zcn_I, iI_add, iI_sub, iI_mul, iI_neg, iI_lt, iI_le, iI_eq, iI_lt0, iI_le0, iI_gt0, iI_ge0, iI_eq0]; exact g)
  exact tP_0 hQ rfl ⟨_, _, q1⟩ q2
def oComp (T : tfT) (v : Int) : tRes := if ¬ (0 ≤ v ∧ v ≤ 5) then (1, 0, T) else if ¬ tCn T < 12 then (2, 0, T) else (0, (tCn T : Int), (T.1, (tSg T, tCn T + 1, fun c => if c = tCn T then v.toNat else tRg T c), T.2.2.1, T.2.2.2.1, T.2.2.2.2))
theorem competitor_ok {v : Int} {a : Int32} (hd : 8 ≤ d) (h : tfx x z T (I, L, R)) (e1 : a = iI v) (h1 : i32 v) (hQ : tP x z (I, L, R) (oComp T v) [0, 2] eI Q) : zS 130 d [zr (some x), zi a] (I, L, R) Q := by
  subst e1
  have hT := h
  obtain ⟨pb, rb, hf⟩ := h
  have k0 := tf_k0 hf
  have p6 : R.1 x 6 = some (x + 15) := hf.2.1.1.2.2.2.2.2.1
  have k15 : R.2.1 (x + 15) = some (20, 12) := hf.2.1.1.2.2.2.2.2.2.2.2.2.2.2.1
  obtain ⟨⟨a1, a2⟩, ⟨b1, b2⟩, ⟨c1, c2⟩, g⟩ := own_ok hf
  have k1 := hf.1
  have hs := (wd_ok hf).2.2.2
  unfold oComp at hQ
  refine zW.gc [] rfl rfl rfl (by omega) trivial trivial (by decide +kernel) (by decide +kernel) ?_
  refine chkN_ok (by omega) rfl (zcn_I _) (zcn_I _) h1 ⟨by omega, by omega⟩ ⟨by omega, by omega⟩ (fun hb N hN => ?_) (fun g3 g4 => ?_)
  · exact tP_t hQ hT (if_pos hb) hN
  rw [if_neg (fun n => n ⟨g3, g4⟩)] at hQ
  have hc12 := k1.2.2.2.1.1
  refine zW.gb [] rfl rfl rfl (by omega) (by simp (disch := omega) only [true_or, or_true, eq_self, Option.some.injEq, Prod.mk.injEq, zall_0, zall_1, zall_2, zob_iff, zar_iff, zis_iff, zkIs_some, zkHas_some, iI_vp, z01_I, z01_bz, zch_I, true_and, and_true, or_false, false_or, and_self, upI_same, upL_same, upI_ne, upL_ne, iI_ixN, zI_mk, zL_mk, zP_mk, zK_mk, zN_mk, zwI_up, zwL_up, zg_some, Nat.reduceMod, Nat.reduceDiv, zcn_I, iI_add, iI_sub, iI_mul, iI_neg, iI_lt, iI_le, iI_eq, iI_lt0, iI_le0, iI_gt0, iI_ge0, iI_eq0, k0] <;> omega) (fun h' => ?_) (fun h' => ?_)
  · simp (disch := omega) only [zcn_I, iI_add, iI_sub, iI_mul, iI_neg, iI_lt, iI_le, iI_eq, iI_lt0, iI_le0, iI_gt0, iI_ge0, iI_eq0, upI_same, upL_same, upI_ne, upL_ne, iI_ixN, zI_mk, zL_mk, zP_mk, zK_mk, zN_mk, zwI_up, zwL_up, zg_some, Nat.reduceMod, Nat.reduceDiv, b1] at h'
    obtain ⟨j, rfl⟩ : ∃ j : Nat, v = j := ⟨v.toNat, by omega⟩
    rw [if_neg (by omega)] at hQ
    refine zW.gr [] rfl rfl rfl (by omega) (by simp (disch := omega) only [true_or, or_true, eq_self, Option.some.injEq, Prod.mk.injEq, zall_0, zall_1, zall_2, zob_iff, zar_iff, zis_iff, zkIs_some, zkHas_some, iI_vp, z01_I, z01_bz, zch_I, true_and, and_true, or_false, false_or, and_self, upI_same, upL_same, upI_ne, upL_ne, iI_ixN, zI_mk, zL_mk, zP_mk, zK_mk, zN_mk, zwI_up, zwL_up, zg_some, Nat.reduceMod, Nat.reduceDiv, zcn_I, iI_add, iI_sub, iI_mul, iI_neg, iI_lt, iI_le, iI_eq, iI_lt0, iI_le0, iI_gt0, iI_ge0, iI_eq0, k0, p6, k15, b1] <;> omega) trivial ?_
    simp (disch := omega) only [upI_same, upL_same, upI_ne, upL_ne, iI_ixN, zI_mk, zL_mk, zP_mk, zK_mk, zN_mk, zwI_up, zwL_up, zg_some, Nat.reduceMod, Nat.reduceDiv, zcn_I, iI_add, iI_sub, iI_mul, iI_neg, iI_lt, iI_le, iI_eq, iI_lt0, iI_le0, iI_gt0, iI_ge0, iI_eq0, p6, b1, iI_add, iI_sub, zcn_I]
    have hO2 : ∀ c, c < tCn T + 1 → (if c = tCn T then (j : Int).toNat else tRg T c) ≤ 5 := fun c hc => by
      split
      · omega
      · exact k1.2.2.2.1.2 c (by omega)
    have h7 : upI (upI I (x + 15) (tCn T) (iI (j : Int))) x 7 (iI ((tCn T : Int) + 1)) x 7 = iI ((tCn T + 1 : Nat) : Int) := by
      rw [upI_same]
      exact iI_cg (by omega)
    have hrg : ∀ i, i < tCn T + 1 → upI (upI I (x + 15) (tCn T) (iI (j : Int))) x 7 (iI ((tCn T : Int) + 1)) (x + 15) i = iI (((if i = tCn T then (j : Int).toNat else tRg T i) : Nat) : Int) := fun i hi => by
      by_cases q : i = tCn T
      · rw [if_pos q, q]
        simp (disch := omega) only [upI_same, upL_same, upI_ne, upL_ne, iI_ixN, zI_mk, zL_mk, zP_mk, zK_mk, zN_mk, zwI_up, zwL_up, zg_some, Nat.reduceMod, Nat.reduceDiv, zcn_I, iI_add, iI_sub, iI_mul, iI_neg, iI_lt, iI_le, iI_eq, iI_lt0, iI_le0, iI_gt0, iI_ge0, iI_eq0]
        rfl
      · rw [if_neg q]
        simp (disch := omega) only [upI_same, upL_same, upI_ne, upL_ne, iI_ixN, zI_mk, zL_mk, zP_mk, zK_mk, zN_mk, zwI_up, zwL_up, zg_some, Nat.reduceMod, Nat.reduceDiv, zcn_I, iI_add, iI_sub, iI_mul, iI_neg, iI_lt, iI_le, iI_eq, iI_lt0, iI_le0, iI_gt0, iI_ge0, iI_eq0]
        exact b2 i (by omega)
    have hw : ∀ k, upI (upI I (x + 15) (tCn T) (iI (j : Int))) x 7 (iI ((tCn T : Int) + 1)) (x + 3) k = I (x + 3) k := fun k => by simp (disch := omega) only [upI_same, upL_same, upI_ne, upL_ne, iI_ixN, zI_mk, zL_mk, zP_mk, zK_mk, zN_mk, zwI_up, zwL_up, zg_some, Nat.reduceMod, Nat.reduceDiv, zcn_I, iI_add, iI_sub, iI_mul, iI_neg, iI_lt, iI_le, iI_eq, iI_lt0, iI_le0, iI_gt0, iI_ge0, iI_eq0]
    obtain ⟨q1, q2⟩ := tf_slf (I' := upI (upI I (x + 15) (tCn T) (iI (j : Int))) x 7 (iI ((tCn T : Int) + 1))) (ty := tTy T) (u := (tSg T, tCn T + 1, fun c => if c = tCn T then (j : Int).toNat else tRg T c)) (dy := T.2.2.2.2) hf (fun a q => by rw [upI_row (by omega), upI_row (by omega)]) ⟨k1.1, k1.2.1, k1.2.2.1, ⟨by show tCn T + 1 ≤ 12; omega, hO2⟩, ⟨k1.2.2.2.2.1.1, fun k hk => ⟨(k1.2.2.2.2.1.2 k hk).1, fun c q1 q2 => (k1.2.2.2.2.1.2 k hk).2 c (Nat.le_of_succ_le q1) q2⟩⟩, k1.2.2.2.2.2⟩ ⟨by simp (disch := omega) only [upI_same, upL_same, upI_ne, upL_ne, iI_ixN, zI_mk, zL_mk, zP_mk, zK_mk, zN_mk, zwI_up, zwL_up, zg_some, Nat.reduceMod, Nat.reduceDiv, zcn_I, iI_add, iI_sub, iI_mul, iI_neg, iI_lt, iI_le, iI_eq, iI_lt0, iI_le0, iI_gt0, iI_ge0, iI_eq0]; exact a1, fun i hi => by simp (disch := omega) only [upI_same, upL_same, upI_ne, upL_ne, iI_ixN, zI_mk, zL_mk, zP_mk, zK_mk, zN_mk, zwI_up, zwL_up, zg_some, Nat.reduceMod, Nat.reduceDiv, zcn_I, iI_add, iI_sub, iI_mul, iI_neg, iI_lt, iI_le, iI_eq, iI_lt0, iI_le0, iI_gt0, iI_ge0, iI_eq0]; exact a2 i hi⟩ (by simp (disch := omega) only [upI_same, upL_same, upI_ne, upL_ne, iI_ixN, zI_mk, zL_mk, zP_mk, zK_mk, zN_mk, zwI_up, zwL_up, zg_some, Nat.reduceMod, Nat.reduceDiv, zcn_I, iI_add, iI_sub, iI_mul, iI_neg, iI_lt, iI_le, iI_eq, iI_lt0, iI_le0, iI_gt0, iI_ge0, iI_eq0]) ⟨hs.1, (hw 5).trans hs.2.1, fun i hi => by simp (disch := omega) only [upI_same, upL_same, upI_ne, upL_ne, iI_ixN, zI_mk, zL_mk, zP_mk, zK_mk, zN_mk, zwI_up, zwL_up, zg_some, Nat.reduceMod, Nat.reduceDiv, zcn_I, iI_add, iI_sub, iI_mul, iI_neg, iI_lt, iI_le, iI_eq, iI_lt0, iI_le0, iI_gt0, iI_ge0, iI_eq0]; exact c2 i hi, hs.2.2.2⟩ ⟨h7, hrg⟩ (by simp (disch := omega) only [upI_same, upL_same, upI_ne, upL_ne, iI_ixN, zI_mk, zL_mk, zP_mk, zK_mk, zN_mk, zwI_up, zwL_up, zg_some, Nat.reduceMod, Nat.reduceDiv, zcn_I, iI_add, iI_sub, iI_mul, iI_neg, iI_lt, iI_le, iI_eq, iI_lt0, iI_le0, iI_gt0, iI_ge0, iI_eq0]) (by simp (disch := omega) only [upI_same, upL_same, upI_ne, upL_ne, iI_ixN, zI_mk, zL_mk, zP_mk, zK_mk, zN_mk, zwI_up, zwL_up, zg_some, Nat.reduceMod, Nat.reduceDiv, zcn_I, iI_add, iI_sub, iI_mul, iI_neg, iI_lt, iI_le, iI_eq, iI_lt0, iI_le0, iI_gt0, iI_ge0, iI_eq0]; exact g)
    rw [show iI ((tCn T : Int) + 1 - 1) = iI (tCn T : Int) from iI_cg (by omega)]
    exact tP_0 hQ rfl ⟨_, _, q1⟩ q2
  · simp (disch := omega) only [zcn_I, iI_add, iI_sub, iI_mul, iI_neg, iI_lt, iI_le, iI_eq, iI_lt0, iI_le0, iI_gt0, iI_ge0, iI_eq0, upI_same, upL_same, upI_ne, upL_ne, iI_ixN, zI_mk, zL_mk, zP_mk, zK_mk, zN_mk, zwI_up, zwL_up, zg_some, Nat.reduceMod, Nat.reduceDiv, b1] at h'
    refine zW.gt [] rfl rfl rfl (by decide +kernel) (by omega) trivial (by decide +kernel) (by decide +kernel) rfl (fun N hN => ?_)
    exact tP_t hQ hT (if_pos (by omega)) hN
end TOWN
