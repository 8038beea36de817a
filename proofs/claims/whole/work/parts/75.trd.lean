/-! The class's questions on rounds. -/
section TRD
variable {d x z : Nat} {pb rb : Nat → Nat} {T : tfT} {I : Nat → Nat → Int32} {L : Nat → Nat → Int64} {R : zRt} {Q : zO → zM → Prop}
abbrev noR (T : tfT) (p : Int) : Prop := ¬ (0 ≤ p ∧ p < tRn T)
theorem noR_no {i : Nat} (h : i < tRn T) : ¬ noR T (i : Int) := fun g => g ⟨by omega, by omega⟩
def onR (T : tfT) (p : Int) (f : Nat → tRes) : tRes := if noR T p then (1, 0, T) else f p.toNat
theorem onR_i {f : Nat → tRes} {i : Nat} (h : i < tRn T) : onR T (i : Int) f = f i := if_neg (noR_no h)
def onC (T : tfT) (p c : Int) (f : Nat → Nat → tRes) : tRes := onR T p fun j => if ¬ (0 ≤ c ∧ c < tCn T) then (1, 0, T) else f j c.toNat
theorem tf_rd {i : Nat} (h : tf x z pb rb T (I, L, R)) (hi : i < tRn T) : RLy (rb i) R ∧ rOK (tRd T i) ∧ (∀ c, tCn T ≤ c → c < 12 → rMa (tRd T i) c = 0) ∧ rPR (rb i) I (tRd T i) := ⟨(h.2.1.2.2 i hi).2, (h.1.2.2.2.2.1.2 i hi).1, (h.1.2.2.2.2.1.2 i hi).2, h.2.2.2.2.2.2.2.1.2 i hi⟩
def oAtts (T : tfT) (r c : Int) : tRes := onC T r c fun j k => (0, (rMa (tRd T j) k : Nat), T)
theorem attempts_ok {r c : Int} {a b : Int32} (hd : 10 ≤ d) (h : tfx x z T (I, L, R)) (e1 : a = iI r) (e2 : b = iI c) (h1 : i32 r) (h2 : i32 c) (hQ : tP x z (I, L, R) (oAtts T r c) [3] eI Q) : zS 135 d [zr (some x), zi a, zi b] (I, L, R) Q := by
  subst e1; subst e2
  have hT := h
  obtain ⟨pb, rb, hf⟩ := h
  have k0 := tf_k0 hf
  have hc12 := hf.1.2.2.2.1.1
  refine zW.gc [] rfl rfl rfl (by omega) trivial ⟨_, rfl, k0⟩ (by decide +kernel) (by decide +kernel) ?_
  refine findR_ok (by omega) hf rfl h1 (fun hb N hN => ?_) (fun j hj hp => ?_)
  · exact tP_t hQ hT (if_pos hb) hN
  subst hj
  unfold oAtts onC at hQ
  rw [onR_i hp] at hQ
  obtain ⟨hL, hk, hz, hR⟩ := tf_rd hf hp
  have b0 := hL.1
  refine zW.gc [] rfl rfl rfl (by omega) trivial ⟨_, rfl, k0⟩ (by decide +kernel) (by decide +kernel) ?_
  refine chkC_ok (by omega) hf rfl h2 (fun hb N hN => ?_) (fun g1 g2 => ?_)
  · exact tP_t hQ hT (if_pos hb) hN
  rw [if_neg (fun n => n ⟨g1, g2⟩)] at hQ
  dsimp only at hQ
  obtain ⟨k, rfl⟩ : ∃ k : Nat, c = k := ⟨c.toNat, by omega⟩
  have hc : k < 12 := by omega
  rw [show ((k : Int)).toNat = k from rfl] at hQ
  have p4 := hL.2.2.1
  have k14 := hL.2.2.2.2.2.2.2.2.1
  have m1 := (hR.2.2.2.2.2.2 k hc).1
  refine zW.gr [] rfl rfl rfl (by omega) (by simp (disch := omega) only [true_or, or_true, eq_self, Option.some.injEq, Prod.mk.injEq, zall_0, zall_1, zall_2, zob_iff, zar_iff, zis_iff, zkIs_some, zkHas_some, iI_vp, z01_I, z01_bz, zch_I, true_and, and_true, or_false, false_or, and_self, upI_same, upL_same, upI_ne, upL_ne, iI_ixN, zI_mk, zL_mk, zP_mk, zK_mk, zN_mk, zwI_up, zwL_up, zg_some, Nat.reduceMod, Nat.reduceDiv, zcn_I, iI_add, iI_sub, iI_mul, iI_neg, iI_lt, iI_le, iI_eq, iI_lt0, iI_le0, iI_gt0, iI_ge0, iI_eq0, b0, p4, k14] <;> omega) trivial ?_
  simp (disch := omega) only [upI_same, upL_same, upI_ne, upL_ne, iI_ixN, zI_mk, zL_mk, zP_mk, zK_mk, zN_mk, zwI_up, zwL_up, zg_some, Nat.reduceMod, Nat.reduceDiv, zcn_I, iI_add, iI_sub, iI_mul, iI_neg, iI_lt, iI_le, iI_eq, iI_lt0, iI_le0, iI_gt0, iI_ge0, iI_eq0, p4, m1]
  exact tP_0 hQ rfl hT tfr_rf
def oBest (T : tfT) (r c : Int) : tRes := onC T r c fun j k => if rBs (tRd T j) k = 0 then (2, 0, T) else (0, cv (rFm (tRd T j)) (rBs (tRd T j) k), T)
theorem bestT_ok {r c : Int} {a b : Int32} (hd : 10 ≤ d) (h : tfx x z T (I, L, R)) (e1 : a = iI r) (e2 : b = iI c) (h1 : i32 r) (h2 : i32 c) (hQ : tP x z (I, L, R) (oBest T r c) [3, 4] eI Q) : zS 136 d [zr (some x), zi a, zi b] (I, L, R) Q := by
  subst e1; subst e2
  have hT := h
  obtain ⟨pb, rb, hf⟩ := h
  have k0 := tf_k0 hf
  have hc12 := hf.1.2.2.2.1.1
  refine zW.gc [] rfl rfl rfl (by omega) trivial ⟨_, rfl, k0⟩ (by decide +kernel) (by decide +kernel) ?_
  refine findR_ok (by omega) hf rfl h1 (fun hb N hN => ?_) (fun j hj hp => ?_)
  · exact tP_t hQ hT (if_pos hb) hN
  subst hj
  unfold oBest onC at hQ
  rw [onR_i hp] at hQ
  obtain ⟨hL, hk, hz, hR⟩ := tf_rd hf hp
  have b0 := hL.1
  refine zW.gc [] rfl rfl rfl (by omega) trivial ⟨_, rfl, k0⟩ (by decide +kernel) (by decide +kernel) ?_
  refine chkC_ok (by omega) hf rfl h2 (fun hb N hN => ?_) (fun g1 g2 => ?_)
  · exact tP_t hQ hT (if_pos hb) hN
  rw [if_neg (fun n => n ⟨g1, g2⟩)] at hQ
  dsimp only at hQ
  obtain ⟨k, rfl⟩ : ∃ k : Nat, c = k := ⟨c.toNat, by omega⟩
  have hc : k < 12 := by omega
  rw [show ((k : Int)).toNat = k from rfl] at hQ
  refine zW.gz [] rfl rfl rfl (by omega) trivial ⟨_, rfl, b0⟩ rfl rfl (by decide +kernel) (by decide +kernel) ?_
  refine best_ok (by omega) hL hk hR rfl hc ?_
  have hb : bst (rRs (tRd T j) k) (rMa (tRd T j) k) ≤ 60399 := bst_le (hk.2.2.2.2 k hc).2.1
  by_cases q : rBs (tRd T j) k = 0
  · rw [if_pos q] at hQ
    rw [show bI1 (rFm (tRd T j)) (bst (rRs (tRd T j) k) (rMa (tRd T j) k)) = -1 from if_pos q]
    refine zW.gbf [] rfl rfl rfl (by omega) trivial (by simp (disch := omega) only [eq_self, not_true_eq_false, not_false_eq_true, upI_same, upL_same, upI_ne, upL_ne, iI_ixN, zI_mk, zL_mk, zP_mk, zK_mk, zN_mk, zwI_up, zwL_up, zg_some, Nat.reduceMod, Nat.reduceDiv, zcn_I, iI_add, iI_sub, iI_mul, iI_neg, iI_lt, iI_le, iI_eq, iI_lt0, iI_le0, iI_gt0, iI_ge0, iI_eq0] <;> omega) ?_
    refine zW.gt [] rfl rfl rfl (by decide +kernel) (by omega) trivial (by decide +kernel) (by decide +kernel) rfl (fun N hN => ?_)
    exact tP_t hQ hT rfl hN
  · rw [if_neg q] at hQ
    rw [show bI1 (rFm (tRd T j)) (bst (rRs (tRd T j) k) (rMa (tRd T j) k)) = cv (rFm (tRd T j)) (bst (rRs (tRd T j) k) (rMa (tRd T j) k)) from if_neg q]
    have hv : 0 ≤ cv (rFm (tRd T j)) (bst (rRs (tRd T j) k) (rMa (tRd T j) k)) ∧ cv (rFm (tRd T j)) (bst (rRs (tRd T j) k) (rMa (tRd T j) k)) ≤ 60399 := by
      have q' : bst (rRs (tRd T j) k) (rMa (tRd T j) k) ≠ 0 := q
      unfold cv
      split <;> omega
    refine zW.gbt [] rfl rfl rfl (by omega) trivial (by simp (disch := omega) only [eq_self, not_true_eq_false, not_false_eq_true, upI_same, upL_same, upI_ne, upL_ne, iI_ixN, zI_mk, zL_mk, zP_mk, zK_mk, zN_mk, zwI_up, zwL_up, zg_some, Nat.reduceMod, Nat.reduceDiv, zcn_I, iI_add, iI_sub, iI_mul, iI_neg, iI_lt, iI_le, iI_eq, iI_lt0, iI_le0, iI_gt0, iI_ge0, iI_eq0] <;> omega) ?_
    refine zW.gr [] rfl rfl rfl (by omega) trivial trivial ?_
    exact tP_0 hQ rfl hT tfr_rf
noncomputable def oAver (T : tfT) (r c : Int) : tRes := onC T r c fun j k => if dc (avF (rFm (tRd T j))) then (if rAv (tRd T j) k = 0 then (3, 0, T) else (0, (rAv (tRd T j) k : Nat), T)) else (2, 0, T)
theorem average_ok {r c : Int} {a b : Int32} (hd : 10 ≤ d) (h : tfx x z T (I, L, R)) (e1 : a = iI r) (e2 : b = iI c) (h1 : i32 r) (h2 : i32 c) (hQ : tP x z (I, L, R) (oAver T r c) [3, 1, 4] eI Q) : zS 137 d [zr (some x), zi a, zi b] (I, L, R) Q := by
  subst e1; subst e2
  have hT := h
  obtain ⟨pb, rb, hf⟩ := h
  have k0 := tf_k0 hf
  have hc12 := hf.1.2.2.2.1.1
  refine zW.gc [] rfl rfl rfl (by omega) trivial ⟨_, rfl, k0⟩ (by decide +kernel) (by decide +kernel) ?_
  refine findR_ok (by omega) hf rfl h1 (fun hb N hN => ?_) (fun j hj hp => ?_)
  · exact tP_t hQ hT (if_pos hb) hN
  subst hj
  unfold oAver onC at hQ
  rw [onR_i hp] at hQ
  obtain ⟨hL, hk, hz, hR⟩ := tf_rd hf hp
  have b0 := hL.1
  refine zW.gc [] rfl rfl rfl (by omega) trivial ⟨_, rfl, k0⟩ (by decide +kernel) (by decide +kernel) ?_
  refine chkC_ok (by omega) hf rfl h2 (fun hb N hN => ?_) (fun g1 g2 => ?_)
  · exact tP_t hQ hT (if_pos hb) hN
  rw [if_neg (fun n => n ⟨g1, g2⟩)] at hQ
  dsimp only at hQ
  obtain ⟨k, rfl⟩ : ∃ k : Nat, c = k := ⟨c.toNat, by omega⟩
  have hc : k < 12 := by omega
  rw [show ((k : Int)).toNat = k from rfl] at hQ
  refine zW.gz [] rfl rfl rfl (by omega) trivial ⟨_, rfl, b0⟩ rfl rfl (by decide +kernel) (by decide +kernel) ?_
  refine isAvg_ok (by omega) hL hk hR (fun g => ?_) (fun g => ?_)
  · rw [if_pos (dc_t.mpr g)] at hQ
    refine zW.gbt [] rfl rfl rfl (by omega) trivial (by simp (disch := omega) only [eq_self, not_true_eq_false, not_false_eq_true, upI_same, upL_same, upI_ne, upL_ne, iI_ixN, zI_mk, zL_mk, zP_mk, zK_mk, zN_mk, zwI_up, zwL_up, zg_some, Nat.reduceMod, Nat.reduceDiv, zcn_I, iI_add, iI_sub, iI_mul, iI_neg, iI_lt, iI_le, iI_eq, iI_lt0, iI_le0, iI_gt0, iI_ge0, iI_eq0] <;> omega) ?_
    refine zW.gz [] rfl rfl rfl (by omega) trivial ⟨_, rfl, b0⟩ rfl rfl (by decide +kernel) (by decide +kernel) ?_
    refine avg_ok (by omega) hL hk hR rfl hc ?_
    have hb := rAv_le hk hc
    by_cases q : rAv (tRd T j) k = 0
    · rw [if_pos q] at hQ
      rw [show aI1 (rAv (tRd T j) k) = -1 from if_pos q]
      refine zW.gbf [] rfl rfl rfl (by omega) trivial (by simp (disch := omega) only [eq_self, not_true_eq_false, not_false_eq_true, upI_same, upL_same, upI_ne, upL_ne, iI_ixN, zI_mk, zL_mk, zP_mk, zK_mk, zN_mk, zwI_up, zwL_up, zg_some, Nat.reduceMod, Nat.reduceDiv, zcn_I, iI_add, iI_sub, iI_mul, iI_neg, iI_lt, iI_le, iI_eq, iI_lt0, iI_le0, iI_gt0, iI_ge0, iI_eq0] <;> omega) ?_
      refine zW.gt [] rfl rfl rfl (by decide +kernel) (by omega) trivial (by decide +kernel) (by decide +kernel) rfl (fun N hN => ?_)
      exact tP_t hQ hT rfl hN
    · rw [if_neg q] at hQ
      rw [show aI1 (rAv (tRd T j) k) = (rAv (tRd T j) k : Int) from if_neg q]
      refine zW.gbt [] rfl rfl rfl (by omega) trivial (by simp (disch := omega) only [eq_self, not_true_eq_false, not_false_eq_true, upI_same, upL_same, upI_ne, upL_ne, iI_ixN, zI_mk, zL_mk, zP_mk, zK_mk, zN_mk, zwI_up, zwL_up, zg_some, Nat.reduceMod, Nat.reduceDiv, zcn_I, iI_add, iI_sub, iI_mul, iI_neg, iI_lt, iI_le, iI_eq, iI_lt0, iI_le0, iI_gt0, iI_ge0, iI_eq0] <;> omega) ?_
      refine zW.gr [] rfl rfl rfl (by omega) trivial trivial ?_
      exact tP_0 hQ rfl hT tfr_rf
  · rw [if_neg (fun q => g (dc_t.mp q))] at hQ
    refine zW.gbf [] rfl rfl rfl (by omega) trivial (by simp (disch := omega) only [eq_self, not_true_eq_false, not_false_eq_true, upI_same, upL_same, upI_ne, upL_ne, iI_ixN, zI_mk, zL_mk, zP_mk, zK_mk, zN_mk, zwI_up, zwL_up, zg_some, Nat.reduceMod, Nat.reduceDiv, zcn_I, iI_add, iI_sub, iI_mul, iI_neg, iI_lt, iI_le, iI_eq, iI_lt0, iI_le0, iI_gt0, iI_ge0, iI_eq0] <;> omega) ?_
    refine zW.gt [] rfl rfl rfl (by decide +kernel) (by omega) trivial (by decide +kernel) (by decide +kernel) rfl (fun N hN => ?_)
    exact tP_t hQ hT rfl hN
def oRank (T : tfT) (r c : Int) : tRes := onC T r c fun j k => if rMa (tRd T j) k = 0 then (2, 0, T) else (0, ((nBet (tRd T j) k + 1 : Nat) : Int), T)
theorem rankT_ok {r c : Int} {a b : Int32} (hd : 10 ≤ d) (h : tfx x z T (I, L, R)) (e1 : a = iI r) (e2 : b = iI c) (h1 : i32 r) (h2 : i32 c) (hQ : tP x z (I, L, R) (oRank T r c) [3, 4] eI Q) : zS 138 d [zr (some x), zi a, zi b] (I, L, R) Q := by
  subst e1; subst e2
  have hT := h
  obtain ⟨pb, rb, hf⟩ := h
  have k0 := tf_k0 hf
  have hc12 := hf.1.2.2.2.1.1
  refine zW.gc [] rfl rfl rfl (by omega) trivial ⟨_, rfl, k0⟩ (by decide +kernel) (by decide +kernel) ?_
  refine findR_ok (by omega) hf rfl h1 (fun hb N hN => ?_) (fun j hj hp => ?_)
  · exact tP_t hQ hT (if_pos hb) hN
  subst hj
  unfold oRank onC at hQ
  rw [onR_i hp] at hQ
  obtain ⟨hL, hk, hz, hR⟩ := tf_rd hf hp
  have b0 := hL.1
  refine zW.gc [] rfl rfl rfl (by omega) trivial ⟨_, rfl, k0⟩ (by decide +kernel) (by decide +kernel) ?_
  refine chkC_ok (by omega) hf rfl h2 (fun hb N hN => ?_) (fun g1 g2 => ?_)
  · exact tP_t hQ hT (if_pos hb) hN
  rw [if_neg (fun n => n ⟨g1, g2⟩)] at hQ
  dsimp only at hQ
  obtain ⟨k, rfl⟩ : ∃ k : Nat, c = k := ⟨c.toNat, by omega⟩
  have hc : k < 12 := by omega
  rw [show ((k : Int)).toNat = k from rfl] at hQ
  have p4 := hL.2.2.1
  have k14 := hL.2.2.2.2.2.2.2.2.1
  have m1 := (hR.2.2.2.2.2.2 k hc).1
  have m2 := (hk.2.2.2.2 k hc).1
  have m3 : mxA (rFm (tRd T j)) ≤ 5 := by
    unfold mxA
    split
    · omega
    · split <;> omega
  by_cases q : rMa (tRd T j) k = 0
  · rw [if_pos q] at hQ
    refine zW.gbf [] rfl rfl rfl (by omega) (by simp (disch := omega) only [true_or, or_true, eq_self, Option.some.injEq, Prod.mk.injEq, zall_0, zall_1, zall_2, zob_iff, zar_iff, zis_iff, zkIs_some, zkHas_some, iI_vp, z01_I, z01_bz, zch_I, true_and, and_true, or_false, false_or, and_self, upI_same, upL_same, upI_ne, upL_ne, iI_ixN, zI_mk, zL_mk, zP_mk, zK_mk, zN_mk, zwI_up, zwL_up, zg_some, Nat.reduceMod, Nat.reduceDiv, zcn_I, iI_add, iI_sub, iI_mul, iI_neg, iI_lt, iI_le, iI_eq, iI_lt0, iI_le0, iI_gt0, iI_ge0, iI_eq0, b0, p4, k14] <;> omega) (by simp (disch := omega) only [eq_self, not_true_eq_false, not_false_eq_true, upI_same, upL_same, upI_ne, upL_ne, iI_ixN, zI_mk, zL_mk, zP_mk, zK_mk, zN_mk, zwI_up, zwL_up, zg_some, Nat.reduceMod, Nat.reduceDiv, zcn_I, iI_add, iI_sub, iI_mul, iI_neg, iI_lt, iI_le, iI_eq, iI_lt0, iI_le0, iI_gt0, iI_ge0, iI_eq0, p4, m1] <;> omega) ?_
    refine zW.gt [] rfl rfl rfl (by decide +kernel) (by omega) trivial (by decide +kernel) (by decide +kernel) rfl (fun N hN => ?_)
    exact tP_t hQ hT rfl hN
  · rw [if_neg q] at hQ
    refine zW.gbt [] rfl rfl rfl (by omega) (by simp (disch := omega) only [true_or, or_true, eq_self, Option.some.injEq, Prod.mk.injEq, zall_0, zall_1, zall_2, zob_iff, zar_iff, zis_iff, zkIs_some, zkHas_some, iI_vp, z01_I, z01_bz, zch_I, true_and, and_true, or_false, false_or, and_self, upI_same, upL_same, upI_ne, upL_ne, iI_ixN, zI_mk, zL_mk, zP_mk, zK_mk, zN_mk, zwI_up, zwL_up, zg_some, Nat.reduceMod, Nat.reduceDiv, zcn_I, iI_add, iI_sub, iI_mul, iI_neg, iI_lt, iI_le, iI_eq, iI_lt0, iI_le0, iI_gt0, iI_ge0, iI_eq0, b0, p4, k14] <;> omega) (by simp (disch := omega) only [eq_self, not_true_eq_false, not_false_eq_true, upI_same, upL_same, upI_ne, upL_ne, iI_ixN, zI_mk, zL_mk, zP_mk, zK_mk, zN_mk, zwI_up, zwL_up, zg_some, Nat.reduceMod, Nat.reduceDiv, zcn_I, iI_add, iI_sub, iI_mul, iI_neg, iI_lt, iI_le, iI_eq, iI_lt0, iI_le0, iI_gt0, iI_ge0, iI_eq0, p4, m1] <;> omega) ?_
    refine zW.gz [] rfl rfl rfl (by omega) trivial ⟨_, rfl, b0⟩ rfl rfl (by decide +kernel) (by decide +kernel) ?_
    refine better_ok (by omega) hL hk hR rfl hc ?_
    have hle : nBet (tRd T j) k ≤ 12 := ct_le _ _
    refine zW.gr [] rfl rfl rfl (by omega) trivial trivial ?_
    rw [zcn_I, iI_add]
    exact tP_0 hQ rfl hT tfr_rf
noncomputable def oAdv (T : tfT) (r c m : Int) : tRes := onC T r c fun j k => if ¬ (0 ≤ m ∧ m ≤ 12) then (2, 0, T) else (0, b01 (rGo (tRd T j) k m.toNat), T)
theorem advances_ok {r c m : Int} {a b e : Int32} (hd : 10 ≤ d) (h : tfx x z T (I, L, R)) (e1 : a = iI r) (e2 : b = iI c) (e3 : e = iI m) (h3 : i32 m) (h1 : i32 r) (h2 : i32 c) (hQ : tP x z (I, L, R) (oAdv T r c m) [3, 0] eI Q) : zS 139 d [zr (some x), zi a, zi b, zi e] (I, L, R) Q := by
  subst e1; subst e2; subst e3
  have hT := h
  obtain ⟨pb, rb, hf⟩ := h
  have k0 := tf_k0 hf
  have hc12 := hf.1.2.2.2.1.1
  refine zW.gc [] rfl rfl rfl (by omega) trivial ⟨_, rfl, k0⟩ (by decide +kernel) (by decide +kernel) ?_
  refine findR_ok (by omega) hf rfl h1 (fun hb N hN => ?_) (fun j hj hp => ?_)
  · exact tP_t hQ hT (if_pos hb) hN
  subst hj
  unfold oAdv onC at hQ
  rw [onR_i hp] at hQ
  obtain ⟨hL, hk, hz, hR⟩ := tf_rd hf hp
  have b0 := hL.1
  refine zW.gc [] rfl rfl rfl (by omega) trivial ⟨_, rfl, k0⟩ (by decide +kernel) (by decide +kernel) ?_
  refine chkC_ok (by omega) hf rfl h2 (fun hb N hN => ?_) (fun g1 g2 => ?_)
  · exact tP_t hQ hT (if_pos hb) hN
  rw [if_neg (fun n => n ⟨g1, g2⟩)] at hQ
  dsimp only at hQ
  obtain ⟨k, rfl⟩ : ∃ k : Nat, c = k := ⟨c.toNat, by omega⟩
  have hc : k < 12 := by omega
  rw [show ((k : Int)).toNat = k from rfl] at hQ
  refine zW.gc [] rfl rfl rfl (by omega) trivial trivial (by decide +kernel) (by decide +kernel) ?_
  refine chkN_ok (by omega) rfl (zcn_I _) (zcn_I _) h3 ⟨by omega, by omega⟩ ⟨by omega, by omega⟩ (fun hb N hN => ?_) (fun g3 g4 => ?_)
  · exact tP_t hQ hT (if_pos hb) hN
  rw [if_neg (fun n => n ⟨g3, g4⟩)] at hQ
  obtain ⟨n, rfl⟩ : ∃ n : Nat, m = n := ⟨m.toNat, by omega⟩
  refine zW.gz [] rfl rfl rfl (by omega) trivial ⟨_, rfl, b0⟩ rfl rfl (by decide +kernel) (by decide +kernel) ?_
  refine goes_ok (by omega) hL hk hR rfl rfl hc (by omega) (fun g => ?_) (fun g => ?_)
  · refine zW.gr [] rfl rfl rfl (by omega) trivial z01_1 ?_
    exact tP_0 hQ (congrArg (fun v => ((0 : Nat), v, T)) (b01_t g)) hT tfr_rf
  · refine zW.gr [] rfl rfl rfl (by omega) trivial z01_0 ?_
    exact tP_0 hQ (congrArg (fun v => ((0 : Nat), v, T)) (b01_f g)) hT tfr_rf
end TRD