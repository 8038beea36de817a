/-! The class's methods of one puzzle, more. -/
section TPZ2
variable {d x z : Nat} {pb rb : Nat → Nat} {T : tfT} {I : Nat → Nat → Int32} {L : Nat → Nat → Int64} {R : zRt} {Q : zO → zM → Prop}
def turnT (w : zPz) (j : Nat) (t : Int) : Nat → Nat := fun q => pzS w (itf (pzT w (2 * j + if t < 0 then 1 else 0)) t.natAbs q)
def oTurn (T : tfT) (p c t : Int) : tRes := onP T p fun i => if ¬ (0 ≤ c - 65 ∧ c - 65 < pzR (tPz T i)) ∨ ¬ (-20 ≤ t ∧ t ≤ 20) then (2, 0, T) else (0, (ct (fun q => !(pzS (tPz T i) q == turnT (tPz T i) (c - 65).toNat t q)) 10 : Nat), tSetP T i (pzSt (tPz T i) (turnT (tPz T i) (c - 65).toNat t)))
theorem turnT_ok {p u t : Int} {a b c : Int32} (hd : 8 ≤ d) (h : tfx x z T (I, L, R)) (e1 : a = iI p) (e2 : b = iI u) (e3 : c = iI t) (h1 : i32 p) (h2 : 0 ≤ u) (h2' : u < 65536) (h3 : i32 t) (hQ : tP x z (I, L, R) (oTurn T p u t) [3, 0] eI Q) : zS 104 d [zr (some x), zi a, zi b, zi c] (I, L, R) Q := by
  subst e1; subst e2; subst e3
  have hT := h
  obtain ⟨pb, rb, hf⟩ := h
  refine zW.gc [] rfl rfl rfl (by omega) trivial ⟨_, rfl, tf_k0 hf⟩ (by decide +kernel) (by decide +kernel) ?_
  refine findP_ok (by omega) hf rfl h1 (fun hb N hN => ?_) (fun i hi hp => ?_)
  · exact tP_t hQ hT (if_pos hb) hN
  · subst hi
    unfold oTurn at hQ
    rw [onP_i hp] at hQ
    obtain ⟨hL, hz, hR⟩ := tf_pz hf hp
    have b0 := hL.1
    have r0 := hR.2.1
    have hr := hz.2.2.1
    refine zW.gc [] rfl rfl rfl (by omega) (by simp (disch := omega) only [true_or, or_true, eq_self, Option.some.injEq, Prod.mk.injEq, zall_0, zall_1, zall_2, zob_iff, zar_iff, zis_iff, zkIs_some, zkHas_some, iI_vp, z01_I, z01_bz, zch_I, true_and, and_true, or_false, false_or, and_self, upI_same, upL_same, upI_ne, upL_ne, iI_ixN, zI_mk, zL_mk, zP_mk, zK_mk, zN_mk, zwI_up, zwL_up, zg_some, Nat.reduceMod, Nat.reduceDiv, zcn_I, iI_add, iI_sub, iI_mul, iI_neg, iI_lt, iI_le, iI_eq, iI_lt0, iI_le0, iI_gt0, iI_ge0, iI_eq0, b0] <;> omega) trivial (by decide +kernel) (by decide +kernel) ?_
    simp (disch := omega) only [upI_same, upL_same, upI_ne, upL_ne, iI_ixN, zI_mk, zL_mk, zP_mk, zK_mk, zN_mk, zwI_up, zwL_up, zg_some, Nat.reduceMod, Nat.reduceDiv, zcn_I, iI_add, iI_sub, iI_mul, iI_neg, iI_lt, iI_le, iI_eq, iI_lt0, iI_le0, iI_gt0, iI_ge0, iI_eq0, r0, iI_sub, zcn_I]
    refine chkN_ok (by omega) rfl rfl rfl ⟨by omega, by omega⟩ ⟨by omega, by omega⟩ ⟨by omega, by omega⟩ (fun hb N hN => ?_) (fun g1 g2 => ?_)
    · exact tP_t hQ hT (if_pos (Or.inl (fun g => hb ⟨g.1, by have := g.2; omega⟩))) hN
    refine zW.gc [] rfl rfl rfl (by omega) (by simp (disch := omega) only [true_or, or_true, eq_self, Option.some.injEq, Prod.mk.injEq, zall_0, zall_1, zall_2, zob_iff, zar_iff, zis_iff, zkIs_some, zkHas_some, iI_vp, z01_I, z01_bz, zch_I, true_and, and_true, or_false, false_or, and_self, upI_same, upL_same, upI_ne, upL_ne, iI_ixN, zI_mk, zL_mk, zP_mk, zK_mk, zN_mk, zwI_up, zwL_up, zg_some, Nat.reduceMod, Nat.reduceDiv, zcn_I, iI_add, iI_sub, iI_mul, iI_neg, iI_lt, iI_le, iI_eq, iI_lt0, iI_le0, iI_gt0, iI_ge0, iI_eq0, b0] <;> omega) trivial (by decide +kernel) (by decide +kernel) ?_
    refine chkN_ok (by omega) rfl (zcn_I _) (zcn_I _) h3 ⟨by omega, by omega⟩ ⟨by omega, by omega⟩ (fun hb N hN => ?_) (fun g3 g4 => ?_)
    · exact tP_t hQ hT (if_pos (Or.inr hb)) hN
    obtain ⟨j, hj⟩ : ∃ j : Nat, u - 65 = j := ⟨(u - 65).toNat, by omega⟩
    refine zW.gc [] rfl rfl rfl (by omega) trivial ⟨_, rfl, b0⟩ (by decide +kernel) (by decide +kernel) ?_
    simp (disch := omega) only [upI_same, upL_same, upI_ne, upL_ne, iI_ixN, zI_mk, zL_mk, zP_mk, zK_mk, zN_mk, zwI_up, zwL_up, zg_some, Nat.reduceMod, Nat.reduceDiv, zcn_I, iI_add, iI_sub, iI_mul, iI_neg, iI_lt, iI_le, iI_eq, iI_lt0, iI_le0, iI_gt0, iI_ge0, iI_eq0, r0, iI_sub, zcn_I]
    rw [hj] at hQ g1 g2 ⊢
    refine turnR_ok (by omega) hL hz hR rfl rfl (by omega) (by omega) (by omega) ?_
    have hj2 : 2 * j + (if t < 0 then 1 else 0) < 2 * pzR (tPz T i) := by split <;> omega
    have hs : pm (pzN (tPz T i)) (turnT (tPz T i) j t) := show pm _ (fun q => pzS (tPz T i) (itf (pzT (tPz T i) (2 * j + if t < 0 then 1 else 0)) t.natAbs q)) from pm_comp hz.2.2.2.2.2.2.2.2 (itf_pm (hz.2.2.2.1 _ hj2) _)
    obtain ⟨k1, k2⟩ := tf_st hf hp hs
    refine zW.gr [] rfl rfl rfl (by omega) trivial trivial ?_
    exact tP_0 hQ (if_neg (fun g => g.elim (fun g => g ⟨by omega, by omega⟩) (fun g => g ⟨by omega, by omega⟩))) ⟨_, _, k1⟩ k2
def pzCo (z : zPz) (c : Nat → Nat) : zPz := (z.1, pzT z, c, pzS z)
def oColour (T : tfT) (p u v : Int) : tRes := onP T p fun i => if ¬ (0 ≤ u ∧ u < pzN (tPz T i)) then (1, 0, T) else if ¬ (0 ≤ v ∧ v ≤ 9) then (2, 0, T) else (0, (pzC (tPz T i) u.toNat : Nat), tSetP T i (pzCo (tPz T i) (fu (pzC (tPz T i)) u.toNat v.toNat)))
theorem colour_ok {p u v : Int} {a b c : Int32} (hd : 8 ≤ d) (h : tfx x z T (I, L, R)) (e1 : a = iI p) (e2 : b = iI u) (e3 : c = iI v) (h1 : i32 p) (h2 : i32 u) (h3 : i32 v) (hQ : tP x z (I, L, R) (oColour T p u v) [3, 0] eI Q) : zS 103 d [zr (some x), zi a, zi b, zi c] (I, L, R) Q := by
  subst e1; subst e2; subst e3
  have hT := h
  obtain ⟨pb, rb, hf⟩ := h
  refine zW.gc [] rfl rfl rfl (by omega) trivial ⟨_, rfl, tf_k0 hf⟩ (by decide +kernel) (by decide +kernel) ?_
  refine findP_ok (by omega) hf rfl h1 (fun hb N hN => ?_) (fun i hi hp => ?_)
  · exact tP_t hQ hT (if_pos hb) hN
  · subst hi
    unfold oColour at hQ
    rw [onP_i hp] at hQ
    obtain ⟨hL, hz, hR⟩ := tf_pz hf hp
    have b0 := hL.1
    refine zW.gc [] rfl rfl rfl (by omega) trivial trivial (by decide +kernel) (by decide +kernel) ?_
    refine chkP_ok (by omega) b0 hR.1 hz.2.1 rfl h2 (fun hb N hN => ?_) (fun g1 g2 => ?_)
    · exact tP_t hQ hT (if_pos hb) hN
    refine zW.gc [] rfl rfl rfl (by omega) (by simp (disch := omega) only [true_or, or_true, eq_self, Option.some.injEq, Prod.mk.injEq, zall_0, zall_1, zall_2, zob_iff, zar_iff, zis_iff, zkIs_some, zkHas_some, iI_vp, z01_I, z01_bz, zch_I, true_and, and_true, or_false, false_or, and_self, upI_same, upL_same, upI_ne, upL_ne, iI_ixN, zI_mk, zL_mk, zP_mk, zK_mk, zN_mk, zwI_up, zwL_up, zg_some, Nat.reduceMod, Nat.reduceDiv, zcn_I, iI_add, iI_sub, iI_mul, iI_neg, iI_lt, iI_le, iI_eq, iI_lt0, iI_le0, iI_gt0, iI_ge0, iI_eq0, b0] <;> omega) trivial (by decide +kernel) (by decide +kernel) ?_
    refine chkN_ok (by omega) rfl (zcn_I _) (zcn_I _) h3 ⟨by omega, by omega⟩ ⟨by omega, by omega⟩ (fun hb N hN => ?_) (fun g3 g4 => ?_)
    · exact tP_t hQ hT ((if_neg (fun g => g ⟨g1, g2⟩)).trans (if_pos hb)) hN
    obtain ⟨j, rfl⟩ : ∃ j : Nat, u = j := ⟨u.toNat, by omega⟩
    obtain ⟨k, rfl⟩ : ∃ k : Nat, v = k := ⟨v.toNat, by omega⟩
    refine zW.gc [] rfl rfl rfl (by omega) trivial ⟨_, rfl, b0⟩ (by decide +kernel) (by decide +kernel) ?_
    refine paint_ok (by omega) hL hz hR rfl rfl (by omega) (by omega) (fun I' L' f hz' hR' => ?_)
    obtain ⟨k1, k2⟩ := tf_setP (w := pzCo (tPz T i) (fu (pzC (tPz T i)) j k)) hf hp f hz' hR'
    refine zW.gr [] rfl rfl rfl (by omega) trivial trivial ?_
    exact tP_0 hQ ((if_neg (fun g => g ⟨g1, g2⟩)).trans (if_neg (fun g => g ⟨g3, g4⟩))) ⟨_, _, k1⟩ k2
abbrev pzG (w : zPz) : (Nat → Nat) → Prop := zG (pzR w) (pzT w)
noncomputable def oOrder (T : tfT) (p : Int) : tRes := onP T p fun i => (0, (szG (pzG (tPz T i)) 10 : Nat), T)
theorem order_ok {p : Int} {a : Int32} (hd : 8 ≤ d) (h : tfx x z T (I, L, R)) (e1 : a = iI p) (h1 : i32 p) (hQ : tP x z (I, L, R) (oOrder T p) [3] eL Q) : zS 109 d [zr (some x), zi a] (I, L, R) Q := by
  subst e1
  have hT := h
  obtain ⟨pb, rb, hf⟩ := h
  refine zW.gc [] rfl rfl rfl (by omega) trivial ⟨_, rfl, tf_k0 hf⟩ (by decide +kernel) (by decide +kernel) ?_
  refine findP_ok (by omega) hf rfl h1 (fun hb N hN => ?_) (fun i hi hp => ?_)
  · exact tP_t hQ hT (if_pos hb) hN
  · subst hi
    unfold oOrder at hQ
    rw [onP_i hp] at hQ
    obtain ⟨hL, hz, hR⟩ := tf_pz hf hp
    obtain ⟨k0, p1, p2, p3, k1, hC, hG⟩ := hL
    have ck := hC.1
    have z8 := chain_sz (zA_pm hz) hR.2.2.2.2.2.1
    refine zW.gr [] rfl rfl rfl (by omega) (by simp (disch := omega) only [true_or, or_true, eq_self, Option.some.injEq, Prod.mk.injEq, zall_0, zall_1, zall_2, zob_iff, zar_iff, zis_iff, zkIs_some, zkHas_some, iI_vp, z01_I, z01_bz, zch_I, true_and, and_true, or_false, false_or, and_self, upI_same, upL_same, upI_ne, upL_ne, iI_ixN, zI_mk, zL_mk, zP_mk, zK_mk, zN_mk, zwI_up, zwL_up, zg_some, Nat.reduceMod, Nat.reduceDiv, zcn_I, iI_add, iI_sub, iI_mul, iI_neg, iI_lt, iI_le, iI_eq, iI_lt0, iI_le0, iI_gt0, iI_ge0, iI_eq0, k0, p2, ck] <;> omega) trivial ?_
    simp (disch := omega) only [upI_same, upL_same, upI_ne, upL_ne, iI_ixN, zI_mk, zL_mk, zP_mk, zK_mk, zN_mk, zwI_up, zwL_up, zg_some, Nat.reduceMod, Nat.reduceDiv, zcn_I, iI_add, iI_sub, iI_mul, iI_neg, iI_lt, iI_le, iI_eq, iI_lt0, iI_le0, iI_gt0, iI_ge0, iI_eq0, p2, z8]
    exact tP_0 hQ rfl hT tfr_rf
theorem l0 : lN ((0 : Fin 2) : Nat) = iL 0 := by decide +kernel
noncomputable def oIsIn (T : tfT) (p : Int) : tRes := onP T p fun i => (0, b01 (pzG (tPz T i) (pzS (tPz T i))), T)
theorem isIn_ok {p : Int} {a : Int32} (hd : 8 ≤ d) (h : tfx x z T (I, L, R)) (e1 : a = iI p) (h1 : i32 p) (hQ : tP x z (I, L, R) (oIsIn T p) [3] eI Q) : zS 110 d [zr (some x), zi a] (I, L, R) Q := by
  subst e1
  have hT := h
  obtain ⟨pb, rb, hf⟩ := h
  refine zW.gc [] rfl rfl rfl (by omega) trivial ⟨_, rfl, tf_k0 hf⟩ (by decide +kernel) (by decide +kernel) ?_
  refine findP_ok (by omega) hf rfl h1 (fun hb N hN => ?_) (fun i hi hp => ?_)
  · exact tP_t hQ hT (if_pos hb) hN
  · subst hi
    unfold oIsIn at hQ
    rw [onP_i hp] at hQ
    obtain ⟨hL, hz, hR⟩ := tf_pz hf hp
    have r4 := hR.2.2.2.1
    obtain ⟨k0, p1, p2, p3, k1, hC, hG⟩ := hL
    have ck := hC.1
    have hle : szG (Gm (zA (pzR (tPz T i)) (pzT (tPz T i)))) 10 ≤ 10 ^ 10 := szG_le (pzG (tPz T i)) 10
    refine zW.gc [] rfl rfl rfl (by omega) (by simp (disch := omega) only [true_or, or_true, eq_self, Option.some.injEq, Prod.mk.injEq, zall_0, zall_1, zall_2, zob_iff, zar_iff, zis_iff, zkIs_some, zkHas_some, iI_vp, z01_I, z01_bz, zch_I, true_and, and_true, or_false, false_or, and_self, upI_same, upL_same, upI_ne, upL_ne, iI_ixN, zI_mk, zL_mk, zP_mk, zK_mk, zN_mk, zwI_up, zwL_up, zg_some, Nat.reduceMod, Nat.reduceDiv, zcn_I, iI_add, iI_sub, iI_mul, iI_neg, iI_lt, iI_le, iI_eq, iI_lt0, iI_le0, iI_gt0, iI_ge0, iI_eq0, k0] <;> omega) ?_ (by decide +kernel) (by decide +kernel) ?_
    · simp (disch := omega) only [upI_same, upL_same, upI_ne, upL_ne, iI_ixN, zI_mk, zL_mk, zP_mk, zK_mk, zN_mk, zwI_up, zwL_up, zg_some, Nat.reduceMod, Nat.reduceDiv, zcn_I, iI_add, iI_sub, iI_mul, iI_neg, iI_lt, iI_le, iI_eq, iI_lt0, iI_le0, iI_gt0, iI_ge0, iI_eq0, p2]
      exact ⟨_, rfl, ck⟩
    · simp (disch := omega) only [upI_same, upL_same, upI_ne, upL_ne, iI_ixN, zI_mk, zL_mk, zP_mk, zK_mk, zN_mk, zwI_up, zwL_up, zg_some, Nat.reduceMod, Nat.reduceDiv, zcn_I, iI_add, iI_sub, iI_mul, iI_neg, iI_lt, iI_le, iI_eq, iI_lt0, iI_le0, iI_gt0, iI_ge0, iI_eq0, p2, r4]
      refine number_ok (by omega) hC (zA_pm hz) hR.2.2.2.2.2.1 (zst_pm hz) rfl (fun g => ?_) (fun g => ?_)
      · have hlt : numG (Gm (zA (pzR (tPz T i)) (pzT (tPz T i)))) (pzS (tPz T i)) 10 < szG (Gm (zA (pzR (tPz T i)) (pzT (tPz T i)))) 10 := numG_lt (zG_is hz) g 10 (Nat.le_refl _)
        refine zW.gb [] rfl rfl rfl (by omega) trivial (fun h => ?_) (fun h => ?_)
        · rw [lg_cmp_lt, l0, iL_lt (by omega) (by omega) (by omega) (by omega)] at h
          omega
        · refine zW.gr [] rfl rfl rfl (by omega) trivial z01c1 ?_
          rw [zcn_I]
          exact tP_0 hQ (congrArg (fun v => ((0 : Nat), v, T)) (b01_t g)) hT tfr_rf
      · refine zW.gb [] rfl rfl rfl (by omega) trivial (fun h => ?_) (fun h => ?_)
        · refine zW.gr [] rfl rfl rfl (by omega) trivial z01c0 ?_
          rw [zcn_I]
          exact tP_0 hQ (congrArg (fun v => ((0 : Nat), v, T)) (b01_f g)) hT tfr_rf
        · rw [lg_cmp_lt, l0, iL_lt (by omega) (by omega) (by omega) (by omega)] at h
          omega
noncomputable def oNumb (T : tfT) (p : Int) : tRes := onP T p fun i => if dc (pzG (tPz T i) (pzS (tPz T i))) then (0, (numG (pzG (tPz T i)) (pzS (tPz T i)) 10 : Nat), T) else (2, 0, T)
theorem numberOf_ok {p : Int} {a : Int32} (hd : 8 ≤ d) (h : tfx x z T (I, L, R)) (e1 : a = iI p) (h1 : i32 p) (hQ : tP x z (I, L, R) (oNumb T p) [3, 4] eL Q) : zS 116 d [zr (some x), zi a] (I, L, R) Q := by
  subst e1
  have hT := h
  obtain ⟨pb, rb, hf⟩ := h
  refine zW.gc [] rfl rfl rfl (by omega) trivial ⟨_, rfl, tf_k0 hf⟩ (by decide +kernel) (by decide +kernel) ?_
  refine findP_ok (by omega) hf rfl h1 (fun hb N hN => ?_) (fun i hi hp => ?_)
  · exact tP_t hQ hT (if_pos hb) hN
  · subst hi
    unfold oNumb at hQ
    rw [onP_i hp] at hQ
    obtain ⟨hL, hz, hR⟩ := tf_pz hf hp
    have r4 := hR.2.2.2.1
    obtain ⟨k0, p1, p2, p3, k1, hC, hG⟩ := hL
    have ck := hC.1
    have hle : szG (Gm (zA (pzR (tPz T i)) (pzT (tPz T i)))) 10 ≤ 10 ^ 10 := szG_le (pzG (tPz T i)) 10
    refine zW.gc [] rfl rfl rfl (by omega) (by simp (disch := omega) only [true_or, or_true, eq_self, Option.some.injEq, Prod.mk.injEq, zall_0, zall_1, zall_2, zob_iff, zar_iff, zis_iff, zkIs_some, zkHas_some, iI_vp, z01_I, z01_bz, zch_I, true_and, and_true, or_false, false_or, and_self, upI_same, upL_same, upI_ne, upL_ne, iI_ixN, zI_mk, zL_mk, zP_mk, zK_mk, zN_mk, zwI_up, zwL_up, zg_some, Nat.reduceMod, Nat.reduceDiv, zcn_I, iI_add, iI_sub, iI_mul, iI_neg, iI_lt, iI_le, iI_eq, iI_lt0, iI_le0, iI_gt0, iI_ge0, iI_eq0, k0] <;> omega) ?_ (by decide +kernel) (by decide +kernel) ?_
    · simp (disch := omega) only [upI_same, upL_same, upI_ne, upL_ne, iI_ixN, zI_mk, zL_mk, zP_mk, zK_mk, zN_mk, zwI_up, zwL_up, zg_some, Nat.reduceMod, Nat.reduceDiv, zcn_I, iI_add, iI_sub, iI_mul, iI_neg, iI_lt, iI_le, iI_eq, iI_lt0, iI_le0, iI_gt0, iI_ge0, iI_eq0, p2]
      exact ⟨_, rfl, ck⟩
    · simp (disch := omega) only [upI_same, upL_same, upI_ne, upL_ne, iI_ixN, zI_mk, zL_mk, zP_mk, zK_mk, zN_mk, zwI_up, zwL_up, zg_some, Nat.reduceMod, Nat.reduceDiv, zcn_I, iI_add, iI_sub, iI_mul, iI_neg, iI_lt, iI_le, iI_eq, iI_lt0, iI_le0, iI_gt0, iI_ge0, iI_eq0, p2, r4]
      refine number_ok (by omega) hC (zA_pm hz) hR.2.2.2.2.2.1 (zst_pm hz) rfl (fun g => ?_) (fun g => ?_)
      · have hlt : numG (Gm (zA (pzR (tPz T i)) (pzT (tPz T i)))) (pzS (tPz T i)) 10 < szG (Gm (zA (pzR (tPz T i)) (pzT (tPz T i)))) 10 := numG_lt (zG_is hz) g 10 (Nat.le_refl _)
        refine zW.gb [] rfl rfl rfl (by omega) trivial (fun h => ?_) (fun h => ?_)
        · refine zW.gr [] rfl rfl rfl (by omega) trivial trivial ?_
          exact tP_0 hQ (if_pos (dc_t.mpr g)) hT tfr_rf
        · rw [lg_cmp_ge, l0, iL_le (by omega) (by omega) (by omega) (by omega)] at h
          omega
      · refine zW.gb [] rfl rfl rfl (by omega) trivial (fun h => ?_) (fun h => ?_)
        · rw [lg_cmp_ge, l0, iL_le (by omega) (by omega) (by omega) (by omega)] at h
          omega
        · refine zW.gt [] rfl rfl rfl (by decide +kernel) (by omega) trivial (by decide +kernel) (by decide +kernel) rfl (fun N hN => ?_)
          exact tP_t hQ hT (if_neg (fun q => g (dc_t.mp q))) hN
noncomputable def oToNum (T : tfT) (p v : Int) : tRes := onP T p fun i => if ¬ (0 ≤ v ∧ v < szG (pzG (tPz T i)) 10) then (2, 0, T) else (0, (nst (stG (pzG (tPz T i)) v.toNat) : Nat), tSetP T i (pzSt (tPz T i) (stG (pzG (tPz T i)) v.toNat)))
theorem zG_pmn {n r : Nat} {tn : Nat → Nat → Nat} {col st f : Nat → Nat} (hz : zOK n r tn col st) (h : zG r tn f) : pm n f := Gm_pm (fun g ⟨i, hi, e⟩ => by
  subst e
  exact hz.2.2.2.1 _ (by omega)) h
theorem toNumber_ok {p v : Int} {a : Int32} {o : Int64} (hd : 8 ≤ d) (h : tfx x z T (I, L, R)) (e1 : a = iI p) (h1 : i32 p) (e2 : o = iL v) (h2 : -9223372036854775808 ≤ v) (h3 : v < 9223372036854775808) (hQ : tP x z (I, L, R) (oToNum T p v) [3, 4] eI Q) : zS 117 d [zr (some x), zi a, zl o] (I, L, R) Q := by
  subst e1; subst e2
  have hT := h
  obtain ⟨pb, rb, hf⟩ := h
  refine zW.gc [] rfl rfl rfl (by omega) trivial ⟨_, rfl, tf_k0 hf⟩ (by decide +kernel) (by decide +kernel) ?_
  refine findP_ok (by omega) hf rfl h1 (fun hb N hN => ?_) (fun i hi hp => ?_)
  · exact tP_t hQ hT (if_pos hb) hN
  · subst hi
    unfold oToNum at hQ
    rw [onP_i hp] at hQ
    obtain ⟨hL, hz, hR⟩ := tf_pz hf hp
    have hL' := hL
    obtain ⟨k0, p1, p2, p3, k1, hC, hG⟩ := hL'
    have ck := hC.1
    have z8 := chain_sz (zA_pm hz) hR.2.2.2.2.2.1
    have hle : szG (Gm (zA (pzR (tPz T i)) (pzT (tPz T i)))) 10 ≤ 10 ^ 10 := szG_le (pzG (tPz T i)) 10
    have B : ¬ (0 ≤ v ∧ v < szG (pzG (tPz T i)) 10) → zW 117 d (0 + zmc 147) (0 + zms 147) 26 [some (zr (some x)), some (zi (iI (i : Int))), some (zl (iL v)), none, some (zr (some (pb i)))] [] (I, L, R) Q := fun hb => by
      refine zW.gt [] rfl rfl rfl (by decide +kernel) (by omega) trivial (by decide +kernel) (by decide +kernel) rfl (fun N hN => ?_)
      exact tP_t hQ hT (if_pos hb) hN
    refine zW.gb [] rfl rfl rfl (by omega) trivial (fun h => ?_) (fun h => ?_)
    · rw [lg_cmp_lt, l0, iL_lt (by omega) (by omega) (by omega) (by omega)] at h
      exact B (by omega)
    · rw [lg_cmp_lt, l0, iL_lt (by omega) (by omega) (by omega) (by omega)] at h
      refine zW.gb [] rfl rfl rfl (by omega) (by simp (disch := omega) only [true_or, or_true, eq_self, Option.some.injEq, Prod.mk.injEq, zall_0, zall_1, zall_2, zob_iff, zar_iff, zis_iff, zkIs_some, zkHas_some, iI_vp, z01_I, z01_bz, zch_I, true_and, and_true, or_false, false_or, and_self, upI_same, upL_same, upI_ne, upL_ne, iI_ixN, zI_mk, zL_mk, zP_mk, zK_mk, zN_mk, zwI_up, zwL_up, zg_some, Nat.reduceMod, Nat.reduceDiv, zcn_I, iI_add, iI_sub, iI_mul, iI_neg, iI_lt, iI_le, iI_eq, iI_lt0, iI_le0, iI_gt0, iI_ge0, iI_eq0, k0, p2, ck] <;> omega) (fun h' => ?_) (fun h' => ?_)
      · rw [lg_cmp_lt] at h'
        simp only [upI_same, upL_same, upI_ne, upL_ne, iI_ixN, zI_mk, zL_mk, zP_mk, zK_mk, zN_mk, zwI_up, zwL_up, zg_some, Nat.reduceMod, Nat.reduceDiv, p2, z8] at h'
        rw [iL_lt (by omega) (by omega) (by omega) (by omega)] at h'
        obtain ⟨k, rfl⟩ : ∃ k : Nat, v = k := ⟨v.toNat, by omega⟩
        have hk : k < szG (pzG (tPz T i)) 10 := by
          show k < szG (Gm (zA (pzR (tPz T i)) (pzT (tPz T i)))) 10
          omega
        obtain ⟨s1, s2⟩ := stG_sp (zG_is hz) hk
        refine zW.gc [] rfl rfl rfl (by omega) (by simp (disch := omega) only [true_or, or_true, eq_self, Option.some.injEq, Prod.mk.injEq, zall_0, zall_1, zall_2, zob_iff, zar_iff, zis_iff, zkIs_some, zkHas_some, iI_vp, z01_I, z01_bz, zch_I, true_and, and_true, or_false, false_or, and_self, upI_same, upL_same, upI_ne, upL_ne, iI_ixN, zI_mk, zL_mk, zP_mk, zK_mk, zN_mk, zwI_up, zwL_up, zg_some, Nat.reduceMod, Nat.reduceDiv, zcn_I, iI_add, iI_sub, iI_mul, iI_neg, iI_lt, iI_le, iI_eq, iI_lt0, iI_le0, iI_gt0, iI_ge0, iI_eq0, k0] <;> omega) ?_ (by decide +kernel) (by decide +kernel) ?_
        · simp (disch := omega) only [upI_same, upL_same, upI_ne, upL_ne, iI_ixN, zI_mk, zL_mk, zP_mk, zK_mk, zN_mk, zwI_up, zwL_up, zg_some, Nat.reduceMod, Nat.reduceDiv, zcn_I, iI_add, iI_sub, iI_mul, iI_neg, iI_lt, iI_le, iI_eq, iI_lt0, iI_le0, iI_gt0, iI_ge0, iI_eq0, p2]
          exact ⟨_, rfl, ck⟩
        simp (disch := omega) only [upI_same, upL_same, upI_ne, upL_ne, iI_ixN, zI_mk, zL_mk, zP_mk, zK_mk, zN_mk, zwI_up, zwL_up, zg_some, Nat.reduceMod, Nat.reduceDiv, zcn_I, iI_add, iI_sub, iI_mul, iI_neg, iI_lt, iI_le, iI_eq, iI_lt0, iI_le0, iI_gt0, iI_ge0, iI_eq0, p2]
        refine state_ok (s := stG (pzG (tPz T i)) k) (by omega) hC (zA_pm hz) hR.2.2.2.2.2.1 s1 (congrArg (fun n : Nat => iL (n : Int)) s2.symm) ?_
        have hs := zG_pmn hz s1
        obtain ⟨k1', k2'⟩ := tf_st hf hp hs
        refine zW.gc [] rfl rfl rfl (by omega) (by simp (disch := omega) only [true_or, or_true, eq_self, Option.some.injEq, Prod.mk.injEq, zall_0, zall_1, zall_2, zob_iff, zar_iff, zis_iff, zkIs_some, zkHas_some, iI_vp, z01_I, z01_bz, zch_I, true_and, and_true, or_false, false_or, and_self, upI_same, upL_same, upI_ne, upL_ne, iI_ixN, zI_mk, zL_mk, zP_mk, zK_mk, zN_mk, zwI_up, zwL_up, zg_some, Nat.reduceMod, Nat.reduceDiv, zcn_I, iI_add, iI_sub, iI_mul, iI_neg, iI_lt, iI_le, iI_eq, iI_lt0, iI_le0, iI_gt0, iI_ge0, iI_eq0, k0] <;> omega) ⟨_, rfl, k0⟩ (by decide +kernel) (by decide +kernel) ?_
        refine strayed_ok (by omega) hL (zOK_st hz hs) (zPR_st hR) ?_
        refine zW.gr [] rfl rfl rfl (by omega) trivial trivial ?_
        exact tP_0 hQ (if_neg (fun g => g ⟨by omega, by omega⟩)) ⟨_, _, k1'⟩ k2'
      · rw [lg_cmp_lt] at h'
        simp only [upI_same, upL_same, upI_ne, upL_ne, iI_ixN, zI_mk, zL_mk, zP_mk, zK_mk, zN_mk, zwI_up, zwL_up, zg_some, Nat.reduceMod, Nat.reduceDiv, p2, z8] at h'
        rw [iL_lt (by omega) (by omega) (by omega) (by omega)] at h'
        exact B (fun g => by have : v < szG (Gm (zA (pzR (tPz T i)) (pzT (tPz T i)))) 10 := g.2; omega)
end TPZ2
