/-! The class's records, asked and undone. -/
section TREC2
variable {d x z : Nat} {pb rb : Nat → Nat} {T : tfT} {I : Nat → Nat → Int32} {L : Nat → Nat → Int64} {R : zRt} {Q : zO → zM → Prop}
noncomputable def oIsRec (T : tfT) (r c pp : Int) : tRes := onC T r c fun j k => (0, b01 (hRec T j k pp), T)
theorem isRecord_ok {r c pp : Int} {a b e : Int32} (hd : 10 ≤ d) (h : tfx x z T (I, L, R)) (e1 : a = iI r) (e2 : b = iI c) (e3 : e = iI pp) (h1 : i32 r) (h2 : i32 c) (h3 : i32 pp) (hQ : tP x z (I, L, R) (oIsRec T r c pp) [3] eI Q) : zS 142 d [zr (some x), zi a, zi b, zi e] (I, L, R) Q := by
  subst e1; subst e2; subst e3
  have hT := h
  obtain ⟨pb, rb, hf⟩ := h
  have k0 := tf_k0 hf
  have hc12 := hf.1.2.2.2.1.1
  refine zW.gc [] rfl rfl rfl (by omega) trivial ⟨_, rfl, k0⟩ (by decide +kernel) (by decide +kernel) ?_
  refine findR_ok (by omega) hf rfl h1 (fun hb N hN => ?_) (fun j hj hp => ?_)
  · exact tP_t hQ hT (if_pos hb) hN
  subst hj
  unfold oIsRec onC at hQ
  rw [onR_i hp] at hQ
  refine zW.gc [] rfl rfl rfl (by omega) trivial ⟨_, rfl, k0⟩ (by decide +kernel) (by decide +kernel) ?_
  refine chkC_ok (by omega) hf rfl h2 (fun hb N hN => ?_) (fun g1 g2 => ?_)
  · exact tP_t hQ hT (if_pos hb) hN
  rw [if_neg (fun n => n ⟨g1, g2⟩)] at hQ
  dsimp only at hQ
  obtain ⟨k, rfl⟩ : ∃ k : Nat, c = k := ⟨c.toNat, by omega⟩
  rw [show ((k : Int)).toNat = k from rfl] at hQ
  refine zW.gz [] rfl rfl rfl (by omega) trivial ⟨_, rfl, k0⟩ rfl rfl (by decide +kernel) (by decide +kernel) ?_
  refine holds_ok (by omega) hf hp (by omega) rfl rfl h3 (fun g => ?_) (fun g => ?_)
  · refine zW.gr [] rfl rfl rfl (by omega) trivial z01_1 ?_
    rw [b01_t g] at hQ
    exact tP_0 hQ rfl hT tfr_rf
  · refine zW.gr [] rfl rfl rfl (by omega) trivial z01_0 ?_
    rw [b01_f g] at hQ
    exact tP_0 hQ rfl hT tfr_rf
noncomputable def n01 (p : Prop) : Nat := @ite Nat p (Classical.propDecidable p) 1 0
theorem n01_t {p : Prop} (h : p) : n01 p = 1 := if_pos h
theorem n01_f {p : Prop} (h : ¬ p) : n01 p = 0 := if_neg h
theorem n01_le (p : Prop) : n01 p ≤ 1 := by
  rcases Classical.em p with h | h
  · rw [n01_t h]
    exact Nat.le_refl _
  · rw [n01_f h]
    exact Nat.zero_le _
noncomputable def recN (T : tfT) (j c : Nat) : Nat := n01 (hRec T j c 0) + n01 (hRec T j c 1)
theorem recN_s (T : tfT) (j : Nat) : ∀ n, smN (recN T j) n ≤ 2 * n
  | 0 => Nat.le_refl _
  | n + 1 => by
    have h := recN_s T j n
    have h1 := n01_le (hRec T j n 0)
    have h2 := n01_le (hRec T j n 1)
    show smN (recN T j) n + (n01 (hRec T j n 0) + n01 (hRec T j n 1)) ≤ _
    omega
def wUnd (w : zRd) : zRd := (w.1, rMa w, rRs w, rSp w, rOv w, rTi w, rUn w, rCl w, true, rDy w)
noncomputable def oUndo (T : tfT) (r : Int) : tRes := onR T r fun j => if rCl (tRd T j) = true ∧ rUd (tRd T j) = false then (0, (smN (recN T j) (tCn T) : Nat), tSetR T j (wUnd (tRd T j)) (tDy T)) else (2, 0, T)
theorem undo_lp {j : Nat} {r : Int} (hd : 10 ≤ d) (hf : tf x z pb rb T (I, L, R)) (hj : j < tRn T)
    (hQ : Q (.inl (some (zi (iI (smN (recN T j) (tCn T) : Nat))))) (upI I (rb j) 10 (iI 1), L, R)) :
    ∀ n k, k + n = tCn T → ∀ (y u : Int32), y = iI (smN (recN T j) k : Nat) → u = iI (k : Int) → zW 141 d (0 + zmc 148) (0 + zms 148) 36 [some (zr (some x)), some (zi (iI r)), some (zr (some (rb j))), some (zi y), some (zi u)] [] (I, L, R) Q
  | 0, k, hk, y, u, e1, e2 => by
    subst e1; subst e2
    have k0 := tf_k0 hf
    obtain ⟨-, ⟨b1, b2⟩, -⟩ := own_ok hf
    have h12 := hf.1.2.2.2.1.1
    obtain ⟨hL, hk', hz, hR⟩ := tf_rd hf hj
    have b0 := hL.1
    refine zW.gbt [] rfl rfl rfl (by omega) (by simp (disch := omega) only [true_or, or_true, eq_self, Option.some.injEq, Prod.mk.injEq, zall_0, zall_1, zall_2, zob_iff, zar_iff, zis_iff, zkIs_some, zkHas_some, iI_vp, z01_I, z01_bz, zch_I, true_and, and_true, or_false, false_or, and_self, upI_same, upL_same, upI_ne, upL_ne, iI_ixN, zI_mk, zL_mk, zP_mk, zK_mk, zN_mk, zwI_up, zwL_up, zg_some, Nat.reduceMod, Nat.reduceDiv, zcn_I, iI_add, iI_sub, iI_mul, iI_neg, iI_lt, iI_le, iI_eq, iI_lt0, iI_le0, iI_gt0, iI_ge0, iI_eq0, k0] <;> omega) (by simp (disch := omega) only [eq_self, not_true_eq_false, not_false_eq_true, upI_same, upL_same, upI_ne, upL_ne, iI_ixN, zI_mk, zL_mk, zP_mk, zK_mk, zN_mk, zwI_up, zwL_up, zg_some, Nat.reduceMod, Nat.reduceDiv, zcn_I, iI_add, iI_sub, iI_mul, iI_neg, iI_lt, iI_le, iI_eq, iI_lt0, iI_le0, iI_gt0, iI_ge0, iI_eq0, b1] <;> omega) ?_
    refine zW.gr [] rfl rfl rfl (by omega) ⟨⟨_, rfl, b0⟩, z01c1⟩ trivial ?_
    simp (disch := omega) only [upI_same, upL_same, upI_ne, upL_ne, iI_ixN, zI_mk, zL_mk, zP_mk, zK_mk, zN_mk, zwI_up, zwL_up, zg_some, Nat.reduceMod, Nat.reduceDiv, zcn_I, iI_add, iI_sub, iI_mul, iI_neg, iI_lt, iI_le, iI_eq, iI_lt0, iI_le0, iI_gt0, iI_ge0, iI_eq0, zcn_I]
    rw [show k = tCn T by omega]
    exact hQ
  | n + 1, k, hk, y, u, e1, e2 => by
    subst e1; subst e2
    have k0 := tf_k0 hf
    obtain ⟨-, ⟨b1, b2⟩, -⟩ := own_ok hf
    have h12 := hf.1.2.2.2.1.1
    have hs := recN_s T j k
    have sm1 : (smN (recN T j) (k + 1) : Int) = (smN (recN T j) k : Int) + ((n01 (hRec T j k 0) : Int) + (n01 (hRec T j k 1) : Int)) := by
      show ((smN (recN T j) k + (n01 (hRec T j k 0) + n01 (hRec T j k 1)) : Nat) : Int) = _
      omega
    refine zW.gbf [] rfl rfl rfl (by omega) (by simp (disch := omega) only [true_or, or_true, eq_self, Option.some.injEq, Prod.mk.injEq, zall_0, zall_1, zall_2, zob_iff, zar_iff, zis_iff, zkIs_some, zkHas_some, iI_vp, z01_I, z01_bz, zch_I, true_and, and_true, or_false, false_or, and_self, upI_same, upL_same, upI_ne, upL_ne, iI_ixN, zI_mk, zL_mk, zP_mk, zK_mk, zN_mk, zwI_up, zwL_up, zg_some, Nat.reduceMod, Nat.reduceDiv, zcn_I, iI_add, iI_sub, iI_mul, iI_neg, iI_lt, iI_le, iI_eq, iI_lt0, iI_le0, iI_gt0, iI_ge0, iI_eq0, k0] <;> omega) (by simp (disch := omega) only [eq_self, not_true_eq_false, not_false_eq_true, upI_same, upL_same, upI_ne, upL_ne, iI_ixN, zI_mk, zL_mk, zP_mk, zK_mk, zN_mk, zwI_up, zwL_up, zg_some, Nat.reduceMod, Nat.reduceDiv, zcn_I, iI_add, iI_sub, iI_mul, iI_neg, iI_lt, iI_le, iI_eq, iI_lt0, iI_le0, iI_gt0, iI_ge0, iI_eq0, b1] <;> omega) ?_
    refine zW.gbf [] rfl rfl rfl (by omega) trivial (by simp (disch := omega) only [eq_self, not_true_eq_false, not_false_eq_true, upI_same, upL_same, upI_ne, upL_ne, iI_ixN, zI_mk, zL_mk, zP_mk, zK_mk, zN_mk, zwI_up, zwL_up, zg_some, Nat.reduceMod, Nat.reduceDiv, zcn_I, iI_add, iI_sub, iI_mul, iI_neg, iI_lt, iI_le, iI_eq, iI_lt0, iI_le0, iI_gt0, iI_ge0, iI_eq0] <;> omega) ?_
    have G : ∀ (y : Int32), y = iI (n01 (hRec T j k 0) : Int) → zW 141 d (0 + zmc 148) (0 + zms 148) 69 [some (zr (some x)), some (zi (iI r)), some (zr (some (rb j))), some (zi (iI (smN (recN T j) k : Nat))), some (zi (iI (k : Int)))] [zi y, zi (iI (smN (recN T j) k : Nat))] (I, L, R) Q := fun y ey => by
      subst ey
      refine zW.gz [] rfl rfl rfl (by omega) trivial ⟨_, rfl, k0⟩ rfl rfl (by decide +kernel) (by decide +kernel) ?_
      refine holds_ok (by omega) hf hj (by omega) rfl (zcn_I _) ⟨by omega, by omega⟩ (fun g => ?_) (fun g => ?_)
      · refine zW.gbf [] rfl rfl rfl (by omega) trivial (by simp (disch := omega) only [eq_self, not_true_eq_false, not_false_eq_true, upI_same, upL_same, upI_ne, upL_ne, iI_ixN, zI_mk, zL_mk, zP_mk, zK_mk, zN_mk, zwI_up, zwL_up, zg_some, Nat.reduceMod, Nat.reduceDiv, zcn_I, iI_add, iI_sub, iI_mul, iI_neg, iI_lt, iI_le, iI_eq, iI_lt0, iI_le0, iI_gt0, iI_ge0, iI_eq0] <;> omega) ?_
        refine zW.go [36] rfl (by omega) trivial ?_
        exact undo_lp hd hf hj hQ n (k + 1) (by omega) _ _ (by
          rw [n01_t g] at sm1
          rw [zcn_I, iI_add, iI_add]
          exact iI_cg (by omega)) (by rw [zcn_I, iI_add]; rfl)
      · refine zW.gbt [] rfl rfl rfl (by omega) trivial (by simp (disch := omega) only [eq_self, not_true_eq_false, not_false_eq_true, upI_same, upL_same, upI_ne, upL_ne, iI_ixN, zI_mk, zL_mk, zP_mk, zK_mk, zN_mk, zwI_up, zwL_up, zg_some, Nat.reduceMod, Nat.reduceDiv, zcn_I, iI_add, iI_sub, iI_mul, iI_neg, iI_lt, iI_le, iI_eq, iI_lt0, iI_le0, iI_gt0, iI_ge0, iI_eq0] <;> omega) ?_
        refine zW.go [36] rfl (by omega) trivial ?_
        exact undo_lp hd hf hj hQ n (k + 1) (by omega) _ _ (by
          rw [n01_f g] at sm1
          rw [zcn_I, iI_add, iI_add]
          exact iI_cg (by omega)) (by rw [zcn_I, iI_add]; rfl)
    refine zW.gz [] rfl rfl rfl (by omega) trivial ⟨_, rfl, k0⟩ rfl rfl (by decide +kernel) (by decide +kernel) ?_
    refine holds_ok (by omega) hf hj (by omega) rfl (zcn_I _) ⟨by omega, by omega⟩ (fun g => ?_) (fun g => ?_)
    · refine zW.gbf [] rfl rfl rfl (by omega) trivial (by simp (disch := omega) only [eq_self, not_true_eq_false, not_false_eq_true, upI_same, upL_same, upI_ne, upL_ne, iI_ixN, zI_mk, zL_mk, zP_mk, zK_mk, zN_mk, zwI_up, zwL_up, zg_some, Nat.reduceMod, Nat.reduceDiv, zcn_I, iI_add, iI_sub, iI_mul, iI_neg, iI_lt, iI_le, iI_eq, iI_lt0, iI_le0, iI_gt0, iI_ge0, iI_eq0] <;> omega) ?_
      refine zW.go [69] rfl (by omega) trivial ?_
      exact G _ (by rw [n01_t g, zcn_I]; rfl)
    · refine zW.gbt [] rfl rfl rfl (by omega) trivial (by simp (disch := omega) only [eq_self, not_true_eq_false, not_false_eq_true, upI_same, upL_same, upI_ne, upL_ne, iI_ixN, zI_mk, zL_mk, zP_mk, zK_mk, zN_mk, zwI_up, zwL_up, zg_some, Nat.reduceMod, Nat.reduceDiv, zcn_I, iI_add, iI_sub, iI_mul, iI_neg, iI_lt, iI_le, iI_eq, iI_lt0, iI_le0, iI_gt0, iI_ge0, iI_eq0] <;> omega) ?_
      refine zW.go [69] rfl (by omega) trivial ?_
      exact G _ (by rw [n01_f g, zcn_I]; rfl)
theorem rPR_und {b : Nat} {w : zRd} {I' : Nat → Nat → Int32} (h : rPR b I w) (h0 : ∀ k, k ≠ 10 → I' b k = I b k) (h10 : I' b 10 = bz true) (hI : ∀ a, b < a → a < b + 19 → I' a = I a) : rPR b I' (wUnd w) := by
  obtain ⟨a1, a2, a3, a4, a5, a6, a7⟩ := h
  refine ⟨(h0 0 (by omega)).trans a1, (h0 1 (by omega)).trans a2, (h0 2 (by omega)).trans a3, (h0 9 (by omega)).trans a4, h10, (h0 11 (by omega)).trans a6, fun c hc => ?_⟩
  obtain ⟨c1, c2, c3, c4, c5, c6⟩ := a7 c hc
  refine ⟨?_, ?_, ?_, ?_, ?_, fun k hk => ?_⟩
  · rw [hI _ (by omega) (by omega)]
    exact c1
  · rw [hI _ (by omega) (by omega)]
    exact c2
  · rw [hI _ (by omega) (by omega)]
    exact c3
  · rw [hI _ (by omega) (by omega)]
    exact c4
  · rw [hI _ (by omega) (by omega)]
    exact c5
  · rw [hI _ (by omega) (by omega)]
    exact c6 k hk
theorem undo_ok {r : Int} {a : Int32} (hd : 10 ≤ d) (h : tfx x z T (I, L, R)) (e1 : a = iI r) (h1 : i32 r) (hQ : tP x z (I, L, R) (oUndo T r) [3, 1] eI Q) : zS 141 d [zr (some x), zi a] (I, L, R) Q := by
  subst e1
  have hT := h
  obtain ⟨pb, rb, hf⟩ := h
  have k0 := tf_k0 hf
  obtain ⟨-, -, -, g10⟩ := own_ok hf
  refine zW.gc [] rfl rfl rfl (by omega) trivial ⟨_, rfl, k0⟩ (by decide +kernel) (by decide +kernel) ?_
  refine findR_ok (by omega) hf rfl h1 (fun hb N hN => ?_) (fun j hj hp => ?_)
  · exact tP_t hQ hT (if_pos hb) hN
  subst hj
  unfold oUndo at hQ
  rw [onR_i hp] at hQ
  obtain ⟨hL, hk, hz, hR⟩ := tf_rd hf hp
  have b0 := hL.1
  have r9 := hR.2.2.2.1
  have r10 := hR.2.2.2.2.1
  have hdy := hf.1.2.2.2.2.2
  have hx : x + 17 ≤ rb j := by have := (hf.2.2.1.2.2.2.1 j hp).1; have := hf.2.2.1.1; omega
  have B : ¬ (rCl (tRd T j) = true ∧ rUd (tRd T j) = false) → zW 141 d (0 + zmc 148) (0 + zms 148) 20 [some (zr (some x)), some (zi (iI (j : Int))), some (zr (some (rb j))), none, none] [] (I, L, R) Q := fun q => by
    rw [if_neg q] at hQ
    refine zW.gt [] rfl rfl rfl (by decide +kernel) (by omega) trivial (by decide +kernel) (by decide +kernel) rfl (fun N hN => ?_)
    exact tP_t hQ hT rfl hN
  cases hcl : rCl (tRd T j) with
  | false =>
    rw [hcl] at r9
    refine zW.gbt [] rfl rfl rfl (by omega) (by simp (disch := omega) only [true_or, or_true, eq_self, Option.some.injEq, Prod.mk.injEq, zall_0, zall_1, zall_2, zob_iff, zar_iff, zis_iff, zkIs_some, zkHas_some, iI_vp, z01_I, z01_bz, zch_I, true_and, and_true, or_false, false_or, and_self, upI_same, upL_same, upI_ne, upL_ne, iI_ixN, zI_mk, zL_mk, zP_mk, zK_mk, zN_mk, zwI_up, zwL_up, zg_some, Nat.reduceMod, Nat.reduceDiv, zcn_I, iI_add, iI_sub, iI_mul, iI_neg, iI_lt, iI_le, iI_eq, iI_lt0, iI_le0, iI_gt0, iI_ge0, iI_eq0, b0] <;> omega) (by simp (disch := omega) only [eq_self, not_true_eq_false, not_false_eq_true, upI_same, upL_same, upI_ne, upL_ne, iI_ixN, zI_mk, zL_mk, zP_mk, zK_mk, zN_mk, zwI_up, zwL_up, zg_some, Nat.reduceMod, Nat.reduceDiv, zcn_I, iI_add, iI_sub, iI_mul, iI_neg, iI_lt, iI_le, iI_eq, iI_lt0, iI_le0, iI_gt0, iI_ge0, iI_eq0, r9, bz_f] <;> omega) ?_
    exact B (fun q => by rw [hcl] at q; cases q.1)
  | true =>
    rw [hcl] at r9
    refine zW.gbf [] rfl rfl rfl (by omega) (by simp (disch := omega) only [true_or, or_true, eq_self, Option.some.injEq, Prod.mk.injEq, zall_0, zall_1, zall_2, zob_iff, zar_iff, zis_iff, zkIs_some, zkHas_some, iI_vp, z01_I, z01_bz, zch_I, true_and, and_true, or_false, false_or, and_self, upI_same, upL_same, upI_ne, upL_ne, iI_ixN, zI_mk, zL_mk, zP_mk, zK_mk, zN_mk, zwI_up, zwL_up, zg_some, Nat.reduceMod, Nat.reduceDiv, zcn_I, iI_add, iI_sub, iI_mul, iI_neg, iI_lt, iI_le, iI_eq, iI_lt0, iI_le0, iI_gt0, iI_ge0, iI_eq0, b0] <;> omega) (by simp (disch := omega) only [eq_self, not_true_eq_false, not_false_eq_true, upI_same, upL_same, upI_ne, upL_ne, iI_ixN, zI_mk, zL_mk, zP_mk, zK_mk, zN_mk, zwI_up, zwL_up, zg_some, Nat.reduceMod, Nat.reduceDiv, zcn_I, iI_add, iI_sub, iI_mul, iI_neg, iI_lt, iI_le, iI_eq, iI_lt0, iI_le0, iI_gt0, iI_ge0, iI_eq0, r9, bz_t] <;> omega) ?_
    cases hud : rUd (tRd T j) with
    | true =>
      rw [hud] at r10
      refine zW.gbf [] rfl rfl rfl (by omega) (by simp (disch := omega) only [true_or, or_true, eq_self, Option.some.injEq, Prod.mk.injEq, zall_0, zall_1, zall_2, zob_iff, zar_iff, zis_iff, zkIs_some, zkHas_some, iI_vp, z01_I, z01_bz, zch_I, true_and, and_true, or_false, false_or, and_self, upI_same, upL_same, upI_ne, upL_ne, iI_ixN, zI_mk, zL_mk, zP_mk, zK_mk, zN_mk, zwI_up, zwL_up, zg_some, Nat.reduceMod, Nat.reduceDiv, zcn_I, iI_add, iI_sub, iI_mul, iI_neg, iI_lt, iI_le, iI_eq, iI_lt0, iI_le0, iI_gt0, iI_ge0, iI_eq0, b0] <;> omega) (by simp (disch := omega) only [eq_self, not_true_eq_false, not_false_eq_true, upI_same, upL_same, upI_ne, upL_ne, iI_ixN, zI_mk, zL_mk, zP_mk, zK_mk, zN_mk, zwI_up, zwL_up, zg_some, Nat.reduceMod, Nat.reduceDiv, zcn_I, iI_add, iI_sub, iI_mul, iI_neg, iI_lt, iI_le, iI_eq, iI_lt0, iI_le0, iI_gt0, iI_ge0, iI_eq0, r10, bz_t] <;> omega) ?_
      exact B (fun q => by rw [hud] at q; cases q.2)
    | false =>
      rw [hud] at r10
      rw [if_pos ⟨hcl, hud⟩] at hQ
      refine zW.gbt [] rfl rfl rfl (by omega) (by simp (disch := omega) only [true_or, or_true, eq_self, Option.some.injEq, Prod.mk.injEq, zall_0, zall_1, zall_2, zob_iff, zar_iff, zis_iff, zkIs_some, zkHas_some, iI_vp, z01_I, z01_bz, zch_I, true_and, and_true, or_false, false_or, and_self, upI_same, upL_same, upI_ne, upL_ne, iI_ixN, zI_mk, zL_mk, zP_mk, zK_mk, zN_mk, zwI_up, zwL_up, zg_some, Nat.reduceMod, Nat.reduceDiv, zcn_I, iI_add, iI_sub, iI_mul, iI_neg, iI_lt, iI_le, iI_eq, iI_lt0, iI_le0, iI_gt0, iI_ge0, iI_eq0, b0] <;> omega) (by simp (disch := omega) only [eq_self, not_true_eq_false, not_false_eq_true, upI_same, upL_same, upI_ne, upL_ne, iI_ixN, zI_mk, zL_mk, zP_mk, zK_mk, zN_mk, zwI_up, zwL_up, zg_some, Nat.reduceMod, Nat.reduceDiv, zcn_I, iI_add, iI_sub, iI_mul, iI_neg, iI_lt, iI_le, iI_eq, iI_lt0, iI_le0, iI_gt0, iI_ge0, iI_eq0, r10, bz_f] <;> omega) ?_
      refine zW.go [36] rfl (by omega) trivial ?_
      have hP : rPR (rb j) (upI I (rb j) 10 (iI 1)) (wUnd (tRd T j)) := rPR_und hR (fun k q => by simp (disch := omega) only [upI_same, upL_same, upI_ne, upL_ne, iI_ixN, zI_mk, zL_mk, zP_mk, zK_mk, zN_mk, zwI_up, zwL_up, zg_some, Nat.reduceMod, Nat.reduceDiv, zcn_I, iI_add, iI_sub, iI_mul, iI_neg, iI_lt, iI_le, iI_eq, iI_lt0, iI_le0, iI_gt0, iI_ge0, iI_eq0]) (upI_same _ _ _ _) (fun a q1 q2 => upI_row (by omega))
      obtain ⟨q1, q2⟩ := tf_setR (w := wUnd (tRd T j)) (I' := upI I (rb j) 10 (iI 1)) (dy := tDy T) hf hp (fun a e1 e2 => upI_row (by omega)) (fun k e1 => by simp (disch := omega) only [upI_same, upL_same, upI_ne, upL_ne, iI_ixN, zI_mk, zL_mk, zP_mk, zK_mk, zN_mk, zwI_up, zwL_up, zg_some, Nat.reduceMod, Nat.reduceDiv, zcn_I, iI_add, iI_sub, iI_mul, iI_neg, iI_lt, iI_le, iI_eq, iI_lt0, iI_le0, iI_gt0, iI_ge0, iI_eq0]) (by simp (disch := omega) only [upI_same, upL_same, upI_ne, upL_ne, iI_ixN, zI_mk, zL_mk, zP_mk, zK_mk, zN_mk, zwI_up, zwL_up, zg_some, Nat.reduceMod, Nat.reduceDiv, zcn_I, iI_add, iI_sub, iI_mul, iI_neg, iI_lt, iI_le, iI_eq, iI_lt0, iI_le0, iI_gt0, iI_ge0, iI_eq0]; exact g10) hdy hk hz hP
      exact undo_lp hd hf hp (tP_0 hQ rfl ⟨_, _, q1⟩ q2) (tCn T) 0 (by omega) _ _ (zcn_I _) (zcn_I _)
end TREC2
