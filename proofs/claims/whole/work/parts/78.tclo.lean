/-! The class closes rounds. -/
section TCLO
variable {d x z : Nat} {pb rb : Nat → Nat} {T : tfT} {I : Nat → Nat → Int32} {L : Nat → Nat → Int64} {R : zRt} {Q : zO → zM → Prop}
def wClo (w : zRd) (dy : Nat) : zRd := (w.1, rMa w, rRs w, rSp w, rOv w, rTi w, rUn w, true, rUd w, dy)
theorem rPR_clo {b dy : Nat} {w : zRd} {I' : Nat → Nat → Int32} (h : rPR b I w) (h0 : ∀ k, k ≠ 9 → k ≠ 11 → I' b k = I b k) (h9 : I' b 9 = bz true) (h11 : I' b 11 = iI (dy : Int)) (hI : ∀ a, b < a → a < b + 19 → I' a = I a) : rPR b I' (wClo w dy) := by
  obtain ⟨a0, a1, a2, a9, a10, a11, ar⟩ := h
  refine ⟨(h0 0 (by decide) (by decide)).trans a0, (h0 1 (by decide) (by decide)).trans a1, (h0 2 (by decide) (by decide)).trans a2, h9, (h0 10 (by decide) (by decide)).trans a10, h11, fun c hc => ?_⟩
  rw [hI (b + 14) (by omega) (by omega), hI (b + 15) (by omega) (by omega), hI (b + 16) (by omega) (by omega), hI (b + 17) (by omega) (by omega), hI (b + 18) (by omega) (by omega), hI (b + 2 + c) (by omega) (by omega)]
  exact ar c hc
def oClose (T : tfT) (r dy : Int) : tRes := onR T r fun j => if ¬ ((tDy T : Int) ≤ dy ∧ dy ≤ 999) then (2, 0, T) else if rCl (tRd T j) = true then (3, 0, T) else (0, (nSta (tRd T j) : Nat), tSetR T j (wClo (tRd T j) dy.toNat) dy.toNat)
theorem close_ok {r dy : Int} {a b : Int32} (hd : 10 ≤ d) (h : tfx x z T (I, L, R)) (e1 : a = iI r) (e2 : b = iI dy) (h1 : i32 r) (h2 : i32 dy) (hQ : tP x z (I, L, R) (oClose T r dy) [3, 0, 1] eI Q) : zS 140 d [zr (some x), zi a, zi b] (I, L, R) Q := by
  subst e1; subst e2
  have hT := h
  obtain ⟨pb, rb, hf⟩ := h
  have k0 := tf_k0 hf
  have g10 := (own_ok hf).2.2.2
  have hd9 := hf.1.2.2.2.2.2
  refine zW.gc [] rfl rfl rfl (by omega) trivial ⟨_, rfl, k0⟩ (by decide +kernel) (by decide +kernel) ?_
  refine findR_ok (by omega) hf rfl h1 (fun hb N hN => ?_) (fun j hj hp => ?_)
  · exact tP_t hQ hT (if_pos hb) hN
  subst hj
  unfold oClose at hQ
  rw [onR_i hp] at hQ
  obtain ⟨hL, hk, hz, hR⟩ := tf_rd hf hp
  have b0 := hL.1
  have r9 := hR.2.2.2.1
  have hx : x + 17 ≤ rb j := by have := (hf.2.2.1.2.2.2.1 j hp).1; have := hf.2.2.1.1; omega
  refine zW.gc [] rfl rfl rfl (by omega) (by simp (disch := omega) only [true_or, or_true, eq_self, Option.some.injEq, Prod.mk.injEq, zall_0, zall_1, zall_2, zob_iff, zar_iff, zis_iff, zkIs_some, zkHas_some, iI_vp, z01_I, z01_bz, zch_I, true_and, and_true, or_false, false_or, and_self, upI_same, upL_same, upI_ne, upL_ne, iI_ixN, zI_mk, zL_mk, zP_mk, zK_mk, zN_mk, zwI_up, zwL_up, zg_some, Nat.reduceMod, Nat.reduceDiv, zcn_I, iI_add, iI_sub, iI_mul, iI_neg, iI_lt, iI_le, iI_eq, iI_lt0, iI_le0, iI_gt0, iI_ge0, iI_eq0, k0] <;> omega) trivial (by decide +kernel) (by decide +kernel) ?_
  simp (disch := omega) only [upI_same, upL_same, upI_ne, upL_ne, iI_ixN, zI_mk, zL_mk, zP_mk, zK_mk, zN_mk, zwI_up, zwL_up, zg_some, Nat.reduceMod, Nat.reduceDiv, zcn_I, iI_add, iI_sub, iI_mul, iI_neg, iI_lt, iI_le, iI_eq, iI_lt0, iI_le0, iI_gt0, iI_ge0, iI_eq0, g10]
  refine chkN_ok (hi := 999) (by omega) rfl rfl ?_ h2 ⟨by omega, by omega⟩ ⟨by omega, by omega⟩ (fun hb N hN => ?_) (fun g3 g4 => ?_)
  · rfl
  · exact tP_t hQ hT (if_pos hb) hN
  rw [if_neg (fun n => n ⟨g3, g4⟩)] at hQ
  cases hcl : rCl (tRd T j) with
  | true =>
    rw [if_pos hcl] at hQ
    rw [hcl] at r9
    refine zW.gbf [] rfl rfl rfl (by omega) (by simp (disch := omega) only [true_or, or_true, eq_self, Option.some.injEq, Prod.mk.injEq, zall_0, zall_1, zall_2, zob_iff, zar_iff, zis_iff, zkIs_some, zkHas_some, iI_vp, z01_I, z01_bz, zch_I, true_and, and_true, or_false, false_or, and_self, upI_same, upL_same, upI_ne, upL_ne, iI_ixN, zI_mk, zL_mk, zP_mk, zK_mk, zN_mk, zwI_up, zwL_up, zg_some, Nat.reduceMod, Nat.reduceDiv, zcn_I, iI_add, iI_sub, iI_mul, iI_neg, iI_lt, iI_le, iI_eq, iI_lt0, iI_le0, iI_gt0, iI_ge0, iI_eq0, b0] <;> omega) (by simp (disch := omega) only [eq_self, not_true_eq_false, not_false_eq_true, upI_same, upL_same, upI_ne, upL_ne, iI_ixN, zI_mk, zL_mk, zP_mk, zK_mk, zN_mk, zwI_up, zwL_up, zg_some, Nat.reduceMod, Nat.reduceDiv, zcn_I, iI_add, iI_sub, iI_mul, iI_neg, iI_lt, iI_le, iI_eq, iI_lt0, iI_le0, iI_gt0, iI_ge0, iI_eq0, r9, bz_t] <;> omega) ?_
    refine zW.gt [] rfl rfl rfl (by decide +kernel) (by omega) trivial (by decide +kernel) (by decide +kernel) rfl (fun N hN => ?_)
    exact tP_t hQ hT rfl hN
  | false =>
    rw [if_neg (by rw [hcl]; decide)] at hQ
    rw [hcl] at r9
    obtain ⟨n, rfl⟩ : ∃ n : Nat, dy = n := ⟨dy.toNat, by omega⟩
    refine zW.gbt [] rfl rfl rfl (by omega) (by simp (disch := omega) only [true_or, or_true, eq_self, Option.some.injEq, Prod.mk.injEq, zall_0, zall_1, zall_2, zob_iff, zar_iff, zis_iff, zkIs_some, zkHas_some, iI_vp, z01_I, z01_bz, zch_I, true_and, and_true, or_false, false_or, and_self, upI_same, upL_same, upI_ne, upL_ne, iI_ixN, zI_mk, zL_mk, zP_mk, zK_mk, zN_mk, zwI_up, zwL_up, zg_some, Nat.reduceMod, Nat.reduceDiv, zcn_I, iI_add, iI_sub, iI_mul, iI_neg, iI_lt, iI_le, iI_eq, iI_lt0, iI_le0, iI_gt0, iI_ge0, iI_eq0, b0] <;> omega) (by simp (disch := omega) only [eq_self, not_true_eq_false, not_false_eq_true, upI_same, upL_same, upI_ne, upL_ne, iI_ixN, zI_mk, zL_mk, zP_mk, zK_mk, zN_mk, zwI_up, zwL_up, zg_some, Nat.reduceMod, Nat.reduceDiv, zcn_I, iI_add, iI_sub, iI_mul, iI_neg, iI_lt, iI_le, iI_eq, iI_lt0, iI_le0, iI_gt0, iI_ge0, iI_eq0, r9, bz_f] <;> omega) ?_
    refine zW.gz [] rfl rfl rfl (by omega) (by simp (disch := omega) only [true_or, or_true, eq_self, Option.some.injEq, Prod.mk.injEq, zall_0, zall_1, zall_2, zob_iff, zar_iff, zis_iff, zkIs_some, zkHas_some, iI_vp, z01_I, z01_bz, zch_I, true_and, and_true, or_false, false_or, and_self, upI_same, upL_same, upI_ne, upL_ne, iI_ixN, zI_mk, zL_mk, zP_mk, zK_mk, zN_mk, zwI_up, zwL_up, zg_some, Nat.reduceMod, Nat.reduceDiv, zcn_I, iI_add, iI_sub, iI_mul, iI_neg, iI_lt, iI_le, iI_eq, iI_lt0, iI_le0, iI_gt0, iI_ge0, iI_eq0, b0, k0] <;> omega) ⟨_, rfl, b0⟩ rfl rfl (by decide +kernel) (by decide +kernel) ?_
    have hk' : rOK (wClo (tRd T j) n) := ⟨hk.1, hk.2.1, hk.2.2.1, by show n ≤ 999; omega, hk.2.2.2.2⟩
    rw [zcn_I]
    have hP : rPR (rb j) (upI (upI (upI I (rb j) 9 (iI 1)) (rb j) 11 (iI (n : Int))) x 10 (iI (n : Int))) (wClo (tRd T j) n) := by
      refine rPR_clo hR (fun k q1 q2 => ?_) ?_ ?_ (fun a q1 q2 => ?_)
      · simp (disch := omega) only [upI_same, upL_same, upI_ne, upL_ne, iI_ixN, zI_mk, zL_mk, zP_mk, zK_mk, zN_mk, zwI_up, zwL_up, zg_some, Nat.reduceMod, Nat.reduceDiv, zcn_I, iI_add, iI_sub, iI_mul, iI_neg, iI_lt, iI_le, iI_eq, iI_lt0, iI_le0, iI_gt0, iI_ge0, iI_eq0]
      · simp (disch := omega) only [upI_same, upL_same, upI_ne, upL_ne, iI_ixN, zI_mk, zL_mk, zP_mk, zK_mk, zN_mk, zwI_up, zwL_up, zg_some, Nat.reduceMod, Nat.reduceDiv, zcn_I, iI_add, iI_sub, iI_mul, iI_neg, iI_lt, iI_le, iI_eq, iI_lt0, iI_le0, iI_gt0, iI_ge0, iI_eq0]
        rfl
      · simp (disch := omega) only [upI_same, upL_same, upI_ne, upL_ne, iI_ixN, zI_mk, zL_mk, zP_mk, zK_mk, zN_mk, zwI_up, zwL_up, zg_some, Nat.reduceMod, Nat.reduceDiv, zcn_I, iI_add, iI_sub, iI_mul, iI_neg, iI_lt, iI_le, iI_eq, iI_lt0, iI_le0, iI_gt0, iI_ge0, iI_eq0]
      · rw [upI_row (by omega), upI_row (by omega), upI_row (by omega)]
    obtain ⟨q1, q2⟩ := tf_setR hf hp (I' := upI (upI (upI I (rb j) 9 (iI 1)) (rb j) 11 (iI (n : Int))) x 10 (iI (n : Int))) (fun a e1 e2 => by rw [upI_row (by omega), upI_row (by omega), upI_row (by omega)]) (fun k e1 => by simp (disch := omega) only [upI_same, upL_same, upI_ne, upL_ne, iI_ixN, zI_mk, zL_mk, zP_mk, zK_mk, zN_mk, zwI_up, zwL_up, zg_some, Nat.reduceMod, Nat.reduceDiv, zcn_I, iI_add, iI_sub, iI_mul, iI_neg, iI_lt, iI_le, iI_eq, iI_lt0, iI_le0, iI_gt0, iI_ge0, iI_eq0]) (upI_same _ _ _ _) (by omega) hk' hz hP
    refine started_ok (by omega) hL hk' hP ?_
    refine zW.gr [] rfl rfl rfl (by omega) trivial trivial ?_
    exact tP_0 hQ rfl ⟨_, _, q1⟩ q2
end TCLO
