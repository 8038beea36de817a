/-! The class's periods. -/
section TPER
variable {d x z : Nat} {T : tfT} {I : Nat → Nat → Int32} {L : Nat → Nat → Int64} {R : zRt} {Q : zO → zM → Prop}
def isPer (f : Nat → Nat) (P : Nat) : Prop := 1 ≤ P ∧ P ≤ 2520 ∧ itf f P = (fun p => p) ∧ ∀ k, 1 ≤ k → k < P → itf f k ≠ fun p => p
theorem per_ex0 (f : Nat → Nat) : ∀ n, (∃ P, 1 ≤ P ∧ P ≤ n ∧ itf f P = fun p => p) → ∃ P, 1 ≤ P ∧ P ≤ n ∧ itf f P = (fun p => p) ∧ ∀ k, 1 ≤ k → k < P → itf f k ≠ fun p => p
  | 0, ⟨P, h1, h2, _⟩ => by omega
  | n + 1, h => by
    rcases Classical.em (∃ P, 1 ≤ P ∧ P ≤ n ∧ itf f P = fun p => p) with g | g
    · obtain ⟨P, h1, h2, h3⟩ := per_ex0 f n g
      exact ⟨P, h1, by omega, h3⟩
    · obtain ⟨P, h1, h2, h3⟩ := h
      refine ⟨P, h1, h2, h3, fun k k1 k2 e => g ⟨k, k1, by omega, e⟩⟩
theorem per_ex {f : Nat → Nat} (hf : pm 10 f) : ∃ P, isPer f P := per_ex0 f 2520 ⟨2520, by omega, Nat.le_refl _, itf_2520 hf⟩
noncomputable def perd (f : Nat → Nat) : Nat := Classical.epsilon (isPer f)
theorem perd_sp {f : Nat → Nat} (hf : pm 10 f) : isPer f (perd f) := Classical.epsilon_spec (per_ex hf)
noncomputable def oPer (T : tfT) (p : Int) : tRes := onP T p fun i => (0, (perd (pzS (tPz T i)) : Nat), T)
theorem period_ok {p : Int} {a : Int32} (hd : 8 ≤ d) (h : tfx x z T (I, L, R)) (e1 : a = iI p) (h1 : i32 p) (hQ : tP x z (I, L, R) (oPer T p) [3] eI Q) : zS 115 d [zr (some x), zi a] (I, L, R) Q := by
  subst e1
  have hT := h
  obtain ⟨pb, rb, hf⟩ := h
  refine zW.gc [] rfl rfl rfl (by omega) trivial ⟨_, rfl, tf_k0 hf⟩ (by decide +kernel) (by decide +kernel) ?_
  refine findP_ok (by omega) hf rfl h1 (fun hb N hN => ?_) (fun i hi hp => ?_)
  · exact tP_t hQ hT (if_pos hb) hN
  · subst hi
    unfold oPer at hQ
    rw [onP_i hp] at hQ
    obtain ⟨hL, hz, hR⟩ := tf_pz hf hp
    have b0 := hL.1
    have r4 := hR.2.2.2.1
    obtain ⟨p1, p2, p3, p4⟩ := perd_sp (zst_pm hz)
    refine zW.gz [] rfl rfl rfl (by omega) (by simp (disch := omega) only [true_or, or_true, eq_self, Option.some.injEq, Prod.mk.injEq, zall_0, zall_1, zall_2, zob_iff, zar_iff, zis_iff, zkIs_some, zkHas_some, iI_vp, z01_I, z01_bz, zch_I, true_and, and_true, or_false, false_or, and_self, upI_same, upL_same, upI_ne, upL_ne, iI_ixN, zI_mk, zL_mk, zP_mk, zK_mk, zN_mk, zwI_up, zwL_up, zg_some, Nat.reduceMod, Nat.reduceDiv, zcn_I, iI_add, iI_sub, iI_mul, iI_neg, iI_lt, iI_le, iI_eq, iI_lt0, iI_le0, iI_gt0, iI_ge0, iI_eq0, b0] <;> omega) trivial rfl rfl (by decide +kernel) (by decide +kernel) ?_
    simp (disch := omega) only [upI_same, upL_same, upI_ne, upL_ne, iI_ixN, zI_mk, zL_mk, zP_mk, zK_mk, zN_mk, zwI_up, zwL_up, zg_some, Nat.reduceMod, Nat.reduceDiv, zcn_I, iI_add, iI_sub, iI_mul, iI_neg, iI_lt, iI_le, iI_eq, iI_lt0, iI_le0, iI_gt0, iI_ge0, iI_eq0, r4]
    refine cycle_ok (P := perd (pzS (tPz T i))) (by omega) (zst_pm hz) p1 p2 p3 p4 rfl ?_
    refine zW.gr [] rfl rfl rfl (by omega) trivial trivial ?_
    exact tP_0 hQ rfl hT tfr_rf
end TPER
