/-! The class's checks. -/
section TCHK
variable {d x z : Nat} {pb rb : Nat → Nat} {T : tfT} {M : zM} {Q : zO → zM → Prop}
theorem chkN_ok {v lo hi : Int} {p q r : Int32} (hd : 6 ≤ d) (e1 : p = iI v) (e2 : q = iI lo) (e3 : r = iI hi) (h1 : i32 v) (h2 : i32 lo) (h3 : i32 hi) (bad : ¬ (lo ≤ v ∧ v ≤ hi) → ∀ N, zN M ≤ N → Q (.inr 0) (zgrow M N)) (good : lo ≤ v → v ≤ hi → Q (.inl none) M) : zS 151 d [zi p, zi q, zi r] M Q := by
  subst e1; subst e2; subst e3
  obtain ⟨a1, a2⟩ := h1
  obtain ⟨b1, b2⟩ := h2
  obtain ⟨c1, c2⟩ := h3
  refine zW.gb [] rfl rfl rfl (by omega) trivial (fun h => ?_) (fun h => ?_)
  · simp (disch := omega) only [zcn_I, iI_add, iI_sub, iI_mul, iI_neg, iI_lt, iI_le, iI_eq, iI_lt0, iI_le0, iI_gt0, iI_ge0, iI_eq0] at h
    refine zW.gt [] rfl rfl rfl (by decide +kernel) hd trivial (by decide +kernel) (by decide +kernel) rfl (fun N hN => ?_)
    exact bad (by omega) N hN
  · simp (disch := omega) only [zcn_I, iI_add, iI_sub, iI_mul, iI_neg, iI_lt, iI_le, iI_eq, iI_lt0, iI_le0, iI_gt0, iI_ge0, iI_eq0] at h
    refine zW.gb [] rfl rfl rfl (by omega) trivial (fun h' => ?_) (fun h' => ?_)
    · simp (disch := omega) only [zcn_I, iI_add, iI_sub, iI_mul, iI_neg, iI_lt, iI_le, iI_eq, iI_lt0, iI_le0, iI_gt0, iI_ge0, iI_eq0] at h'
      refine zW.gr [] rfl rfl rfl (by omega) trivial trivial ?_
      exact good (by omega) (by omega)
    · simp (disch := omega) only [zcn_I, iI_add, iI_sub, iI_mul, iI_neg, iI_lt, iI_le, iI_eq, iI_lt0, iI_le0, iI_gt0, iI_ge0, iI_eq0] at h'
      refine zW.gt [] rfl rfl rfl (by decide +kernel) hd trivial (by decide +kernel) (by decide +kernel) rfl (fun N hN => ?_)
      exact bad (by omega) N hN
theorem chkP_ok {I : Nat → Nat → Int32} {L : Nat → Nat → Int64} {R : zRt} {b n : Nat} {v : Int} {p : Int32} (hd : 6 ≤ d) (k0 : R.2.1 b = some (2, 0)) (r1 : I b 0 = iI (n : Int)) (hn : n ≤ 10) (e1 : p = iI v) (h1 : i32 v) (bad : ¬ (0 ≤ v ∧ v < n) → ∀ N, R.2.2 ≤ N → Q (.inr 3) (zgrow (I, L, R) N)) (good : 0 ≤ v → v < n → Q (.inl none) (I, L, R)) : zS 150 d [zr (some b), zi p] (I, L, R) Q := by
  subst e1
  obtain ⟨a1, a2⟩ := h1
  refine zW.gb [] rfl rfl rfl (by omega) trivial (fun h => ?_) (fun h => ?_)
  · simp (disch := omega) only [zcn_I, iI_add, iI_sub, iI_mul, iI_neg, iI_lt, iI_le, iI_eq, iI_lt0, iI_le0, iI_gt0, iI_ge0, iI_eq0] at h
    refine zW.gt [] rfl rfl rfl (by decide +kernel) hd trivial (by decide +kernel) (by decide +kernel) rfl (fun N hN => ?_)
    exact bad (by omega) N hN
  · simp (disch := omega) only [zcn_I, iI_add, iI_sub, iI_mul, iI_neg, iI_lt, iI_le, iI_eq, iI_lt0, iI_le0, iI_gt0, iI_ge0, iI_eq0] at h
    refine zW.gb [] rfl rfl rfl (by omega) (by simp (disch := omega) only [true_or, or_true, eq_self, Option.some.injEq, Prod.mk.injEq, zall_0, zall_1, zall_2, zob_iff, zar_iff, zis_iff, zkIs_some, zkHas_some, iI_vp, z01_I, z01_bz, zch_I, true_and, and_true, or_false, false_or, and_self, upI_same, upL_same, upI_ne, upL_ne, iI_ixN, zI_mk, zL_mk, zP_mk, zK_mk, zN_mk, zwI_up, zwL_up, zg_some, Nat.reduceMod, Nat.reduceDiv, zcn_I, iI_add, iI_sub, iI_mul, iI_neg, iI_lt, iI_le, iI_eq, iI_lt0, iI_le0, iI_gt0, iI_ge0, iI_eq0, k0] <;> omega) (fun h' => ?_) (fun h' => ?_)
    · simp (disch := omega) only [zcn_I, iI_add, iI_sub, iI_mul, iI_neg, iI_lt, iI_le, iI_eq, iI_lt0, iI_le0, iI_gt0, iI_ge0, iI_eq0, upI_same, upL_same, upI_ne, upL_ne, iI_ixN, zI_mk, zL_mk, zP_mk, zK_mk, zN_mk, zwI_up, zwL_up, zg_some, Nat.reduceMod, Nat.reduceDiv, r1] at h'
      refine zW.gr [] rfl rfl rfl (by omega) trivial trivial ?_
      exact good (by omega) (by omega)
    · simp (disch := omega) only [zcn_I, iI_add, iI_sub, iI_mul, iI_neg, iI_lt, iI_le, iI_eq, iI_lt0, iI_le0, iI_gt0, iI_ge0, iI_eq0, upI_same, upL_same, upI_ne, upL_ne, iI_ixN, zI_mk, zL_mk, zP_mk, zK_mk, zN_mk, zwI_up, zwL_up, zg_some, Nat.reduceMod, Nat.reduceDiv, r1] at h'
      refine zW.gt [] rfl rfl rfl (by decide +kernel) hd trivial (by decide +kernel) (by decide +kernel) rfl (fun N hN => ?_)
      exact bad (by omega) N hN
theorem findP_ok {I : Nat → Nat → Int32} {L : Nat → Nat → Int64} {R : zRt} {v : Int} {p : Int32} (hd : 6 ≤ d) (h : tf x z pb rb T (I, L, R)) (e1 : p = iI v) (h1 : i32 v) (bad : ¬ (0 ≤ v ∧ v < tPn T) → ∀ N, R.2.2 ≤ N → Q (.inr 3) (zgrow (I, L, R) N)) (good : ∀ i : Nat, v = i → i < tPn T → Q (.inl (some (zr (some (pb i))))) (I, L, R)) : zS 147 d [zr (some x), zi p] (I, L, R) Q := by
  subst e1
  obtain ⟨a1, a2⟩ := h1
  have k0 : R.2.1 x = some (6, 0) := h.2.1.1.1
  have k2 : R.1 x 2 = some (x + 2) := h.2.1.1.2.2.1
  have kk : R.2.1 (x + 2) = some (27, 4) := h.2.1.1.2.2.2.2.2.2.2.2.1
  have r1 : I x 3 = iI (tPn T : Int) := h.2.2.2.2.1.1
  have hn := h.1.2.1.1
  have B : ¬ (0 ≤ v ∧ v < tPn T) → ∀ w, zW 147 d 0 0 17 [some (zr (some x)), some (zi (iI v)), w] [] (I, L, R) Q := fun hb w => by
    refine zW.gt [] rfl rfl rfl (by decide +kernel) hd trivial (by decide +kernel) (by decide +kernel) rfl (fun N hN => ?_)
    exact bad hb N hN
  refine zW.gb [] rfl rfl rfl (by omega) trivial (fun h => ?_) (fun h => ?_)
  · simp (disch := omega) only [zcn_I, iI_add, iI_sub, iI_mul, iI_neg, iI_lt, iI_le, iI_eq, iI_lt0, iI_le0, iI_gt0, iI_ge0, iI_eq0] at h
    exact B (by omega) _
  · rename_i hh
    simp (disch := omega) only [zcn_I, iI_add, iI_sub, iI_mul, iI_neg, iI_lt, iI_le, iI_eq, iI_lt0, iI_le0, iI_gt0, iI_ge0, iI_eq0] at h
    refine zW.gb [] rfl rfl rfl (by omega) (by simp (disch := omega) only [true_or, or_true, eq_self, Option.some.injEq, Prod.mk.injEq, zall_0, zall_1, zall_2, zob_iff, zar_iff, zis_iff, zkIs_some, zkHas_some, iI_vp, z01_I, z01_bz, zch_I, true_and, and_true, or_false, false_or, and_self, upI_same, upL_same, upI_ne, upL_ne, iI_ixN, zI_mk, zL_mk, zP_mk, zK_mk, zN_mk, zwI_up, zwL_up, zg_some, Nat.reduceMod, Nat.reduceDiv, zcn_I, iI_add, iI_sub, iI_mul, iI_neg, iI_lt, iI_le, iI_eq, iI_lt0, iI_le0, iI_gt0, iI_ge0, iI_eq0, k0] <;> omega) (fun h' => ?_) (fun h' => ?_)
    · simp (disch := omega) only [zcn_I, iI_add, iI_sub, iI_mul, iI_neg, iI_lt, iI_le, iI_eq, iI_lt0, iI_le0, iI_gt0, iI_ge0, iI_eq0, upI_same, upL_same, upI_ne, upL_ne, iI_ixN, zI_mk, zL_mk, zP_mk, zK_mk, zN_mk, zwI_up, zwL_up, zg_some, Nat.reduceMod, Nat.reduceDiv, r1] at h'
      exact B (by omega) _
    · simp (disch := omega) only [zcn_I, iI_add, iI_sub, iI_mul, iI_neg, iI_lt, iI_le, iI_eq, iI_lt0, iI_le0, iI_gt0, iI_ge0, iI_eq0, upI_same, upL_same, upI_ne, upL_ne, iI_ixN, zI_mk, zL_mk, zP_mk, zK_mk, zN_mk, zwI_up, zwL_up, zg_some, Nat.reduceMod, Nat.reduceDiv, r1] at h'
      obtain ⟨i, rfl⟩ : ∃ i : Nat, v = i := ⟨v.toNat, by omega⟩
      have q : R.1 (x + 2) i = some (pb i) := (hh.2.1.2.1 i (by omega)).1
      refine zW.gbt [] rfl rfl rfl (by omega) trivial (by simp (disch := omega) only [eq_self, not_true_eq_false, not_false_eq_true, upI_same, upL_same, upI_ne, upL_ne, iI_ixN, zI_mk, zL_mk, zP_mk, zK_mk, zN_mk, zwI_up, zwL_up, zg_some, Nat.reduceMod, Nat.reduceDiv, zcn_I, iI_add, iI_sub, iI_mul, iI_neg, iI_lt, iI_le, iI_eq, iI_lt0, iI_le0, iI_gt0, iI_ge0, iI_eq0] <;> omega) ?_
      refine zW.gbt [] rfl rfl rfl (by omega) (by simp (disch := omega) only [true_or, or_true, eq_self, Option.some.injEq, Prod.mk.injEq, zall_0, zall_1, zall_2, zob_iff, zar_iff, zis_iff, zkIs_some, zkHas_some, iI_vp, z01_I, z01_bz, zch_I, true_and, and_true, or_false, false_or, and_self, upI_same, upL_same, upI_ne, upL_ne, iI_ixN, zI_mk, zL_mk, zP_mk, zK_mk, zN_mk, zwI_up, zwL_up, zg_some, Nat.reduceMod, Nat.reduceDiv, zcn_I, iI_add, iI_sub, iI_mul, iI_neg, iI_lt, iI_le, iI_eq, iI_lt0, iI_le0, iI_gt0, iI_ge0, iI_eq0, k0, k2, kk, q] <;> omega) ?_ ?_
      · simp (disch := omega) [upI_same, upL_same, upI_ne, upL_ne, iI_ixN, zI_mk, zL_mk, zP_mk, zK_mk, zN_mk, zwI_up, zwL_up, zg_some, Nat.reduceMod, Nat.reduceDiv, k2, q]
      · refine zW.gr [] rfl rfl rfl (by omega) trivial ?_ ?_
        · trivial
        · simp (disch := omega) only [upI_same, upL_same, upI_ne, upL_ne, iI_ixN, zI_mk, zL_mk, zP_mk, zK_mk, zN_mk, zwI_up, zwL_up, zg_some, Nat.reduceMod, Nat.reduceDiv, zcn_I, iI_add, iI_sub, iI_mul, iI_neg, iI_lt, iI_le, iI_eq, iI_lt0, iI_le0, iI_gt0, iI_ge0, iI_eq0, k2, q]
          exact good i rfl (by omega)
theorem chkS_ok {I : Nat → Nat → Int32} {L : Nat → Nat → Int64} {R : zRt} {b n r : Nat} {tn : Nat → Nat → Nat} {col st : Nat → Nat} (hd : 6 ≤ d) (hL : ZL b R) (hz : zOK n r tn col st) (hR : zPR b I L n r tn col st) (bad : ¬ szG (zG r tn) 10 ≤ 800 → ∀ N, R.2.2 ≤ N → Q (.inr 1) (zgrow (I, L, R) N)) (good : szG (zG r tn) 10 ≤ 800 → Q (.inl none) (I, L, R)) : zS 152 d [zr (some b)] (I, L, R) Q := by
  refine zW.gz [] rfl rfl rfl (by omega) trivial ⟨_, rfl, hL.1⟩ rfl rfl (Nat.zero_le _) (Nat.zero_le _) ?_
  refine small_ok (by omega) hL hz hR (fun h => ?_) (fun h => ?_)
  · refine zW.gbt [] rfl rfl rfl (by omega) trivial (by simp (disch := omega) only [eq_self, not_true_eq_false, not_false_eq_true, upI_same, upL_same, upI_ne, upL_ne, iI_ixN, zI_mk, zL_mk, zP_mk, zK_mk, zN_mk, zwI_up, zwL_up, zg_some, Nat.reduceMod, Nat.reduceDiv, zcn_I, iI_add, iI_sub, iI_mul, iI_neg, iI_lt, iI_le, iI_eq, iI_lt0, iI_le0, iI_gt0, iI_ge0, iI_eq0] <;> omega) (zW.gr [] rfl rfl rfl (by omega) trivial trivial (good h))
  · refine zW.gbf [] rfl rfl rfl (by omega) trivial (by simp (disch := omega) only [eq_self, not_true_eq_false, not_false_eq_true, upI_same, upL_same, upI_ne, upL_ne, iI_ixN, zI_mk, zL_mk, zP_mk, zK_mk, zN_mk, zwI_up, zwL_up, zg_some, Nat.reduceMod, Nat.reduceDiv, zcn_I, iI_add, iI_sub, iI_mul, iI_neg, iI_lt, iI_le, iI_eq, iI_lt0, iI_le0, iI_gt0, iI_ge0, iI_eq0] <;> omega) ?_
    refine zW.gt [] rfl rfl rfl (by decide +kernel) hd trivial (by decide +kernel) (by decide +kernel) rfl (fun N hN => ?_)
    exact bad h N hN
theorem kind_ok {v : Int} {p : Int32} (hd : 6 ≤ d) (e1 : p = iI v) (h1 : i32 v) (bad : ¬ (v = 113 ∨ v = 116) → ∀ N, zN M ≤ N → Q (.inr 0) (zgrow M N)) (gq : v = 113 → Q (.inl (some (zi (iI 0)))) M) (gt : v = 116 → Q (.inl (some (zi (iI 1)))) M) : zS 154 d [zi p] M Q := by
  subst e1
  obtain ⟨a1, a2⟩ := h1
  refine zW.gb [] rfl rfl rfl (by omega) trivial (fun h => ?_) (fun h => ?_)
  · simp (disch := omega) only [zcn_I, iI_add, iI_sub, iI_mul, iI_neg, iI_lt, iI_le, iI_eq, iI_lt0, iI_le0, iI_gt0, iI_ge0, iI_eq0] at h
    subst h
    refine zW.gbf [] rfl rfl rfl (by omega) trivial (by simp (disch := omega) only [eq_self, not_true_eq_false, not_false_eq_true, upI_same, upL_same, upI_ne, upL_ne, iI_ixN, zI_mk, zL_mk, zP_mk, zK_mk, zN_mk, zwI_up, zwL_up, zg_some, Nat.reduceMod, Nat.reduceDiv, zcn_I, iI_add, iI_sub, iI_mul, iI_neg, iI_lt, iI_le, iI_eq, iI_lt0, iI_le0, iI_gt0, iI_ge0, iI_eq0] <;> omega) ?_
    refine zW.gr [] rfl rfl rfl (by omega) trivial trivial ?_
    rw [zcn_I]
    exact gq rfl
  · simp (disch := omega) only [zcn_I, iI_add, iI_sub, iI_mul, iI_neg, iI_lt, iI_le, iI_eq, iI_lt0, iI_le0, iI_gt0, iI_ge0, iI_eq0] at h
    refine zW.gb [] rfl rfl rfl (by omega) trivial (fun h' => ?_) (fun h' => ?_)
    · simp (disch := omega) only [zcn_I, iI_add, iI_sub, iI_mul, iI_neg, iI_lt, iI_le, iI_eq, iI_lt0, iI_le0, iI_gt0, iI_ge0, iI_eq0] at h'
      subst h'
      refine zW.gbt [] rfl rfl rfl (by omega) trivial (by simp (disch := omega) only [eq_self, not_true_eq_false, not_false_eq_true, upI_same, upL_same, upI_ne, upL_ne, iI_ixN, zI_mk, zL_mk, zP_mk, zK_mk, zN_mk, zwI_up, zwL_up, zg_some, Nat.reduceMod, Nat.reduceDiv, zcn_I, iI_add, iI_sub, iI_mul, iI_neg, iI_lt, iI_le, iI_eq, iI_lt0, iI_le0, iI_gt0, iI_ge0, iI_eq0] <;> omega) ?_
      refine zW.gr [] rfl rfl rfl (by omega) trivial trivial ?_
      rw [zcn_I]
      exact gt rfl
    · simp (disch := omega) only [zcn_I, iI_add, iI_sub, iI_mul, iI_neg, iI_lt, iI_le, iI_eq, iI_lt0, iI_le0, iI_gt0, iI_ge0, iI_eq0] at h'
      refine zW.gt [] rfl rfl rfl (by decide +kernel) hd trivial (by decide +kernel) (by decide +kernel) rfl (fun N hN => ?_)
      exact bad (by omega) N hN
end TCHK
