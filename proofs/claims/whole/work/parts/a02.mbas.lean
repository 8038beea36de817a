/-! The model's small helpers. -/
def tru (p : Prop) (q : Int32) : Prop := (p ∧ q = iI 1) ∨ (¬ p ∧ q = iI 0)
theorem tru_t {p : Prop} (h : p) : tru p (zcn 1) := Or.inl ⟨h, zcn_I _⟩
theorem tru_f {p : Prop} (h : ¬ p) : tru p (zcn 0) := Or.inr ⟨h, zcn_I _⟩
theorem tru_1 {p : Prop} (h : p) : tru p (iI 1) := Or.inl ⟨h, rfl⟩
theorem tru_0 {p : Prop} (h : ¬ p) : tru p (iI 0) := Or.inr ⟨h, rfl⟩
theorem tru_cg {p q : Prop} (e : p ↔ q) {x : Int32} (h : tru p x) : tru q x := h.elim (fun h => Or.inl ⟨e.mp h.1, h.2⟩) (fun h => Or.inr ⟨fun c => h.1 (e.mpr c), h.2⟩)
theorem tru_01 {p : Prop} {q : Int32} (h : tru p q) : z01 q := by
  rcases h with ⟨_, rfl⟩ | ⟨_, rfl⟩
  · exact z01_1
  · exact z01_0
theorem tru_bz {p : Prop} {q : Int32} (h : tru p q) : q = bz (dc p) := by
  rcases h with ⟨h, rfl⟩ | ⟨h, rfl⟩
  · rw [dc_t.mpr h]
    rfl
  · rw [dc_f.mpr h]
    rfl
theorem tru_dc (p : Prop) : tru p (bz (dc p)) := by
  rcases Classical.em p with h | h
  · rw [dc_t.mpr h]
    exact tru_1 h
  · rw [dc_f.mpr h]
    exact tru_0 h
theorem tru_and {p r : Prop} {x z : Int32} (h : tru p x) (k : tru r z) : tru (p ∧ r) (x &&& z) := by
  rcases h with ⟨h, rfl⟩ | ⟨h, rfl⟩
  · rcases k with ⟨k, rfl⟩ | ⟨k, rfl⟩
    · exact Or.inl ⟨⟨h, k⟩, by decide +kernel⟩
    · exact Or.inr ⟨fun c => k c.2, by decide +kernel⟩
  · rcases k with ⟨k, rfl⟩ | ⟨k, rfl⟩
    · exact Or.inr ⟨fun c => h c.1, by decide +kernel⟩
    · exact Or.inr ⟨fun c => h c.1, by decide +kernel⟩
theorem tru_or {p r : Prop} {x z : Int32} (h : tru p x) (k : tru r z) : tru (p ∨ r) (x ||| z) := by
  rcases h with ⟨h, rfl⟩ | ⟨h, rfl⟩
  · rcases k with ⟨k, rfl⟩ | ⟨k, rfl⟩
    · exact Or.inl ⟨Or.inl h, by decide +kernel⟩
    · exact Or.inl ⟨Or.inl h, by decide +kernel⟩
  · rcases k with ⟨k, rfl⟩ | ⟨k, rfl⟩
    · exact Or.inl ⟨Or.inr k, by decide +kernel⟩
    · exact Or.inr ⟨fun c => c.elim h k, by decide +kernel⟩
/-- all below k + 1 -/
theorem all_s {P : Nat → Prop} {k : Nat} : ((∀ q, q < k → P q) ∧ P k) ↔ ∀ q, q < k + 1 → P q := ⟨fun h q hq => by
  by_cases e : q = k
  · rw [e]
    exact h.2
  · exact h.1 q (by omega), fun h => ⟨fun q hq => h q (by omega), h k (by omega)⟩⟩
theorem all_0 {P : Nat → Prop} : ∀ q, q < 0 → P q := fun q h => absurd h (Nat.not_lt_zero q)
section MBAS
variable {d y : Nat} {T : tfT} {I : Nat → Nat → Int32} {L : Nat → Nat → Int64} {R : zRt} {Q : zO → zM → Prop}
theorem mThr_ok {p : Prop} {k : Nat} {q w : Int32} (hd : 1 ≤ d) (k0 : R.2.1 y = some (7, 0)) (hq : tru p q) (e2 : w = iI (k : Int)) (t : p → Q (.inl (some (zi (iI 1)))) (upI I y 41 (iI (k : Int)), L, R)) (f : ¬ p → Q (.inl (some (zi (iI 0)))) (upI I y 41 (iI 0), L, R)) : zS 161 d [zr (some y), zi q, zi w] (I, L, R) Q := by
  subst e2
  rcases hq with ⟨h, rfl⟩ | ⟨h, rfl⟩
  · refine zW.gbf [] rfl rfl rfl (by omega) trivial (by simp (disch := omega) only [eq_self, not_true_eq_false, not_false_eq_true, upI_same, upL_same, upI_ne, upL_ne, iI_ixN, zI_mk, zL_mk, zP_mk, zK_mk, zN_mk, zwI_up, zwL_up, zg_some, Nat.reduceMod, Nat.reduceDiv, zcn_I, iI_add, iI_sub, iI_mul, iI_neg, iI_lt, iI_le, iI_eq, iI_lt0, iI_le0, iI_gt0, iI_ge0, iI_eq0] <;> omega) ?_
    exact zW.gr [] rfl rfl rfl (by omega) ⟨_, rfl, k0⟩ z01_1 (t h)
  · refine zW.gbt [] rfl rfl rfl (by omega) trivial (by simp (disch := omega) only [eq_self, not_true_eq_false, not_false_eq_true, upI_same, upL_same, upI_ne, upL_ne, iI_ixN, zI_mk, zL_mk, zP_mk, zK_mk, zN_mk, zwI_up, zwL_up, zg_some, Nat.reduceMod, Nat.reduceDiv, zcn_I, iI_add, iI_sub, iI_mul, iI_neg, iI_lt, iI_le, iI_eq, iI_lt0, iI_le0, iI_gt0, iI_ge0, iI_eq0] <;> omega) ?_
    refine zW.gr [] rfl rfl rfl (by omega) ⟨_, rfl, k0⟩ z01_0 ?_
    simp (disch := omega) only [upI_same, upL_same, upI_ne, upL_ne, iI_ixN, zI_mk, zL_mk, zP_mk, zK_mk, zN_mk, zwI_up, zwL_up, zg_some, Nat.reduceMod, Nat.reduceDiv, zcn_I, iI_add, iI_sub, iI_mul, iI_neg, iI_lt, iI_le, iI_eq, iI_lt0, iI_le0, iI_gt0, iI_ge0, iI_eq0, zcn_I]
    exact f h
theorem mIn_ok {v lo hi : Int} {a b c : Int32} {M : zM} (hd : 1 ≤ d) (e1 : a = iI v) (e2 : b = iI lo) (e3 : c = iI hi) (h1 : i32 v) (h2 : i32 lo) (h3 : i32 hi) (hQ : ∀ q, tru (lo ≤ v ∧ v ≤ hi) q → Q (.inl (some (zi q))) M) : zS 162 d [zi a, zi b, zi c] M Q := by
  subst e1; subst e2; subst e3
  obtain ⟨h11, h12⟩ := h1
  obtain ⟨h21, h22⟩ := h2
  obtain ⟨h31, h32⟩ := h3
  refine zW.gb [] rfl rfl rfl (by omega) trivial (fun h => ?_) (fun h => ?_)
  · simp (disch := omega) only [zcn_I, iI_add, iI_sub, iI_mul, iI_neg, iI_lt, iI_le, iI_eq, iI_lt0, iI_le0, iI_gt0, iI_ge0, iI_eq0] at h
    exact zW.gr [] rfl rfl rfl (by omega) trivial z01c0 (hQ _ (tru_f (by omega)))
  · simp (disch := omega) only [zcn_I, iI_add, iI_sub, iI_mul, iI_neg, iI_lt, iI_le, iI_eq, iI_lt0, iI_le0, iI_gt0, iI_ge0, iI_eq0] at h
    refine zW.gb [] rfl rfl rfl (by omega) trivial (fun h' => ?_) (fun h' => ?_)
    · simp (disch := omega) only [zcn_I, iI_add, iI_sub, iI_mul, iI_neg, iI_lt, iI_le, iI_eq, iI_lt0, iI_le0, iI_gt0, iI_ge0, iI_eq0] at h'
      exact zW.gr [] rfl rfl rfl (by omega) trivial z01c0 (hQ _ (tru_f (by omega)))
    · simp (disch := omega) only [zcn_I, iI_add, iI_sub, iI_mul, iI_neg, iI_lt, iI_le, iI_eq, iI_lt0, iI_le0, iI_gt0, iI_ge0, iI_eq0] at h'
      exact zW.gr [] rfl rfl rfl (by omega) trivial z01c1 (hQ _ (tru_t (by omega)))
theorem i32_n {n : Nat} (h : n < 2147483648) : i32 ((n : Int) - 1) := ⟨by omega, by omega⟩
theorem i32_c (n : Nat) (h : n < 2147483648 := by decide) : i32 (n : Int) := ⟨by omega, by omega⟩
theorem noPz_ok {v : Int} {a : Int32} (hd : 2 ≤ d) (h : mf y T (I, L, R)) (e : a = iI v) (h1 : i32 v) (hQ : ∀ q, tru (noP T v) q → Q (.inl (some (zi q))) (I, L, R)) : zS 163 d [zr (some y), zi a] (I, L, R) Q := by
  subst e
  have k0 : R.2.1 y = some (7, 0) := h.2.1.1
  have b1 : I y 33 = iI (tPn T : Int) := h.2.2.2.2.1.1
  have hn := h.1.2.1.1
  refine zW.gz [] rfl rfl rfl (by omega) (by simp (disch := omega) only [true_or, or_true, eq_self, Option.some.injEq, Prod.mk.injEq, zall_0, zall_1, zall_2, zob_iff, zar_iff, zis_iff, zkIs_some, zkHas_some, iI_vp, z01_I, z01_bz, zch_I, true_and, and_true, or_false, false_or, and_self, upI_same, upL_same, upI_ne, upL_ne, iI_ixN, zI_mk, zL_mk, zP_mk, zK_mk, zN_mk, zwI_up, zwL_up, zg_some, Nat.reduceMod, Nat.reduceDiv, zcn_I, iI_add, iI_sub, iI_mul, iI_neg, iI_lt, iI_le, iI_eq, iI_lt0, iI_le0, iI_gt0, iI_ge0, iI_eq0, k0] <;> omega) trivial rfl rfl (by decide +kernel) (by decide +kernel) ?_
  simp (disch := omega) only [upI_same, upL_same, upI_ne, upL_ne, iI_ixN, zI_mk, zL_mk, zP_mk, zK_mk, zN_mk, zwI_up, zwL_up, zg_some, Nat.reduceMod, Nat.reduceDiv, zcn_I, iI_add, iI_sub, iI_mul, iI_neg, iI_lt, iI_le, iI_eq, iI_lt0, iI_le0, iI_gt0, iI_ge0, iI_eq0, b1, iI_sub, zcn_I]
  refine mIn_ok (lo := 0) (hi := (tPn T : Int) - 1) (by omega) rfl rfl rfl h1 ⟨by omega, by omega⟩ ⟨by omega, by omega⟩ (fun q hq => ?_)
  rcases hq with ⟨g, rfl⟩ | ⟨g, rfl⟩
  · refine zW.gbt [] rfl rfl rfl (by omega) trivial (by simp (disch := omega) only [eq_self, not_true_eq_false, not_false_eq_true, upI_same, upL_same, upI_ne, upL_ne, iI_ixN, zI_mk, zL_mk, zP_mk, zK_mk, zN_mk, zwI_up, zwL_up, zg_some, Nat.reduceMod, Nat.reduceDiv, zcn_I, iI_add, iI_sub, iI_mul, iI_neg, iI_lt, iI_le, iI_eq, iI_lt0, iI_le0, iI_gt0, iI_ge0, iI_eq0] <;> omega) ?_
    exact zW.gr [] rfl rfl rfl (by omega) trivial z01c0 (hQ _ (tru_f (fun n => n ⟨g.1, by omega⟩)))
  · refine zW.gbf [] rfl rfl rfl (by omega) trivial (by simp (disch := omega) only [eq_self, not_true_eq_false, not_false_eq_true, upI_same, upL_same, upI_ne, upL_ne, iI_ixN, zI_mk, zL_mk, zP_mk, zK_mk, zN_mk, zwI_up, zwL_up, zg_some, Nat.reduceMod, Nat.reduceDiv, zcn_I, iI_add, iI_sub, iI_mul, iI_neg, iI_lt, iI_le, iI_eq, iI_lt0, iI_le0, iI_gt0, iI_ge0, iI_eq0] <;> omega) ?_
    exact zW.gr [] rfl rfl rfl (by omega) trivial z01c1 (hQ _ (tru_t (fun n => g ⟨n.1, by omega⟩)))
theorem noRd_ok {v : Int} {a : Int32} (hd : 2 ≤ d) (h : mf y T (I, L, R)) (e : a = iI v) (h1 : i32 v) (hQ : ∀ q, tru (noR T v) q → Q (.inl (some (zi q))) (I, L, R)) : zS 225 d [zr (some y), zi a] (I, L, R) Q := by
  subst e
  have k0 : R.2.1 y = some (7, 0) := h.2.1.1
  have b1 : I y 39 = iI (tRn T : Int) := h.2.2.2.2.2.2.2.1.1
  have hn := h.1.2.2.2.2.1.1
  refine zW.gz [] rfl rfl rfl (by omega) (by simp (disch := omega) only [true_or, or_true, eq_self, Option.some.injEq, Prod.mk.injEq, zall_0, zall_1, zall_2, zob_iff, zar_iff, zis_iff, zkIs_some, zkHas_some, iI_vp, z01_I, z01_bz, zch_I, true_and, and_true, or_false, false_or, and_self, upI_same, upL_same, upI_ne, upL_ne, iI_ixN, zI_mk, zL_mk, zP_mk, zK_mk, zN_mk, zwI_up, zwL_up, zg_some, Nat.reduceMod, Nat.reduceDiv, zcn_I, iI_add, iI_sub, iI_mul, iI_neg, iI_lt, iI_le, iI_eq, iI_lt0, iI_le0, iI_gt0, iI_ge0, iI_eq0, k0] <;> omega) trivial rfl rfl (by decide +kernel) (by decide +kernel) ?_
  simp (disch := omega) only [upI_same, upL_same, upI_ne, upL_ne, iI_ixN, zI_mk, zL_mk, zP_mk, zK_mk, zN_mk, zwI_up, zwL_up, zg_some, Nat.reduceMod, Nat.reduceDiv, zcn_I, iI_add, iI_sub, iI_mul, iI_neg, iI_lt, iI_le, iI_eq, iI_lt0, iI_le0, iI_gt0, iI_ge0, iI_eq0, b1, iI_sub, zcn_I]
  refine mIn_ok (lo := 0) (hi := (tRn T : Int) - 1) (by omega) rfl rfl rfl h1 ⟨by omega, by omega⟩ ⟨by omega, by omega⟩ (fun q hq => ?_)
  rcases hq with ⟨g, rfl⟩ | ⟨g, rfl⟩
  · refine zW.gbt [] rfl rfl rfl (by omega) trivial (by simp (disch := omega) only [eq_self, not_true_eq_false, not_false_eq_true, upI_same, upL_same, upI_ne, upL_ne, iI_ixN, zI_mk, zL_mk, zP_mk, zK_mk, zN_mk, zwI_up, zwL_up, zg_some, Nat.reduceMod, Nat.reduceDiv, zcn_I, iI_add, iI_sub, iI_mul, iI_neg, iI_lt, iI_le, iI_eq, iI_lt0, iI_le0, iI_gt0, iI_ge0, iI_eq0] <;> omega) ?_
    exact zW.gr [] rfl rfl rfl (by omega) trivial z01c0 (hQ _ (tru_f (fun n => n ⟨g.1, by omega⟩)))
  · refine zW.gbf [] rfl rfl rfl (by omega) trivial (by simp (disch := omega) only [eq_self, not_true_eq_false, not_false_eq_true, upI_same, upL_same, upI_ne, upL_ne, iI_ixN, zI_mk, zL_mk, zP_mk, zK_mk, zN_mk, zwI_up, zwL_up, zg_some, Nat.reduceMod, Nat.reduceDiv, zcn_I, iI_add, iI_sub, iI_mul, iI_neg, iI_lt, iI_le, iI_eq, iI_lt0, iI_le0, iI_gt0, iI_ge0, iI_eq0] <;> omega) ?_
    exact zW.gr [] rfl rfl rfl (by omega) trivial z01c1 (hQ _ (tru_t (fun n => g ⟨n.1, by omega⟩)))
theorem nobody_ok {v c : Int} {a b : Int32} (hd : 3 ≤ d) (h : mf y T (I, L, R)) (e : a = iI v) (e2 : b = iI c) (h1 : i32 v) (h2 : i32 c) (hQ : ∀ q, tru (noR T v ∨ ¬ (0 ≤ c ∧ c < tCn T)) q → Q (.inl (some (zi q))) (I, L, R)) : zS 226 d [zr (some y), zi a, zi b] (I, L, R) Q := by
  subst e; subst e2
  have k0 : R.2.1 y = some (7, 0) := h.2.1.1
  have b1 : I y 38 = iI (tCn T : Int) := h.2.2.2.2.2.2.1.1
  have hn := h.1.2.2.2.1.1
  refine zW.gz [] rfl rfl rfl (by omega) trivial ⟨_, rfl, k0⟩ rfl rfl (by decide +kernel) (by decide +kernel) ?_
  refine noRd_ok (by omega) h rfl h1 (fun q hq => ?_)
  rcases hq with ⟨g, rfl⟩ | ⟨g, rfl⟩
  · refine zW.gbt [] rfl rfl rfl (by omega) trivial (by simp (disch := omega) only [eq_self, not_true_eq_false, not_false_eq_true, upI_same, upL_same, upI_ne, upL_ne, iI_ixN, zI_mk, zL_mk, zP_mk, zK_mk, zN_mk, zwI_up, zwL_up, zg_some, Nat.reduceMod, Nat.reduceDiv, zcn_I, iI_add, iI_sub, iI_mul, iI_neg, iI_lt, iI_le, iI_eq, iI_lt0, iI_le0, iI_gt0, iI_ge0, iI_eq0] <;> omega) ?_
    exact zW.gr [] rfl rfl rfl (by omega) trivial z01c1 (hQ _ (tru_t (Or.inl g)))
  · refine zW.gbf [] rfl rfl rfl (by omega) trivial (by simp (disch := omega) only [eq_self, not_true_eq_false, not_false_eq_true, upI_same, upL_same, upI_ne, upL_ne, iI_ixN, zI_mk, zL_mk, zP_mk, zK_mk, zN_mk, zwI_up, zwL_up, zg_some, Nat.reduceMod, Nat.reduceDiv, zcn_I, iI_add, iI_sub, iI_mul, iI_neg, iI_lt, iI_le, iI_eq, iI_lt0, iI_le0, iI_gt0, iI_ge0, iI_eq0] <;> omega) ?_
    refine zW.gz [] rfl rfl rfl (by omega) (by simp (disch := omega) only [true_or, or_true, eq_self, Option.some.injEq, Prod.mk.injEq, zall_0, zall_1, zall_2, zob_iff, zar_iff, zis_iff, zkIs_some, zkHas_some, iI_vp, z01_I, z01_bz, zch_I, true_and, and_true, or_false, false_or, and_self, upI_same, upL_same, upI_ne, upL_ne, iI_ixN, zI_mk, zL_mk, zP_mk, zK_mk, zN_mk, zwI_up, zwL_up, zg_some, Nat.reduceMod, Nat.reduceDiv, zcn_I, iI_add, iI_sub, iI_mul, iI_neg, iI_lt, iI_le, iI_eq, iI_lt0, iI_le0, iI_gt0, iI_ge0, iI_eq0, k0] <;> omega) trivial rfl rfl (by decide +kernel) (by decide +kernel) ?_
    simp (disch := omega) only [upI_same, upL_same, upI_ne, upL_ne, iI_ixN, zI_mk, zL_mk, zP_mk, zK_mk, zN_mk, zwI_up, zwL_up, zg_some, Nat.reduceMod, Nat.reduceDiv, zcn_I, iI_add, iI_sub, iI_mul, iI_neg, iI_lt, iI_le, iI_eq, iI_lt0, iI_le0, iI_gt0, iI_ge0, iI_eq0, b1, iI_sub, zcn_I]
    refine mIn_ok (lo := 0) (hi := (tCn T : Int) - 1) (by omega) rfl rfl rfl h2 ⟨by omega, by omega⟩ ⟨by omega, by omega⟩ (fun q hq => ?_)
    rcases hq with ⟨g2, rfl⟩ | ⟨g2, rfl⟩
    · refine zW.gbt [] rfl rfl rfl (by omega) trivial (by simp (disch := omega) only [eq_self, not_true_eq_false, not_false_eq_true, upI_same, upL_same, upI_ne, upL_ne, iI_ixN, zI_mk, zL_mk, zP_mk, zK_mk, zN_mk, zwI_up, zwL_up, zg_some, Nat.reduceMod, Nat.reduceDiv, zcn_I, iI_add, iI_sub, iI_mul, iI_neg, iI_lt, iI_le, iI_eq, iI_lt0, iI_le0, iI_gt0, iI_ge0, iI_eq0] <;> omega) ?_
      exact zW.gr [] rfl rfl rfl (by omega) trivial z01c0 (hQ _ (tru_f (fun n => n.elim g (fun n => n ⟨g2.1, by omega⟩))))
    · refine zW.gbf [] rfl rfl rfl (by omega) trivial (by simp (disch := omega) only [eq_self, not_true_eq_false, not_false_eq_true, upI_same, upL_same, upI_ne, upL_ne, iI_ixN, zI_mk, zL_mk, zP_mk, zK_mk, zN_mk, zwI_up, zwL_up, zg_some, Nat.reduceMod, Nat.reduceDiv, zcn_I, iI_add, iI_sub, iI_mul, iI_neg, iI_lt, iI_le, iI_eq, iI_lt0, iI_le0, iI_gt0, iI_ge0, iI_eq0] <;> omega) ?_
      exact zW.gr [] rfl rfl rfl (by omega) trivial z01c1 (hQ _ (tru_t (Or.inr (fun n => g2 ⟨n.1, by omega⟩))))
theorem thrown_ok {v : Int32} (hd : 1 ≤ d) (k0 : R.2.1 y = some (7, 0)) (e : I y 41 = v) (hQ : Q (.inl (some (zi v))) (I, L, R)) : zS 160 d [zr (some y)] (I, L, R) Q := by
  refine zW.gr [] rfl rfl rfl (by omega) (by simp (disch := omega) only [true_or, or_true, eq_self, Option.some.injEq, Prod.mk.injEq, zall_0, zall_1, zall_2, zob_iff, zar_iff, zis_iff, zkIs_some, zkHas_some, iI_vp, z01_I, z01_bz, zch_I, true_and, and_true, or_false, false_or, and_self, upI_same, upL_same, upI_ne, upL_ne, iI_ixN, zI_mk, zL_mk, zP_mk, zK_mk, zN_mk, zwI_up, zwL_up, zg_some, Nat.reduceMod, Nat.reduceDiv, zcn_I, iI_add, iI_sub, iI_mul, iI_neg, iI_lt, iI_le, iI_eq, iI_lt0, iI_le0, iI_gt0, iI_ge0, iI_eq0, k0] <;> omega) trivial ?_
  simp (disch := omega) only [upI_same, upL_same, upI_ne, upL_ne, iI_ixN, zI_mk, zL_mk, zP_mk, zK_mk, zN_mk, zwI_up, zwL_up, zg_some, Nat.reduceMod, Nat.reduceDiv, zcn_I, iI_add, iI_sub, iI_mul, iI_neg, iI_lt, iI_le, iI_eq, iI_lt0, iI_le0, iI_gt0, iI_ge0, iI_eq0, e]
  exact hQ
theorem isCnt_ok {v : Int} {a : Int32} {M : zM} (hd : 1 ≤ d) (e : a = iI v) (h1 : 0 ≤ v) (h2 : v < 65536) (hQ : ∀ q, tru (v = 113 ∨ v = 116) q → Q (.inl (some (zi q))) M) : zS 197 d [zi a] M Q := by
  subst e
  refine zW.gb [] rfl rfl rfl (by omega) trivial (fun h => ?_) (fun h => ?_)
  · simp (disch := omega) only [zcn_I, iI_add, iI_sub, iI_mul, iI_neg, iI_lt, iI_le, iI_eq, iI_lt0, iI_le0, iI_gt0, iI_ge0, iI_eq0] at h
    exact zW.gr [] rfl rfl rfl (by omega) trivial z01c1 (hQ _ (tru_t (by omega)))
  · simp (disch := omega) only [zcn_I, iI_add, iI_sub, iI_mul, iI_neg, iI_lt, iI_le, iI_eq, iI_lt0, iI_le0, iI_gt0, iI_ge0, iI_eq0] at h
    refine zW.gb [] rfl rfl rfl (by omega) trivial (fun h' => ?_) (fun h' => ?_)
    · simp (disch := omega) only [zcn_I, iI_add, iI_sub, iI_mul, iI_neg, iI_lt, iI_le, iI_eq, iI_lt0, iI_le0, iI_gt0, iI_ge0, iI_eq0] at h'
      exact zW.gr [] rfl rfl rfl (by omega) trivial z01c0 (hQ _ (tru_f (by omega)))
    · simp (disch := omega) only [zcn_I, iI_add, iI_sub, iI_mul, iI_neg, iI_lt, iI_le, iI_eq, iI_lt0, iI_le0, iI_gt0, iI_ge0, iI_eq0] at h'
      exact zW.gr [] rfl rfl rfl (by omega) trivial z01c1 (hQ _ (tru_t (by omega)))
end MBAS
