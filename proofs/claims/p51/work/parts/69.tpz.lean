/-! The class's methods of one puzzle. -/
section TPZ
variable {d x z : Nat} {pb rb : Nat → Nat} {T : tfT} {I : Nat → Nat → Int32} {L : Nat → Nat → Int64} {R : zRt} {Q : zO → zM → Prop}
def tSetP (T : tfT) (i : Nat) (w : zPz) : tfT := ((tTy T, tPn T, fun k => if k = i then w else tPz T k), T.2)
theorem tf_pz {i : Nat} (h : tf x z pb rb T (I, L, R)) (hi : i < tPn T) : ZL (pb i) R ∧ zOK (pzN (tPz T i)) (pzR (tPz T i)) (pzT (tPz T i)) (pzC (tPz T i)) (pzS (tPz T i)) ∧ zPR (pb i) I L (pzN (tPz T i)) (pzR (tPz T i)) (pzT (tPz T i)) (pzC (tPz T i)) (pzS (tPz T i)) := ⟨(h.2.1.2.1 i hi).2, h.1.2.1.2 i hi, h.2.2.2.2.1.2 i hi⟩
theorem tf_k0 (h : tf x z pb rb T (I, L, R)) : R.2.1 x = some (6, 0) := h.2.1.1.1
theorem tf_setP {i : Nat} {w : zPz} {I' : Nat → Nat → Int32} {L' : Nat → Nat → Int64} (h : tf x z pb rb T (I, L, R)) (hi : i < tPn T) (f : zfr (pb i) I L I' L') (hz : zOK (pzN w) (pzR w) (pzT w) (pzC w) (pzS w)) (hR : zPR (pb i) I' L' (pzN w) (pzR w) (pzT w) (pzC w) (pzS w)) : tf x z pb rb (tSetP T i w) (I', L', R) ∧ tfr x z (I, L, R) (I', L', R) := by
  have hh := h
  obtain ⟨⟨o1, ⟨o2, o3⟩, o4⟩, k2, k3, ⟨a, ⟨b1, b2⟩, c⟩⟩ := h
  obtain ⟨l1, l2, l3, l4, l5⟩ := k3
  have li := l3 i hi
  have g : ∀ k, k < tPn T → k ≠ i → ∀ a, pb k ≤ a → a < pb k + 24 → I' a = I a ∧ L' a = L a := fun k hk hne a q1 q2 => by
    have : ¬ (pb i ≤ a ∧ a < pb i + 24) := by
      rcases Nat.lt_or_gt_of_ne hne with h | h
      · have := li.2.2 k h
        omega
      · have := (l3 k hk).2.2 i h
        omega
    exact ⟨f.1 a this, f.2 a this⟩
  have g0 : ∀ a, a < z → I' a = I a ∧ L' a = L a := fun a q => ⟨f.1 a (by omega), f.2 a (by omega)⟩
  have g2 : ∀ j a, j < tRn T → rb j ≤ a → a < rb j + 19 → I' a = I a := fun j a hj q1 q2 => f.1 a (by have := l5 i j hi hj; omega)
  have e0 := (g0 x (by omega)).1
  have gr : ∀ a, a < z → ∀ k, I' a k = I a k := fun a q k => congrFun (g0 a q).1 k
  have hH : tHas x pb rb I' L' (tSetP T i w) := by
    refine ⟨⟨(gr x (by omega) 1).trans a.1, fun k hk => (gr (x + 1) (by omega) k).trans (a.2 k hk)⟩, ⟨(gr x (by omega) 3).trans b1, fun k hk => ?_⟩, ⟨c.1.1, (gr (x + 3) (by omega) 5).trans c.1.2.1, fun k hk => (gr (x + 3 + 1) (by omega) k).trans (c.1.2.2.1 k hk), c.1.2.2.2⟩, ⟨(gr x (by omega) 7).trans c.2.1.1, fun k hk => (gr (x + 15) (by omega) k).trans (c.2.1.2 k hk)⟩, ⟨(gr x (by omega) 9).trans c.2.2.1.1, fun j hj => rPR_fr (c.2.2.1.2 j hj) (g2 j · hj)⟩, (gr x (by omega) 10).trans c.2.2.2⟩
    show zPR (pb k) I' L' (pzN (if k = i then w else tPz T k)) (pzR (if k = i then w else tPz T k)) (pzT (if k = i then w else tPz T k)) (pzC (if k = i then w else tPz T k)) (pzS (if k = i then w else tPz T k))
    by_cases q : k = i
    · rw [if_pos q, q]
      exact hR
    · rw [if_neg q]
      exact zPR_fr (b2 k hk) (fun a q1 q2 => (g k hk q a q1 q2).1) (fun a q1 q2 => (g k hk q a q1 q2).2)
  refine ⟨⟨⟨o1, ⟨o2, fun k hk => ?_⟩, o4⟩, k2, ⟨l1, l2, l3, l4, l5⟩, hH⟩, ⟨fun a _ q => ⟨f.1 a (fun w => q (own_pz hh hi w.1 w.2)), f.2 a (fun w => q (own_pz hh hi w.1 w.2)), rfl, rfl⟩, Nat.le_refl _, fun a _ w => own_cI (gr x (by omega) 3) w⟩⟩
  show zOK (pzN (if k = i then w else tPz T k)) (pzR (if k = i then w else tPz T k)) (pzT (if k = i then w else tPz T k)) (pzC (if k = i then w else tPz T k)) (pzS (if k = i then w else tPz T k))
  by_cases q : k = i
  · rw [if_pos q]
    exact hz
  · rw [if_neg q]
    exact o3 k hk
abbrev noP (T : tfT) (p : Int) : Prop := ¬ (0 ≤ p ∧ p < tPn T)
theorem noP_no {i : Nat} (h : i < tPn T) : ¬ noP T (i : Int) := fun g => g ⟨by omega, by omega⟩
def onP (T : tfT) (p : Int) (f : Nat → tRes) : tRes := if noP T p then (1, 0, T) else f p.toNat
theorem onP_i {f : Nat → tRes} {i : Nat} (h : i < tPn T) : onP T (i : Int) f = f i := if_neg (noP_no h)
def oPiece (T : tfT) (p v : Int) : tRes := onP T p fun i => if ¬ (0 ≤ v ∧ v < pzN (tPz T i)) then (1, 0, T) else (0, (pzS (tPz T i) v.toNat : Nat), T)
theorem pieceAt_ok {p v : Int} {a b : Int32} (hd : 8 ≤ d) (h : tfx x z T (I, L, R)) (e1 : a = iI p) (e2 : b = iI v) (h1 : i32 p) (h2 : i32 v) (hQ : tP x z (I, L, R) (oPiece T p v) [3] eI Q) : zS 105 d [zr (some x), zi a, zi b] (I, L, R) Q := by
  subst e1; subst e2
  have hT := h
  obtain ⟨pb, rb, hf⟩ := h
  have k0 := tf_k0 hf
  refine zW.gc [] rfl rfl rfl (by omega) trivial ⟨_, rfl, k0⟩ (by decide +kernel) (by decide +kernel) ?_
  refine findP_ok (by omega) hf rfl h1 (fun hb N hN => ?_) (fun i hi hp => ?_)
  · exact tP_t hQ hT (if_pos hb) hN
  · subst hi
    unfold oPiece at hQ
    rw [onP_i hp] at hQ
    obtain ⟨hL, hz, hR⟩ := tf_pz hf hp
    have b0 := hL.1
    refine zW.gc [] rfl rfl rfl (by omega) trivial trivial (by decide +kernel) (by decide +kernel) ?_
    refine chkP_ok (by omega) b0 hR.1 hz.2.1 rfl h2 (fun hb N hN => ?_) (fun g1 g2 => ?_)
    · exact tP_t hQ hT (if_pos hb) hN
    · obtain ⟨j, rfl⟩ : ∃ j : Nat, v = j := ⟨v.toNat, by omega⟩
      have r4 := hR.2.2.2.1
      refine zW.gz [] rfl rfl rfl (by omega) (by simp (disch := omega) only [true_or, or_true, eq_self, Option.some.injEq, Prod.mk.injEq, zall_0, zall_1, zall_2, zob_iff, zar_iff, zis_iff, zkIs_some, zkHas_some, iI_vp, z01_I, z01_bz, zch_I, true_and, and_true, or_false, false_or, and_self, upI_same, upL_same, upI_ne, upL_ne, iI_ixN, zI_mk, zL_mk, zP_mk, zK_mk, zN_mk, zwI_up, zwL_up, zg_some, Nat.reduceMod, Nat.reduceDiv, zcn_I, iI_add, iI_sub, iI_mul, iI_neg, iI_lt, iI_le, iI_eq, iI_lt0, iI_le0, iI_gt0, iI_ge0, iI_eq0, b0] <;> omega) trivial rfl rfl (by decide +kernel) (by decide +kernel) ?_
      simp (disch := omega) only [upI_same, upL_same, upI_ne, upL_ne, iI_ixN, zI_mk, zL_mk, zP_mk, zK_mk, zN_mk, zwI_up, zwL_up, zg_some, Nat.reduceMod, Nat.reduceDiv, zcn_I, iI_add, iI_sub, iI_mul, iI_neg, iI_lt, iI_le, iI_eq, iI_lt0, iI_le0, iI_gt0, iI_ge0, iI_eq0, r4]
      have hn := hz.2.1
      refine at_ok (by omega) (pm_nb (zst_pm hz)) (by omega) rfl rfl ?_
      refine zW.gr [] rfl rfl rfl (by omega) trivial trivial ?_
      exact tP_0 hQ (if_neg (fun g => g ⟨by omega, by omega⟩)) hT tfr_rf
noncomputable def b01 (p : Prop) : Int := @ite Int p (Classical.propDecidable p) 1 0
theorem b01_t {p : Prop} (h : p) : b01 p = 1 := if_pos h
theorem b01_f {p : Prop} (h : ¬ p) : b01 p = 0 := if_neg h
def pzSt (z : zPz) (st : Nat → Nat) : zPz := (z.1, pzT z, pzC z, st)
def nst (st : Nat → Nat) : Nat := ct (fun q => !(st q == q)) 10
theorem tf_st {i : Nat} {st : Nat → Nat} (h : tf x z pb rb T (I, L, R)) (hi : i < tPn T) (hs : pm (pzN (tPz T i)) st) : tf x z pb rb (tSetP T i (pzSt (tPz T i) st)) (I, upL L (pb i) 6 (Rw st), R) ∧ tfr x z (I, L, R) (I, upL L (pb i) 6 (Rw st), R) := by
  obtain ⟨hL, hz, hR⟩ := tf_pz h hi
  exact tf_setP h hi zfr_st (zOK_st hz hs) (zPR_st hR)
/-- the state's row lies -/
theorem ru_ok (h : tf x z pb rb T (I, L, R)) {i : Nat} (hi : i < tPn T) : R.2.1 (pb i) = some (2, 0) ∧ L (pb i) 6 = Rw (pzS (tPz T i)) ∧ L (pb i) 5 = Rw (pzC (tPz T i)) ∧ I (pb i) 0 = iI (pzN (tPz T i) : Int) ∧ I (pb i) 4 = iI (pzR (tPz T i) : Int) ∧ R.1 (pb i) 2 = some (pb i + 2) ∧ R.1 (pb i) 3 = some (pb i + 7) := by
  obtain ⟨hL, hz, hR⟩ := tf_pz h hi
  exact ⟨hL.1, hR.2.2.2.1, hR.2.2.1, hR.1, hR.2.1, hL.2.2.1, hL.2.2.2.1⟩
def oReset (T : tfT) (p : Int) : tRes := onP T p fun i => (0, (nst (pzS (tPz T i)) : Int), tSetP T i (pzSt (tPz T i) (fun q => q)))
theorem reset_ok {p : Int} {a : Int32} (hd : 8 ≤ d) (h : tfx x z T (I, L, R)) (e1 : a = iI p) (h1 : i32 p) (hQ : tP x z (I, L, R) (oReset T p) [3] eI Q) : zS 107 d [zr (some x), zi a] (I, L, R) Q := by
  subst e1
  have hT := h
  obtain ⟨pb, rb, hf⟩ := h
  refine zW.gc [] rfl rfl rfl (by omega) trivial ⟨_, rfl, tf_k0 hf⟩ (by decide +kernel) (by decide +kernel) ?_
  refine findP_ok (by omega) hf rfl h1 (fun hb N hN => ?_) (fun i hi hp => ?_)
  · exact tP_t hQ hT (if_pos hb) hN
  · subst hi
    unfold oReset at hQ
    rw [onP_i hp] at hQ
    obtain ⟨hL, hz, hR⟩ := tf_pz hf hp
    have b0 := hL.1
    refine zW.gc [] rfl rfl rfl (by omega) trivial ⟨_, rfl, b0⟩ (by decide +kernel) (by decide +kernel) ?_
    refine strayed_ok (by omega) hL hz hR ?_
    refine zW.gr [] rfl rfl rfl (by omega) (by simp (disch := omega) only [true_or, or_true, eq_self, Option.some.injEq, Prod.mk.injEq, zall_0, zall_1, zall_2, zob_iff, zar_iff, zis_iff, zkIs_some, zkHas_some, iI_vp, z01_I, z01_bz, zch_I, true_and, and_true, or_false, false_or, and_self, upI_same, upL_same, upI_ne, upL_ne, iI_ixN, zI_mk, zL_mk, zP_mk, zK_mk, zN_mk, zwI_up, zwL_up, zg_some, Nat.reduceMod, Nat.reduceDiv, zcn_I, iI_add, iI_sub, iI_mul, iI_neg, iI_lt, iI_le, iI_eq, iI_lt0, iI_le0, iI_gt0, iI_ge0, iI_eq0, b0] <;> omega) trivial ?_
    have z1 : Int64.ofInt (zldL 3214) = Rw (fun p => p) := by decide +kernel
    obtain ⟨k1, k2⟩ := tf_st (st := fun q => q) hf hp (pm_id _)
    rw [z1]
    exact tP_0 hQ rfl ⟨_, _, k1⟩ k2
noncomputable def oSolved (T : tfT) (p : Int) : tRes := onP T p fun i => (0, b01 (∀ q, q < 10 → pzC (tPz T i) (pzS (tPz T i) q) = pzC (tPz T i) q), T)
theorem isSolved_ok {p : Int} {a : Int32} (hd : 8 ≤ d) (h : tfx x z T (I, L, R)) (e1 : a = iI p) (h1 : i32 p) (hQ : tP x z (I, L, R) (oSolved T p) [3] eI Q) : zS 108 d [zr (some x), zi a] (I, L, R) Q := by
  subst e1
  have hT := h
  obtain ⟨pb, rb, hf⟩ := h
  refine zW.gc [] rfl rfl rfl (by omega) trivial ⟨_, rfl, tf_k0 hf⟩ (by decide +kernel) (by decide +kernel) ?_
  refine findP_ok (by omega) hf rfl h1 (fun hb N hN => ?_) (fun i hi hp => ?_)
  · exact tP_t hQ hT (if_pos hb) hN
  · subst hi
    unfold oSolved at hQ
    rw [onP_i hp] at hQ
    obtain ⟨hL, hz, hR⟩ := tf_pz hf hp
    have b0 := hL.1
    have r4 := hR.2.2.2.1
    refine zW.gc [] rfl rfl rfl (by omega) (by simp (disch := omega) only [true_or, or_true, eq_self, Option.some.injEq, Prod.mk.injEq, zall_0, zall_1, zall_2, zob_iff, zar_iff, zis_iff, zkIs_some, zkHas_some, iI_vp, z01_I, z01_bz, zch_I, true_and, and_true, or_false, false_or, and_self, upI_same, upL_same, upI_ne, upL_ne, iI_ixN, zI_mk, zL_mk, zP_mk, zK_mk, zN_mk, zwI_up, zwL_up, zg_some, Nat.reduceMod, Nat.reduceDiv, zcn_I, iI_add, iI_sub, iI_mul, iI_neg, iI_lt, iI_le, iI_eq, iI_lt0, iI_le0, iI_gt0, iI_ge0, iI_eq0, b0] <;> omega) ⟨_, rfl, b0⟩ (by decide +kernel) (by decide +kernel) ?_
    simp (disch := omega) only [upI_same, upL_same, upI_ne, upL_ne, iI_ixN, zI_mk, zL_mk, zP_mk, zK_mk, zN_mk, zwI_up, zwL_up, zg_some, Nat.reduceMod, Nat.reduceDiv, zcn_I, iI_add, iI_sub, iI_mul, iI_neg, iI_lt, iI_le, iI_eq, iI_lt0, iI_le0, iI_gt0, iI_ge0, iI_eq0, r4]
    refine shows_ok (by omega) hL hz hR (zst_pm hz) rfl (fun g => ?_) (fun g => ?_)
    · refine zW.gr [] rfl rfl rfl (by omega) trivial z01_1 ?_
      exact tP_0 hQ (congrArg (fun v => ((0 : Nat), v, T)) (b01_t g)) hT tfr_rf
    · refine zW.gr [] rfl rfl rfl (by omega) trivial z01_0 ?_
      exact tP_0 hQ (congrArg (fun v => ((0 : Nat), v, T)) (b01_f g)) hT tfr_rf
def oSwap (T : tfT) (p u v : Int) : tRes := onP T p fun i => if ¬ (0 ≤ u ∧ u < pzN (tPz T i)) ∨ ¬ (0 ≤ v ∧ v < pzN (tPz T i)) then (2, 0, T) else (0, (pzN (tPz T i) : Int) - (nst (swf (pzS (tPz T i)) u.toNat v.toNat) : Int), tSetP T i (pzSt (tPz T i) (swf (pzS (tPz T i)) u.toNat v.toNat)))
theorem i32_nat {n : Nat} (h : n ≤ 2147483647) : i32 (n : Int) := ⟨by omega, by omega⟩
theorem swapT_ok {p u v : Int} {a b c : Int32} (hd : 8 ≤ d) (h : tfx x z T (I, L, R)) (e1 : a = iI p) (e2 : b = iI u) (e3 : c = iI v) (h1 : i32 p) (h2 : i32 u) (h3 : i32 v) (hQ : tP x z (I, L, R) (oSwap T p u v) [3, 0] eI Q) : zS 106 d [zr (some x), zi a, zi b, zi c] (I, L, R) Q := by
  subst e1; subst e2; subst e3
  have hT := h
  obtain ⟨pb, rb, hf⟩ := h
  refine zW.gc [] rfl rfl rfl (by omega) trivial ⟨_, rfl, tf_k0 hf⟩ (by decide +kernel) (by decide +kernel) ?_
  refine findP_ok (by omega) hf rfl h1 (fun hb N hN => ?_) (fun i hi hp => ?_)
  · exact tP_t hQ hT (if_pos hb) hN
  · subst hi
    unfold oSwap at hQ
    rw [onP_i hp] at hQ
    obtain ⟨hL, hz, hR⟩ := tf_pz hf hp
    have b0 := hL.1
    have r0 := hR.1
    have hn := hz.2.1
    have hn3 := hz.1
    refine zW.gc [] rfl rfl rfl (by omega) (by simp (disch := omega) only [true_or, or_true, eq_self, Option.some.injEq, Prod.mk.injEq, zall_0, zall_1, zall_2, zob_iff, zar_iff, zis_iff, zkIs_some, zkHas_some, iI_vp, z01_I, z01_bz, zch_I, true_and, and_true, or_false, false_or, and_self, upI_same, upL_same, upI_ne, upL_ne, iI_ixN, zI_mk, zL_mk, zP_mk, zK_mk, zN_mk, zwI_up, zwL_up, zg_some, Nat.reduceMod, Nat.reduceDiv, zcn_I, iI_add, iI_sub, iI_mul, iI_neg, iI_lt, iI_le, iI_eq, iI_lt0, iI_le0, iI_gt0, iI_ge0, iI_eq0, b0] <;> omega) trivial (by decide +kernel) (by decide +kernel) ?_
    simp (disch := omega) only [upI_same, upL_same, upI_ne, upL_ne, iI_ixN, zI_mk, zL_mk, zP_mk, zK_mk, zN_mk, zwI_up, zwL_up, zg_some, Nat.reduceMod, Nat.reduceDiv, zcn_I, iI_add, iI_sub, iI_mul, iI_neg, iI_lt, iI_le, iI_eq, iI_lt0, iI_le0, iI_gt0, iI_ge0, iI_eq0, r0, iI_sub]
    refine chkN_ok (by omega) rfl rfl rfl h2 ⟨by omega, by omega⟩ ⟨by omega, by omega⟩ (fun hb N hN => ?_) (fun g1 g2 => ?_)
    · exact tP_t hQ hT (if_pos (Or.inl (fun g => hb ⟨g.1, by have := g.2; omega⟩))) hN
    refine zW.gc [] rfl rfl rfl (by omega) (by simp (disch := omega) only [true_or, or_true, eq_self, Option.some.injEq, Prod.mk.injEq, zall_0, zall_1, zall_2, zob_iff, zar_iff, zis_iff, zkIs_some, zkHas_some, iI_vp, z01_I, z01_bz, zch_I, true_and, and_true, or_false, false_or, and_self, upI_same, upL_same, upI_ne, upL_ne, iI_ixN, zI_mk, zL_mk, zP_mk, zK_mk, zN_mk, zwI_up, zwL_up, zg_some, Nat.reduceMod, Nat.reduceDiv, zcn_I, iI_add, iI_sub, iI_mul, iI_neg, iI_lt, iI_le, iI_eq, iI_lt0, iI_le0, iI_gt0, iI_ge0, iI_eq0, b0] <;> omega) trivial (by decide +kernel) (by decide +kernel) ?_
    simp (disch := omega) only [upI_same, upL_same, upI_ne, upL_ne, iI_ixN, zI_mk, zL_mk, zP_mk, zK_mk, zN_mk, zwI_up, zwL_up, zg_some, Nat.reduceMod, Nat.reduceDiv, zcn_I, iI_add, iI_sub, iI_mul, iI_neg, iI_lt, iI_le, iI_eq, iI_lt0, iI_le0, iI_gt0, iI_ge0, iI_eq0, r0, iI_sub]
    refine chkN_ok (by omega) rfl rfl rfl h3 ⟨by omega, by omega⟩ ⟨by omega, by omega⟩ (fun hb N hN => ?_) (fun g3 g4 => ?_)
    · exact tP_t hQ hT (if_pos (Or.inr (fun g => hb ⟨g.1, by have := g.2; omega⟩))) hN
    obtain ⟨j, rfl⟩ : ∃ j : Nat, u = j := ⟨u.toNat, by omega⟩
    obtain ⟨k, rfl⟩ : ∃ k : Nat, v = k := ⟨v.toNat, by omega⟩
    refine zW.gc [] rfl rfl rfl (by omega) trivial ⟨_, rfl, b0⟩ (by decide +kernel) (by decide +kernel) ?_
    refine swap_ok (by omega) hL hz hR rfl rfl (by omega) (by omega) ?_
    have hs := swf_pm hz.2.2.2.2.2.2.2.2 (x := j) (y := k) (by omega) (by omega)
    obtain ⟨k1, k2⟩ := tf_st hf hp hs
    have hz' := zOK_st hz hs
    refine zW.gc [] rfl rfl rfl (by omega) (by simp (disch := omega) only [true_or, or_true, eq_self, Option.some.injEq, Prod.mk.injEq, zall_0, zall_1, zall_2, zob_iff, zar_iff, zis_iff, zkIs_some, zkHas_some, iI_vp, z01_I, z01_bz, zch_I, true_and, and_true, or_false, false_or, and_self, upI_same, upL_same, upI_ne, upL_ne, iI_ixN, zI_mk, zL_mk, zP_mk, zK_mk, zN_mk, zwI_up, zwL_up, zg_some, Nat.reduceMod, Nat.reduceDiv, zcn_I, iI_add, iI_sub, iI_mul, iI_neg, iI_lt, iI_le, iI_eq, iI_lt0, iI_le0, iI_gt0, iI_ge0, iI_eq0, b0] <;> omega) ⟨_, rfl, b0⟩ (by decide +kernel) (by decide +kernel) ?_
    refine strayed_ok (by omega) hL hz' (zPR_st hR) ?_
    refine zW.gr [] rfl rfl rfl (by omega) trivial trivial ?_
    simp (disch := omega) only [upI_same, upL_same, upI_ne, upL_ne, iI_ixN, zI_mk, zL_mk, zP_mk, zK_mk, zN_mk, zwI_up, zwL_up, zg_some, Nat.reduceMod, Nat.reduceDiv, zcn_I, iI_add, iI_sub, iI_mul, iI_neg, iI_lt, iI_le, iI_eq, iI_lt0, iI_le0, iI_gt0, iI_ge0, iI_eq0, r0, iI_sub]
    exact tP_0 hQ (if_neg (fun g => g.elim (fun g => g ⟨by omega, by omega⟩) (fun g => g ⟨by omega, by omega⟩))) ⟨_, _, k1⟩ k2
end TPZ
