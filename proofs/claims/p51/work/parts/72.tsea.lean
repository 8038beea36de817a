/-! The class's searches and words. -/
section TSEA
variable {d x z : Nat} {pb rb : Nat → Nat} {T : tfT} {I : Nat → Nat → Int32} {L : Nat → Nat → Int64} {R : zRt} {Q : zO → zM → Prop}
theorem tf_own {I' : Nat → Nat → Int32} {L' : Nat → Nat → Int64} (h : tf x z pb rb T (I, L, R)) (f : ∀ a, ¬ (x + 3 ≤ a ∧ a < x + 15) → I' a = I a ∧ L' a = L a) (f1 : I' (x + 3) 5 = I (x + 3) 5) (f2 : I' (x + 3 + 1) = I (x + 3 + 1)) : tf x z pb rb T (I', L', R) ∧ tfr x z (I, L, R) (I', L', R) := by
  obtain ⟨k1, k2, k3, ⟨a1, a2⟩, ⟨b1, b2⟩, c, ⟨d1, d2⟩, ⟨e1, e2⟩, g⟩ := h
  have k3' := k3
  obtain ⟨l1, l2, l3, l4, l5⟩ := k3'
  have gr : ∀ a, ¬ (x + 3 ≤ a ∧ a < x + 15) → ∀ k, I' a k = I a k := fun a q k => congrFun (f a q).1 k
  refine ⟨⟨k1, k2, k3, ⟨(gr x (by omega) 1).trans a1, fun k hk => (gr (x + 1) (by omega) k).trans (a2 k hk)⟩, ⟨(gr x (by omega) 3).trans b1, fun k hk => zPR_fr (b2 k hk) (fun a q1 q2 => (f a (by have := (l3 k hk).1; omega)).1) (fun a q1 q2 => (f a (by have := (l3 k hk).1; omega)).2)⟩, ⟨c.1, f1.trans c.2.1, fun k hk => (congrFun f2 k).trans (c.2.2.1 k hk), c.2.2.2⟩, ⟨(gr x (by omega) 7).trans d1, fun k hk => (gr (x + 15) (by omega) k).trans (d2 k hk)⟩, ⟨(gr x (by omega) 9).trans e1, fun j hj => rPR_fr (e2 j hj) (fun a q1 q2 => (f a (by have := (l4 j hj).1; omega)).1)⟩, (gr x (by omega) 10).trans g⟩, ⟨fun a q1 q2 => ⟨(f a (fun w => q2 (Or.inl ⟨by omega, by omega⟩))).1, (f a (fun w => q2 (Or.inl ⟨by omega, by omega⟩))).2, rfl, rfl⟩, Nat.le_refl _, fun a _ w => own_cI (gr x (by omega) 3) w⟩⟩
theorem tf_sk {I' : Nat → Nat → Int32} {L' : Nat → Nat → Int64} (h : tf x z pb rb T (I, L, R)) (f : sfr (x + 9) I L I' L') : tf x z pb rb T (I', L', R) ∧ tfr x z (I, L, R) (I', L', R) := tf_own h (fun a q => ⟨f.1 a (by omega), f.2 a (by omega)⟩) (by rw [f.1 _ (by omega)]) (f.1 _ (by omega))
theorem tf_wd {I' : Nat → Nat → Int32} (h : tf x z pb rb T (I, L, R)) (f : wfr (x + 3) I I') : tf x z pb rb T (I', L, R) ∧ tfr x z (I, L, R) (I', L, R) := tf_own h (fun a q => ⟨f.1 a (by omega) (by omega), rfl⟩) f.2 (f.1 _ (by omega) (by omega))
noncomputable abbrev pzK (w : zPz) (m : Nat) : Option (Nat × List Nat) := skF (fun n => srch (pzT w) (pzC w) (2 * pzR w) n (fun p => pzC w (pzS w p))) (m + 1) 0
noncomputable def oSearch (T : tfT) (p m : Int) : tRes := onP T p fun i => if ¬ (0 ≤ m ∧ m ≤ 6) then (2, 0, T) else match pzK (tPz T i) m.toNat with
  | some w => (0, (w.1 : Nat), T)
  | none => (0, -1, T)
theorem search_ok {p m : Int} {a b : Int32} (hd : 15 ≤ d) (h : tfx x z T (I, L, R)) (e1 : a = iI p) (e2 : b = iI m) (h1 : i32 p) (h2 : i32 m) (hQ : tP x z (I, L, R) (oSearch T p m) [3, 0] eI Q) : zS 122 d [zr (some x), zi a, zi b] (I, L, R) Q := by
  subst e1; subst e2
  have hT := h
  obtain ⟨pb, rb, hf⟩ := h
  refine zW.gc [] rfl rfl rfl (by omega) trivial ⟨_, rfl, tf_k0 hf⟩ (by decide +kernel) (by decide +kernel) ?_
  refine findP_ok (by omega) hf rfl h1 (fun hb N hN => ?_) (fun i hi hp => ?_)
  · exact tP_t hQ hT (if_pos hb) hN
  · subst hi
    unfold oSearch at hQ
    rw [onP_i hp] at hQ
    obtain ⟨hL, hz, hR⟩ := tf_pz hf hp
    have b0 := hL.1
    have k0 := tf_k0 hf
    have p5 : R.1 x 5 = some (x + 9) := hf.2.1.1.2.2.2.2.1
    have hS : SL (x + 9) R := hf.2.1.1.2.2.2.2.2.2.2.2.2.2.1
    have hsb : x + 9 + 6 ≤ pb i := by have := (hf.2.2.1.2.2.1 i hp).1; have := hf.2.2.1.1; omega
    refine zW.gc [] rfl rfl rfl (by omega) trivial trivial (by decide +kernel) (by decide +kernel) ?_
    refine chkN_ok (by omega) rfl (zcn_I _) (zcn_I _) h2 ⟨by omega, by omega⟩ ⟨by omega, by omega⟩ (fun hb N hN => ?_) (fun g3 g4 => ?_)
    · exact tP_t hQ hT (if_pos hb) hN
    obtain ⟨k, rfl⟩ : ∃ k : Nat, m = k := ⟨m.toNat, by omega⟩
    rw [if_neg (fun n => n ⟨g3, g4⟩)] at hQ
    refine zW.gc [] rfl rfl rfl (by omega) (by simp (disch := omega) only [true_or, or_true, eq_self, Option.some.injEq, Prod.mk.injEq, zall_0, zall_1, zall_2, zob_iff, zar_iff, zis_iff, zkIs_some, zkHas_some, iI_vp, z01_I, z01_bz, zch_I, true_and, and_true, or_false, false_or, and_self, upI_same, upL_same, upI_ne, upL_ne, iI_ixN, zI_mk, zL_mk, zP_mk, zK_mk, zN_mk, zwI_up, zwL_up, zg_some, Nat.reduceMod, Nat.reduceDiv, zcn_I, iI_add, iI_sub, iI_mul, iI_neg, iI_lt, iI_le, iI_eq, iI_lt0, iI_le0, iI_gt0, iI_ge0, iI_eq0, k0] <;> omega) ?_ (by decide +kernel) (by decide +kernel) ?_
    · simp (disch := omega) only [upI_same, upL_same, upI_ne, upL_ne, iI_ixN, zI_mk, zL_mk, zP_mk, zK_mk, zN_mk, zwI_up, zwL_up, zg_some, Nat.reduceMod, Nat.reduceDiv, zcn_I, iI_add, iI_sub, iI_mul, iI_neg, iI_lt, iI_le, iI_eq, iI_lt0, iI_le0, iI_gt0, iI_ge0, iI_eq0, p5]
      exact ⟨_, rfl, hS.1⟩
    simp (disch := omega) only [upI_same, upL_same, upI_ne, upL_ne, iI_ixN, zI_mk, zL_mk, zP_mk, zK_mk, zN_mk, zwI_up, zwL_up, zg_some, Nat.reduceMod, Nat.reduceDiv, zcn_I, iI_add, iI_sub, iI_mul, iI_neg, iI_lt, iI_le, iI_eq, iI_lt0, iI_le0, iI_gt0, iI_ge0, iI_eq0, p5]
    refine seek_ok (by omega) hS hL hz hsb hR rfl (by omega) (fun n w hk I' L' f hw => ?_) (fun hk I' L' f => ?_)
    · obtain ⟨q1, q2⟩ := tf_sk hf f
      refine zW.gr [] rfl rfl rfl (by omega) trivial trivial ?_
      refine tP_0 hQ ?_ ⟨_, _, q1⟩ q2
      have hk' : pzK (tPz T i) (k : Int).toNat = _ := hk
      rw [hk']
    · obtain ⟨q1, q2⟩ := tf_sk hf f
      refine zW.gr [] rfl rfl rfl (by omega) trivial trivial ?_
      refine tP_0 hQ ?_ ⟨_, _, q1⟩ q2
      have hk' : pzK (tPz T i) (k : Int).toNat = _ := hk
      rw [hk']
theorem skF_lt (g : Nat → Option (List Nat)) : ∀ (n m k : Nat) (w : List Nat), skF g n m = some (k, w) → k < m + n
  | 0, _, _, _, h => by cases h
  | n + 1, m, k, w, h => by
    unfold skF at h
    split at h
    · cases h
      omega
    · have := skF_lt g n (m + 1) k w h
      omega
noncomputable def oSeaAt (T : tfT) (p m v : Int) : tRes := onP T p fun i => if ¬ (0 ≤ m ∧ m ≤ 6) then (2, 0, T) else match pzK (tPz T i) m.toNat with
  | some w => if ¬ (0 ≤ v ∧ v < w.1) then (3, 0, T) else (0, (nth w.2 v.toNat : Nat), T)
  | none => (3, 0, T)
theorem searchAt_ok {p m v : Int} {a b e : Int32} (hd : 15 ≤ d) (h : tfx x z T (I, L, R)) (e1 : a = iI p) (e2 : b = iI m) (e3 : e = iI v) (h1 : i32 p) (h2 : i32 m) (h3 : i32 v) (hQ : tP x z (I, L, R) (oSeaAt T p m v) [3, 0, 4] eI Q) : zS 123 d [zr (some x), zi a, zi b, zi e] (I, L, R) Q := by
  subst e1; subst e2; subst e3
  have hT := h
  obtain ⟨pb, rb, hf⟩ := h
  refine zW.gc [] rfl rfl rfl (by omega) trivial ⟨_, rfl, tf_k0 hf⟩ (by decide +kernel) (by decide +kernel) ?_
  refine findP_ok (by omega) hf rfl h1 (fun hb N hN => ?_) (fun i hi hp => ?_)
  · exact tP_t hQ hT (if_pos hb) hN
  · subst hi
    unfold oSeaAt at hQ
    rw [onP_i hp] at hQ
    obtain ⟨hL, hz, hR⟩ := tf_pz hf hp
    have b0 := hL.1
    have k0 := tf_k0 hf
    have p5 : R.1 x 5 = some (x + 9) := hf.2.1.1.2.2.2.2.1
    have hS : SL (x + 9) R := hf.2.1.1.2.2.2.2.2.2.2.2.2.2.1
    have hsb : x + 9 + 6 ≤ pb i := by have := (hf.2.2.1.2.2.1 i hp).1; have := hf.2.2.1.1; omega
    refine zW.gc [] rfl rfl rfl (by omega) trivial trivial (by decide +kernel) (by decide +kernel) ?_
    refine chkN_ok (by omega) rfl (zcn_I _) (zcn_I _) h2 ⟨by omega, by omega⟩ ⟨by omega, by omega⟩ (fun hb N hN => ?_) (fun g3 g4 => ?_)
    · exact tP_t hQ hT (if_pos hb) hN
    obtain ⟨k, rfl⟩ : ∃ k : Nat, m = k := ⟨m.toNat, by omega⟩
    rw [if_neg (fun n => n ⟨g3, g4⟩)] at hQ
    refine zW.gc [] rfl rfl rfl (by omega) (by simp (disch := omega) only [true_or, or_true, eq_self, Option.some.injEq, Prod.mk.injEq, zall_0, zall_1, zall_2, zob_iff, zar_iff, zis_iff, zkIs_some, zkHas_some, iI_vp, z01_I, z01_bz, zch_I, true_and, and_true, or_false, false_or, and_self, upI_same, upL_same, upI_ne, upL_ne, iI_ixN, zI_mk, zL_mk, zP_mk, zK_mk, zN_mk, zwI_up, zwL_up, zg_some, Nat.reduceMod, Nat.reduceDiv, zcn_I, iI_add, iI_sub, iI_mul, iI_neg, iI_lt, iI_le, iI_eq, iI_lt0, iI_le0, iI_gt0, iI_ge0, iI_eq0, k0] <;> omega) ?_ (by decide +kernel) (by decide +kernel) ?_
    · simp (disch := omega) only [upI_same, upL_same, upI_ne, upL_ne, iI_ixN, zI_mk, zL_mk, zP_mk, zK_mk, zN_mk, zwI_up, zwL_up, zg_some, Nat.reduceMod, Nat.reduceDiv, zcn_I, iI_add, iI_sub, iI_mul, iI_neg, iI_lt, iI_le, iI_eq, iI_lt0, iI_le0, iI_gt0, iI_ge0, iI_eq0, p5]
      exact ⟨_, rfl, hS.1⟩
    simp (disch := omega) only [upI_same, upL_same, upI_ne, upL_ne, iI_ixN, zI_mk, zL_mk, zP_mk, zK_mk, zN_mk, zwI_up, zwL_up, zg_some, Nat.reduceMod, Nat.reduceDiv, zcn_I, iI_add, iI_sub, iI_mul, iI_neg, iI_lt, iI_le, iI_eq, iI_lt0, iI_le0, iI_gt0, iI_ge0, iI_eq0, p5]
    refine seek_ok (by omega) hS hL hz hsb hR rfl (by omega) (fun n w hk I' L' f hw => ?_) (fun hk I' L' f => ?_)
    · obtain ⟨q1, q2⟩ := tf_sk hf f
      have hk' : pzK (tPz T i) (k : Int).toNat = _ := hk
      rw [hk'] at hQ
      have hn := skF_lt _ _ _ _ _ hk
      have B : ¬ (0 ≤ v ∧ v < n) → zW 123 d (0 + zmc 147 + zmc 151 + zmc 75) (0 + zms 147 + zms 151 + zms 75) 42 [some (zr (some x)), some (zi (iI (i : Int))), some (zi (iI (k : Int))), some (zi (iI v)), some (zr (some (pb i))), some (zi (iI (n : Int)))] [] (I', L', R) Q := fun hb => by
        refine zW.gt [] rfl rfl rfl (by decide +kernel) (by omega) trivial (by decide +kernel) (by decide +kernel) rfl (fun N hN => ?_)
        exact tP_e hQ (if_pos hb) ⟨_, _, tf_sm q1 (tsm_gr hN)⟩ (tfr_tr q2 (tfr_gr hN))
      obtain ⟨h31, h32⟩ := h3
      refine zW.gb [] rfl rfl rfl (by omega) trivial (fun h => ?_) (fun h => ?_)
      · simp (disch := omega) only [zcn_I, iI_add, iI_sub, iI_mul, iI_neg, iI_lt, iI_le, iI_eq, iI_lt0, iI_le0, iI_gt0, iI_ge0, iI_eq0] at h
        exact B (by omega)
      · simp (disch := omega) only [zcn_I, iI_add, iI_sub, iI_mul, iI_neg, iI_lt, iI_le, iI_eq, iI_lt0, iI_le0, iI_gt0, iI_ge0, iI_eq0] at h
        refine zW.gb [] rfl rfl rfl (by omega) trivial (fun h' => ?_) (fun h' => ?_)
        · simp (disch := omega) only [zcn_I, iI_add, iI_sub, iI_mul, iI_neg, iI_lt, iI_le, iI_eq, iI_lt0, iI_le0, iI_gt0, iI_ge0, iI_eq0] at h'
          exact B (by omega)
        · simp (disch := omega) only [zcn_I, iI_add, iI_sub, iI_mul, iI_neg, iI_lt, iI_le, iI_eq, iI_lt0, iI_le0, iI_gt0, iI_ge0, iI_eq0] at h'
          obtain ⟨j, rfl⟩ : ∃ j : Nat, v = j := ⟨v.toNat, by omega⟩
          have p4 := hS.2.2.2.2.2.1
          have k5 := hS.2.2.2.2.2.2.2.2.2.2
          have s0 := hS.1
          have w1 := hw j (by omega)
          refine zW.gbt [] rfl rfl rfl (by omega) trivial (by simp (disch := omega) only [eq_self, not_true_eq_false, not_false_eq_true, upI_same, upL_same, upI_ne, upL_ne, iI_ixN, zI_mk, zL_mk, zP_mk, zK_mk, zN_mk, zwI_up, zwL_up, zg_some, Nat.reduceMod, Nat.reduceDiv, zcn_I, iI_add, iI_sub, iI_mul, iI_neg, iI_lt, iI_le, iI_eq, iI_lt0, iI_le0, iI_gt0, iI_ge0, iI_eq0] <;> omega) ?_
          refine zW.gr [] rfl rfl rfl (by omega) (by simp (disch := omega) only [true_or, or_true, eq_self, Option.some.injEq, Prod.mk.injEq, zall_0, zall_1, zall_2, zob_iff, zar_iff, zis_iff, zkIs_some, zkHas_some, iI_vp, z01_I, z01_bz, zch_I, true_and, and_true, or_false, false_or, and_self, upI_same, upL_same, upI_ne, upL_ne, iI_ixN, zI_mk, zL_mk, zP_mk, zK_mk, zN_mk, zwI_up, zwL_up, zg_some, Nat.reduceMod, Nat.reduceDiv, zcn_I, iI_add, iI_sub, iI_mul, iI_neg, iI_lt, iI_le, iI_eq, iI_lt0, iI_le0, iI_gt0, iI_ge0, iI_eq0, k0, p5, s0, p4, k5] <;> omega) trivial ?_
          simp (disch := omega) only [upI_same, upL_same, upI_ne, upL_ne, iI_ixN, zI_mk, zL_mk, zP_mk, zK_mk, zN_mk, zwI_up, zwL_up, zg_some, Nat.reduceMod, Nat.reduceDiv, zcn_I, iI_add, iI_sub, iI_mul, iI_neg, iI_lt, iI_le, iI_eq, iI_lt0, iI_le0, iI_gt0, iI_ge0, iI_eq0, p5, p4, w1]
          exact tP_0 hQ (if_neg (fun n => n ⟨by omega, by omega⟩)) ⟨_, _, q1⟩ q2
    · obtain ⟨q1, q2⟩ := tf_sk hf f
      have hk' : pzK (tPz T i) (k : Int).toNat = _ := hk
      rw [hk'] at hQ
      have B : zW 123 d (0 + zmc 147 + zmc 151 + zmc 75) (0 + zms 147 + zms 151 + zms 75) 42 [some (zr (some x)), some (zi (iI (i : Int))), some (zi (iI (k : Int))), some (zi (iI v)), some (zr (some (pb i))), some (zi (iI (-1)))] [] (I', L', R) Q := by
        refine zW.gt [] rfl rfl rfl (by decide +kernel) (by omega) trivial (by decide +kernel) (by decide +kernel) rfl (fun N hN => ?_)
        exact tP_e hQ rfl ⟨_, _, tf_sm q1 (tsm_gr hN)⟩ (tfr_tr q2 (tfr_gr hN))
      obtain ⟨h31, h32⟩ := h3
      refine zW.gb [] rfl rfl rfl (by omega) trivial (fun h => ?_) (fun h => ?_)
      · exact B
      · simp (disch := omega) only [zcn_I, iI_add, iI_sub, iI_mul, iI_neg, iI_lt, iI_le, iI_eq, iI_lt0, iI_le0, iI_gt0, iI_ge0, iI_eq0] at h
        refine zW.gbt [] rfl rfl rfl (by omega) trivial (by simp (disch := omega) only [eq_self, not_true_eq_false, not_false_eq_true, upI_same, upL_same, upI_ne, upL_ne, iI_ixN, zI_mk, zL_mk, zP_mk, zK_mk, zN_mk, zwI_up, zwL_up, zg_some, Nat.reduceMod, Nat.reduceDiv, zcn_I, iI_add, iI_sub, iI_mul, iI_neg, iI_lt, iI_le, iI_eq, iI_lt0, iI_le0, iI_gt0, iI_ge0, iI_eq0] <;> omega) B
end TSEA
